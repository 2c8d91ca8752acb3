/-! Speeds and Torques -/
set_option maxHeartbeats 4000000 in
set_option maxRecDepth 100000 in
theorem c_X4_solve (l : Launch) (D : va_G) (K : Nat → ClassId) (sp : Nat) (a ao ap ab : Nat) (r : Nat → Nat) (M : Nat → Nat → Int64) (pv ip : Nat → Int32) (sv : Int32) (q : Nat → Nat) (d : Nat → Nat → Int32) (g : Nat) (sz : Nat) (hd : DV d) (hg : g < 2147483648) : Met l yX4_solve (.code yX4_solve cX4_solve 3 none :: TB) ({ frames := 3, cells := 0, slots := 0, locals := 83 } : Room) (va_Pc [.ref sp, .ref (q 0), .int (nI g)] (cP D K ([(sp, .inr (4, [.ref a]))] ++ (WE K a ao ap ab r M pv ip sv ++ (WD K q d))) sz)) (va_Qv (fun (u : (Nat → Nat → Int64) × (Nat → Int32) × (Nat → Int32) × Int32) => SolvedE (spM d g) u.1 u.2.1 u.2.2.2) (fun (u : (Nat → Nat → Int64) × (Nat → Int32) × (Nat → Int32) × Int32) t => cB D K (va_A ([(sp, .inr (4, [.ref a]))] ++ (WE K a ao ap ab r M pv ip sv ++ (WD K q d))) sz) ([(sp, .inr (4, [.ref a]))] ++ (WE K a ao ap ab r u.1 u.2.1 u.2.2.1 u.2.2.2 ++ (WD K q d))) t) (va_A ([(sp, .inr (4, [.ref a]))] ++ (WE K a ao ap ab r M pv ip sv ++ (WD K q d))) sz)) 0 0 (va_A ([(sp, .inr (4, [.ref a]))] ++ (WE K a ao ap ab r M pv ip sv ++ (WD K q d))) sz) := by
  refine Met.ofW (cc := cX4_solve) (maxL := 3) (ret := none) (by decide) rfl ?_
  intro p e s m args below meth c s₁ B hml hv
  obtain ⟨rfl, hsz, hP, hK, hD0⟩ := hv
  have hx := B.exec
  have hb := B.bytes
  have hr := B.returns
  have hts := hts_tl (atoms_spec (ws := (.code yX4_solve cX4_solve 3 none :: TB)) B.pre)
  have hown : s.vm.findClass RX4 = some m.cls := findClass_of_methodNamed B.named
  have hlocks := B.notSynchronized
  subst hsz
  have hD := hD0.self (sz := s.heap.size)
  generalize hAe : (va_A ([(sp, .inr (4, [.ref a]))] ++ (WE K a ao ap ab r M pv ip sv ++ (WD K q d))) s.heap.size) = A at hD ⊢
  have hA : ∀ q : Nat, s.heap.size ≤ q → A q := fun q h => by rw [← hAe]; exact Or.inr h
  have hS : va_S A s.heap s.heap [] := va_S.rf
  have hl := lv_entry ([.ref sp, .ref (q 0), .int (nI g)]) (n := 3) (Nat.le_of_ble_eq_true rfl)
  rw [lg_entry_eq]
  generalize (lg_sl ([.ref sp, .ref (q 0), .int (nI g)]) ++ List.replicate (3 - (lg_sl ([.ref sp, .ref (q 0), .int (nI g)])).length) Slot.unset).toArray = ls at hl ⊢
  have hl : lv_has ls 3 [(0, .ref sp), (1, .ref (q 0)), (2, .int (nI g))] := hl
  obtain ⟨n, m1, gg, hn, hm, hgg, h0, h1, h2, hs, he⟩ := id hd
  refine lv_aload_n hx hb dX4_solve_0 rfl (lv_at hl 0 rfl) ?_
  refine va_get (D := D) (ci := 4) (C := RX4) (T := TX4) (N := 1) hx hb hts iX4 hown hK hP 0 rfl rfl 0 (by decide) (hts _ k_f_X4_14) (fun _ h9 => h9) rfl dX4_solve_1 ?_
  have hPc := bP1 hP
  have hDc := bD1 hD
  have hFc := bF1 hD hS hA
  refine va_callv (va_runV (As := []) (rest := []) ⟨hx, hb, hml, hown, hts⟩ (c_X1_clear l D K a ao ap ab r M pv ip sv s.heap.size ) (cwV 0 hts (TB_V k_m_X4_18 k_im_X1_clear k_se_X1_clear k_in_X1 k_co_X1_clear (fun _ h => h)) rfl rfl rfl (by decide +kernel) ⟨Nat.le_of_ble_eq_true rfl, Nat.le_of_ble_eq_true rfl⟩) ⟨cP_blind, va_recv hK hPc (ci := 1) (q0 := 0) rfl rfl, cP_of hPc hK hDc⟩ rfl rfl hl.1 rfl (lv_room (Nat.le_of_ble_eq_true rfl)) dX4_solve_4 ⟨Nat.le_of_ble_eq_true rfl, Nat.le_of_ble_eq_true rfl⟩) hS (fun q _ h => hFc q h) hFc (fun M1 t9 H locs ht9 hvm hw hB hz1 hk1 hS => ?_)
  obtain ⟨hP1, hK1, hD1⟩ := hB
  rw [ht9] at hP1
  obtain ⟨hP, hD⟩ := bJ1 hP hD hk1 hFc hP1 hD1
  have hz := hw
  refine lv_aload_n hx hb dX4_solve_7 rfl (lv_at hl 0 rfl) ?_
  refine va_get (D := D) (ci := 4) (C := RX4) (T := TX4) (N := 1) hx hb hts iX4 hown hK hP 0 rfl rfl 0 (by decide) (hts _ k_f_X4_14) (fun _ h9 => h9) rfl dX4_solve_8 ?_
  refine lv_iconst (v := nI 0) hx hb dX4_solve_11 (by decide) ?_
  refine lv_iconst (v := nI 0) hx hb dX4_solve_12 (by decide) ?_
  refine lv_lconst (v := 1) hx hb dX4_solve_13 (by decide) ?_
  have hPc := bP1 hP
  have hDc := bD1 hD
  have hFc := bF1 hD hS hA
  refine va_callv (va_runV (As := [.int (nI 0), .int (nI 0), .long (1 : Int64)]) (rest := []) ⟨hx, hb, hml, hown, hts⟩ (c_X1_add l D K a ao ap ab r M1 pv ip sv 0 0 (1 : Int64) H.size (by decide) (by decide)) (cwV 3 hts (TB_V k_m_X4_21 k_im_X1_add k_se_X1_add k_in_X1 k_co_X1_add (fun _ h => h)) rfl rfl rfl (by decide +kernel) ⟨Nat.le_of_ble_eq_true rfl, Nat.le_of_ble_eq_true rfl⟩) ⟨cP_blind, va_recv hK hPc (ci := 1) (q0 := 0) rfl rfl, cP_of hPc hK hDc⟩ rfl rfl hl.1 rfl (lv_room (Nat.le_of_ble_eq_true rfl)) dX4_solve_14 ⟨Nat.le_of_ble_eq_true rfl, Nat.le_of_ble_eq_true rfl⟩) hS (fun q _ h => hFc q h) hFc (fun u9 t9 H locs ht9 hvm hw hB hz1 hk1 hS => ?_)
  obtain ⟨hP1, hK1, hD1⟩ := hB
  rw [ht9] at hP1
  obtain ⟨hP, hD⟩ := bJ1 hP hD hk1 hFc hP1 hD1
  obtain ⟨N1, eN1⟩ : ∃ z, z = setM M1 0 0 (M1 0 0 + (1 : Int64)) := ⟨_, rfl⟩
  rw [← eN1] at hP hD
  refine lv_aload_n hx hb dX4_solve_17 rfl (lv_at hl 0 rfl) ?_
  refine va_get (D := D) (ci := 4) (C := RX4) (T := TX4) (N := 1) hx hb hts iX4 hown hK hP 0 rfl rfl 0 (by decide) (hts _ k_f_X4_14) (fun _ h9 => h9) rfl dX4_solve_18 ?_
  refine lv_iconst (v := nI 0) hx hb dX4_solve_21 (by decide) ?_
  refine lv_bipush (v := nI 10) hx hb dX4_solve_22 (by decide) ?_
  refine lv_lconst (v := 1) hx hb dX4_solve_24 (by decide) ?_
  have hPc := bP1 hP
  have hDc := bD1 hD
  have hFc := bF1 hD hS hA
  refine va_callv (va_runV (As := [.int (nI 0), .int (nI 10), .long (1 : Int64)]) (rest := []) ⟨hx, hb, hml, hown, hts⟩ (c_X1_add l D K a ao ap ab r N1 pv ip sv 0 10 (1 : Int64) H.size (by decide) (by decide)) (cwV 3 hts (TB_V k_m_X4_21 k_im_X1_add k_se_X1_add k_in_X1 k_co_X1_add (fun _ h => h)) rfl rfl rfl (by decide +kernel) ⟨Nat.le_of_ble_eq_true rfl, Nat.le_of_ble_eq_true rfl⟩) ⟨cP_blind, va_recv hK hPc (ci := 1) (q0 := 0) rfl rfl, cP_of hPc hK hDc⟩ rfl rfl hl.1 rfl (lv_room (Nat.le_of_ble_eq_true rfl)) dX4_solve_25 ⟨Nat.le_of_ble_eq_true rfl, Nat.le_of_ble_eq_true rfl⟩) hS (fun q _ h => hFc q h) hFc (fun u9 t9 H locs ht9 hvm hw hB hz1 hk1 hS => ?_)
  obtain ⟨hP1, hK1, hD1⟩ := hB
  rw [ht9] at hP1
  obtain ⟨hP, hD⟩ := bJ1 hP hD hk1 hFc hP1 hD1
  obtain ⟨N2, eN2⟩ : ∃ z, z = setM N1 0 10 (N1 0 10 + (1 : Int64)) := ⟨_, rfl⟩
  rw [← eN2] at hP hD
  refine lv_aload_n hx hb dX4_solve_28 rfl (lv_at hl 1 rfl) ?_
  refine lv_aload_n hx hb dX4_solve_29 rfl (lv_at hl 0 rfl) ?_
  refine va_get (D := D) (ci := 4) (C := RX4) (T := TX4) (N := 1) hx hb hts iX4 hown hK hP 0 rfl rfl 0 (by decide) (hts _ k_f_X4_14) (fun _ h9 => h9) rfl dX4_solve_30 ?_
  refine lv_iconst (v := nI 1) hx hb dX4_solve_33 (by decide) ?_
  have o1 : (1 : Int64).toInt = 1 := by decide
  have o9 : (-1 : Int64).toInt = -1 := by decide
  have A1 : ∀ x y, tI N1 x y = tI M1 x y + (if x = 0 ∧ y = 0 then ((1 : Int64)).toInt else 0) := fun x y => by
    rw [eN1]; have h9 := tI_zero hz (i := 0) (by decide) 0; exact tI_add (by decide) (by omega) (by omega) x y
  have A2 : ∀ x y, tI N2 x y = tI N1 x y + (if x = 0 ∧ y = 10 then ((1 : Int64)).toInt else 0) := fun x y => by
    rw [eN2]; have h9 := tI_zero hz (i := 0) (by decide) 10; have h8 := A1 0 10; rw [if_neg (by decide)] at h8; exact tI_add (by decide) (by omega) (by omega) x y
  have A3 : ∀ x y, x < 10 → (tI N2 x y).natAbs ≤ 2 := fun x y hx9 => by
    rw [A2, A1, tI_zero hz hx9]; split <;> split <;> omega
  have hPc := bP1e hP
  have hDc := bD1e hD
  have hFc := bF1e hD hS hA
  refine va_callv (va_runV (As := [.ref a, .int (nI 1)]) (rest := []) ⟨hx, hb, hml, hown, hts⟩ (c_X0_writeSetSpeeds l D K a ao ap ab r N2 pv ip sv q d n H.size hn h0 hs (fun x y hx9 => by have := A3 x y hx9; omega)) (cwV 2 hts (TB_V k_m_X4_25 k_im_X0_writeSetSpeeds k_se_X0_writeSetSpeeds k_in_X0 k_co_X0_writeSetSpeeds (fun _ h => h)) rfl rfl rfl (by decide +kernel) ⟨Nat.le_of_ble_eq_true rfl, Nat.le_of_ble_eq_true rfl⟩) ⟨cP_blind, va_recv hK hPc (ci := 0) (q0 := 14) rfl rfl, cP_of hPc hK hDc⟩ rfl rfl hl.1 rfl (lv_room (Nat.le_of_ble_eq_true rfl)) dX4_solve_34 ⟨Nat.le_of_ble_eq_true rfl, Nat.le_of_ble_eq_true rfl⟩) hS (fun q _ h => hFc q h) hFc (fun U2 t9 H locs ht9 hvm hw hB hz1 hk1 hS => ?_)
  obtain ⟨hP1, hK1, hD1⟩ := hB
  rw [ht9] at hP1
  obtain ⟨hP, hD⟩ := bJ1e hP hD hk1 hFc hP1 hD1
  have hU2 := hw
  refine lv_aload_n hx hb dX4_solve_37 rfl (lv_at hl 1 rfl) ?_
  refine lv_aload_n hx hb dX4_solve_38 rfl (lv_at hl 0 rfl) ?_
  refine va_get (D := D) (ci := 4) (C := RX4) (T := TX4) (N := 1) hx hb hts iX4 hown hK hP 0 rfl rfl 0 (by decide) (hts _ k_f_X4_14) (fun _ h9 => h9) rfl dX4_solve_39 ?_
  refine lv_iconst (v := nI 4) hx hb dX4_solve_42 (by decide) ?_
  refine lv_iload_n hx hb dX4_solve_43 rfl (lv_at hl 2 rfl) ?_
  have A4 : ∀ x y, x < 10 → (tI U2 x y).natAbs ≤ 300 := fun x y hx9 => by
    rw [hU2]; have h9 := A3 x y hx9
    have h8 : (sS d n x y).natAbs ≤ 280 := by
      unfold sS; split
      · exact setc_abs (hs _ (by omega)) _
      · exact Nat.zero_le _
    omega
  have hPc := bP1e hP
  have hDc := bD1e hD
  have hFc := bF1e hD hS hA
  refine va_callv (va_runV (As := [.ref a, .int (nI 4), .int (nI g)]) (rest := []) ⟨hx, hb, hml, hown, hts⟩ (c_X0_writeElementSpeeds l D K a ao ap ab r U2 pv ip sv q d m1 g H.size hm hg h1 he (fun x y hx9 => by have := A4 x y hx9; omega)) (cwV 3 hts (TB_V k_m_X4_31 k_im_X0_writeElementSpeeds k_se_X0_writeElementSpeeds k_in_X0 k_co_X0_writeElementSpeeds (fun _ h => h)) rfl rfl rfl (by decide +kernel) ⟨Nat.le_of_ble_eq_true rfl, Nat.le_of_ble_eq_true rfl⟩) ⟨cP_blind, va_recv hK hPc (ci := 0) (q0 := 14) rfl rfl, cP_of hPc hK hDc⟩ rfl rfl hl.1 rfl (lv_room (Nat.le_of_ble_eq_true rfl)) dX4_solve_44 ⟨Nat.le_of_ble_eq_true rfl, Nat.le_of_ble_eq_true rfl⟩) hS (fun q _ h => hFc q h) hFc (fun U3 t9 H locs ht9 hvm hw hB hz1 hk1 hS => ?_)
  obtain ⟨hP1, hK1, hD1⟩ := hB
  rw [ht9] at hP1
  obtain ⟨hP, hD⟩ := bJ1e hP hD hk1 hFc hP1 hD1
  have hU3 := hw
  have hrows : ∀ i, i < 10 → tI U3 i = spM d g i := fun i hi => funext fun j => by
    rw [hU3, hU2, A2, A1, tI_zero hz hi, spM_eq hn hm h0 h1 g hi]
    rw [o1]
    omega
  refine lv_aload_n hx hb dX4_solve_47 rfl (lv_at hl 0 rfl) ?_
  refine va_get (D := D) (ci := 4) (C := RX4) (T := TX4) (N := 1) hx hb hts iX4 hown hK hP 0 rfl rfl 0 (by decide) (hts _ k_f_X4_14) (fun _ h9 => h9) rfl dX4_solve_48 ?_
  have hPc := bP1 hP
  have hDc := bD1 hD
  have hFc := bF1 hD hS hA
  refine va_callv (va_runV (As := []) (rest := []) ⟨hx, hb, hml, hown, hts⟩ (c_X1_reduce l D K a ao ap ab r U3 pv ip sv H.size (MB_congr (fun i hi => (hrows i hi).symm) (MB_spM hd g 10)) (fun i j hi _ => by rw [hrows i hi]; exact spM_ent hd g i j)) (cwV 0 hts (TB_V k_m_X4_35 k_im_X1_reduce k_se_X1_reduce k_in_X1 k_co_X1_reduce (fun _ h => h)) rfl rfl rfl (by decide +kernel) ⟨Nat.le_of_ble_eq_true rfl, Nat.le_of_ble_eq_true rfl⟩) ⟨cP_blind, va_recv hK hPc (ci := 1) (q0 := 0) rfl rfl, cP_of hPc hK hDc⟩ rfl rfl hl.1 rfl (lv_room (Nat.le_of_ble_eq_true rfl)) dX4_solve_51 ⟨Nat.le_of_ble_eq_true rfl, Nat.le_of_ble_eq_true rfl⟩) hS (fun q _ h => hFc q h) hFc (fun U4 t9 H locs ht9 hvm hw hB hz1 hk1 hS => ?_)
  obtain ⟨hP1, hK1, hD1⟩ := hB
  rw [ht9] at hP1
  obtain ⟨hP, hD⟩ := bJ1 hP hD hk1 hFc hP1 hD1
  exact W.vret hx hb hr (fun t9 ht9 hW => ⟨⟨U4, rfl, SolvedE.of hrows (MB_spM hd g 10) (spM_ent hd g) hw, by rw [ht9]; exact hP, va_K.moved hW.alike hK, hD⟩, hS.F ht9⟩) hS.2.2 dX4_solve_54
set_option maxHeartbeats 4000000 in
set_option maxRecDepth 100000 in
theorem c_X5_solve (l : Launch) (D : va_G) (K : Nat → ClassId) (sp : Nat) (a ao ap ab : Nat) (r : Nat → Nat) (M : Nat → Nat → Int64) (pv ip : Nat → Int32) (sv : Int32) (q : Nat → Nat) (d : Nat → Nat → Int32) (g : Nat) (sz : Nat) (hd : DV d) (hg : g < 2147483648) : Met l yX5_solve (.code yX5_solve cX5_solve 3 none :: TB) ({ frames := 3, cells := 0, slots := 0, locals := 83 } : Room) (va_Pc [.ref sp, .ref (q 0), .int (nI g)] (cP D K ([(sp, .inr (5, [.ref a]))] ++ (WE K a ao ap ab r M pv ip sv ++ (WD K q d))) sz)) (va_Qv (fun (u : (Nat → Nat → Int64) × (Nat → Int32) × (Nat → Int32) × Int32) => SolvedE (tqM d g) u.1 u.2.1 u.2.2.2) (fun (u : (Nat → Nat → Int64) × (Nat → Int32) × (Nat → Int32) × Int32) t => cB D K (va_A ([(sp, .inr (5, [.ref a]))] ++ (WE K a ao ap ab r M pv ip sv ++ (WD K q d))) sz) ([(sp, .inr (5, [.ref a]))] ++ (WE K a ao ap ab r u.1 u.2.1 u.2.2.1 u.2.2.2 ++ (WD K q d))) t) (va_A ([(sp, .inr (5, [.ref a]))] ++ (WE K a ao ap ab r M pv ip sv ++ (WD K q d))) sz)) 0 0 (va_A ([(sp, .inr (5, [.ref a]))] ++ (WE K a ao ap ab r M pv ip sv ++ (WD K q d))) sz) := by
  refine Met.ofW (cc := cX5_solve) (maxL := 3) (ret := none) (by decide) rfl ?_
  intro p e s m args below meth c s₁ B hml hv
  obtain ⟨rfl, hsz, hP, hK, hD0⟩ := hv
  have hx := B.exec
  have hb := B.bytes
  have hr := B.returns
  have hts := hts_tl (atoms_spec (ws := (.code yX5_solve cX5_solve 3 none :: TB)) B.pre)
  have hown : s.vm.findClass RX5 = some m.cls := findClass_of_methodNamed B.named
  have hlocks := B.notSynchronized
  subst hsz
  have hD := hD0.self (sz := s.heap.size)
  generalize hAe : (va_A ([(sp, .inr (5, [.ref a]))] ++ (WE K a ao ap ab r M pv ip sv ++ (WD K q d))) s.heap.size) = A at hD ⊢
  have hA : ∀ q : Nat, s.heap.size ≤ q → A q := fun q h => by rw [← hAe]; exact Or.inr h
  have hS : va_S A s.heap s.heap [] := va_S.rf
  have hl := lv_entry ([.ref sp, .ref (q 0), .int (nI g)]) (n := 3) (Nat.le_of_ble_eq_true rfl)
  rw [lg_entry_eq]
  generalize (lg_sl ([.ref sp, .ref (q 0), .int (nI g)]) ++ List.replicate (3 - (lg_sl ([.ref sp, .ref (q 0), .int (nI g)])).length) Slot.unset).toArray = ls at hl ⊢
  have hl : lv_has ls 3 [(0, .ref sp), (1, .ref (q 0)), (2, .int (nI g))] := hl
  obtain ⟨n, m1, gg, hn, hm, hgg, h0, h1, h2, hs, he⟩ := id hd
  refine lv_aload_n hx hb dX5_solve_0 rfl (lv_at hl 0 rfl) ?_
  refine va_get (D := D) (ci := 5) (C := RX5) (T := TX5) (N := 1) hx hb hts iX5 hown hK hP 0 rfl rfl 0 (by decide) (hts _ k_f_X5_14) (fun _ h9 => h9) rfl dX5_solve_1 ?_
  have hPc := bP1 hP
  have hDc := bD1 hD
  have hFc := bF1 hD hS hA
  refine va_callv (va_runV (As := []) (rest := []) ⟨hx, hb, hml, hown, hts⟩ (c_X1_clear l D K a ao ap ab r M pv ip sv s.heap.size ) (cwV 0 hts (TB_V k_m_X5_18 k_im_X1_clear k_se_X1_clear k_in_X1 k_co_X1_clear (fun _ h => h)) rfl rfl rfl (by decide +kernel) ⟨Nat.le_of_ble_eq_true rfl, Nat.le_of_ble_eq_true rfl⟩) ⟨cP_blind, va_recv hK hPc (ci := 1) (q0 := 0) rfl rfl, cP_of hPc hK hDc⟩ rfl rfl hl.1 rfl (lv_room (Nat.le_of_ble_eq_true rfl)) dX5_solve_4 ⟨Nat.le_of_ble_eq_true rfl, Nat.le_of_ble_eq_true rfl⟩) hS (fun q _ h => hFc q h) hFc (fun M1 t9 H locs ht9 hvm hw hB hz1 hk1 hS => ?_)
  obtain ⟨hP1, hK1, hD1⟩ := hB
  rw [ht9] at hP1
  obtain ⟨hP, hD⟩ := bJ1 hP hD hk1 hFc hP1 hD1
  have hz := hw
  refine lv_aload_n hx hb dX5_solve_7 rfl (lv_at hl 0 rfl) ?_
  refine va_get (D := D) (ci := 5) (C := RX5) (T := TX5) (N := 1) hx hb hts iX5 hown hK hP 0 rfl rfl 0 (by decide) (hts _ k_f_X5_14) (fun _ h9 => h9) rfl dX5_solve_8 ?_
  refine lv_iconst (v := nI 0) hx hb dX5_solve_11 (by decide) ?_
  refine lv_bipush (v := nI 10) hx hb dX5_solve_12 (by decide) ?_
  refine lv_ldc2 hx hb hown (hts _ k_kl_X5_21) dX5_solve_14 ?_
  have hPc := bP1 hP
  have hDc := bD1 hD
  have hFc := bF1 hD hS hA
  refine va_callv (va_runV (As := [.int (nI 0), .int (nI 10), .long (-1 : Int64)]) (rest := []) ⟨hx, hb, hml, hown, hts⟩ (c_X1_add l D K a ao ap ab r M1 pv ip sv 0 10 (-1 : Int64) H.size (by decide) (by decide)) (cwV 3 hts (TB_V k_m_X5_23 k_im_X1_add k_se_X1_add k_in_X1 k_co_X1_add (fun _ h => h)) rfl rfl rfl (by decide +kernel) ⟨Nat.le_of_ble_eq_true rfl, Nat.le_of_ble_eq_true rfl⟩) ⟨cP_blind, va_recv hK hPc (ci := 1) (q0 := 0) rfl rfl, cP_of hPc hK hDc⟩ rfl rfl hl.1 rfl (lv_room (Nat.le_of_ble_eq_true rfl)) dX5_solve_17 ⟨Nat.le_of_ble_eq_true rfl, Nat.le_of_ble_eq_true rfl⟩) hS (fun q _ h => hFc q h) hFc (fun u9 t9 H locs ht9 hvm hw hB hz1 hk1 hS => ?_)
  obtain ⟨hP1, hK1, hD1⟩ := hB
  rw [ht9] at hP1
  obtain ⟨hP, hD⟩ := bJ1 hP hD hk1 hFc hP1 hD1
  obtain ⟨N1, eN1⟩ : ∃ z, z = setM M1 0 10 (M1 0 10 + (-1 : Int64)) := ⟨_, rfl⟩
  rw [← eN1] at hP hD
  refine lv_aload_n hx hb dX5_solve_20 rfl (lv_at hl 0 rfl) ?_
  refine va_get (D := D) (ci := 5) (C := RX5) (T := TX5) (N := 1) hx hb hts iX5 hown hK hP 0 rfl rfl 0 (by decide) (hts _ k_f_X5_14) (fun _ h9 => h9) rfl dX5_solve_21 ?_
  refine lv_iconst (v := nI 1) hx hb dX5_solve_24 (by decide) ?_
  refine lv_iconst (v := nI 0) hx hb dX5_solve_25 (by decide) ?_
  refine lv_lconst (v := 1) hx hb dX5_solve_26 (by decide) ?_
  have hPc := bP1 hP
  have hDc := bD1 hD
  have hFc := bF1 hD hS hA
  refine va_callv (va_runV (As := [.int (nI 1), .int (nI 0), .long (1 : Int64)]) (rest := []) ⟨hx, hb, hml, hown, hts⟩ (c_X1_add l D K a ao ap ab r N1 pv ip sv 1 0 (1 : Int64) H.size (by decide) (by decide)) (cwV 3 hts (TB_V k_m_X5_23 k_im_X1_add k_se_X1_add k_in_X1 k_co_X1_add (fun _ h => h)) rfl rfl rfl (by decide +kernel) ⟨Nat.le_of_ble_eq_true rfl, Nat.le_of_ble_eq_true rfl⟩) ⟨cP_blind, va_recv hK hPc (ci := 1) (q0 := 0) rfl rfl, cP_of hPc hK hDc⟩ rfl rfl hl.1 rfl (lv_room (Nat.le_of_ble_eq_true rfl)) dX5_solve_27 ⟨Nat.le_of_ble_eq_true rfl, Nat.le_of_ble_eq_true rfl⟩) hS (fun q _ h => hFc q h) hFc (fun u9 t9 H locs ht9 hvm hw hB hz1 hk1 hS => ?_)
  obtain ⟨hP1, hK1, hD1⟩ := hB
  rw [ht9] at hP1
  obtain ⟨hP, hD⟩ := bJ1 hP hD hk1 hFc hP1 hD1
  obtain ⟨N2, eN2⟩ : ∃ z, z = setM N1 1 0 (N1 1 0 + (1 : Int64)) := ⟨_, rfl⟩
  rw [← eN2] at hP hD
  refine lv_aload_n hx hb dX5_solve_30 rfl (lv_at hl 1 rfl) ?_
  refine lv_aload_n hx hb dX5_solve_31 rfl (lv_at hl 0 rfl) ?_
  refine va_get (D := D) (ci := 5) (C := RX5) (T := TX5) (N := 1) hx hb hts iX5 hown hK hP 0 rfl rfl 0 (by decide) (hts _ k_f_X5_14) (fun _ h9 => h9) rfl dX5_solve_32 ?_
  refine lv_iconst (v := nI 1) hx hb dX5_solve_35 (by decide) ?_
  have o1 : (1 : Int64).toInt = 1 := by decide
  have o9 : (-1 : Int64).toInt = -1 := by decide
  have A1 : ∀ x y, tI N1 x y = tI M1 x y + (if x = 0 ∧ y = 10 then ((-1 : Int64)).toInt else 0) := fun x y => by
    rw [eN1]; have h9 := tI_zero hz (i := 0) (by decide) 10; exact tI_add (by decide) (by omega) (by omega) x y
  have A2 : ∀ x y, tI N2 x y = tI N1 x y + (if x = 1 ∧ y = 0 then ((1 : Int64)).toInt else 0) := fun x y => by
    rw [eN2]; have h9 := tI_zero hz (i := 1) (by decide) 0; have h8 := A1 1 0; rw [if_neg (by decide)] at h8; exact tI_add (by decide) (by omega) (by omega) x y
  have A3 : ∀ x y, x < 10 → (tI N2 x y).natAbs ≤ 2 := fun x y hx9 => by
    rw [A2, A1, tI_zero hz hx9]; split <;> split <;> omega
  have hPc := bP1e hP
  have hDc := bD1e hD
  have hFc := bF1e hD hS hA
  refine va_callv (va_runV (As := [.ref a, .int (nI 1)]) (rest := []) ⟨hx, hb, hml, hown, hts⟩ (c_X0_writeSetTorques l D K a ao ap ab r N2 pv ip sv q d n H.size hn h0 hs (fun x y hx9 => by have := A3 x y hx9; omega)) (cwV 2 hts (TB_V k_m_X5_27 k_im_X0_writeSetTorques k_se_X0_writeSetTorques k_in_X0 k_co_X0_writeSetTorques (fun _ h => h)) rfl rfl rfl (by decide +kernel) ⟨Nat.le_of_ble_eq_true rfl, Nat.le_of_ble_eq_true rfl⟩) ⟨cP_blind, va_recv hK hPc (ci := 0) (q0 := 14) rfl rfl, cP_of hPc hK hDc⟩ rfl rfl hl.1 rfl (lv_room (Nat.le_of_ble_eq_true rfl)) dX5_solve_36 ⟨Nat.le_of_ble_eq_true rfl, Nat.le_of_ble_eq_true rfl⟩) hS (fun q _ h => hFc q h) hFc (fun U2 t9 H locs ht9 hvm hw hB hz1 hk1 hS => ?_)
  obtain ⟨hP1, hK1, hD1⟩ := hB
  rw [ht9] at hP1
  obtain ⟨hP, hD⟩ := bJ1e hP hD hk1 hFc hP1 hD1
  have hU2 := hw
  refine lv_aload_n hx hb dX5_solve_39 rfl (lv_at hl 1 rfl) ?_
  refine lv_aload_n hx hb dX5_solve_40 rfl (lv_at hl 0 rfl) ?_
  refine va_get (D := D) (ci := 5) (C := RX5) (T := TX5) (N := 1) hx hb hts iX5 hown hK hP 0 rfl rfl 0 (by decide) (hts _ k_f_X5_14) (fun _ h9 => h9) rfl dX5_solve_41 ?_
  refine lv_iconst (v := nI 4) hx hb dX5_solve_44 (by decide) ?_
  refine lv_iload_n hx hb dX5_solve_45 rfl (lv_at hl 2 rfl) ?_
  have A4 : ∀ x y, x < 10 → (tI U2 x y).natAbs ≤ 300 := fun x y hx9 => by
    rw [hU2]; have h9 := A3 x y hx9
    have h8 : (sS d n y x).natAbs ≤ 280 := by
      unfold sS; split
      · exact setc_abs (hs _ (by omega)) _
      · exact Nat.zero_le _
    omega
  have hPc := bP1e hP
  have hDc := bD1e hD
  have hFc := bF1e hD hS hA
  refine va_callv (va_runV (As := [.ref a, .int (nI 4), .int (nI g)]) (rest := []) ⟨hx, hb, hml, hown, hts⟩ (c_X0_writeElementTorques l D K a ao ap ab r U2 pv ip sv q d m1 g H.size hm hg h1 he (fun x y hx9 => by have := A4 x y hx9; omega)) (cwV 3 hts (TB_V k_m_X5_33 k_im_X0_writeElementTorques k_se_X0_writeElementTorques k_in_X0 k_co_X0_writeElementTorques (fun _ h => h)) rfl rfl rfl (by decide +kernel) ⟨Nat.le_of_ble_eq_true rfl, Nat.le_of_ble_eq_true rfl⟩) ⟨cP_blind, va_recv hK hPc (ci := 0) (q0 := 14) rfl rfl, cP_of hPc hK hDc⟩ rfl rfl hl.1 rfl (lv_room (Nat.le_of_ble_eq_true rfl)) dX5_solve_46 ⟨Nat.le_of_ble_eq_true rfl, Nat.le_of_ble_eq_true rfl⟩) hS (fun q _ h => hFc q h) hFc (fun U3 t9 H locs ht9 hvm hw hB hz1 hk1 hS => ?_)
  obtain ⟨hP1, hK1, hD1⟩ := hB
  rw [ht9] at hP1
  obtain ⟨hP, hD⟩ := bJ1e hP hD hk1 hFc hP1 hD1
  have hU3 := hw
  have hrows : ∀ i, i < 10 → tI U3 i = tqM d g i := fun i hi => funext fun j => by
    rw [hU3, hU2, A2, A1, tI_zero hz hi, tqM_eq hn hm h0 h1 hs he g]
    rw [o1, o9]
    omega
  refine lv_aload_n hx hb dX5_solve_49 rfl (lv_at hl 0 rfl) ?_
  refine va_get (D := D) (ci := 5) (C := RX5) (T := TX5) (N := 1) hx hb hts iX5 hown hK hP 0 rfl rfl 0 (by decide) (hts _ k_f_X5_14) (fun _ h9 => h9) rfl dX5_solve_50 ?_
  have hPc := bP1 hP
  have hDc := bD1 hD
  have hFc := bF1 hD hS hA
  refine va_callv (va_runV (As := []) (rest := []) ⟨hx, hb, hml, hown, hts⟩ (c_X1_reduce l D K a ao ap ab r U3 pv ip sv H.size (MB_congr (fun i hi => (hrows i hi).symm) (MB_tqM hd g 10)) (fun i j hi _ => by rw [hrows i hi]; exact tqM_ent hd g i j)) (cwV 0 hts (TB_V k_m_X5_37 k_im_X1_reduce k_se_X1_reduce k_in_X1 k_co_X1_reduce (fun _ h => h)) rfl rfl rfl (by decide +kernel) ⟨Nat.le_of_ble_eq_true rfl, Nat.le_of_ble_eq_true rfl⟩) ⟨cP_blind, va_recv hK hPc (ci := 1) (q0 := 0) rfl rfl, cP_of hPc hK hDc⟩ rfl rfl hl.1 rfl (lv_room (Nat.le_of_ble_eq_true rfl)) dX5_solve_53 ⟨Nat.le_of_ble_eq_true rfl, Nat.le_of_ble_eq_true rfl⟩) hS (fun q _ h => hFc q h) hFc (fun U4 t9 H locs ht9 hvm hw hB hz1 hk1 hS => ?_)
  obtain ⟨hP1, hK1, hD1⟩ := hB
  rw [ht9] at hP1
  obtain ⟨hP, hD⟩ := bJ1 hP hD hk1 hFc hP1 hD1
  exact W.vret hx hb hr (fun t9 ht9 hW => ⟨⟨U4, rfl, SolvedE.of hrows (MB_tqM hd g 10) (tqM_ent hd g) hw, by rw [ht9]; exact hP, va_K.moved hW.alike hK, hD⟩, hS.F ht9⟩) hS.2.2 dX5_solve_56
set_option maxHeartbeats 4000000 in
set_option maxRecDepth 100000 in
theorem c_X4_isDetermined (l : Launch) (D : va_G) (K : Nat → ClassId) (sp : Nat) (a ao ap ab : Nat) (r : Nat → Nat) (M : Nat → Nat → Int64) (pv ip : Nat → Int32) (sv : Int32) (M0 : Nat → Nat → Int) (t : Nat) (sz : Nat) (ht : t < 10) (hS0 : SolvedE M0 M pv sv) : Met l yX4_isDetermined (.code yX4_isDetermined cX4_isDetermined 2 (some .boolean) :: TB) ({ frames := 1, cells := 0, slots := 0, locals := 23 } : Room) (va_Pc [.ref sp, .int (nI t)] (cP D K ([(sp, .inr (4, [.ref a]))] ++ (WE K a ao ap ab r M pv ip sv)) sz)) (va_Qi (fun (z : Int32) (_ : Unit) => z = bI (Solv (HS M0 10) ∧ DetS (HS M0 10) t)) (fun _ _ => True) (fun _ => False)) 0 0 (fun _ => False) := by
  refine Met.ofW (cc := cX4_isDetermined) (maxL := 2) (ret := (some .boolean)) (by decide) rfl ?_
  intro p e s m args below meth c s₁ B hml hv
  obtain ⟨rfl, hsz, hP, hK, hD0⟩ := hv
  have hx := B.exec
  have hb := B.bytes
  have hr := B.returns
  have hts := hts_tl (atoms_spec (ws := (.code yX4_isDetermined cX4_isDetermined 2 (some .boolean) :: TB)) B.pre)
  have hown : s.vm.findClass RX4 = some m.cls := findClass_of_methodNamed B.named
  have hlocks := B.notSynchronized
  subst hsz
  have hA : ∀ q : Nat, q < s.heap.size → (fun _ : Nat => False) q → False := fun _ _ h => h
  have hS : va_S (fun _ => False) s.heap s.heap [] := va_S.rf
  have hl := lv_entry ([.ref sp, .int (nI t)]) (n := 2) (Nat.le_of_ble_eq_true rfl)
  rw [lg_entry_eq]
  generalize (lg_sl ([.ref sp, .int (nI t)]) ++ List.replicate (2 - (lg_sl ([.ref sp, .int (nI t)])).length) Slot.unset).toArray = ls at hl ⊢
  have hl : lv_has ls 2 [(0, .ref sp), (1, .int (nI t))] := hl
  refine lv_aload_n hx hb dX4_isDetermined_0 rfl (lv_at hl 0 rfl) ?_
  refine va_get (D := D) (ci := 4) (C := RX4) (T := TX4) (N := 1) hx hb hts iX4 hown hK hP 0 rfl rfl 0 (by decide) (hts _ k_f_X4_14) (fun _ h9 => h9) rfl dX4_isDetermined_1 ?_
  refine lv_iload_n hx hb dX4_isDetermined_4 rfl (lv_at hl 1 rfl) ?_
  have hPc := bP1e hP
  have hDc := bD1e hD0
  refine va_calli (va_runV (As := [.int (nI t)]) (rest := []) ⟨hx, hb, hml, hown, hts⟩ (c_X1_isDetermined l D K a ao ap ab r M pv ip sv t s.heap.size (by omega) hS0.sv01 (hS0.pvk (by omega))) (cwV 1 hts (TB_V k_m_X4_42 k_im_X1_isDetermined k_se_X1_isDetermined k_in_X1 k_co_X1_isDetermined (fun _ h => h)) rfl rfl rfl (by decide +kernel) ⟨Nat.le_of_ble_eq_true rfl, Nat.le_of_ble_eq_true rfl⟩) ⟨cP_blind, va_recv hK hPc (ci := 1) (q0 := 0) rfl rfl, cP_of hPc hK hDc⟩ rfl rfl hl.1 rfl (lv_room (Nat.le_of_ble_eq_true rfl)) dX4_isDetermined_5 ⟨Nat.le_of_ble_eq_true rfl, Nat.le_of_ble_eq_true rfl⟩) hS (fun q _ h => absurd h id) (fun q h => absurd h id) (fun dt u9 t9 H locs ht9 hvm hw hB hz1 hk1 hS => ?_)
  have hP := P_same hP hk1
  have hw := hw.trans (bI_iff (hS0.det (by omega)))
  exact W.zret (v := dt) hx hb hr (by rcases (hw ▸ bI_01 _ : dt = nI 0 ∨ dt = nI 1) with h | h <;> rw [h] <;> decide) (fun t9 ht9 hW => ⟨⟨dt, (), rfl, hw, trivial⟩, hS.F ht9⟩) hS.2.2 dX4_isDetermined_8
set_option maxHeartbeats 4000000 in
set_option maxRecDepth 100000 in
theorem c_X4_speedPart (l : Launch) (D : va_G) (K : Nat → ClassId) (sp : Nat) (a ao ap ab : Nat) (r : Nat → Nat) (M : Nat → Nat → Int64) (pv ip : Nat → Int32) (sv : Int32) (M0 : Nat → Nat → Int) (t pt : Nat) (sz : Nat) (ht : t < 10) (hpt : pt ≤ 1) (hS0 : SolvedE M0 M pv sv) (hSo : Solv (HS M0 10)) (hDe : DetS (HS M0 10) t) : Met l yX4_speedPart (.code yX4_speedPart cX4_speedPart 3 (some .long) :: TB) ({ frames := 2, cells := 0, slots := 0, locals := 61 } : Room) (va_Pc [.ref sp, .int (nI t), .int (nI pt)] (cP D K ([(sp, .inr (4, [.ref a]))] ++ (WE K a ao ap ab r M pv ip sv)) sz)) (va_Ql (fun (z : Int64) (_ : Unit) => z.toInt = if pt = 0 then vN (HS M0 10) t else vD (HS M0 10) t) (fun _ _ => True) (fun _ => False)) 0 0 (fun _ => False) := by
  refine Met.ofW (cc := cX4_speedPart) (maxL := 3) (ret := (some .long)) (by decide) rfl ?_
  intro p e s m args below meth c s₁ B hml hv
  obtain ⟨rfl, hsz, hP, hK, hD0⟩ := hv
  have hx := B.exec
  have hb := B.bytes
  have hr := B.returns
  have hts := hts_tl (atoms_spec (ws := (.code yX4_speedPart cX4_speedPart 3 (some .long) :: TB)) B.pre)
  have hown : s.vm.findClass RX4 = some m.cls := findClass_of_methodNamed B.named
  have hlocks := B.notSynchronized
  subst hsz
  have hA : ∀ q : Nat, q < s.heap.size → (fun _ : Nat => False) q → False := fun _ _ h => h
  have hS : va_S (fun _ => False) s.heap s.heap [] := va_S.rf
  have hl := lv_entry ([.ref sp, .int (nI t), .int (nI pt)]) (n := 3) (Nat.le_of_ble_eq_true rfl)
  rw [lg_entry_eq]
  generalize (lg_sl ([.ref sp, .int (nI t), .int (nI pt)]) ++ List.replicate (3 - (lg_sl ([.ref sp, .int (nI t), .int (nI pt)])).length) Slot.unset).toArray = ls at hl ⊢
  have hl : lv_has ls 3 [(0, .ref sp), (1, .int (nI t)), (2, .int (nI pt))] := hl
  refine lv_aload_n hx hb dX4_speedPart_0 rfl (lv_at hl 0 rfl) ?_
  refine va_get (D := D) (ci := 4) (C := RX4) (T := TX4) (N := 1) hx hb hts iX4 hown hK hP 0 rfl rfl 0 (by decide) (hts _ k_f_X4_14) (fun _ h9 => h9) rfl dX4_speedPart_1 ?_
  refine lv_iload_n hx hb dX4_speedPart_4 rfl (lv_at hl 1 rfl) ?_
  refine lv_iload_n hx hb dX4_speedPart_5 rfl (lv_at hl 2 rfl) ?_
  obtain ⟨kx, hkx, hpx, hnx, hbx, hcx, hLx, hMx⟩ := hS0.val (t := t) ht hSo hDe
  have hPc := bP1e hP
  have hDc := bD1e hD0
  refine va_calll (va_runV (As := [.int (nI t), .int (nI pt)]) (rest := []) ⟨hx, hb, hml, hown, hts⟩ (c_X1_valuePart l D K a ao ap ab r M pv ip sv kx t pt s.heap.size ht hkx hpt hpx hnx hbx hcx) (cwV 2 hts (TB_V k_m_X4_46 k_im_X1_valuePart k_se_X1_valuePart k_in_X1 k_co_X1_valuePart (fun _ h => h)) rfl rfl rfl (by decide +kernel) ⟨Nat.le_of_ble_eq_true rfl, Nat.le_of_ble_eq_true rfl⟩) ⟨cP_blind, va_recv hK hPc (ci := 1) (q0 := 0) rfl rfl, cP_of hPc hK hDc⟩ rfl rfl hl.1 rfl (lv_room (Nat.le_of_ble_eq_true rfl)) dX4_speedPart_6 ⟨Nat.le_of_ble_eq_true rfl, Nat.le_of_ble_eq_true rfl⟩) hS (fun q _ h => absurd h id) (fun q h => absurd h id) (fun vx u9 t9 H locs ht9 hvm hw hB hz1 hk1 hS => ?_)
  have hP := P_same hP hk1
  have hxv := hw
  rw [hLx, hMx] at hxv
  exact W.lret (v := vx) hx hb hr (fun t9 ht9 hW => ⟨⟨vx, (), rfl, hxv, trivial⟩, hS.F ht9⟩) hS.2.2 dX4_speedPart_9
set_option maxHeartbeats 4000000 in
set_option maxRecDepth 100000 in
theorem c_X4_stateFound (l : Launch) (D : va_G) (K : Nat → ClassId) (sp : Nat) (a ao ap ab : Nat) (r : Nat → Nat) (M : Nat → Nat → Int64) (pv ip : Nat → Int32) (sv : Int32) (M0 : Nat → Nat → Int) (sz : Nat) (hS0 : SolvedE M0 M pv sv) : Met l yX4_stateFound (.code yX4_stateFound cX4_stateFound 1 (some .int) :: TB) ({ frames := 2, cells := 0, slots := 0, locals := 61 } : Room) (va_Pc [.ref sp] (cP D K ([(sp, .inr (4, [.ref a]))] ++ (WE K a ao ap ab r M pv ip sv)) sz)) (va_Qi (fun (z : Int32) (_ : Unit) => z = nI (stC (HS M0 10))) (fun _ _ => True) (fun _ => False)) 0 0 (fun _ => False) := by
  refine Met.ofW (cc := cX4_stateFound) (maxL := 1) (ret := (some .int)) (by decide) rfl ?_
  intro p e s m args below meth c s₁ B hml hv
  obtain ⟨rfl, hsz, hP, hK, hD0⟩ := hv
  have hx := B.exec
  have hb := B.bytes
  have hr := B.returns
  have hts := hts_tl (atoms_spec (ws := (.code yX4_stateFound cX4_stateFound 1 (some .int) :: TB)) B.pre)
  have hown : s.vm.findClass RX4 = some m.cls := findClass_of_methodNamed B.named
  have hlocks := B.notSynchronized
  subst hsz
  have hA : ∀ q : Nat, q < s.heap.size → (fun _ : Nat => False) q → False := fun _ _ h => h
  have hS : va_S (fun _ => False) s.heap s.heap [] := va_S.rf
  have hl := lv_entry ([.ref sp]) (n := 1) (Nat.le_of_ble_eq_true rfl)
  rw [lg_entry_eq]
  generalize (lg_sl ([.ref sp]) ++ List.replicate (1 - (lg_sl ([.ref sp])).length) Slot.unset).toArray = ls at hl ⊢
  have hl : lv_has ls 1 [(0, .ref sp)] := hl
  refine lv_aload_n hx hb dX4_stateFound_0 rfl (lv_at hl 0 rfl) ?_
  refine va_get (D := D) (ci := 4) (C := RX4) (T := TX4) (N := 1) hx hb hts iX4 hown hK hP 0 rfl rfl 0 (by decide) (hts _ k_f_X4_14) (fun _ h9 => h9) rfl dX4_stateFound_1 ?_
  have hPc := bP1e hP
  have hDc := bD1e hD0
  refine va_calli (va_runV (As := []) (rest := []) ⟨hx, hb, hml, hown, hts⟩ (c_X1_isSolvable l D K a ao ap ab r M pv ip sv s.heap.size hS0.sv01) (cwV 0 hts (TB_V k_m_X4_38 k_im_X1_isSolvable k_se_X1_isSolvable k_in_X1 k_co_X1_isSolvable (fun _ h => h)) rfl rfl rfl (by decide +kernel) ⟨Nat.le_of_ble_eq_true rfl, Nat.le_of_ble_eq_true rfl⟩) ⟨cP_blind, va_recv hK hPc (ci := 1) (q0 := 0) rfl rfl, cP_of hPc hK hDc⟩ rfl rfl hl.1 rfl (lv_room (Nat.le_of_ble_eq_true rfl)) dX4_stateFound_4 ⟨Nat.le_of_ble_eq_true rfl, Nat.le_of_ble_eq_true rfl⟩) hS (fun q _ h => absurd h id) (fun q h => absurd h id) (fun sl u9 t9 H locs ht9 hvm hw hB hz1 hk1 hS => ?_)
  have hP := P_same hP hk1
  by_cases hSo : Solv (HS M0 10)
  rotate_left
  · refine t_i (show sl = nI 0 from hw.trans (hS0.sv01.resolve_right (fun z => hSo (hS0.solv.mp z)))) ?_
    refine b_if_ne hx hb (nI_toIntI (by omega)) dX4_stateFound_7 (tgt := 12) (by decide) (fun c7 => absurd c7 (by omega)) (fun c7 => ?_)
    refine lv_iconst (v := nI 3) hx hb dX4_stateFound_10 (by decide) ?_
    exact W.iret (v := nI 3) hx hb hr (fun t9 ht9 hW => ⟨⟨nI 3, (), rfl, congrArg nI (stC_3 hSo).symm, trivial⟩, hS.F ht9⟩) hS.2.2 dX4_stateFound_11
  refine t_i (show sl = nI 1 from hw.trans (hS0.solv.mpr hSo)) ?_
  refine b_if_ne hx hb (nI_toIntI (by omega)) dX4_stateFound_7 (tgt := 12) (by decide) (fun c7 => ?_) (fun c7 => absurd c7 (by omega))
  refine lv_aload_n hx hb dX4_stateFound_12 rfl (lv_at hl 0 rfl) ?_
  refine va_get (D := D) (ci := 4) (C := RX4) (T := TX4) (N := 1) hx hb hts iX4 hown hK hP 0 rfl rfl 0 (by decide) (hts _ k_f_X4_14) (fun _ h9 => h9) rfl dX4_stateFound_13 ?_
  refine lv_iconst (v := nI 1) hx hb dX4_stateFound_16 (by decide) ?_
  have hPc := bP1e hP
  have hDc := bD1e hD0
  refine va_calli (va_runV (As := [.int (nI 1)]) (rest := []) ⟨hx, hb, hml, hown, hts⟩ (c_X1_isDetermined l D K a ao ap ab r M pv ip sv 1 H.size (by decide) hS0.sv01 (hS0.pvk (by decide))) (cwV 1 hts (TB_V k_m_X4_42 k_im_X1_isDetermined k_se_X1_isDetermined k_in_X1 k_co_X1_isDetermined (fun _ h => h)) rfl rfl rfl (by decide +kernel) ⟨Nat.le_of_ble_eq_true rfl, Nat.le_of_ble_eq_true rfl⟩) ⟨cP_blind, va_recv hK hPc (ci := 1) (q0 := 0) rfl rfl, cP_of hPc hK hDc⟩ rfl rfl hl.1 rfl (lv_room (Nat.le_of_ble_eq_true rfl)) dX4_stateFound_17 ⟨Nat.le_of_ble_eq_true rfl, Nat.le_of_ble_eq_true rfl⟩) hS (fun q _ h => absurd h id) (fun q h => absurd h id) (fun dt u9 t9 H locs ht9 hvm hw hB hz1 hk1 hS => ?_)
  have hP := P_same hP hk1
  have hw := hw.trans (bI_iff (hS0.det (by decide)))
  by_cases hDe : DetS (HS M0 10) 1
  rotate_left
  · refine t_i (hw.trans (bI_f (fun z => hDe z.2)).symm) ?_
    refine b_if_ne hx hb (nI_toIntI (by omega)) dX4_stateFound_20 (tgt := 25) (by decide) (fun c20 => absurd c20 (by omega)) (fun c20 => ?_)
    refine lv_iconst (v := nI 2) hx hb dX4_stateFound_23 (by decide) ?_
    exact W.iret (v := nI 2) hx hb hr (fun t9 ht9 hW => ⟨⟨nI 2, (), rfl, congrArg nI (stC_2 hSo hDe).symm, trivial⟩, hS.F ht9⟩) hS.2.2 dX4_stateFound_24
  refine t_i (hw.trans (bI_t ⟨hSo, hDe⟩).symm) ?_
  refine b_if_ne hx hb (nI_toIntI (by omega)) dX4_stateFound_20 (tgt := 25) (by decide) (fun c20 => ?_) (fun c20 => absurd c20 (by omega))
  refine lv_aload_n hx hb dX4_stateFound_25 rfl (lv_at hl 0 rfl) ?_
  refine va_get (D := D) (ci := 4) (C := RX4) (T := TX4) (N := 1) hx hb hts iX4 hown hK hP 0 rfl rfl 0 (by decide) (hts _ k_f_X4_14) (fun _ h9 => h9) rfl dX4_stateFound_26 ?_
  refine lv_iconst (v := nI 1) hx hb dX4_stateFound_29 (by decide) ?_
  refine lv_iconst (v := nI 0) hx hb dX4_stateFound_30 (by decide) ?_
  obtain ⟨kx, hkx, hpx, hnx, hbx, hcx, hLx, hMx⟩ := hS0.val (t := 1) (by decide) hSo hDe
  have hPc := bP1e hP
  have hDc := bD1e hD0
  refine va_calll (va_runV (As := [.int (nI 1), .int (nI 0)]) (rest := []) ⟨hx, hb, hml, hown, hts⟩ (c_X1_valuePart l D K a ao ap ab r M pv ip sv kx 1 0 H.size (by decide) hkx (by decide) hpx hnx hbx hcx) (cwV 2 hts (TB_V k_m_X4_46 k_im_X1_valuePart k_se_X1_valuePart k_in_X1 k_co_X1_valuePart (fun _ h => h)) rfl rfl rfl (by decide +kernel) ⟨Nat.le_of_ble_eq_true rfl, Nat.le_of_ble_eq_true rfl⟩) ⟨cP_blind, va_recv hK hPc (ci := 1) (q0 := 0) rfl rfl, cP_of hPc hK hDc⟩ rfl rfl hl.1 rfl (lv_room (Nat.le_of_ble_eq_true rfl)) dX4_stateFound_31 ⟨Nat.le_of_ble_eq_true rfl, Nat.le_of_ble_eq_true rfl⟩) hS (fun q _ h => absurd h id) (fun q h => absurd h id) (fun vx u9 t9 H locs ht9 hvm hw hB hz1 hk1 hS => ?_)
  have hP := P_same hP hk1
  have hxv := hw
  rw [hLx, hMx] at hxv
  refine lv_lconst (v := 0) hx hb dX4_stateFound_34 (by decide) ?_
  refine b_lcmp_ne hx hb rfl (show (0 : Int64).toInt = 0 by decide) dX4_stateFound_35 dX4_stateFound_36 (tgt := 43) (by decide) (fun c35 => ?_) (fun c35 => ?_)
  · refine lv_iconst (v := nI 0) hx hb dX4_stateFound_43 (by decide) ?_
    exact W.iret (v := nI 0) hx hb hr (fun t9 ht9 hW => ⟨⟨nI 0, (), rfl, congrArg nI (stC_0 hSo hDe (fun z => c35 (hxv.trans z))).symm, trivial⟩, hS.F ht9⟩) hS.2.2 dX4_stateFound_44
  refine lv_iconst (v := nI 1) hx hb dX4_stateFound_39 (by decide) ?_
  refine lv_goto (tgt := 44) hx hb dX4_stateFound_40 (by decide) ?_
  exact W.iret (v := nI 1) hx hb hr (fun t9 ht9 hW => ⟨⟨nI 1, (), rfl, congrArg nI (stC_1 hSo hDe (hxv.symm.trans c35)).symm, trivial⟩, hS.F ht9⟩) hS.2.2 dX4_stateFound_44
set_option maxHeartbeats 4000000 in
set_option maxRecDepth 100000 in
theorem c_X4_ratioPart (l : Launch) (D : va_G) (K : Nat → ClassId) (sp : Nat) (a ao ap ab : Nat) (r : Nat → Nat) (M : Nat → Nat → Int64) (pv ip : Nat → Int32) (sv : Int32) (M0 : Nat → Nat → Int) (pt : Nat) (sz : Nat) (hpt : pt ≤ 1) (hS0 : SolvedE M0 M pv sv) (hSo : Solv (HS M0 10)) (hDe : DetS (HS M0 10) 1) : Met l yX4_ratioPart (.code yX4_ratioPart cX4_ratioPart 6 (some .long) :: TB) ({ frames := 2, cells := 0, slots := 0, locals := 61 } : Room) (va_Pc [.ref sp, .int (nI pt)] (cP D K ([(sp, .inr (4, [.ref a]))] ++ (WE K a ao ap ab r M pv ip sv)) sz)) (va_Ql (fun (z : Int64) (_ : Unit) => z.toInt = if pt = 0 then rtN (HS M0 10) else rtD (HS M0 10)) (fun _ _ => True) (fun _ => False)) 0 0 (fun _ => False) := by
  refine Met.ofW (cc := cX4_ratioPart) (maxL := 6) (ret := (some .long)) (by decide) rfl ?_
  intro p e s m args below meth c s₁ B hml hv
  obtain ⟨rfl, hsz, hP, hK, hD0⟩ := hv
  have hx := B.exec
  have hb := B.bytes
  have hr := B.returns
  have hts := hts_tl (atoms_spec (ws := (.code yX4_ratioPart cX4_ratioPart 6 (some .long) :: TB)) B.pre)
  have hown : s.vm.findClass RX4 = some m.cls := findClass_of_methodNamed B.named
  have hlocks := B.notSynchronized
  subst hsz
  have hA : ∀ q : Nat, q < s.heap.size → (fun _ : Nat => False) q → False := fun _ _ h => h
  have hS : va_S (fun _ => False) s.heap s.heap [] := va_S.rf
  have hl := lv_entry ([.ref sp, .int (nI pt)]) (n := 6) (Nat.le_of_ble_eq_true rfl)
  rw [lg_entry_eq]
  generalize (lg_sl ([.ref sp, .int (nI pt)]) ++ List.replicate (6 - (lg_sl ([.ref sp, .int (nI pt)])).length) Slot.unset).toArray = ls at hl ⊢
  have hl : lv_has ls 6 [(0, .ref sp), (1, .int (nI pt))] := hl
  refine lv_aload_n hx hb dX4_ratioPart_0 rfl (lv_at hl 0 rfl) ?_
  refine va_get (D := D) (ci := 4) (C := RX4) (T := TX4) (N := 1) hx hb hts iX4 hown hK hP 0 rfl rfl 0 (by decide) (hts _ k_f_X4_14) (fun _ h9 => h9) rfl dX4_ratioPart_1 ?_
  refine lv_iconst (v := nI 1) hx hb dX4_ratioPart_4 (by decide) ?_
  refine lv_iconst (v := nI 0) hx hb dX4_ratioPart_5 (by decide) ?_
  obtain ⟨kx, hkx, hpx, hnx, hbx, hcx, hLx, hMx⟩ := hS0.val (t := 1) (by decide) hSo hDe
  have hPc := bP1e hP
  have hDc := bD1e hD0
  refine va_calll (va_runV (As := [.int (nI 1), .int (nI 0)]) (rest := []) ⟨hx, hb, hml, hown, hts⟩ (c_X1_valuePart l D K a ao ap ab r M pv ip sv kx 1 0 s.heap.size (by decide) hkx (by decide) hpx hnx hbx hcx) (cwV 2 hts (TB_V k_m_X4_46 k_im_X1_valuePart k_se_X1_valuePart k_in_X1 k_co_X1_valuePart (fun _ h => h)) rfl rfl rfl (by decide +kernel) ⟨Nat.le_of_ble_eq_true rfl, Nat.le_of_ble_eq_true rfl⟩) ⟨cP_blind, va_recv hK hPc (ci := 1) (q0 := 0) rfl rfl, cP_of hPc hK hDc⟩ rfl rfl hl.1 rfl (lv_room (Nat.le_of_ble_eq_true rfl)) dX4_ratioPart_6 ⟨Nat.le_of_ble_eq_true rfl, Nat.le_of_ble_eq_true rfl⟩) hS (fun q _ h => absurd h id) (fun q h => absurd h id) (fun vx u9 t9 H locs ht9 hvm hw hB hz1 hk1 hS => ?_)
  have hP := P_same hP hk1
  have hxv := hw
  rw [hLx, hMx] at hxv
  refine lv_lstore_n (lv' := [(2, .long vx), (0, .ref sp), (1, .int (nI pt))]) hx hb dX4_ratioPart_9 rfl hl (by decide) rfl (fun ls hl => ?_)
  refine lv_aload_n hx hb dX4_ratioPart_10 rfl (lv_at hl 1 rfl) ?_
  refine va_get (D := D) (ci := 4) (C := RX4) (T := TX4) (N := 1) hx hb hts iX4 hown hK hP 0 rfl rfl 0 (by decide) (hts _ k_f_X4_14) (fun _ h9 => h9) rfl dX4_ratioPart_11 ?_
  refine lv_iconst (v := nI 1) hx hb dX4_ratioPart_14 (by decide) ?_
  refine lv_iconst (v := nI 1) hx hb dX4_ratioPart_15 (by decide) ?_
  obtain ⟨ky, hky, hpy, hny, hby, hcy, hLy, hMy⟩ := hS0.val (t := 1) (by decide) hSo hDe
  have hPc := bP1e hP
  have hDc := bD1e hD0
  refine va_calll (va_runV (As := [.int (nI 1), .int (nI 1)]) (rest := []) ⟨hx, hb, hml, hown, hts⟩ (c_X1_valuePart l D K a ao ap ab r M pv ip sv ky 1 1 H.size (by decide) hky (by decide) hpy hny hby hcy) (cwV 2 hts (TB_V k_m_X4_46 k_im_X1_valuePart k_se_X1_valuePart k_in_X1 k_co_X1_valuePart (fun _ h => h)) rfl rfl rfl (by decide +kernel) ⟨Nat.le_of_ble_eq_true rfl, Nat.le_of_ble_eq_true rfl⟩) ⟨cP_blind, va_recv hK hPc (ci := 1) (q0 := 0) rfl rfl, cP_of hPc hK hDc⟩ rfl rfl hl.1 rfl (lv_room (Nat.le_of_ble_eq_true rfl)) dX4_ratioPart_16 ⟨Nat.le_of_ble_eq_true rfl, Nat.le_of_ble_eq_true rfl⟩) hS (fun q _ h => absurd h id) (fun q h => absurd h id) (fun vy u9 t9 H locs ht9 hvm hw hB hz1 hk1 hS => ?_)
  have hP := P_same hP hk1
  have hyv := hw
  rw [hLy, hMy] at hyv
  have hbd := hS0.bound (t := 1) (by decide) hSo hDe
  have hBB : BB = 351232000 := rfl
  have hxv : vx.toInt = vN (HS M0 10) 1 := hxv
  have hyv : vy.toInt = vD (HS M0 10) 1 := hyv
  refine lv_lstore (lv' := [(4, .long vy), (2, .long vx), (0, .ref sp), (1, .int (nI pt))]) hx hb dX4_ratioPart_19 hl (by decide) rfl (fun ls hl => ?_)
  refine lv_iload_n hx hb dX4_ratioPart_21 rfl (lv_at hl 3 rfl) ?_
  refine lv_iconst (v := nI 1) hx hb dX4_ratioPart_22 (by decide) ?_
  refine b_icmp_ne hx hb (nI_toIntI (by omega)) (nI_toIntI (by omega)) dX4_ratioPart_23 (tgt := 39) (by decide) (fun c23 => ?_) (fun c23 => ?_)
  · refine lv_lload_n hx hb dX4_ratioPart_39 rfl (lv_at hl 1 rfl) ?_
    refine lv_lconst (v := 0) hx hb dX4_ratioPart_40 (by decide) ?_
    refine b_lcmp_ge hx hb rfl (show (0 : Int64).toInt = 0 by decide) dX4_ratioPart_41 dX4_ratioPart_42 (tgt := 51) (by decide) (fun c41 => ?_) (fun c41 => ?_)
    · refine lv_lload hx hb dX4_ratioPart_51 (lv_at hl 0 rfl) ?_
      exact W.lret (v := vy) hx hb hr (fun t9 ht9 hW => ⟨⟨vy, (), rfl, by show _ = _; rw [if_pos (show pt = 0 by omega)]; unfold rtN; rw [if_neg (by omega), hyv], trivial⟩, hS.F ht9⟩) hS.2.2 dX4_ratioPart_53
    refine lv_lload hx hb dX4_ratioPart_45 (lv_at hl 0 rfl) ?_
    refine lv_lneg hx hb dX4_ratioPart_47 ?_
    refine lv_goto (tgt := 53) hx hb dX4_ratioPart_48 (by decide) ?_
    exact W.lret (v := -vy) hx hb hr (fun t9 ht9 hW => ⟨⟨-vy, (), rfl, by show _ = _; rw [if_pos (show pt = 0 by omega)]; unfold rtN; rw [if_pos (by omega), L_neg (by omega), hyv], trivial⟩, hS.F ht9⟩) hS.2.2 dX4_ratioPart_53
  refine lv_lload_n hx hb dX4_ratioPart_26 rfl (lv_at hl 1 rfl) ?_
  refine lv_lconst (v := 0) hx hb dX4_ratioPart_27 (by decide) ?_
  refine b_lcmp_ge hx hb rfl (show (0 : Int64).toInt = 0 by decide) dX4_ratioPart_28 dX4_ratioPart_29 (tgt := 37) (by decide) (fun c28 => ?_) (fun c28 => ?_)
  · refine lv_lload_n hx hb dX4_ratioPart_37 rfl (lv_at hl 1 rfl) ?_
    exact W.lret (v := vx) hx hb hr (fun t9 ht9 hW => ⟨⟨vx, (), rfl, by show _ = _; rw [if_neg (show ¬ pt = 0 by omega)]; unfold rtD; rw [hxv]; omega, trivial⟩, hS.F ht9⟩) hS.2.2 dX4_ratioPart_38
  refine lv_lload_n hx hb dX4_ratioPart_32 rfl (lv_at hl 1 rfl) ?_
  refine lv_lneg hx hb dX4_ratioPart_33 ?_
  refine lv_goto (tgt := 38) hx hb dX4_ratioPart_34 (by decide) ?_
  exact W.lret (v := -vx) hx hb hr (fun t9 ht9 hW => ⟨⟨-vx, (), rfl, by show _ = _; rw [if_neg (show ¬ pt = 0 by omega)]; unfold rtD; rw [L_neg (by omega), hxv]; omega, trivial⟩, hS.F ht9⟩) hS.2.2 dX4_ratioPart_38
set_option maxHeartbeats 4000000 in
set_option maxRecDepth 100000 in
theorem c_X5_isOutputDetermined (l : Launch) (D : va_G) (K : Nat → ClassId) (sp : Nat) (a ao ap ab : Nat) (r : Nat → Nat) (M : Nat → Nat → Int64) (pv ip : Nat → Int32) (sv : Int32) (M0 : Nat → Nat → Int) (sz : Nat) (hS0 : SolvedE M0 M pv sv) : Met l yX5_isOutputDetermined (.code yX5_isOutputDetermined cX5_isOutputDetermined 1 (some .boolean) :: TB) ({ frames := 1, cells := 0, slots := 0, locals := 23 } : Room) (va_Pc [.ref sp] (cP D K ([(sp, .inr (5, [.ref a]))] ++ (WE K a ao ap ab r M pv ip sv)) sz)) (va_Qi (fun (z : Int32) (_ : Unit) => z = bI (Solv (HS M0 10) ∧ DetS (HS M0 10) 0)) (fun _ _ => True) (fun _ => False)) 0 0 (fun _ => False) := by
  refine Met.ofW (cc := cX5_isOutputDetermined) (maxL := 1) (ret := (some .boolean)) (by decide) rfl ?_
  intro p e s m args below meth c s₁ B hml hv
  obtain ⟨rfl, hsz, hP, hK, hD0⟩ := hv
  have hx := B.exec
  have hb := B.bytes
  have hr := B.returns
  have hts := hts_tl (atoms_spec (ws := (.code yX5_isOutputDetermined cX5_isOutputDetermined 1 (some .boolean) :: TB)) B.pre)
  have hown : s.vm.findClass RX5 = some m.cls := findClass_of_methodNamed B.named
  have hlocks := B.notSynchronized
  subst hsz
  have hA : ∀ q : Nat, q < s.heap.size → (fun _ : Nat => False) q → False := fun _ _ h => h
  have hS : va_S (fun _ => False) s.heap s.heap [] := va_S.rf
  have hl := lv_entry ([.ref sp]) (n := 1) (Nat.le_of_ble_eq_true rfl)
  rw [lg_entry_eq]
  generalize (lg_sl ([.ref sp]) ++ List.replicate (1 - (lg_sl ([.ref sp])).length) Slot.unset).toArray = ls at hl ⊢
  have hl : lv_has ls 1 [(0, .ref sp)] := hl
  refine lv_aload_n hx hb dX5_isOutputDetermined_0 rfl (lv_at hl 0 rfl) ?_
  refine va_get (D := D) (ci := 5) (C := RX5) (T := TX5) (N := 1) hx hb hts iX5 hown hK hP 0 rfl rfl 0 (by decide) (hts _ k_f_X5_14) (fun _ h9 => h9) rfl dX5_isOutputDetermined_1 ?_
  refine lv_iconst (v := nI 0) hx hb dX5_isOutputDetermined_4 (by decide) ?_
  have hPc := bP1e hP
  have hDc := bD1e hD0
  refine va_calli (va_runV (As := [.int (nI 0)]) (rest := []) ⟨hx, hb, hml, hown, hts⟩ (c_X1_isDetermined l D K a ao ap ab r M pv ip sv 0 s.heap.size (by decide) hS0.sv01 (hS0.pvk (by decide))) (cwV 1 hts (TB_V k_m_X5_40 k_im_X1_isDetermined k_se_X1_isDetermined k_in_X1 k_co_X1_isDetermined (fun _ h => h)) rfl rfl rfl (by decide +kernel) ⟨Nat.le_of_ble_eq_true rfl, Nat.le_of_ble_eq_true rfl⟩) ⟨cP_blind, va_recv hK hPc (ci := 1) (q0 := 0) rfl rfl, cP_of hPc hK hDc⟩ rfl rfl hl.1 rfl (lv_room (Nat.le_of_ble_eq_true rfl)) dX5_isOutputDetermined_5 ⟨Nat.le_of_ble_eq_true rfl, Nat.le_of_ble_eq_true rfl⟩) hS (fun q _ h => absurd h id) (fun q h => absurd h id) (fun dt u9 t9 H locs ht9 hvm hw hB hz1 hk1 hS => ?_)
  have hP := P_same hP hk1
  have hw := hw.trans (bI_iff (hS0.det (by decide)))
  exact W.zret (v := dt) hx hb hr (by rcases (hw ▸ bI_01 _ : dt = nI 0 ∨ dt = nI 1) with h | h <;> rw [h] <;> decide) (fun t9 ht9 hW => ⟨⟨dt, (), rfl, hw, trivial⟩, hS.F ht9⟩) hS.2.2 dX5_isOutputDetermined_8
set_option maxHeartbeats 4000000 in
set_option maxRecDepth 100000 in
theorem c_X5_outputPart (l : Launch) (D : va_G) (K : Nat → ClassId) (sp : Nat) (a ao ap ab : Nat) (r : Nat → Nat) (M : Nat → Nat → Int64) (pv ip : Nat → Int32) (sv : Int32) (M0 : Nat → Nat → Int) (pt : Nat) (sz : Nat) (hpt : pt ≤ 1) (hS0 : SolvedE M0 M pv sv) (hSo : Solv (HS M0 10)) (hDe : DetS (HS M0 10) 0) : Met l yX5_outputPart (.code yX5_outputPart cX5_outputPart 2 (some .long) :: TB) ({ frames := 2, cells := 0, slots := 0, locals := 61 } : Room) (va_Pc [.ref sp, .int (nI pt)] (cP D K ([(sp, .inr (5, [.ref a]))] ++ (WE K a ao ap ab r M pv ip sv)) sz)) (va_Ql (fun (z : Int64) (_ : Unit) => z.toInt = if pt = 0 then vN (HS M0 10) 0 else vD (HS M0 10) 0) (fun _ _ => True) (fun _ => False)) 0 0 (fun _ => False) := by
  refine Met.ofW (cc := cX5_outputPart) (maxL := 2) (ret := (some .long)) (by decide) rfl ?_
  intro p e s m args below meth c s₁ B hml hv
  obtain ⟨rfl, hsz, hP, hK, hD0⟩ := hv
  have hx := B.exec
  have hb := B.bytes
  have hr := B.returns
  have hts := hts_tl (atoms_spec (ws := (.code yX5_outputPart cX5_outputPart 2 (some .long) :: TB)) B.pre)
  have hown : s.vm.findClass RX5 = some m.cls := findClass_of_methodNamed B.named
  have hlocks := B.notSynchronized
  subst hsz
  have hA : ∀ q : Nat, q < s.heap.size → (fun _ : Nat => False) q → False := fun _ _ h => h
  have hS : va_S (fun _ => False) s.heap s.heap [] := va_S.rf
  have hl := lv_entry ([.ref sp, .int (nI pt)]) (n := 2) (Nat.le_of_ble_eq_true rfl)
  rw [lg_entry_eq]
  generalize (lg_sl ([.ref sp, .int (nI pt)]) ++ List.replicate (2 - (lg_sl ([.ref sp, .int (nI pt)])).length) Slot.unset).toArray = ls at hl ⊢
  have hl : lv_has ls 2 [(0, .ref sp), (1, .int (nI pt))] := hl
  refine lv_aload_n hx hb dX5_outputPart_0 rfl (lv_at hl 0 rfl) ?_
  refine va_get (D := D) (ci := 5) (C := RX5) (T := TX5) (N := 1) hx hb hts iX5 hown hK hP 0 rfl rfl 0 (by decide) (hts _ k_f_X5_14) (fun _ h9 => h9) rfl dX5_outputPart_1 ?_
  refine lv_iconst (v := nI 0) hx hb dX5_outputPart_4 (by decide) ?_
  refine lv_iload_n hx hb dX5_outputPart_5 rfl (lv_at hl 1 rfl) ?_
  obtain ⟨kx, hkx, hpx, hnx, hbx, hcx, hLx, hMx⟩ := hS0.val (t := 0) (by decide) hSo hDe
  have hPc := bP1e hP
  have hDc := bD1e hD0
  refine va_calll (va_runV (As := [.int (nI 0), .int (nI pt)]) (rest := []) ⟨hx, hb, hml, hown, hts⟩ (c_X1_valuePart l D K a ao ap ab r M pv ip sv kx 0 pt s.heap.size (by decide) hkx hpt hpx hnx hbx hcx) (cwV 2 hts (TB_V k_m_X5_44 k_im_X1_valuePart k_se_X1_valuePart k_in_X1 k_co_X1_valuePart (fun _ h => h)) rfl rfl rfl (by decide +kernel) ⟨Nat.le_of_ble_eq_true rfl, Nat.le_of_ble_eq_true rfl⟩) ⟨cP_blind, va_recv hK hPc (ci := 1) (q0 := 0) rfl rfl, cP_of hPc hK hDc⟩ rfl rfl hl.1 rfl (lv_room (Nat.le_of_ble_eq_true rfl)) dX5_outputPart_6 ⟨Nat.le_of_ble_eq_true rfl, Nat.le_of_ble_eq_true rfl⟩) hS (fun q _ h => absurd h id) (fun q h => absurd h id) (fun vx u9 t9 H locs ht9 hvm hw hB hz1 hk1 hS => ?_)
  have hP := P_same hP hk1
  have hxv := hw
  rw [hLx, hMx] at hxv
  exact W.lret (v := vx) hx hb hr (fun t9 ht9 hW => ⟨⟨vx, (), rfl, hxv, trivial⟩, hS.F ht9⟩) hS.2.2 dX5_outputPart_9
set_option maxHeartbeats 4000000 in
set_option maxRecDepth 100000 in
theorem c_X5_isDetermined (l : Launch) (D : va_G) (K : Nat → ClassId) (sp : Nat) (a ao ap ab : Nat) (r : Nat → Nat) (M : Nat → Nat → Int64) (pv ip : Nat → Int32) (sv : Int32) (M0 : Nat → Nat → Int) (k : Nat) (sz : Nat) (hk : k < 6) (hS0 : SolvedE M0 M pv sv) : Met l yX5_isDetermined (.code yX5_isDetermined cX5_isDetermined 2 (some .boolean) :: TB) ({ frames := 1, cells := 0, slots := 0, locals := 23 } : Room) (va_Pc [.ref sp, .int (nI k)] (cP D K ([(sp, .inr (5, [.ref a]))] ++ (WE K a ao ap ab r M pv ip sv)) sz)) (va_Qi (fun (z : Int32) (_ : Unit) => z = bI (Solv (HS M0 10) ∧ DetS (HS M0 10) (4 + k))) (fun _ _ => True) (fun _ => False)) 0 0 (fun _ => False) := by
  refine Met.ofW (cc := cX5_isDetermined) (maxL := 2) (ret := (some .boolean)) (by decide) rfl ?_
  intro p e s m args below meth c s₁ B hml hv
  obtain ⟨rfl, hsz, hP, hK, hD0⟩ := hv
  have hx := B.exec
  have hb := B.bytes
  have hr := B.returns
  have hts := hts_tl (atoms_spec (ws := (.code yX5_isDetermined cX5_isDetermined 2 (some .boolean) :: TB)) B.pre)
  have hown : s.vm.findClass RX5 = some m.cls := findClass_of_methodNamed B.named
  have hlocks := B.notSynchronized
  subst hsz
  have hA : ∀ q : Nat, q < s.heap.size → (fun _ : Nat => False) q → False := fun _ _ h => h
  have hS : va_S (fun _ => False) s.heap s.heap [] := va_S.rf
  have hl := lv_entry ([.ref sp, .int (nI k)]) (n := 2) (Nat.le_of_ble_eq_true rfl)
  rw [lg_entry_eq]
  generalize (lg_sl ([.ref sp, .int (nI k)]) ++ List.replicate (2 - (lg_sl ([.ref sp, .int (nI k)])).length) Slot.unset).toArray = ls at hl ⊢
  have hl : lv_has ls 2 [(0, .ref sp), (1, .int (nI k))] := hl
  refine lv_aload_n hx hb dX5_isDetermined_0 rfl (lv_at hl 0 rfl) ?_
  refine va_get (D := D) (ci := 5) (C := RX5) (T := TX5) (N := 1) hx hb hts iX5 hown hK hP 0 rfl rfl 0 (by decide) (hts _ k_f_X5_14) (fun _ h9 => h9) rfl dX5_isDetermined_1 ?_
  refine lv_iconst (v := nI 4) hx hb dX5_isDetermined_4 (by decide) ?_
  refine lv_iload_n hx hb dX5_isDetermined_5 rfl (lv_at hl 1 rfl) ?_
  refine lv_iadd hx hb dX5_isDetermined_6 ?_
  refine t_i (nI_add _ _) ?_
  have hPc := bP1e hP
  have hDc := bD1e hD0
  refine va_calli (va_runV (As := [.int (nI (4 + k))]) (rest := []) ⟨hx, hb, hml, hown, hts⟩ (c_X1_isDetermined l D K a ao ap ab r M pv ip sv (4 + k) s.heap.size (by omega) hS0.sv01 (hS0.pvk (by omega))) (cwV 1 hts (TB_V k_m_X5_40 k_im_X1_isDetermined k_se_X1_isDetermined k_in_X1 k_co_X1_isDetermined (fun _ h => h)) rfl rfl rfl (by decide +kernel) ⟨Nat.le_of_ble_eq_true rfl, Nat.le_of_ble_eq_true rfl⟩) ⟨cP_blind, va_recv hK hPc (ci := 1) (q0 := 0) rfl rfl, cP_of hPc hK hDc⟩ rfl rfl hl.1 rfl (lv_room (Nat.le_of_ble_eq_true rfl)) dX5_isDetermined_7 ⟨Nat.le_of_ble_eq_true rfl, Nat.le_of_ble_eq_true rfl⟩) hS (fun q _ h => absurd h id) (fun q h => absurd h id) (fun dt u9 t9 H locs ht9 hvm hw hB hz1 hk1 hS => ?_)
  have hP := P_same hP hk1
  have hw := hw.trans (bI_iff (hS0.det (by omega)))
  exact W.zret (v := dt) hx hb hr (by rcases (hw ▸ bI_01 _ : dt = nI 0 ∨ dt = nI 1) with h | h <;> rw [h] <;> decide) (fun t9 ht9 hW => ⟨⟨dt, (), rfl, hw, trivial⟩, hS.F ht9⟩) hS.2.2 dX5_isDetermined_10
set_option maxHeartbeats 4000000 in
set_option maxRecDepth 100000 in
theorem c_X5_elementPart (l : Launch) (D : va_G) (K : Nat → ClassId) (sp : Nat) (a ao ap ab : Nat) (r : Nat → Nat) (M : Nat → Nat → Int64) (pv ip : Nat → Int32) (sv : Int32) (M0 : Nat → Nat → Int) (k pt : Nat) (sz : Nat) (hk : k < 6) (hpt : pt ≤ 1) (hS0 : SolvedE M0 M pv sv) (hSo : Solv (HS M0 10)) (hDe : DetS (HS M0 10) (4 + k)) : Met l yX5_elementPart (.code yX5_elementPart cX5_elementPart 3 (some .long) :: TB) ({ frames := 2, cells := 0, slots := 0, locals := 61 } : Room) (va_Pc [.ref sp, .int (nI k), .int (nI pt)] (cP D K ([(sp, .inr (5, [.ref a]))] ++ (WE K a ao ap ab r M pv ip sv)) sz)) (va_Ql (fun (z : Int64) (_ : Unit) => z.toInt = if pt = 0 then vN (HS M0 10) (4 + k) else vD (HS M0 10) (4 + k)) (fun _ _ => True) (fun _ => False)) 0 0 (fun _ => False) := by
  refine Met.ofW (cc := cX5_elementPart) (maxL := 3) (ret := (some .long)) (by decide) rfl ?_
  intro p e s m args below meth c s₁ B hml hv
  obtain ⟨rfl, hsz, hP, hK, hD0⟩ := hv
  have hx := B.exec
  have hb := B.bytes
  have hr := B.returns
  have hts := hts_tl (atoms_spec (ws := (.code yX5_elementPart cX5_elementPart 3 (some .long) :: TB)) B.pre)
  have hown : s.vm.findClass RX5 = some m.cls := findClass_of_methodNamed B.named
  have hlocks := B.notSynchronized
  subst hsz
  have hA : ∀ q : Nat, q < s.heap.size → (fun _ : Nat => False) q → False := fun _ _ h => h
  have hS : va_S (fun _ => False) s.heap s.heap [] := va_S.rf
  have hl := lv_entry ([.ref sp, .int (nI k), .int (nI pt)]) (n := 3) (Nat.le_of_ble_eq_true rfl)
  rw [lg_entry_eq]
  generalize (lg_sl ([.ref sp, .int (nI k), .int (nI pt)]) ++ List.replicate (3 - (lg_sl ([.ref sp, .int (nI k), .int (nI pt)])).length) Slot.unset).toArray = ls at hl ⊢
  have hl : lv_has ls 3 [(0, .ref sp), (1, .int (nI k)), (2, .int (nI pt))] := hl
  refine lv_aload_n hx hb dX5_elementPart_0 rfl (lv_at hl 0 rfl) ?_
  refine va_get (D := D) (ci := 5) (C := RX5) (T := TX5) (N := 1) hx hb hts iX5 hown hK hP 0 rfl rfl 0 (by decide) (hts _ k_f_X5_14) (fun _ h9 => h9) rfl dX5_elementPart_1 ?_
  refine lv_iconst (v := nI 4) hx hb dX5_elementPart_4 (by decide) ?_
  refine lv_iload_n hx hb dX5_elementPart_5 rfl (lv_at hl 1 rfl) ?_
  refine lv_iadd hx hb dX5_elementPart_6 ?_
  refine t_i (nI_add _ _) ?_
  refine lv_iload_n hx hb dX5_elementPart_7 rfl (lv_at hl 2 rfl) ?_
  obtain ⟨kx, hkx, hpx, hnx, hbx, hcx, hLx, hMx⟩ := hS0.val (t := (4 + k)) (by omega) hSo hDe
  have hPc := bP1e hP
  have hDc := bD1e hD0
  refine va_calll (va_runV (As := [.int (nI (4 + k)), .int (nI pt)]) (rest := []) ⟨hx, hb, hml, hown, hts⟩ (c_X1_valuePart l D K a ao ap ab r M pv ip sv kx (4 + k) pt s.heap.size (by omega) hkx hpt hpx hnx hbx hcx) (cwV 2 hts (TB_V k_m_X5_44 k_im_X1_valuePart k_se_X1_valuePart k_in_X1 k_co_X1_valuePart (fun _ h => h)) rfl rfl rfl (by decide +kernel) ⟨Nat.le_of_ble_eq_true rfl, Nat.le_of_ble_eq_true rfl⟩) ⟨cP_blind, va_recv hK hPc (ci := 1) (q0 := 0) rfl rfl, cP_of hPc hK hDc⟩ rfl rfl hl.1 rfl (lv_room (Nat.le_of_ble_eq_true rfl)) dX5_elementPart_8 ⟨Nat.le_of_ble_eq_true rfl, Nat.le_of_ble_eq_true rfl⟩) hS (fun q _ h => absurd h id) (fun q h => absurd h id) (fun vx u9 t9 H locs ht9 hvm hw hB hz1 hk1 hS => ?_)
  have hP := P_same hP hk1
  have hxv := hw
  rw [hLx, hMx] at hxv
  exact W.lret (v := vx) hx hb hr (fun t9 ht9 hW => ⟨⟨vx, (), rfl, hxv, trivial⟩, hS.F ht9⟩) hS.2.2 dX5_elementPart_11
