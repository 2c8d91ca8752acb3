/-! PlanetaryGearbox: floats -/
noncomputable def fqS (S : (Nat → Int) → Prop) : UInt32 := fq (Int64.ofInt (rtN S)) (Int64.ofInt (rtD S))
theorem i64_of {a : Int64} {z : Int} (h : a.toInt = z) : a = Int64.ofInt z := by rw [← h]; exact (Int64.ofInt_toInt a).symm
noncomputable def rs_raf (d : Nat → Nat → Int32) : Nat × UInt32 := cI (¬ stM d (dn d 8 2) = 0) (1, 0) (0, fqS (SP d (dn d 8 2)))
noncomputable def rs_step (d : Nat → Nat → Int32) (x : Int32) : Nat × UInt32 := cI (¬ (ger d x ∧ ger d (x + nI 1))) (1, 0) (0, FP.fdiv (fqS (SP d (gF d (x.toInt.toNat + 1)))) (fqS (SP d (gF d x.toInt.toNat))))
theorem rtN_le {S : (Nat → Int) → Prop} (h : (vD S 1).natAbs ≤ BB) : (rtN S).natAbs ≤ BB := by unfold rtN; split <;> omega
theorem rtD_le {S : (Nat → Int) → Prop} (h : (vN S 1).natAbs ≤ BB) : (rtD S).natAbs ≤ BB := by unfold rtD; omega
theorem cmpv_ne {o : Option Ordering} (h : ¬ o = some .eq) : (Op.cmpValue o .l).toInt ≠ 0 := by
  rcases o with _ | (_ | _ | _)
  · decide
  · decide
  · exact absurd rfl h
  · decide
set_option maxHeartbeats 4000000 in
set_option maxRecDepth 100000 in
theorem c_X6_floatQuotient (l : Launch) (a b : Int64) (hb9 : b.toInt ≠ 0) (hn9 : vf_n32 (fq a b)) : Met l yX6_floatQuotient (.code yX6_floatQuotient cX6_floatQuotient 4 (some .float) :: TB) ({ frames := 0, cells := 0, slots := 0, locals := 0 } : Room) (va_Pc [.long a, .long b] (fun _ => True)) (va_Qf (fun (z : UInt32) (_ : Unit) => z = fq a b) (fun _ _ => True) (fun _ => False)) 0 0 (fun _ => False) := by
  refine Met.ofW (cc := cX6_floatQuotient) (maxL := 4) (ret := (some .float)) (by decide) rfl ?_
  intro p e s m args below meth c s₁ B hml hv
  obtain ⟨rfl, -⟩ := hv
  have hx := B.exec
  have hb := B.bytes
  have hr := B.returns
  have hts := hts_tl (atoms_spec (ws := (.code yX6_floatQuotient cX6_floatQuotient 4 (some .float) :: TB)) B.pre)
  have hown : s.vm.findClass RX6 = some m.cls := findClass_of_methodNamed B.named
  have hlocks := B.notSynchronized
  have hA : ∀ q : Nat, q < s.heap.size → (fun _ : Nat => False) q → False := fun _ _ h => h
  have hS : va_S (fun _ => False) s.heap s.heap [] := va_S.rf
  have hl := lv_entry ([.long a, .long b]) (n := 4) (Nat.le_of_ble_eq_true rfl)
  rw [lg_entry_eq]
  generalize (lg_sl ([.long a, .long b]) ++ List.replicate (4 - (lg_sl ([.long a, .long b])).length) Slot.unset).toArray = ls at hl ⊢
  have hl : lv_has ls 4 [(0, .long a), (2, .long b)] := hl
  refine lv_lload_n hx hb dX6_floatQuotient_0 rfl (lv_at hl 1 rfl) ?_
  refine lv_lconst (v := 0) hx hb dX6_floatQuotient_1 (by decide) ?_
  refine b_lcmp_ne hx hb rfl (show (0 : Int64).toInt = 0 by decide) dX6_floatQuotient_2 dX6_floatQuotient_3 (tgt := 10) (by decide) (fun c2 => ?_) (fun c2 => absurd c2 (by omega))
  refine lv_lload_n hx hb dX6_floatQuotient_10 rfl (lv_at hl 0 rfl) ?_
  refine lv_l2f hx hb dX6_floatQuotient_11 ?_
  refine lv_lload_n hx hb dX6_floatQuotient_12 rfl (lv_at hl 1 rfl) ?_
  refine lv_l2f hx hb dX6_floatQuotient_13 ?_
  refine lv_fdiv hx hb dX6_floatQuotient_14 hn9 ?_
  exact W.fret (v := fq a b) hx hb hr (fun t9 ht9 hW => ⟨⟨fq a b, (), rfl, rfl, trivial⟩, hS.F ht9⟩) hS.2.2 dX6_floatQuotient_15
set_option maxHeartbeats 4000000 in
set_option maxRecDepth 100000 in
theorem c_X6_ratioOfGear (l : Launch) (D : va_G) (K : Nat → ClassId) (ad q q1 q2 g r r2 : Nat → Nat) (v : CV) (i : CI) (kg : Nat) (sz : Nat) (hI : IV v) (hJ : II v.1 i) (hkg : kg < i.2.2.2.2.2.2.2.2.2.2.2.2.2.1) (hfr1 : i.2.2.2.2.2.2.2.2.2.2.2.2.2.2 = nI 1) : Met l yX6_ratioOfGear (.code yX6_ratioOfGear cX6_ratioOfGear 2 (some .float) :: TB) ({ frames := 2, cells := 0, slots := 0, locals := 43 } : Room) (va_Pc [.ref (ad 0), .int (nI kg)] (cP D K (WX K ad q q1 q2 g r r2 v i) sz)) (va_Qf (fun (z : UInt32) (u : CV × CI) => u = (v, i) ∧ z = fqS (SP v.1 (gF v.1 kg))) (fun (u : CV × CI) t => cB D K (va_A (WX K ad q q1 q2 g r r2 v i) sz) (WX K ad q q1 q2 g r r2 u.1 u.2) t) (va_A (WX K ad q q1 q2 g r r2 v i) sz)) 0 0 (va_A (WX K ad q q1 q2 g r r2 v i) sz) := by
  refine Met.ofW (cc := cX6_ratioOfGear) (maxL := 2) (ret := (some .float)) (by decide) rfl ?_
  intro p e s m args below meth c s₁ B hml hv
  obtain ⟨rfl, hsz, hP, hK, hD0⟩ := hv
  have hx := B.exec
  have hb := B.bytes
  have hr := B.returns
  have hts := hts_tl (atoms_spec (ws := (.code yX6_ratioOfGear cX6_ratioOfGear 2 (some .float) :: TB)) B.pre)
  have hown : s.vm.findClass RX6 = some m.cls := findClass_of_methodNamed B.named
  have hlocks := B.notSynchronized
  subst hsz
  have hD := hD0.self (sz := s.heap.size)
  generalize hAe : (va_A (WX K ad q q1 q2 g r r2 v i) s.heap.size) = A at hD ⊢
  have hA : ∀ q : Nat, s.heap.size ≤ q → A q := fun q h => by rw [← hAe]; exact Or.inr h
  have hS : va_S A s.heap s.heap [] := va_S.rf
  clear hAe hD0
  obtain ⟨d, d1, d2, f1, f2, f, s0⟩ := v
  obtain ⟨M, pv, ip, sv, M2, pv2, ip2, sv2, ma, nu, de, ne, di, n, fr⟩ := i
  obtain ⟨hd, hd1, hd2, hf1, hf2, hs20, hhf⟩ := id hI
  obtain ⟨hn64, hfr, hT⟩ := id hJ
  dsimp only at hd hd1 hd2 hf1 hf2 hs20 hhf hn64 hfr hT
  obtain ⟨ns, m1, ge, hns, hm, hge, h0, h1, h2, hs9, he9⟩ := id hd
  have hm1 : dn d 8 1 = m1 := dn_of h1 (by omega)
  have hn1 : dn d 8 0 = ns := dn_of h0 (by omega)
  have hp6 : 2 ^ m1 ≤ 64 := Nat.pow_le_pow_right (show 0 < 2 by decide) hm
  have hg1 : dn d 8 2 = ge := dn_of h2 (by omega)
  have hP : va_P D vwCl ([(ad 0, .inr (6, [.ref (q 0), .ref (q1 0), .ref (q2 0), .int f1, .int f2, .ref (ad 1), .ref (ad 3), .ref (ad 8), .ref (g 0)]))] ++ (WG K g ma nu de ne di (nI n) fr ++ ([(ad 3, .inr (4, [.ref (ad 4)]))] ++ (WE K (ad 4) (ad 5) (ad 6) (ad 7) r M pv ip sv ++ (WD K q d ++ ([(ad 8, .inr (5, [.ref (ad 9)]))] ++ (WE K (ad 9) (ad 10) (ad 11) (ad 12) r2 M2 pv2 ip2 sv2 ++ (WH K (ad 1) (ad 2) f (nI s0) ++ (WD K q1 d1 ++ (WD K q2 d2)))))))))) s.heap := hP
  have hD : va_D A ([(ad 0, .inr (6, [.ref (q 0), .ref (q1 0), .ref (q2 0), .int f1, .int f2, .ref (ad 1), .ref (ad 3), .ref (ad 8), .ref (g 0)]))] ++ (WG K g ma nu de ne di (nI n) fr ++ ([(ad 3, .inr (4, [.ref (ad 4)]))] ++ (WE K (ad 4) (ad 5) (ad 6) (ad 7) r M pv ip sv ++ (WD K q d ++ ([(ad 8, .inr (5, [.ref (ad 9)]))] ++ (WE K (ad 9) (ad 10) (ad 11) (ad 12) r2 M2 pv2 ip2 sv2 ++ (WH K (ad 1) (ad 2) f (nI s0) ++ (WD K q1 d1 ++ (WD K q2 d2)))))))))) := hD
  have hl := lv_entry ([.ref (ad 0), .int (nI kg)]) (n := 2) (Nat.le_of_ble_eq_true rfl)
  rw [lg_entry_eq]
  generalize (lg_sl ([.ref (ad 0), .int (nI kg)]) ++ List.replicate (2 - (lg_sl ([.ref (ad 0), .int (nI kg)])).length) Slot.unset).toArray = ls at hl ⊢
  have hl : lv_has ls 2 [(0, .ref (ad 0)), (1, .int (nI kg))] := hl
  have hkg : kg < n := hkg
  obtain ⟨hn9, htab⟩ := hT hfr1
  obtain ⟨ht1, ht2, ht3, ht4, ht5, ht6⟩ := htab kg hkg
  have hG9 := (gst_mem d 64 kg (by show kg < gN d; omega)).1
  have hne1 : (nu kg).toInt ≠ 0 := by rw [ht3]; exact rtN_ne _
  have hne2 : (de kg).toInt ≠ 0 := by rw [ht4]; exact rtD_ne hG9.2.1
  refine lv_aload_n hx hb dX6_ratioOfGear_0 rfl (lv_at hl 0 rfl) ?_
  refine va_get (D := D) (ci := 6) (C := RX6) (T := TX6) (N := 9) hx hb hts iX6 hown hK hP 0 rfl rfl 8 (by decide) (hts _ k_f_X6_46) (fun _ h9 => h9) rfl dX6_ratioOfGear_1 ?_
  refine lv_iload_n hx hb dX6_ratioOfGear_4 rfl (lv_at hl 1 rfl) ?_
  refine lv_iconst (v := nI 0) hx hb dX6_ratioOfGear_5 (by decide) ?_
  have hPq := P_perm pm_1 hP
  have hDq := D_perm pm_1 hD
  have hPc := bP0 hPq
  have hDc := bD0 hDq
  refine va_calll (va_runV (As := [.int (nI kg), .int (nI 0)]) (rest := []) ⟨hx, hb, hml, hown, hts⟩ (c_X2_ratioPart l D K g ma nu de ne di n fr kg 0 s.heap.size hn64 hkg (by decide)) (cwV 2 hts (TB_V k_m_X6_218 k_im_X2_ratioPart k_se_X2_ratioPart k_in_X2 k_co_X2_ratioPart (fun _ h => h)) rfl rfl rfl (by decide +kernel) ⟨Nat.le_of_ble_eq_true rfl, Nat.le_of_ble_eq_true rfl⟩) ⟨cP_blind, va_recv hK hPc (ci := 2) (q0 := 0) rfl rfl, cP_of hPc hK hDc⟩ rfl rfl hl.1 rfl (lv_room (Nat.le_of_ble_eq_true rfl)) dX6_ratioOfGear_6 ⟨Nat.le_of_ble_eq_true rfl, Nat.le_of_ble_eq_true rfl⟩) hS (fun q _ h => absurd h id) (fun q h => absurd h id) (fun rr0 u9 t9 H locs ht9 hvm hw hB hz1 hk1 hS => ?_)
  have hP := P_same hP hk1
  have hr0 : rr0 = nu kg := hw
  subst hr0
  refine lv_aload_n hx hb dX6_ratioOfGear_9 rfl (lv_at hl 0 rfl) ?_
  refine va_get (D := D) (ci := 6) (C := RX6) (T := TX6) (N := 9) hx hb hts iX6 hown hK hP 0 rfl rfl 8 (by decide) (hts _ k_f_X6_46) (fun _ h9 => h9) rfl dX6_ratioOfGear_10 ?_
  refine lv_iload_n hx hb dX6_ratioOfGear_13 rfl (lv_at hl 1 rfl) ?_
  refine lv_iconst (v := nI 1) hx hb dX6_ratioOfGear_14 (by decide) ?_
  have hPq := P_perm pm_1 hP
  have hDq := D_perm pm_1 hD
  have hPc := bP0 hPq
  have hDc := bD0 hDq
  refine va_calll (va_runV (As := [.int (nI kg), .int (nI 1)]) (rest := [.long (nu kg)]) ⟨hx, hb, hml, hown, hts⟩ (c_X2_ratioPart l D K g ma nu de ne di n fr kg 1 H.size hn64 hkg (by decide)) (cwV 2 hts (TB_V k_m_X6_218 k_im_X2_ratioPart k_se_X2_ratioPart k_in_X2 k_co_X2_ratioPart (fun _ h => h)) rfl rfl rfl (by decide +kernel) ⟨Nat.le_of_ble_eq_true rfl, Nat.le_of_ble_eq_true rfl⟩) ⟨cP_blind, va_recv hK hPc (ci := 2) (q0 := 0) rfl rfl, cP_of hPc hK hDc⟩ rfl rfl hl.1 rfl (lv_room (Nat.le_of_ble_eq_true rfl)) dX6_ratioOfGear_15 ⟨Nat.le_of_ble_eq_true rfl, Nat.le_of_ble_eq_true rfl⟩) hS (fun q _ h => absurd h id) (fun q h => absurd h id) (fun rr1 u9 t9 H locs ht9 hvm hw hB hz1 hk1 hS => ?_)
  have hP := P_same hP hk1
  have hr1 : rr1 = de kg := hw
  subst hr1
  refine va_callf (va_runS (As := [.long (nu kg), .long (de kg)]) (rest := []) ⟨hx, hb, hml, hown, hts⟩ (c_X6_floatQuotient l (nu kg) (de kg) hne2 (fq_n32 hne1 hne2 ht5 ht6)) (va_cwS 2 hts (TB_S k_m_X6_178 k_st_X6_floatQuotient k_in_X6 k_co_X6_floatQuotient (fun _ h => h)) rfl rfl rfl (by decide +kernel) ⟨Nat.le_of_ble_eq_true rfl, Nat.le_of_ble_eq_true rfl⟩) ⟨tP_blind, tP_of⟩ rfl rfl hl.1 rfl (lv_room (Nat.le_of_ble_eq_true rfl)) dX6_ratioOfGear_18 ⟨Nat.le_of_ble_eq_true rfl, Nat.le_of_ble_eq_true rfl⟩) hS (fun q _ h => absurd h id) (fun q h => absurd h id) (fun rf u9 t9 H locs ht9 hvm hw hB hz1 hk1 hS => ?_)
  have hP := P_same hP hk1
  exact W.fret (v := rf) hx hb hr (fun t9 ht9 hW => ⟨⟨rf, ((d, d1, d2, f1, f2, f, s0), (M, pv, ip, sv, M2, pv2, ip2, sv2, ma, nu, de, ne, di, n, fr)), rfl, ⟨rfl, by rw [hw]; unfold fqS; rw [← i64_of ht3, ← i64_of ht4]⟩, by rw [ht9]; exact hP, va_K.moved hW.alike hK, hD⟩, hS.F ht9⟩) hS.2.2 dX6_ratioOfGear_21
set_option maxHeartbeats 4000000 in
set_option maxRecDepth 100000 in
theorem c_X6_step (l : Launch) (hlf : l.stackTraces = false) (D : va_G) (K : Nat → ClassId) (ad q q1 q2 g r r2 : Nat → Nat) (v : CV) (i : CI) (x : Int32) (sz : Nat) (hI : IV v) (hJ : II v.1 i)  : vx_Met l yX6_step (.code yX6_step cX6_step 3 (some .float) :: TB) ({ frames := 7, cells := 1, slots := 6, locals := 150 } : Room) (va_Pc [.ref (ad 0), .int x] (cPT D K (WX K ad q q1 q2 g r r2 v i) sz)) (va_Qf (fun (z : UInt32) (u : CV × CI) => u.1 = v ∧ II u.1.1 u.2 ∧ vf_n32 z ∧ rs_step v.1 x = (0, z)) (fun (u : CV × CI) t => cB D K (va_A (WX K ad q q1 q2 g r r2 v i) sz) (WX K ad q q1 q2 g r r2 u.1 u.2) t) (va_A (WX K ad q q1 q2 g r r2 v i) sz)) (vx_X (fun (u : CV × CI) => u.1 = v ∧ II u.1.1 u.2) (fun E (u : CV × CI) t => exc [eIO] (rs_step v.1 x).1 E ∧ cB D K (va_A (WX K ad q q1 q2 g r r2 v i) sz) (WX K ad q q1 q2 g r r2 u.1 u.2) t) (va_A (WX K ad q q1 q2 g r r2 v i) sz)) 1 6 (va_A (WX K ad q q1 q2 g r r2 v i) sz) := by
  refine vx_ofW (cc := cX6_step) (maxL := 3) (ret := (some .float)) (by decide) rfl ?_
  intro p e s m args below meth c s₁ B hml hxt hv
  obtain ⟨rfl, ⟨hsz, hP, hK, hD0⟩, hTX⟩ := hv
  have hx := B.exec
  have hb := B.bytes
  have hr := B.returns
  have hts := hts_tl (atoms_spec (ws := (.code yX6_step cX6_step 3 (some .float) :: TB)) B.pre)
  have hown : s.vm.findClass RX6 = some m.cls := findClass_of_methodNamed B.named
  have hlocks := B.notSynchronized
  subst hsz
  have hD := hD0.self (sz := s.heap.size)
  generalize hAe : (va_A (WX K ad q q1 q2 g r r2 v i) s.heap.size) = A at hD hTX ⊢
  have hA : ∀ q : Nat, s.heap.size ≤ q → A q := fun q h => by rw [← hAe]; exact Or.inr h
  have hS : va_S A s.heap s.heap [] := va_S.rf
  clear hAe hD0
  obtain ⟨d, d1, d2, f1, f2, f, s0⟩ := v
  obtain ⟨M, pv, ip, sv, M2, pv2, ip2, sv2, ma, nu, de, ne, di, n, fr⟩ := i
  obtain ⟨hd, hd1, hd2, hf1, hf2, hs20, hhf⟩ := id hI
  obtain ⟨hn64, hfr, hT⟩ := id hJ
  dsimp only at hd hd1 hd2 hf1 hf2 hs20 hhf hn64 hfr hT
  obtain ⟨ns, m1, ge, hns, hm, hge, h0, h1, h2, hs9, he9⟩ := id hd
  have hm1 : dn d 8 1 = m1 := dn_of h1 (by omega)
  have hn1 : dn d 8 0 = ns := dn_of h0 (by omega)
  have hp6 : 2 ^ m1 ≤ 64 := Nat.pow_le_pow_right (show 0 < 2 by decide) hm
  have hg1 : dn d 8 2 = ge := dn_of h2 (by omega)
  have hP : va_P D vwCl ([(ad 0, .inr (6, [.ref (q 0), .ref (q1 0), .ref (q2 0), .int f1, .int f2, .ref (ad 1), .ref (ad 3), .ref (ad 8), .ref (g 0)]))] ++ (WG K g ma nu de ne di (nI n) fr ++ ([(ad 3, .inr (4, [.ref (ad 4)]))] ++ (WE K (ad 4) (ad 5) (ad 6) (ad 7) r M pv ip sv ++ (WD K q d ++ ([(ad 8, .inr (5, [.ref (ad 9)]))] ++ (WE K (ad 9) (ad 10) (ad 11) (ad 12) r2 M2 pv2 ip2 sv2 ++ (WH K (ad 1) (ad 2) f (nI s0) ++ (WD K q1 d1 ++ (WD K q2 d2)))))))))) s.heap := hP
  have hD : va_D A ([(ad 0, .inr (6, [.ref (q 0), .ref (q1 0), .ref (q2 0), .int f1, .int f2, .ref (ad 1), .ref (ad 3), .ref (ad 8), .ref (g 0)]))] ++ (WG K g ma nu de ne di (nI n) fr ++ ([(ad 3, .inr (4, [.ref (ad 4)]))] ++ (WE K (ad 4) (ad 5) (ad 6) (ad 7) r M pv ip sv ++ (WD K q d ++ ([(ad 8, .inr (5, [.ref (ad 9)]))] ++ (WE K (ad 9) (ad 10) (ad 11) (ad 12) r2 M2 pv2 ip2 sv2 ++ (WH K (ad 1) (ad 2) f (nI s0) ++ (WD K q1 d1 ++ (WD K q2 d2)))))))))) := hD
  have hl := lv_entry ([.ref (ad 0), .int x]) (n := 3) (Nat.le_of_ble_eq_true rfl)
  rw [lg_entry_eq]
  generalize (lg_sl ([.ref (ad 0), .int x]) ++ List.replicate (3 - (lg_sl ([.ref (ad 0), .int x])).length) Slot.unset).toArray = ls at hl ⊢
  have hl : lv_has ls 3 [(0, .ref (ad 0)), (1, .int x)] := hl
  refine lv_aload_n hx hb dX6_step_0 rfl (lv_at hl 0 rfl) ?_
  refine va_get (D := D) (ci := 6) (C := RX6) (T := TX6) (N := 9) hx hb hts iX6 hown hK hP 0 rfl rfl 8 (by decide) (hts _ k_f_X6_46) (fun _ h9 => h9) rfl dX6_step_1 ?_
  refine lv_aload_n hx hb dX6_step_4 rfl (lv_at hl 0 rfl) ?_
  refine va_get (D := D) (ci := 6) (C := RX6) (T := TX6) (N := 9) hx hb hts iX6 hown hK hP 0 rfl rfl 0 (by decide) (hts _ k_f_X6_12) (fun _ h9 => h9) rfl dX6_step_5 ?_
  refine lv_aload_n hx hb dX6_step_8 rfl (lv_at hl 0 rfl) ?_
  refine va_get (D := D) (ci := 6) (C := RX6) (T := TX6) (N := 9) hx hb hts iX6 hown hK hP 0 rfl rfl 6 (by decide) (hts _ k_f_X6_32) (fun _ h9 => h9) rfl dX6_step_9 ?_
  have hPq := P_perm pm_1234 hP
  have hDq := D_perm pm_1234 hD
  have hPc := bP0 hPq
  have hDc := bD0 hDq
  have hFc := bF0 hDq hS hA
  refine va_callv (va_runV (As := [.ref (q 0), .ref (ad 3)]) (rest := []) ⟨hx, hb, hml, hown, hts⟩ (c_X2_refresh l D K g ma nu de ne di n fr (ad 3) (ad 4) (ad 5) (ad 6) (ad 7) r M pv ip sv q d s.heap.size hn64 hd hfr hT) (cwV 2 hts (TB_V k_m_X6_116 k_im_X2_refresh k_se_X2_refresh k_in_X2 k_co_X2_refresh (fun _ h => h)) rfl rfl rfl (by decide +kernel) ⟨Nat.le_of_ble_eq_true rfl, Nat.le_of_ble_eq_true rfl⟩) ⟨cP_blind, va_recv hK hPc (ci := 2) (q0 := 0) rfl rfl, cP_of hPc hK hDc⟩ rfl rfl hl.1 rfl (lv_room (Nat.le_of_ble_eq_true rfl)) dX6_step_12 ⟨Nat.le_of_ble_eq_true rfl, Nat.le_of_ble_eq_true rfl⟩) hS (fun q _ h => hFc q h) hFc (fun u9 t9 H locs ht9 hvm hw hB hz1 hk1 hS => ?_)
  obtain ⟨hP1, hK1, hD1⟩ := hB
  rw [ht9] at hP1
  obtain ⟨hPq1, hDq1⟩ := bJ0 hPq hDq hk1 hFc hP1 hD1
  have hP := P_perm (pm_1234 (X0 := _)).symm hPq1
  have hD := D_perm (pm_1234 (X0 := _)).symm hDq1
  have hP : va_P D vwCl ([(ad 0, .inr (6, [.ref (q 0), .ref (q1 0), .ref (q2 0), .int f1, .int f2, .ref (ad 1), .ref (ad 3), .ref (ad 8), .ref (g 0)]))] ++ (WG K g u9.2.1 u9.2.2.1 u9.2.2.2.1 u9.2.2.2.2.1 di (nI u9.1) (nI 1) ++ ([(ad 3, .inr (4, [.ref (ad 4)]))] ++ (WE K (ad 4) (ad 5) (ad 6) (ad 7) r u9.2.2.2.2.2.1 u9.2.2.2.2.2.2.1 u9.2.2.2.2.2.2.2.1 u9.2.2.2.2.2.2.2.2 ++ (WD K q d ++ ([(ad 8, .inr (5, [.ref (ad 9)]))] ++ (WE K (ad 9) (ad 10) (ad 11) (ad 12) r2 M2 pv2 ip2 sv2 ++ (WH K (ad 1) (ad 2) f (nI s0) ++ (WD K q1 d1 ++ (WD K q2 d2)))))))))) H := hP
  have hD : va_D A ([(ad 0, .inr (6, [.ref (q 0), .ref (q1 0), .ref (q2 0), .int f1, .int f2, .ref (ad 1), .ref (ad 3), .ref (ad 8), .ref (g 0)]))] ++ (WG K g u9.2.1 u9.2.2.1 u9.2.2.2.1 u9.2.2.2.2.1 di (nI u9.1) (nI 1) ++ ([(ad 3, .inr (4, [.ref (ad 4)]))] ++ (WE K (ad 4) (ad 5) (ad 6) (ad 7) r u9.2.2.2.2.2.1 u9.2.2.2.2.2.2.1 u9.2.2.2.2.2.2.2.1 u9.2.2.2.2.2.2.2.2 ++ (WD K q d ++ ([(ad 8, .inr (5, [.ref (ad 9)]))] ++ (WE K (ad 9) (ad 10) (ad 11) (ad 12) r2 M2 pv2 ip2 sv2 ++ (WH K (ad 1) (ad 2) f (nI s0) ++ (WD K q1 d1 ++ (WD K q2 d2)))))))))) := hD
  obtain ⟨u9a, u9b⟩ := u9
  obtain ⟨hgn, htab⟩ := hw
  dsimp only at hgn htab
  subst hgn
  have hn64b := gN_le d
  have hP : va_P D vwCl ([(ad 0, .inr (6, [.ref (q 0), .ref (q1 0), .ref (q2 0), .int f1, .int f2, .ref (ad 1), .ref (ad 3), .ref (ad 8), .ref (g 0)]))] ++ (WG K g u9b.1 u9b.2.1 u9b.2.2.1 u9b.2.2.2.1 di (nI (gN d)) (nI 1) ++ ([(ad 3, .inr (4, [.ref (ad 4)]))] ++ (WE K (ad 4) (ad 5) (ad 6) (ad 7) r u9b.2.2.2.2.1 u9b.2.2.2.2.2.1 u9b.2.2.2.2.2.2.1 u9b.2.2.2.2.2.2.2 ++ (WD K q d ++ ([(ad 8, .inr (5, [.ref (ad 9)]))] ++ (WE K (ad 9) (ad 10) (ad 11) (ad 12) r2 M2 pv2 ip2 sv2 ++ (WH K (ad 1) (ad 2) f (nI s0) ++ (WD K q1 d1 ++ (WD K q2 d2)))))))))) H := hP
  have hD : va_D A ([(ad 0, .inr (6, [.ref (q 0), .ref (q1 0), .ref (q2 0), .int f1, .int f2, .ref (ad 1), .ref (ad 3), .ref (ad 8), .ref (g 0)]))] ++ (WG K g u9b.1 u9b.2.1 u9b.2.2.1 u9b.2.2.2.1 di (nI (gN d)) (nI 1) ++ ([(ad 3, .inr (4, [.ref (ad 4)]))] ++ (WE K (ad 4) (ad 5) (ad 6) (ad 7) r u9b.2.2.2.2.1 u9b.2.2.2.2.2.1 u9b.2.2.2.2.2.2.1 u9b.2.2.2.2.2.2.2 ++ (WD K q d ++ ([(ad 8, .inr (5, [.ref (ad 9)]))] ++ (WE K (ad 9) (ad 10) (ad 11) (ad 12) r2 M2 pv2 ip2 sv2 ++ (WH K (ad 1) (ad 2) f (nI s0) ++ (WD K q1 d1 ++ (WD K q2 d2)))))))))) := hD
  have hJ2 : II d (u9b.2.2.2.2.1, u9b.2.2.2.2.2.1, u9b.2.2.2.2.2.2.1, u9b.2.2.2.2.2.2.2, M2, pv2, ip2, sv2, u9b.1, u9b.2.1, u9b.2.2.1, u9b.2.2.2.1, di, (gN d), (nI 1)) := ⟨hn64b, Or.inr rfl, fun _ => ⟨rfl, htab⟩⟩
  refine lv_aload_n hx hb dX6_step_15 rfl (lv_at hl 0 rfl) ?_
  refine va_get (D := D) (ci := 6) (C := RX6) (T := TX6) (N := 9) hx hb hts iX6 hown hK hP 0 rfl rfl 8 (by decide) (hts _ k_f_X6_46) (fun _ h9 => h9) rfl dX6_step_16 ?_
  refine lv_iload_n hx hb dX6_step_19 rfl (lv_at hl 1 rfl) ?_
  have hPq := P_perm pm_1 hP
  have hDq := D_perm pm_1 hD
  have hPc := bP0 hPq
  have hDc := bD0 hDq
  refine va_calli (va_runV (As := [.int x]) (rest := []) ⟨hx, hb, hml, hown, hts⟩ (c_X2_hasGear l D K g u9b.1 u9b.2.1 u9b.2.2.1 u9b.2.2.2.1 di (gN d) (nI 1) x H.size hn64b) (cwV 1 hts (TB_V k_m_X6_207 k_im_X2_hasGear k_se_X2_hasGear k_in_X2 k_co_X2_hasGear (fun _ h => h)) rfl rfl rfl (by decide +kernel) ⟨Nat.le_of_ble_eq_true rfl, Nat.le_of_ble_eq_true rfl⟩) ⟨cP_blind, va_recv hK hPc (ci := 2) (q0 := 0) rfl rfl, cP_of hPc hK hDc⟩ rfl rfl hl.1 rfl (lv_room (Nat.le_of_ble_eq_true rfl)) dX6_step_20 ⟨Nat.le_of_ble_eq_true rfl, Nat.le_of_ble_eq_true rfl⟩) hS (fun q _ h => absurd h id) (fun q h => absurd h id) (fun rg u9 t9 H locs ht9 hvm hw hB hz1 hk1 hS => ?_)
  have hP := P_same hP hk1
  have hw : rg = bI (ger d x) := hw
  by_cases hgr : ger d x
  rotate_left
  · refine t_i (hw.trans (bI_f hgr).symm) ?_
    refine b_if_eq hx hb (nI_toIntI (by omega)) dX6_step_23 (tgt := 39) (by decide) (fun c23 => ?_) (fun c23 => absurd c23 (by omega))
    refine thr_54 hx hb hlf hown hts hTX (is := 220) (text := "one of both gears does not exist") (by decide +kernel) hS (by rw [hml]; exact hl.1) dX6_step_39 dX6_step_42 dX6_step_43 dX6_step_45 dX6_step_48 hxt (Nat.le_of_ble_eq_true rfl) (Nat.le_of_ble_eq_true rfl) (Nat.le_of_ble_eq_true rfl) (Nat.le_of_ble_eq_true rfl) hlocks (Nat.le_of_ble_eq_true rfl) (Nat.le_of_ble_eq_true rfl) (fun t9 hal hsz9 hkk => ?_)
    exact ⟨((d, d1, d2, f1, f2, f, s0), (u9b.2.2.2.2.1, u9b.2.2.2.2.2.1, u9b.2.2.2.2.2.2.1, u9b.2.2.2.2.2.2.2, M2, pv2, ip2, sv2, u9b.1, u9b.2.1, u9b.2.2.1, u9b.2.2.2.1, di, (gN d), (nI 1))), ⟨rfl, hJ2⟩, ⟨by rw [show rs_step d x = _ from (cI_t (fun z => by first | exact hgr z.1 | (rw [hkadd] at z; exact hgt z.2)))]; exact ⟨by decide, rfl⟩, hP.kept (fun k q h => hkk q.1 ((hP k q h).lt)), va_K.moved hal hK, hD⟩, Nat.le_trans hS.1 hsz9, fun q h1 h2 => (hkk q (Nat.lt_of_lt_of_le h1 hS.1)).trans (hS.2.1 q h1 h2)⟩
  refine t_i (hw.trans (bI_t hgr).symm) ?_
  obtain ⟨kg, hkg, rfl⟩ := id hgr
  have hkgn : (nI kg).toInt.toNat = kg := by rw [nI_toIntI (by omega)]; omega
  refine b_if_eq hx hb (nI_toIntI (by omega)) dX6_step_23 (tgt := 39) (by decide) (fun c23 => absurd c23 (by omega)) (fun c23 => ?_)
  refine lv_aload_n hx hb dX6_step_26 rfl (lv_at hl 0 rfl) ?_
  refine va_get (D := D) (ci := 6) (C := RX6) (T := TX6) (N := 9) hx hb hts iX6 hown hK hP 0 rfl rfl 8 (by decide) (hts _ k_f_X6_46) (fun _ h9 => h9) rfl dX6_step_27 ?_
  refine lv_iload_n hx hb dX6_step_30 rfl (lv_at hl 1 rfl) ?_
  refine lv_iconst (v := nI 1) hx hb dX6_step_31 (by decide) ?_
  refine lv_iadd hx hb dX6_step_32 ?_
  refine t_i (nI_add _ _) ?_
  have hkadd : nI kg + nI 1 = nI (kg + 1) := nI_add kg 1
  have hPq := P_perm pm_1 hP
  have hDq := D_perm pm_1 hD
  have hPc := bP0 hPq
  have hDc := bD0 hDq
  refine va_calli (va_runV (As := [.int (nI (kg + 1))]) (rest := []) ⟨hx, hb, hml, hown, hts⟩ (c_X2_hasGear l D K g u9b.1 u9b.2.1 u9b.2.2.1 u9b.2.2.2.1 di (gN d) (nI 1) (nI (kg + 1)) H.size hn64b) (cwV 1 hts (TB_V k_m_X6_207 k_im_X2_hasGear k_se_X2_hasGear k_in_X2 k_co_X2_hasGear (fun _ h => h)) rfl rfl rfl (by decide +kernel) ⟨Nat.le_of_ble_eq_true rfl, Nat.le_of_ble_eq_true rfl⟩) ⟨cP_blind, va_recv hK hPc (ci := 2) (q0 := 0) rfl rfl, cP_of hPc hK hDc⟩ rfl rfl hl.1 rfl (lv_room (Nat.le_of_ble_eq_true rfl)) dX6_step_33 ⟨Nat.le_of_ble_eq_true rfl, Nat.le_of_ble_eq_true rfl⟩) hS (fun q _ h => absurd h id) (fun q h => absurd h id) (fun rg u9 t9 H locs ht9 hvm hw hB hz1 hk1 hS => ?_)
  have hP := P_same hP hk1
  have hw : rg = bI (ger d (nI (kg + 1))) := hw
  by_cases hgt : ger d (nI (kg + 1))
  rotate_left
  · refine t_i (hw.trans (bI_f hgt).symm) ?_
    refine b_if_ne hx hb (nI_toIntI (by omega)) dX6_step_36 (tgt := 49) (by decide) (fun c36 => absurd c36 (by omega)) (fun c36 => ?_)
    refine thr_54 hx hb hlf hown hts hTX (is := 220) (text := "one of both gears does not exist") (by decide +kernel) hS (by rw [hml]; exact hl.1) dX6_step_39 dX6_step_42 dX6_step_43 dX6_step_45 dX6_step_48 hxt (Nat.le_of_ble_eq_true rfl) (Nat.le_of_ble_eq_true rfl) (Nat.le_of_ble_eq_true rfl) (Nat.le_of_ble_eq_true rfl) hlocks (Nat.le_of_ble_eq_true rfl) (Nat.le_of_ble_eq_true rfl) (fun t9 hal hsz9 hkk => ?_)
    exact ⟨((d, d1, d2, f1, f2, f, s0), (u9b.2.2.2.2.1, u9b.2.2.2.2.2.1, u9b.2.2.2.2.2.2.1, u9b.2.2.2.2.2.2.2, M2, pv2, ip2, sv2, u9b.1, u9b.2.1, u9b.2.2.1, u9b.2.2.2.1, di, (gN d), (nI 1))), ⟨rfl, hJ2⟩, ⟨by rw [show rs_step d (nI kg) = _ from (cI_t (fun z => by first | exact hgr z.1 | (rw [hkadd] at z; exact hgt z.2)))]; exact ⟨by decide, rfl⟩, hP.kept (fun k q h => hkk q.1 ((hP k q h).lt)), va_K.moved hal hK, hD⟩, Nat.le_trans hS.1 hsz9, fun q h1 h2 => (hkk q (Nat.lt_of_lt_of_le h1 hS.1)).trans (hS.2.1 q h1 h2)⟩
  refine t_i (hw.trans (bI_t hgt).symm) ?_
  have hk1g : kg + 1 < gN d := by
    obtain ⟨z, hz, e9⟩ := hgt
    have := (nI_eq (by omega) (by omega)).mp e9
    omega
  refine b_if_ne hx hb (nI_toIntI (by omega)) dX6_step_36 (tgt := 49) (by decide) (fun c36 => ?_) (fun c36 => absurd c36 (by omega))
  refine lv_aload_n hx hb dX6_step_49 rfl (lv_at hl 0 rfl) ?_
  refine lv_iload_n hx hb dX6_step_50 rfl (lv_at hl 1 rfl) ?_
  have hPc : va_P D vwCl (WX K ad q q1 q2 g r r2 (d, d1, d2, f1, f2, f, s0) (u9b.2.2.2.2.1, u9b.2.2.2.2.2.1, u9b.2.2.2.2.2.2.1, u9b.2.2.2.2.2.2.2, M2, pv2, ip2, sv2, u9b.1, u9b.2.1, u9b.2.2.1, u9b.2.2.2.1, di, (gN d), (nI 1))) H := hP
  have hDc : va_D A (WX K ad q q1 q2 g r r2 (d, d1, d2, f1, f2, f, s0) (u9b.2.2.2.2.1, u9b.2.2.2.2.2.1, u9b.2.2.2.2.2.2.1, u9b.2.2.2.2.2.2.2, M2, pv2, ip2, sv2, u9b.1, u9b.2.1, u9b.2.2.1, u9b.2.2.2.1, di, (gN d), (nI 1))) := hD
  have hFc := freeAll hDc hS hA
  refine va_callf (va_runV (As := [.int (nI kg)]) (rest := []) ⟨hx, hb, hml, hown, hts⟩ (c_X6_ratioOfGear l D K ad q q1 q2 g r r2 (d, d1, d2, f1, f2, f, s0) (u9b.2.2.2.2.1, u9b.2.2.2.2.2.1, u9b.2.2.2.2.2.2.1, u9b.2.2.2.2.2.2.2, M2, pv2, ip2, sv2, u9b.1, u9b.2.1, u9b.2.2.1, u9b.2.2.2.1, di, (gN d), (nI 1)) (kg) H.size hI hJ2 (by omega) rfl) (cwV 1 hts (TB_V k_m_X6_222 k_im_X6_ratioOfGear k_se_X6_ratioOfGear k_in_X6 k_co_X6_ratioOfGear (fun _ h => h)) rfl rfl rfl (by decide +kernel) ⟨Nat.le_of_ble_eq_true rfl, Nat.le_of_ble_eq_true rfl⟩) ⟨cP_blind, va_recv hK hP (ci := 6) (q0 := 0) rfl rfl, cP_of hPc hK hDc⟩ rfl rfl hl.1 rfl (lv_room (Nat.le_of_ble_eq_true rfl)) dX6_step_51 ⟨Nat.le_of_ble_eq_true rfl, Nat.le_of_ble_eq_true rfl⟩) hS (fun q _ h => hFc q h) hFc (fun fa u9 t9 H locs ht9 hvm hw hB hz1 hk1 hS => ?_)
  obtain ⟨hP, hK1, hD1⟩ := hB
  rw [ht9] at hP
  have hD := hD1.weaken (fun _ _ _ h => hFc _ h)
  obtain ⟨hu9, hfa⟩ := hw
  subst hu9
  have hP : va_P D vwCl ([(ad 0, .inr (6, [.ref (q 0), .ref (q1 0), .ref (q2 0), .int f1, .int f2, .ref (ad 1), .ref (ad 3), .ref (ad 8), .ref (g 0)]))] ++ (WG K g u9b.1 u9b.2.1 u9b.2.2.1 u9b.2.2.2.1 di (nI (gN d)) (nI 1) ++ ([(ad 3, .inr (4, [.ref (ad 4)]))] ++ (WE K (ad 4) (ad 5) (ad 6) (ad 7) r u9b.2.2.2.2.1 u9b.2.2.2.2.2.1 u9b.2.2.2.2.2.2.1 u9b.2.2.2.2.2.2.2 ++ (WD K q d ++ ([(ad 8, .inr (5, [.ref (ad 9)]))] ++ (WE K (ad 9) (ad 10) (ad 11) (ad 12) r2 M2 pv2 ip2 sv2 ++ (WH K (ad 1) (ad 2) f (nI s0) ++ (WD K q1 d1 ++ (WD K q2 d2)))))))))) H := hP
  have hD : va_D A ([(ad 0, .inr (6, [.ref (q 0), .ref (q1 0), .ref (q2 0), .int f1, .int f2, .ref (ad 1), .ref (ad 3), .ref (ad 8), .ref (g 0)]))] ++ (WG K g u9b.1 u9b.2.1 u9b.2.2.1 u9b.2.2.2.1 di (nI (gN d)) (nI 1) ++ ([(ad 3, .inr (4, [.ref (ad 4)]))] ++ (WE K (ad 4) (ad 5) (ad 6) (ad 7) r u9b.2.2.2.2.1 u9b.2.2.2.2.2.1 u9b.2.2.2.2.2.2.1 u9b.2.2.2.2.2.2.2 ++ (WD K q d ++ ([(ad 8, .inr (5, [.ref (ad 9)]))] ++ (WE K (ad 9) (ad 10) (ad 11) (ad 12) r2 M2 pv2 ip2 sv2 ++ (WH K (ad 1) (ad 2) f (nI s0) ++ (WD K q1 d1 ++ (WD K q2 d2)))))))))) := hD
  refine lv_fstore_n (lv' := [(2, .float fa), (0, .ref (ad 0)), (1, .int (nI kg))]) hx hb dX6_step_54 rfl hl (by decide) rfl (fun ls hl => ?_)
  refine lv_fload_n hx hb dX6_step_55 rfl (lv_at hl 0 rfl) ?_
  refine lv_fconst0 hx hb dX6_step_56 ?_
  refine lv_fcmp hx hb dX6_step_57 ?_
  obtain ⟨ht1, ht2, ht3, ht4, ht5, ht6⟩ := htab kg hkg
  obtain ⟨hs1, hs2, hs3, hs4, hs5, hs6⟩ := htab (kg + 1) hk1g
  have hG9 := (gst_mem d 64 kg hkg).1
  have hG8 := (gst_mem d 64 (kg + 1) hk1g).1
  have hnt : (u9b.2.1 kg).toInt ≠ 0 := by rw [ht3]; exact rtN_ne _
  have hdt : (u9b.2.2.1 kg).toInt ≠ 0 := by rw [ht4]; exact rtD_ne hG9.2.1
  have hns : (u9b.2.1 (kg + 1)).toInt ≠ 0 := by rw [hs3]; exact rtN_ne _
  have hds : (u9b.2.2.1 (kg + 1)).toInt ≠ 0 := by rw [hs4]; exact rtD_ne hG8.2.1
  have ha9 : fa = fq (u9b.2.1 kg) (u9b.2.2.1 kg) := by rw [hfa]; unfold fqS; rw [← i64_of ht3, ← i64_of ht4]
  have hc9 := cmpv_ne (show ¬ FP.fcmp fa FP.fconst0 = some .eq by rw [ha9]; exact fq_ne0 hnt hdt ht5 ht6)
  refine b_if_ne hx hb rfl dX6_step_58 (tgt := 65) (by decide) (fun c58 => ?_) (fun c58 => absurd c58 (by omega))
  refine lv_aload_n hx hb dX6_step_65 rfl (lv_at hl 1 rfl) ?_
  refine lv_iload_n hx hb dX6_step_66 rfl (lv_at hl 2 rfl) ?_
  refine lv_iconst (v := nI 1) hx hb dX6_step_67 (by decide) ?_
  refine lv_iadd hx hb dX6_step_68 ?_
  refine t_i (nI_add _ _) ?_
  have hPc : va_P D vwCl (WX K ad q q1 q2 g r r2 (d, d1, d2, f1, f2, f, s0) (u9b.2.2.2.2.1, u9b.2.2.2.2.2.1, u9b.2.2.2.2.2.2.1, u9b.2.2.2.2.2.2.2, M2, pv2, ip2, sv2, u9b.1, u9b.2.1, u9b.2.2.1, u9b.2.2.2.1, di, (gN d), (nI 1))) H := hP
  have hDc : va_D A (WX K ad q q1 q2 g r r2 (d, d1, d2, f1, f2, f, s0) (u9b.2.2.2.2.1, u9b.2.2.2.2.2.1, u9b.2.2.2.2.2.2.1, u9b.2.2.2.2.2.2.2, M2, pv2, ip2, sv2, u9b.1, u9b.2.1, u9b.2.2.1, u9b.2.2.2.1, di, (gN d), (nI 1))) := hD
  have hFc := freeAll hDc hS hA
  refine va_callf (va_runV (As := [.int (nI (kg + 1))]) (rest := []) ⟨hx, hb, hml, hown, hts⟩ (c_X6_ratioOfGear l D K ad q q1 q2 g r r2 (d, d1, d2, f1, f2, f, s0) (u9b.2.2.2.2.1, u9b.2.2.2.2.2.1, u9b.2.2.2.2.2.2.1, u9b.2.2.2.2.2.2.2, M2, pv2, ip2, sv2, u9b.1, u9b.2.1, u9b.2.2.1, u9b.2.2.2.1, di, (gN d), (nI 1)) (kg + 1) H.size hI hJ2 (by omega) rfl) (cwV 1 hts (TB_V k_m_X6_222 k_im_X6_ratioOfGear k_se_X6_ratioOfGear k_in_X6 k_co_X6_ratioOfGear (fun _ h => h)) rfl rfl rfl (by decide +kernel) ⟨Nat.le_of_ble_eq_true rfl, Nat.le_of_ble_eq_true rfl⟩) ⟨cP_blind, va_recv hK hP (ci := 6) (q0 := 0) rfl rfl, cP_of hPc hK hDc⟩ rfl rfl hl.1 rfl (lv_room (Nat.le_of_ble_eq_true rfl)) dX6_step_69 ⟨Nat.le_of_ble_eq_true rfl, Nat.le_of_ble_eq_true rfl⟩) hS (fun q _ h => hFc q h) hFc (fun fb u9 t9 H locs ht9 hvm hw hB hz1 hk1 hS => ?_)
  obtain ⟨hP, hK1, hD1⟩ := hB
  rw [ht9] at hP
  have hD := hD1.weaken (fun _ _ _ h => hFc _ h)
  obtain ⟨hu9, hfb⟩ := hw
  subst hu9
  have hP : va_P D vwCl ([(ad 0, .inr (6, [.ref (q 0), .ref (q1 0), .ref (q2 0), .int f1, .int f2, .ref (ad 1), .ref (ad 3), .ref (ad 8), .ref (g 0)]))] ++ (WG K g u9b.1 u9b.2.1 u9b.2.2.1 u9b.2.2.2.1 di (nI (gN d)) (nI 1) ++ ([(ad 3, .inr (4, [.ref (ad 4)]))] ++ (WE K (ad 4) (ad 5) (ad 6) (ad 7) r u9b.2.2.2.2.1 u9b.2.2.2.2.2.1 u9b.2.2.2.2.2.2.1 u9b.2.2.2.2.2.2.2 ++ (WD K q d ++ ([(ad 8, .inr (5, [.ref (ad 9)]))] ++ (WE K (ad 9) (ad 10) (ad 11) (ad 12) r2 M2 pv2 ip2 sv2 ++ (WH K (ad 1) (ad 2) f (nI s0) ++ (WD K q1 d1 ++ (WD K q2 d2)))))))))) H := hP
  have hD : va_D A ([(ad 0, .inr (6, [.ref (q 0), .ref (q1 0), .ref (q2 0), .int f1, .int f2, .ref (ad 1), .ref (ad 3), .ref (ad 8), .ref (g 0)]))] ++ (WG K g u9b.1 u9b.2.1 u9b.2.2.1 u9b.2.2.2.1 di (nI (gN d)) (nI 1) ++ ([(ad 3, .inr (4, [.ref (ad 4)]))] ++ (WE K (ad 4) (ad 5) (ad 6) (ad 7) r u9b.2.2.2.2.1 u9b.2.2.2.2.2.1 u9b.2.2.2.2.2.2.1 u9b.2.2.2.2.2.2.2 ++ (WD K q d ++ ([(ad 8, .inr (5, [.ref (ad 9)]))] ++ (WE K (ad 9) (ad 10) (ad 11) (ad 12) r2 M2 pv2 ip2 sv2 ++ (WH K (ad 1) (ad 2) f (nI s0) ++ (WD K q1 d1 ++ (WD K q2 d2)))))))))) := hD
  refine lv_fload_n hx hb dX6_step_72 rfl (lv_at hl 0 rfl) ?_
  have hb9 : fb = fq (u9b.2.1 (kg + 1)) (u9b.2.2.1 (kg + 1)) := by rw [hfb]; unfold fqS; rw [← i64_of hs3, ← i64_of hs4]
  have hN9 : vf_n32 (FP.fdiv fb fa) := by rw [ha9, hb9]; exact fqq_n32 hns hds hnt hdt hs5 hs6 ht5 ht6
  refine lv_fdiv hx hb dX6_step_73 hN9 ?_
  refine vx_ret ?_
  exact W.widen (k := 1) (n := 6) (Nat.le_of_ble_eq_true rfl) (Nat.le_of_ble_eq_true rfl) (W.fret (v := FP.fdiv fb fa) hx hb hr (fun t9 ht9 hW => ⟨⟨FP.fdiv fb fa, ((d, d1, d2, f1, f2, f, s0), (u9b.2.2.2.2.1, u9b.2.2.2.2.2.1, u9b.2.2.2.2.2.2.1, u9b.2.2.2.2.2.2.2, M2, pv2, ip2, sv2, u9b.1, u9b.2.1, u9b.2.2.1, u9b.2.2.2.1, di, (gN d), (nI 1))), rfl, ⟨rfl, hJ2, hN9, (cI_f (fun z => z ⟨hgr, by rw [hkadd]; exact hgt⟩)).trans (by rw [hkgn, ← hfb, ← hfa])⟩, by rw [ht9]; exact hP, va_K.moved hW.alike hK, hD⟩, hS.F ht9⟩) hS.2.2 dX6_step_74)
