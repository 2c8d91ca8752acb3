/-! PlanetaryGearbox: gears, shifts, saving -/
theorem wkF_le (G : Nat → Nat) (n : Nat) (Dv : Nat → Int) (i0 : Nat) (h : i0 < n) : ∀ k, wkF G n Dv i0 k ≤ n
  | 0 => by show i0 ≤ n; omega
  | k + 1 => lstF_le _ n
theorem DV_EqD {u o : Nat → Nat → Int32} (h : DV o) (he : EqD u o) : DV u := by
  obtain ⟨n, m, g, a1, a2, a3, a4, a5, a6, a7, a8⟩ := h
  obtain ⟨e1, e2, e3, e4, e5⟩ := he
  refine ⟨n, m, g, a1, a2, a3, e3.trans a4, e4.trans a5, e5.trans a6, fun k hk => ?_, fun e hk => ?_⟩
  · obtain ⟨a, b, c, s1, r1, b1, b2, b3, b4, b5, b6, b7, b8⟩ := a7 k hk
    exact ⟨a, b, c, s1, r1, b1, b2, b3, (e1 0 k (by omega) (by omega)).trans b4, (e1 1 k (by omega) (by omega)).trans b5, (e1 2 k (by omega) (by omega)).trans b6, (e1 3 k (by omega) (by omega)).trans b7, (e1 4 k (by omega) (by omega)).trans b8⟩
  · obtain ⟨a, c1, b1, b2, b3, b4, b5, b6⟩ := a8 e hk
    have z := e2 6 e (by omega) (by omega) (by omega)
    refine ⟨a, c1, b1, (e2 5 e (by omega) (by omega) (by omega)).trans b2, ?_, b4, b5, (e2 7 e (by omega) (by omega) (by omega)).trans b6⟩
    rw [z]
    exact b3
noncomputable def rs_save (x : Int32) : Nat × Int := cI (¬ prt x) (1, 0) (0, 0)
noncomputable def rs_restore (v : CV) (x : Int32) : Nat × Int := cI (¬ prt x) (1, 0) (cI ((x.toInt = 0 ∧ v.2.2.2.1 = nI 0) ∨ (¬ x.toInt = 0 ∧ v.2.2.2.2.1 = nI 0)) (2, 0) (0, 0))
def SAV (v : CV) (x : Int32) (w : CV) : Prop := w.1 = v.1 ∧ w.2.2.2.2.2 = v.2.2.2.2.2 ∧ ((x.toInt = 0 ∧ EqD w.2.1 v.1 ∧ w.2.2.1 = v.2.2.1 ∧ w.2.2.2.1 = nI 1 ∧ w.2.2.2.2.1 = v.2.2.2.2.1) ∨ (¬ x.toInt = 0 ∧ w.2.1 = v.2.1 ∧ EqD w.2.2.1 v.1 ∧ w.2.2.2.1 = v.2.2.2.1 ∧ w.2.2.2.2.1 = nI 1))
def RES (v : CV) (x : Int32) (w : CV) : Prop := w.2.1 = v.2.1 ∧ w.2.2.1 = v.2.2.1 ∧ w.2.2.2.1 = v.2.2.2.1 ∧ w.2.2.2.2.1 = v.2.2.2.2.1 ∧ w.2.2.2.2.2.2 = 0 ∧ ((x.toInt = 0 ∧ EqD w.1 v.2.1) ∨ (¬ x.toInt = 0 ∧ EqD w.1 v.2.2.1))
theorem f0_iff {f : Int32} : f = nI 0 ↔ f.toInt = 0 := by rw [i32_eq, nI_toIntI (by omega)]; omega
set_option maxHeartbeats 4000000 in
set_option maxRecDepth 100000 in
theorem c_X6_gear (l : Launch) (hlf : l.stackTraces = false) (D : va_G) (K : Nat → ClassId) (ad q q1 q2 g r r2 : Nat → Nat) (v : CV) (i : CI) (x : Int32) (sz : Nat) (hI : IV v) (hJ : II v.1 i)  : vx_Met l yX6_gear (.code yX6_gear cX6_gear 2 (some .int) :: TB) ({ frames := 7, cells := 1, slots := 6, locals := 150 } : Room) (va_Pc [.ref (ad 0), .int x] (cPT D K (WX K ad q q1 q2 g r r2 v i) sz)) (va_Qi (fun (z : Int32) (u : CV × CI) => u.1 = v ∧ II u.1.1 u.2 ∧ rs_gear v.1 x = (0, z.toInt)) (fun (u : CV × CI) t => cB D K (va_A (WX K ad q q1 q2 g r r2 v i) sz) (WX K ad q q1 q2 g r r2 u.1 u.2) t) (va_A (WX K ad q q1 q2 g r r2 v i) sz)) (vx_X (fun (u : CV × CI) => u.1 = v ∧ II u.1.1 u.2) (fun E (u : CV × CI) t => exc [eIO] (rs_gear v.1 x).1 E ∧ cB D K (va_A (WX K ad q q1 q2 g r r2 v i) sz) (WX K ad q q1 q2 g r r2 u.1 u.2) t) (va_A (WX K ad q q1 q2 g r r2 v i) sz)) 1 6 (va_A (WX K ad q q1 q2 g r r2 v i) sz) := by
  refine vx_ofW (cc := cX6_gear) (maxL := 2) (ret := (some .int)) (by decide) rfl ?_
  intro p e s m args below meth c s₁ B hml hxt hv
  obtain ⟨rfl, ⟨hsz, hP, hK, hD0⟩, hTX⟩ := hv
  have hx := B.exec
  have hb := B.bytes
  have hr := B.returns
  have hts := hts_tl (atoms_spec (ws := (.code yX6_gear cX6_gear 2 (some .int) :: TB)) B.pre)
  have hown : s.vm.findClass RX6 = some m.cls := findClass_of_methodNamed B.named
  have hlocks := B.notSynchronized
  subst hsz
  have hD := hD0.self (sz := s.heap.size)
  generalize hAe : (va_A (WX K ad q q1 q2 g r r2 v i) s.heap.size) = A at hD hTX ⊢
  have hA : ∀ q : Nat, s.heap.size ≤ q → A q := fun q h => by rw [← hAe]; exact Or.inr h
  have hS : va_S A s.heap s.heap [] := va_S.rf
  clear hAe hD0
  obtain ⟨d, d1, d2, f1, f2, f, s0⟩ := v
  obtain ⟨M, pv, ip, sv, M2, pv2, ip2, sv2, ma, nu, de, ne, di, n, fr⟩ := i
  obtain ⟨hd, hd1, hd2, hf1, hf2, hs20, hhf⟩ := id hI
  obtain ⟨hn64, hfr, hT⟩ := id hJ
  dsimp only at hd hd1 hd2 hf1 hf2 hs20 hhf hn64 hfr hT
  obtain ⟨ns, m1, ge, hns, hm, hge, h0, h1, h2, hs9, he9⟩ := id hd
  have hm1 : dn d 8 1 = m1 := dn_of h1 (by omega)
  have hn1 : dn d 8 0 = ns := dn_of h0 (by omega)
  have hp6 : 2 ^ m1 ≤ 64 := Nat.pow_le_pow_right (show 0 < 2 by decide) hm
  have hg1 : dn d 8 2 = ge := dn_of h2 (by omega)
  have hP : va_P D vwCl ([(ad 0, .inr (6, [.ref (q 0), .ref (q1 0), .ref (q2 0), .int f1, .int f2, .ref (ad 1), .ref (ad 3), .ref (ad 8), .ref (g 0)]))] ++ (WG K g ma nu de ne di (nI n) fr ++ ([(ad 3, .inr (4, [.ref (ad 4)]))] ++ (WE K (ad 4) (ad 5) (ad 6) (ad 7) r M pv ip sv ++ (WD K q d ++ ([(ad 8, .inr (5, [.ref (ad 9)]))] ++ (WE K (ad 9) (ad 10) (ad 11) (ad 12) r2 M2 pv2 ip2 sv2 ++ (WH K (ad 1) (ad 2) f (nI s0) ++ (WD K q1 d1 ++ (WD K q2 d2)))))))))) s.heap := hP
  have hD : va_D A ([(ad 0, .inr (6, [.ref (q 0), .ref (q1 0), .ref (q2 0), .int f1, .int f2, .ref (ad 1), .ref (ad 3), .ref (ad 8), .ref (g 0)]))] ++ (WG K g ma nu de ne di (nI n) fr ++ ([(ad 3, .inr (4, [.ref (ad 4)]))] ++ (WE K (ad 4) (ad 5) (ad 6) (ad 7) r M pv ip sv ++ (WD K q d ++ ([(ad 8, .inr (5, [.ref (ad 9)]))] ++ (WE K (ad 9) (ad 10) (ad 11) (ad 12) r2 M2 pv2 ip2 sv2 ++ (WH K (ad 1) (ad 2) f (nI s0) ++ (WD K q1 d1 ++ (WD K q2 d2)))))))))) := hD
  have hl := lv_entry ([.ref (ad 0), .int x]) (n := 2) (Nat.le_of_ble_eq_true rfl)
  rw [lg_entry_eq]
  generalize (lg_sl ([.ref (ad 0), .int x]) ++ List.replicate (2 - (lg_sl ([.ref (ad 0), .int x])).length) Slot.unset).toArray = ls at hl ⊢
  have hl : lv_has ls 2 [(0, .ref (ad 0)), (1, .int x)] := hl
  refine lv_aload_n hx hb dX6_gear_0 rfl (lv_at hl 0 rfl) ?_
  refine va_get (D := D) (ci := 6) (C := RX6) (T := TX6) (N := 9) hx hb hts iX6 hown hK hP 0 rfl rfl 8 (by decide) (hts _ k_f_X6_46) (fun _ h9 => h9) rfl dX6_gear_1 ?_
  refine lv_aload_n hx hb dX6_gear_4 rfl (lv_at hl 0 rfl) ?_
  refine va_get (D := D) (ci := 6) (C := RX6) (T := TX6) (N := 9) hx hb hts iX6 hown hK hP 0 rfl rfl 0 (by decide) (hts _ k_f_X6_12) (fun _ h9 => h9) rfl dX6_gear_5 ?_
  refine lv_aload_n hx hb dX6_gear_8 rfl (lv_at hl 0 rfl) ?_
  refine va_get (D := D) (ci := 6) (C := RX6) (T := TX6) (N := 9) hx hb hts iX6 hown hK hP 0 rfl rfl 6 (by decide) (hts _ k_f_X6_32) (fun _ h9 => h9) rfl dX6_gear_9 ?_
  have hPq := P_perm pm_1234 hP
  have hDq := D_perm pm_1234 hD
  have hPc := bP0 hPq
  have hDc := bD0 hDq
  have hFc := bF0 hDq hS hA
  refine va_callv (va_runV (As := [.ref (q 0), .ref (ad 3)]) (rest := []) ⟨hx, hb, hml, hown, hts⟩ (c_X2_refresh l D K g ma nu de ne di n fr (ad 3) (ad 4) (ad 5) (ad 6) (ad 7) r M pv ip sv q d s.heap.size hn64 hd hfr hT) (cwV 2 hts (TB_V k_m_X6_116 k_im_X2_refresh k_se_X2_refresh k_in_X2 k_co_X2_refresh (fun _ h => h)) rfl rfl rfl (by decide +kernel) ⟨Nat.le_of_ble_eq_true rfl, Nat.le_of_ble_eq_true rfl⟩) ⟨cP_blind, va_recv hK hPc (ci := 2) (q0 := 0) rfl rfl, cP_of hPc hK hDc⟩ rfl rfl hl.1 rfl (lv_room (Nat.le_of_ble_eq_true rfl)) dX6_gear_12 ⟨Nat.le_of_ble_eq_true rfl, Nat.le_of_ble_eq_true rfl⟩) hS (fun q _ h => hFc q h) hFc (fun u9 t9 H locs ht9 hvm hw hB hz1 hk1 hS => ?_)
  obtain ⟨hP1, hK1, hD1⟩ := hB
  rw [ht9] at hP1
  obtain ⟨hPq1, hDq1⟩ := bJ0 hPq hDq hk1 hFc hP1 hD1
  have hP := P_perm (pm_1234 (X0 := _)).symm hPq1
  have hD := D_perm (pm_1234 (X0 := _)).symm hDq1
  have hP : va_P D vwCl ([(ad 0, .inr (6, [.ref (q 0), .ref (q1 0), .ref (q2 0), .int f1, .int f2, .ref (ad 1), .ref (ad 3), .ref (ad 8), .ref (g 0)]))] ++ (WG K g u9.2.1 u9.2.2.1 u9.2.2.2.1 u9.2.2.2.2.1 di (nI u9.1) (nI 1) ++ ([(ad 3, .inr (4, [.ref (ad 4)]))] ++ (WE K (ad 4) (ad 5) (ad 6) (ad 7) r u9.2.2.2.2.2.1 u9.2.2.2.2.2.2.1 u9.2.2.2.2.2.2.2.1 u9.2.2.2.2.2.2.2.2 ++ (WD K q d ++ ([(ad 8, .inr (5, [.ref (ad 9)]))] ++ (WE K (ad 9) (ad 10) (ad 11) (ad 12) r2 M2 pv2 ip2 sv2 ++ (WH K (ad 1) (ad 2) f (nI s0) ++ (WD K q1 d1 ++ (WD K q2 d2)))))))))) H := hP
  have hD : va_D A ([(ad 0, .inr (6, [.ref (q 0), .ref (q1 0), .ref (q2 0), .int f1, .int f2, .ref (ad 1), .ref (ad 3), .ref (ad 8), .ref (g 0)]))] ++ (WG K g u9.2.1 u9.2.2.1 u9.2.2.2.1 u9.2.2.2.2.1 di (nI u9.1) (nI 1) ++ ([(ad 3, .inr (4, [.ref (ad 4)]))] ++ (WE K (ad 4) (ad 5) (ad 6) (ad 7) r u9.2.2.2.2.2.1 u9.2.2.2.2.2.2.1 u9.2.2.2.2.2.2.2.1 u9.2.2.2.2.2.2.2.2 ++ (WD K q d ++ ([(ad 8, .inr (5, [.ref (ad 9)]))] ++ (WE K (ad 9) (ad 10) (ad 11) (ad 12) r2 M2 pv2 ip2 sv2 ++ (WH K (ad 1) (ad 2) f (nI s0) ++ (WD K q1 d1 ++ (WD K q2 d2)))))))))) := hD
  obtain ⟨u9a, u9b⟩ := u9
  obtain ⟨hgn, htab⟩ := hw
  dsimp only at hgn htab
  subst hgn
  have hn64b := gN_le d
  have hP : va_P D vwCl ([(ad 0, .inr (6, [.ref (q 0), .ref (q1 0), .ref (q2 0), .int f1, .int f2, .ref (ad 1), .ref (ad 3), .ref (ad 8), .ref (g 0)]))] ++ (WG K g u9b.1 u9b.2.1 u9b.2.2.1 u9b.2.2.2.1 di (nI (gN d)) (nI 1) ++ ([(ad 3, .inr (4, [.ref (ad 4)]))] ++ (WE K (ad 4) (ad 5) (ad 6) (ad 7) r u9b.2.2.2.2.1 u9b.2.2.2.2.2.1 u9b.2.2.2.2.2.2.1 u9b.2.2.2.2.2.2.2 ++ (WD K q d ++ ([(ad 8, .inr (5, [.ref (ad 9)]))] ++ (WE K (ad 9) (ad 10) (ad 11) (ad 12) r2 M2 pv2 ip2 sv2 ++ (WH K (ad 1) (ad 2) f (nI s0) ++ (WD K q1 d1 ++ (WD K q2 d2)))))))))) H := hP
  have hD : va_D A ([(ad 0, .inr (6, [.ref (q 0), .ref (q1 0), .ref (q2 0), .int f1, .int f2, .ref (ad 1), .ref (ad 3), .ref (ad 8), .ref (g 0)]))] ++ (WG K g u9b.1 u9b.2.1 u9b.2.2.1 u9b.2.2.2.1 di (nI (gN d)) (nI 1) ++ ([(ad 3, .inr (4, [.ref (ad 4)]))] ++ (WE K (ad 4) (ad 5) (ad 6) (ad 7) r u9b.2.2.2.2.1 u9b.2.2.2.2.2.1 u9b.2.2.2.2.2.2.1 u9b.2.2.2.2.2.2.2 ++ (WD K q d ++ ([(ad 8, .inr (5, [.ref (ad 9)]))] ++ (WE K (ad 9) (ad 10) (ad 11) (ad 12) r2 M2 pv2 ip2 sv2 ++ (WH K (ad 1) (ad 2) f (nI s0) ++ (WD K q1 d1 ++ (WD K q2 d2)))))))))) := hD
  have hJ2 : II d (u9b.2.2.2.2.1, u9b.2.2.2.2.2.1, u9b.2.2.2.2.2.2.1, u9b.2.2.2.2.2.2.2, M2, pv2, ip2, sv2, u9b.1, u9b.2.1, u9b.2.2.1, u9b.2.2.2.1, di, (gN d), (nI 1)) := ⟨hn64b, Or.inr rfl, fun _ => ⟨rfl, htab⟩⟩
  refine lv_aload_n hx hb dX6_gear_15 rfl (lv_at hl 0 rfl) ?_
  refine va_get (D := D) (ci := 6) (C := RX6) (T := TX6) (N := 9) hx hb hts iX6 hown hK hP 0 rfl rfl 8 (by decide) (hts _ k_f_X6_46) (fun _ h9 => h9) rfl dX6_gear_16 ?_
  refine lv_iload_n hx hb dX6_gear_19 rfl (lv_at hl 1 rfl) ?_
  have hPq := P_perm pm_1 hP
  have hDq := D_perm pm_1 hD
  have hPc := bP0 hPq
  have hDc := bD0 hDq
  refine va_calli (va_runV (As := [.int x]) (rest := []) ⟨hx, hb, hml, hown, hts⟩ (c_X2_hasGear l D K g u9b.1 u9b.2.1 u9b.2.2.1 u9b.2.2.2.1 di (gN d) (nI 1) x H.size hn64b) (cwV 1 hts (TB_V k_m_X6_207 k_im_X2_hasGear k_se_X2_hasGear k_in_X2 k_co_X2_hasGear (fun _ h => h)) rfl rfl rfl (by decide +kernel) ⟨Nat.le_of_ble_eq_true rfl, Nat.le_of_ble_eq_true rfl⟩) ⟨cP_blind, va_recv hK hPc (ci := 2) (q0 := 0) rfl rfl, cP_of hPc hK hDc⟩ rfl rfl hl.1 rfl (lv_room (Nat.le_of_ble_eq_true rfl)) dX6_gear_20 ⟨Nat.le_of_ble_eq_true rfl, Nat.le_of_ble_eq_true rfl⟩) hS (fun q _ h => absurd h id) (fun q h => absurd h id) (fun rg u9 t9 H locs ht9 hvm hw hB hz1 hk1 hS => ?_)
  have hP := P_same hP hk1
  have hw : rg = bI (ger d x) := hw
  by_cases hgr : ger d x
  rotate_left
  · refine t_i (hw.trans (bI_f hgr).symm) ?_
    refine b_if_ne hx hb (nI_toIntI (by omega)) dX6_gear_23 (tgt := 36) (by decide) (fun c23 => absurd c23 (by omega)) (fun c23 => ?_)
    refine thr_54 hx hb hlf hown hts hTX (is := 210) (text := "there is no such gear") (by decide +kernel) hS (by rw [hml]; exact hl.1) dX6_gear_26 dX6_gear_29 dX6_gear_30 dX6_gear_32 dX6_gear_35 hxt (Nat.le_of_ble_eq_true rfl) (Nat.le_of_ble_eq_true rfl) (Nat.le_of_ble_eq_true rfl) (Nat.le_of_ble_eq_true rfl) hlocks (Nat.le_of_ble_eq_true rfl) (Nat.le_of_ble_eq_true rfl) (fun t9 hal hsz9 hkk => ?_)
    exact ⟨((d, d1, d2, f1, f2, f, s0), (u9b.2.2.2.2.1, u9b.2.2.2.2.2.1, u9b.2.2.2.2.2.2.1, u9b.2.2.2.2.2.2.2, M2, pv2, ip2, sv2, u9b.1, u9b.2.1, u9b.2.2.1, u9b.2.2.2.1, di, (gN d), (nI 1))), ⟨rfl, hJ2⟩, ⟨by rw [show rs_gear d x = _ from (cI_t (hgr))]; exact ⟨by decide, rfl⟩, hP.kept (fun k q h => hkk q.1 ((hP k q h).lt)), va_K.moved hal hK, hD⟩, Nat.le_trans hS.1 hsz9, fun q h1 h2 => (hkk q (Nat.lt_of_lt_of_le h1 hS.1)).trans (hS.2.1 q h1 h2)⟩
  refine t_i (hw.trans (bI_t hgr).symm) ?_
  obtain ⟨kg, hkg, rfl⟩ := id hgr
  have hkgn : (nI kg).toInt.toNat = kg := by rw [nI_toIntI (by omega)]; omega
  refine b_if_ne hx hb (nI_toIntI (by omega)) dX6_gear_23 (tgt := 36) (by decide) (fun c23 => ?_) (fun c23 => absurd c23 (by omega))
  refine lv_aload_n hx hb dX6_gear_36 rfl (lv_at hl 0 rfl) ?_
  refine va_get (D := D) (ci := 6) (C := RX6) (T := TX6) (N := 9) hx hb hts iX6 hown hK hP 0 rfl rfl 8 (by decide) (hts _ k_f_X6_46) (fun _ h9 => h9) rfl dX6_gear_37 ?_
  refine lv_iload_n hx hb dX6_gear_40 rfl (lv_at hl 1 rfl) ?_
  have hPq := P_perm pm_1 hP
  have hDq := D_perm pm_1 hD
  have hPc := bP0 hPq
  have hDc := bD0 hDq
  refine va_calli (va_runV (As := [.int (nI kg)]) (rest := []) ⟨hx, hb, hml, hown, hts⟩ (c_X2_maskOf l D K g u9b.1 u9b.2.1 u9b.2.2.1 u9b.2.2.2.1 di (gN d) (nI 1) kg H.size hn64b hkg) (cwV 1 hts (TB_V k_m_X6_212 k_im_X2_maskOf k_se_X2_maskOf k_in_X2 k_co_X2_maskOf (fun _ h => h)) rfl rfl rfl (by decide +kernel) ⟨Nat.le_of_ble_eq_true rfl, Nat.le_of_ble_eq_true rfl⟩) ⟨cP_blind, va_recv hK hPc (ci := 2) (q0 := 0) rfl rfl, cP_of hPc hK hDc⟩ rfl rfl hl.1 rfl (lv_room (Nat.le_of_ble_eq_true rfl)) dX6_gear_41 ⟨Nat.le_of_ble_eq_true rfl, Nat.le_of_ble_eq_true rfl⟩) hS (fun q _ h => absurd h id) (fun q h => absurd h id) (fun rm u9 t9 H locs ht9 hvm hw hB hz1 hk1 hS => ?_)
  have hP := P_same hP hk1
  obtain ⟨ht1, ht2, -⟩ := htab kg hkg
  refine t_i (hw.trans ht2) ?_
  refine vx_ret ?_
  exact W.widen (k := 1) (n := 6) (Nat.le_of_ble_eq_true rfl) (Nat.le_of_ble_eq_true rfl) (W.iret (v := nI (gF d kg)) hx hb hr (fun t9 ht9 hW => ⟨⟨nI (gF d kg), ((d, d1, d2, f1, f2, f, s0), (u9b.2.2.2.2.1, u9b.2.2.2.2.2.1, u9b.2.2.2.2.2.2.1, u9b.2.2.2.2.2.2.2, M2, pv2, ip2, sv2, u9b.1, u9b.2.1, u9b.2.2.1, u9b.2.2.2.1, di, (gN d), (nI 1))), rfl, ⟨rfl, hJ2, ((cI_f (fun z => z hgr)).trans (r0 (by rw [hkgn, nI_toIntI (by omega)])))⟩, by rw [ht9]; exact hP, va_K.moved hW.alike hK, hD⟩, hS.F ht9⟩) hS.2.2 dX6_gear_44)
set_option maxHeartbeats 4000000 in
set_option maxRecDepth 100000 in
theorem c_X6_indexOf (l : Launch) (hlf : l.stackTraces = false) (D : va_G) (K : Nat → ClassId) (ad q q1 q2 g r r2 : Nat → Nat) (v : CV) (i : CI) (x : Int32) (sz : Nat) (hI : IV v) (hJ : II v.1 i)  : vx_Met l yX6_indexOf (.code yX6_indexOf cX6_indexOf 2 (some .int) :: TB) ({ frames := 7, cells := 1, slots := 6, locals := 150 } : Room) (va_Pc [.ref (ad 0), .int x] (cPT D K (WX K ad q q1 q2 g r r2 v i) sz)) (va_Qi (fun (z : Int32) (u : CV × CI) => u.1 = v ∧ II u.1.1 u.2 ∧ rs_indexOf v.1 x = (0, z.toInt)) (fun (u : CV × CI) t => cB D K (va_A (WX K ad q q1 q2 g r r2 v i) sz) (WX K ad q q1 q2 g r r2 u.1 u.2) t) (va_A (WX K ad q q1 q2 g r r2 v i) sz)) (vx_X (fun (u : CV × CI) => u.1 = v ∧ II u.1.1 u.2) (fun E (u : CV × CI) t => exc [eIA] (rs_indexOf v.1 x).1 E ∧ cB D K (va_A (WX K ad q q1 q2 g r r2 v i) sz) (WX K ad q q1 q2 g r r2 u.1 u.2) t) (va_A (WX K ad q q1 q2 g r r2 v i) sz)) 1 6 (va_A (WX K ad q q1 q2 g r r2 v i) sz) := by
  refine vx_ofW (cc := cX6_indexOf) (maxL := 2) (ret := (some .int)) (by decide) rfl ?_
  intro p e s m args below meth c s₁ B hml hxt hv
  obtain ⟨rfl, ⟨hsz, hP, hK, hD0⟩, hTX⟩ := hv
  have hx := B.exec
  have hb := B.bytes
  have hr := B.returns
  have hts := hts_tl (atoms_spec (ws := (.code yX6_indexOf cX6_indexOf 2 (some .int) :: TB)) B.pre)
  have hown : s.vm.findClass RX6 = some m.cls := findClass_of_methodNamed B.named
  have hlocks := B.notSynchronized
  subst hsz
  have hD := hD0.self (sz := s.heap.size)
  generalize hAe : (va_A (WX K ad q q1 q2 g r r2 v i) s.heap.size) = A at hD hTX ⊢
  have hA : ∀ q : Nat, s.heap.size ≤ q → A q := fun q h => by rw [← hAe]; exact Or.inr h
  have hS : va_S A s.heap s.heap [] := va_S.rf
  clear hAe hD0
  obtain ⟨d, d1, d2, f1, f2, f, s0⟩ := v
  obtain ⟨M, pv, ip, sv, M2, pv2, ip2, sv2, ma, nu, de, ne, di, n, fr⟩ := i
  obtain ⟨hd, hd1, hd2, hf1, hf2, hs20, hhf⟩ := id hI
  obtain ⟨hn64, hfr, hT⟩ := id hJ
  dsimp only at hd hd1 hd2 hf1 hf2 hs20 hhf hn64 hfr hT
  obtain ⟨ns, m1, ge, hns, hm, hge, h0, h1, h2, hs9, he9⟩ := id hd
  have hm1 : dn d 8 1 = m1 := dn_of h1 (by omega)
  have hn1 : dn d 8 0 = ns := dn_of h0 (by omega)
  have hp6 : 2 ^ m1 ≤ 64 := Nat.pow_le_pow_right (show 0 < 2 by decide) hm
  have hg1 : dn d 8 2 = ge := dn_of h2 (by omega)
  have hP : va_P D vwCl ([(ad 0, .inr (6, [.ref (q 0), .ref (q1 0), .ref (q2 0), .int f1, .int f2, .ref (ad 1), .ref (ad 3), .ref (ad 8), .ref (g 0)]))] ++ (WG K g ma nu de ne di (nI n) fr ++ ([(ad 3, .inr (4, [.ref (ad 4)]))] ++ (WE K (ad 4) (ad 5) (ad 6) (ad 7) r M pv ip sv ++ (WD K q d ++ ([(ad 8, .inr (5, [.ref (ad 9)]))] ++ (WE K (ad 9) (ad 10) (ad 11) (ad 12) r2 M2 pv2 ip2 sv2 ++ (WH K (ad 1) (ad 2) f (nI s0) ++ (WD K q1 d1 ++ (WD K q2 d2)))))))))) s.heap := hP
  have hD : va_D A ([(ad 0, .inr (6, [.ref (q 0), .ref (q1 0), .ref (q2 0), .int f1, .int f2, .ref (ad 1), .ref (ad 3), .ref (ad 8), .ref (g 0)]))] ++ (WG K g ma nu de ne di (nI n) fr ++ ([(ad 3, .inr (4, [.ref (ad 4)]))] ++ (WE K (ad 4) (ad 5) (ad 6) (ad 7) r M pv ip sv ++ (WD K q d ++ ([(ad 8, .inr (5, [.ref (ad 9)]))] ++ (WE K (ad 9) (ad 10) (ad 11) (ad 12) r2 M2 pv2 ip2 sv2 ++ (WH K (ad 1) (ad 2) f (nI s0) ++ (WD K q1 d1 ++ (WD K q2 d2)))))))))) := hD
  have hl := lv_entry ([.ref (ad 0), .int x]) (n := 2) (Nat.le_of_ble_eq_true rfl)
  rw [lg_entry_eq]
  generalize (lg_sl ([.ref (ad 0), .int x]) ++ List.replicate (2 - (lg_sl ([.ref (ad 0), .int x])).length) Slot.unset).toArray = ls at hl ⊢
  have hl : lv_has ls 2 [(0, .ref (ad 0)), (1, .int x)] := hl
  refine lv_aload_n hx hb dX6_indexOf_0 rfl (lv_at hl 0 rfl) ?_
  refine va_get (D := D) (ci := 6) (C := RX6) (T := TX6) (N := 9) hx hb hts iX6 hown hK hP 0 rfl rfl 0 (by decide) (hts _ k_f_X6_12) (fun _ h9 => h9) rfl dX6_indexOf_1 ?_
  refine lv_iload_n hx hb dX6_indexOf_4 rfl (lv_at hl 1 rfl) ?_
  have hPq := P_perm pm_4 hP
  have hDq := D_perm pm_4 hD
  have hPc := bP0 hPq
  have hDc := bD0 hDq
  refine va_calli (va_runV (As := [.int x]) (rest := []) ⟨hx, hb, hml, hown, hts⟩ (c_X0_hasElements l D K q d m1 x s.heap.size hm h1) (cwV 1 hts (TB_V k_m_X6_129 k_im_X0_hasElements k_se_X0_hasElements k_in_X0 k_co_X0_hasElements (fun _ h => h)) rfl rfl rfl (by decide +kernel) ⟨Nat.le_of_ble_eq_true rfl, Nat.le_of_ble_eq_true rfl⟩) ⟨cP_blind, va_recv hK hPc (ci := 0) (q0 := 0) rfl rfl, cP_of hPc hK hDc⟩ rfl rfl hl.1 rfl (lv_room (Nat.le_of_ble_eq_true rfl)) dX6_indexOf_5 ⟨Nat.le_of_ble_eq_true rfl, Nat.le_of_ble_eq_true rfl⟩) hS (fun q _ h => absurd h id) (fun q h => absurd h id) (fun he u9 t9 H locs ht9 hvm hw hB hz1 hk1 hS => ?_)
  have hP := P_same hP hk1
  have hw := hw.trans (bI_iff (show _ ↔ msk d x by unfold msk; rw [hm1]))
  by_cases hms : msk d x
  rotate_left
  · refine t_i (hw.trans (bI_f hms).symm) ?_
    refine b_if_ne hx hb (nI_toIntI (by omega)) dX6_indexOf_8 (tgt := 21) (by decide) (fun c8 => absurd c8 (by omega)) (fun c8 => ?_)
    refine thr_61 hx hb hlf hown hts hTX (is := 132) (text := "the mask is negative or has an element too many") (by decide +kernel) hS (by rw [hml]; exact hl.1) dX6_indexOf_11 dX6_indexOf_14 dX6_indexOf_15 dX6_indexOf_17 dX6_indexOf_20 hxt (Nat.le_of_ble_eq_true rfl) (Nat.le_of_ble_eq_true rfl) (Nat.le_of_ble_eq_true rfl) (Nat.le_of_ble_eq_true rfl) hlocks (Nat.le_of_ble_eq_true rfl) (Nat.le_of_ble_eq_true rfl) (fun t9 hal hsz9 hkk => ?_)
    exact ⟨((d, d1, d2, f1, f2, f, s0), (M, pv, ip, sv, M2, pv2, ip2, sv2, ma, nu, de, ne, di, n, fr)), ⟨rfl, hJ⟩, ⟨by rw [show rs_indexOf d x = _ from (cI_t (hms))]; exact ⟨by decide, rfl⟩, hP.kept (fun k q h => hkk q.1 ((hP k q h).lt)), va_K.moved hal hK, hD⟩, Nat.le_trans hS.1 hsz9, fun q h1 h2 => (hkk q (Nat.lt_of_lt_of_le h1 hS.1)).trans (hS.2.1 q h1 h2)⟩
  refine t_i (hw.trans (bI_t hms).symm) ?_
  obtain ⟨kx, hkx, rfl⟩ := id hms
  have hkx2 := hkx
  rw [hm1] at hkx2
  refine b_if_ne hx hb (nI_toIntI (by omega)) dX6_indexOf_8 (tgt := 21) (by decide) (fun c8 => ?_) (fun c8 => absurd c8 (by omega))
  refine lv_aload_n hx hb dX6_indexOf_21 rfl (lv_at hl 0 rfl) ?_
  refine va_get (D := D) (ci := 6) (C := RX6) (T := TX6) (N := 9) hx hb hts iX6 hown hK hP 0 rfl rfl 8 (by decide) (hts _ k_f_X6_46) (fun _ h9 => h9) rfl dX6_indexOf_22 ?_
  refine lv_aload_n hx hb dX6_indexOf_25 rfl (lv_at hl 0 rfl) ?_
  refine va_get (D := D) (ci := 6) (C := RX6) (T := TX6) (N := 9) hx hb hts iX6 hown hK hP 0 rfl rfl 0 (by decide) (hts _ k_f_X6_12) (fun _ h9 => h9) rfl dX6_indexOf_26 ?_
  refine lv_aload_n hx hb dX6_indexOf_29 rfl (lv_at hl 0 rfl) ?_
  refine va_get (D := D) (ci := 6) (C := RX6) (T := TX6) (N := 9) hx hb hts iX6 hown hK hP 0 rfl rfl 6 (by decide) (hts _ k_f_X6_32) (fun _ h9 => h9) rfl dX6_indexOf_30 ?_
  have hPq := P_perm pm_1234 hP
  have hDq := D_perm pm_1234 hD
  have hPc := bP0 hPq
  have hDc := bD0 hDq
  have hFc := bF0 hDq hS hA
  refine va_callv (va_runV (As := [.ref (q 0), .ref (ad 3)]) (rest := []) ⟨hx, hb, hml, hown, hts⟩ (c_X2_refresh l D K g ma nu de ne di n fr (ad 3) (ad 4) (ad 5) (ad 6) (ad 7) r M pv ip sv q d H.size hn64 hd hfr hT) (cwV 2 hts (TB_V k_m_X6_116 k_im_X2_refresh k_se_X2_refresh k_in_X2 k_co_X2_refresh (fun _ h => h)) rfl rfl rfl (by decide +kernel) ⟨Nat.le_of_ble_eq_true rfl, Nat.le_of_ble_eq_true rfl⟩) ⟨cP_blind, va_recv hK hPc (ci := 2) (q0 := 0) rfl rfl, cP_of hPc hK hDc⟩ rfl rfl hl.1 rfl (lv_room (Nat.le_of_ble_eq_true rfl)) dX6_indexOf_33 ⟨Nat.le_of_ble_eq_true rfl, Nat.le_of_ble_eq_true rfl⟩) hS (fun q _ h => hFc q h) hFc (fun u9 t9 H locs ht9 hvm hw hB hz1 hk1 hS => ?_)
  obtain ⟨hP1, hK1, hD1⟩ := hB
  rw [ht9] at hP1
  obtain ⟨hPq1, hDq1⟩ := bJ0 hPq hDq hk1 hFc hP1 hD1
  have hP := P_perm (pm_1234 (X0 := _)).symm hPq1
  have hD := D_perm (pm_1234 (X0 := _)).symm hDq1
  have hP : va_P D vwCl ([(ad 0, .inr (6, [.ref (q 0), .ref (q1 0), .ref (q2 0), .int f1, .int f2, .ref (ad 1), .ref (ad 3), .ref (ad 8), .ref (g 0)]))] ++ (WG K g u9.2.1 u9.2.2.1 u9.2.2.2.1 u9.2.2.2.2.1 di (nI u9.1) (nI 1) ++ ([(ad 3, .inr (4, [.ref (ad 4)]))] ++ (WE K (ad 4) (ad 5) (ad 6) (ad 7) r u9.2.2.2.2.2.1 u9.2.2.2.2.2.2.1 u9.2.2.2.2.2.2.2.1 u9.2.2.2.2.2.2.2.2 ++ (WD K q d ++ ([(ad 8, .inr (5, [.ref (ad 9)]))] ++ (WE K (ad 9) (ad 10) (ad 11) (ad 12) r2 M2 pv2 ip2 sv2 ++ (WH K (ad 1) (ad 2) f (nI s0) ++ (WD K q1 d1 ++ (WD K q2 d2)))))))))) H := hP
  have hD : va_D A ([(ad 0, .inr (6, [.ref (q 0), .ref (q1 0), .ref (q2 0), .int f1, .int f2, .ref (ad 1), .ref (ad 3), .ref (ad 8), .ref (g 0)]))] ++ (WG K g u9.2.1 u9.2.2.1 u9.2.2.2.1 u9.2.2.2.2.1 di (nI u9.1) (nI 1) ++ ([(ad 3, .inr (4, [.ref (ad 4)]))] ++ (WE K (ad 4) (ad 5) (ad 6) (ad 7) r u9.2.2.2.2.2.1 u9.2.2.2.2.2.2.1 u9.2.2.2.2.2.2.2.1 u9.2.2.2.2.2.2.2.2 ++ (WD K q d ++ ([(ad 8, .inr (5, [.ref (ad 9)]))] ++ (WE K (ad 9) (ad 10) (ad 11) (ad 12) r2 M2 pv2 ip2 sv2 ++ (WH K (ad 1) (ad 2) f (nI s0) ++ (WD K q1 d1 ++ (WD K q2 d2)))))))))) := hD
  obtain ⟨u9a, u9b⟩ := u9
  obtain ⟨hgn, htab⟩ := hw
  dsimp only at hgn htab
  subst hgn
  have hn64b := gN_le d
  have hP : va_P D vwCl ([(ad 0, .inr (6, [.ref (q 0), .ref (q1 0), .ref (q2 0), .int f1, .int f2, .ref (ad 1), .ref (ad 3), .ref (ad 8), .ref (g 0)]))] ++ (WG K g u9b.1 u9b.2.1 u9b.2.2.1 u9b.2.2.2.1 di (nI (gN d)) (nI 1) ++ ([(ad 3, .inr (4, [.ref (ad 4)]))] ++ (WE K (ad 4) (ad 5) (ad 6) (ad 7) r u9b.2.2.2.2.1 u9b.2.2.2.2.2.1 u9b.2.2.2.2.2.2.1 u9b.2.2.2.2.2.2.2 ++ (WD K q d ++ ([(ad 8, .inr (5, [.ref (ad 9)]))] ++ (WE K (ad 9) (ad 10) (ad 11) (ad 12) r2 M2 pv2 ip2 sv2 ++ (WH K (ad 1) (ad 2) f (nI s0) ++ (WD K q1 d1 ++ (WD K q2 d2)))))))))) H := hP
  have hD : va_D A ([(ad 0, .inr (6, [.ref (q 0), .ref (q1 0), .ref (q2 0), .int f1, .int f2, .ref (ad 1), .ref (ad 3), .ref (ad 8), .ref (g 0)]))] ++ (WG K g u9b.1 u9b.2.1 u9b.2.2.1 u9b.2.2.2.1 di (nI (gN d)) (nI 1) ++ ([(ad 3, .inr (4, [.ref (ad 4)]))] ++ (WE K (ad 4) (ad 5) (ad 6) (ad 7) r u9b.2.2.2.2.1 u9b.2.2.2.2.2.1 u9b.2.2.2.2.2.2.1 u9b.2.2.2.2.2.2.2 ++ (WD K q d ++ ([(ad 8, .inr (5, [.ref (ad 9)]))] ++ (WE K (ad 9) (ad 10) (ad 11) (ad 12) r2 M2 pv2 ip2 sv2 ++ (WH K (ad 1) (ad 2) f (nI s0) ++ (WD K q1 d1 ++ (WD K q2 d2)))))))))) := hD
  have hJ2 : II d (u9b.2.2.2.2.1, u9b.2.2.2.2.2.1, u9b.2.2.2.2.2.2.1, u9b.2.2.2.2.2.2.2, M2, pv2, ip2, sv2, u9b.1, u9b.2.1, u9b.2.2.1, u9b.2.2.2.1, di, (gN d), (nI 1)) := ⟨hn64b, Or.inr rfl, fun _ => ⟨rfl, htab⟩⟩
  refine lv_aload_n hx hb dX6_indexOf_36 rfl (lv_at hl 0 rfl) ?_
  refine va_get (D := D) (ci := 6) (C := RX6) (T := TX6) (N := 9) hx hb hts iX6 hown hK hP 0 rfl rfl 8 (by decide) (hts _ k_f_X6_46) (fun _ h9 => h9) rfl dX6_indexOf_37 ?_
  refine lv_iload_n hx hb dX6_indexOf_40 rfl (lv_at hl 1 rfl) ?_
  have hPq := P_perm pm_1 hP
  have hDq := D_perm pm_1 hD
  have hPc := bP0 hPq
  have hDc := bD0 hDq
  refine va_calli (va_runV (As := [.int (nI kx)]) (rest := []) ⟨hx, hb, hml, hown, hts⟩ (c_X2_find l D K g u9b.1 u9b.2.1 u9b.2.2.1 u9b.2.2.2.1 di (gN d) (nI 1) (nI kx) H.size hn64b) (cwV 1 hts (TB_V k_m_X6_215 k_im_X2_find k_se_X2_find k_in_X2 k_co_X2_find (fun _ h => h)) rfl rfl rfl (by decide +kernel) ⟨Nat.le_of_ble_eq_true rfl, Nat.le_of_ble_eq_true rfl⟩) ⟨cP_blind, va_recv hK hPc (ci := 2) (q0 := 0) rfl rfl, cP_of hPc hK hDc⟩ rfl rfl hl.1 rfl (lv_room (Nat.le_of_ble_eq_true rfl)) dX6_indexOf_41 ⟨Nat.le_of_ble_eq_true rfl, Nat.le_of_ble_eq_true rfl⟩) hS (fun q _ h => absurd h id) (fun q h => absurd h id) (fun rf u9 t9 H locs ht9 hvm hw hB hz1 hk1 hS => ?_)
  have hP := P_same hP hk1
  have hmi : ∀ j, j < gN d → (u9b.1 j = nI kx ↔ (gF d j : Int) = (nI kx).toInt) := fun j hj => by
    have hj1 := (htab j hj).1
    rw [(htab j hj).2.1, nI_eq (by omega) (by omega), nI_toIntI (by omega)]; omega
  have hfin : rs_indexOf d (nI kx) = (0, rf.toInt) := by
    refine (cI_f (fun z => z hms)).trans ?_
    rcases hw with ⟨i9, hi9, e1, e2, e3⟩ | ⟨e1, e3⟩
    · refine (cI_t ⟨i9, hi9, (hmi i9 hi9).mp e2⟩).trans (r0 ?_)
      rw [lstF_eq hi9 ((hmi i9 hi9).mp e2) (fun j hj z => e3 j hj ((hmi j (by omega)).mpr z)), e1, nI_toIntI (by omega)]
    · refine (cI_f (fun ⟨j, hj, z⟩ => e3 j hj ((hmi j hj).mpr z))).trans (r0 ?_)
      rw [e1]; decide
  refine vx_ret ?_
  exact W.widen (k := 1) (n := 6) (Nat.le_of_ble_eq_true rfl) (Nat.le_of_ble_eq_true rfl) (W.iret (v := rf) hx hb hr (fun t9 ht9 hW => ⟨⟨rf, ((d, d1, d2, f1, f2, f, s0), (u9b.2.2.2.2.1, u9b.2.2.2.2.2.1, u9b.2.2.2.2.2.2.1, u9b.2.2.2.2.2.2.2, M2, pv2, ip2, sv2, u9b.1, u9b.2.1, u9b.2.2.1, u9b.2.2.2.1, di, (gN d), (nI 1))), rfl, ⟨rfl, hJ2, hfin⟩, by rw [ht9]; exact hP, va_K.moved hW.alike hK, hD⟩, hS.F ht9⟩) hS.2.2 dX6_indexOf_44)
set_option maxHeartbeats 4000000 in
set_option maxRecDepth 100000 in
theorem c_X6_gearRatio (l : Launch) (hlf : l.stackTraces = false) (D : va_G) (K : Nat → ClassId) (ad q q1 q2 g r r2 : Nat → Nat) (v : CV) (i : CI) (x : Int32) (y : Int32) (sz : Nat) (hI : IV v) (hJ : II v.1 i)  : vx_Met l yX6_gearRatio (.code yX6_gearRatio cX6_gearRatio 3 (some .long) :: TB) ({ frames := 7, cells := 1, slots := 6, locals := 150 } : Room) (va_Pc [.ref (ad 0), .int x, .int y] (cPT D K (WX K ad q q1 q2 g r r2 v i) sz)) (va_Ql (fun (z : Int64) (u : CV × CI) => u.1 = v ∧ II u.1.1 u.2 ∧ rs_gearRatio v.1 x y = (0, z.toInt)) (fun (u : CV × CI) t => cB D K (va_A (WX K ad q q1 q2 g r r2 v i) sz) (WX K ad q q1 q2 g r r2 u.1 u.2) t) (va_A (WX K ad q q1 q2 g r r2 v i) sz)) (vx_X (fun (u : CV × CI) => u.1 = v ∧ II u.1.1 u.2) (fun E (u : CV × CI) t => exc [eIO, eIA] (rs_gearRatio v.1 x y).1 E ∧ cB D K (va_A (WX K ad q q1 q2 g r r2 v i) sz) (WX K ad q q1 q2 g r r2 u.1 u.2) t) (va_A (WX K ad q q1 q2 g r r2 v i) sz)) 1 6 (va_A (WX K ad q q1 q2 g r r2 v i) sz) := by
  refine vx_ofW (cc := cX6_gearRatio) (maxL := 3) (ret := (some .long)) (by decide) rfl ?_
  intro p e s m args below meth c s₁ B hml hxt hv
  obtain ⟨rfl, ⟨hsz, hP, hK, hD0⟩, hTX⟩ := hv
  have hx := B.exec
  have hb := B.bytes
  have hr := B.returns
  have hts := hts_tl (atoms_spec (ws := (.code yX6_gearRatio cX6_gearRatio 3 (some .long) :: TB)) B.pre)
  have hown : s.vm.findClass RX6 = some m.cls := findClass_of_methodNamed B.named
  have hlocks := B.notSynchronized
  subst hsz
  have hD := hD0.self (sz := s.heap.size)
  generalize hAe : (va_A (WX K ad q q1 q2 g r r2 v i) s.heap.size) = A at hD hTX ⊢
  have hA : ∀ q : Nat, s.heap.size ≤ q → A q := fun q h => by rw [← hAe]; exact Or.inr h
  have hS : va_S A s.heap s.heap [] := va_S.rf
  clear hAe hD0
  obtain ⟨d, d1, d2, f1, f2, f, s0⟩ := v
  obtain ⟨M, pv, ip, sv, M2, pv2, ip2, sv2, ma, nu, de, ne, di, n, fr⟩ := i
  obtain ⟨hd, hd1, hd2, hf1, hf2, hs20, hhf⟩ := id hI
  obtain ⟨hn64, hfr, hT⟩ := id hJ
  dsimp only at hd hd1 hd2 hf1 hf2 hs20 hhf hn64 hfr hT
  obtain ⟨ns, m1, ge, hns, hm, hge, h0, h1, h2, hs9, he9⟩ := id hd
  have hm1 : dn d 8 1 = m1 := dn_of h1 (by omega)
  have hn1 : dn d 8 0 = ns := dn_of h0 (by omega)
  have hp6 : 2 ^ m1 ≤ 64 := Nat.pow_le_pow_right (show 0 < 2 by decide) hm
  have hg1 : dn d 8 2 = ge := dn_of h2 (by omega)
  have hP : va_P D vwCl ([(ad 0, .inr (6, [.ref (q 0), .ref (q1 0), .ref (q2 0), .int f1, .int f2, .ref (ad 1), .ref (ad 3), .ref (ad 8), .ref (g 0)]))] ++ (WG K g ma nu de ne di (nI n) fr ++ ([(ad 3, .inr (4, [.ref (ad 4)]))] ++ (WE K (ad 4) (ad 5) (ad 6) (ad 7) r M pv ip sv ++ (WD K q d ++ ([(ad 8, .inr (5, [.ref (ad 9)]))] ++ (WE K (ad 9) (ad 10) (ad 11) (ad 12) r2 M2 pv2 ip2 sv2 ++ (WH K (ad 1) (ad 2) f (nI s0) ++ (WD K q1 d1 ++ (WD K q2 d2)))))))))) s.heap := hP
  have hD : va_D A ([(ad 0, .inr (6, [.ref (q 0), .ref (q1 0), .ref (q2 0), .int f1, .int f2, .ref (ad 1), .ref (ad 3), .ref (ad 8), .ref (g 0)]))] ++ (WG K g ma nu de ne di (nI n) fr ++ ([(ad 3, .inr (4, [.ref (ad 4)]))] ++ (WE K (ad 4) (ad 5) (ad 6) (ad 7) r M pv ip sv ++ (WD K q d ++ ([(ad 8, .inr (5, [.ref (ad 9)]))] ++ (WE K (ad 9) (ad 10) (ad 11) (ad 12) r2 M2 pv2 ip2 sv2 ++ (WH K (ad 1) (ad 2) f (nI s0) ++ (WD K q1 d1 ++ (WD K q2 d2)))))))))) := hD
  have hl := lv_entry ([.ref (ad 0), .int x, .int y]) (n := 3) (Nat.le_of_ble_eq_true rfl)
  rw [lg_entry_eq]
  generalize (lg_sl ([.ref (ad 0), .int x, .int y]) ++ List.replicate (3 - (lg_sl ([.ref (ad 0), .int x, .int y])).length) Slot.unset).toArray = ls at hl ⊢
  have hl : lv_has ls 3 [(0, .ref (ad 0)), (1, .int x), (2, .int y)] := hl
  refine lv_aload_n hx hb dX6_gearRatio_0 rfl (lv_at hl 0 rfl) ?_
  refine va_get (D := D) (ci := 6) (C := RX6) (T := TX6) (N := 9) hx hb hts iX6 hown hK hP 0 rfl rfl 8 (by decide) (hts _ k_f_X6_46) (fun _ h9 => h9) rfl dX6_gearRatio_1 ?_
  refine lv_aload_n hx hb dX6_gearRatio_4 rfl (lv_at hl 0 rfl) ?_
  refine va_get (D := D) (ci := 6) (C := RX6) (T := TX6) (N := 9) hx hb hts iX6 hown hK hP 0 rfl rfl 0 (by decide) (hts _ k_f_X6_12) (fun _ h9 => h9) rfl dX6_gearRatio_5 ?_
  refine lv_aload_n hx hb dX6_gearRatio_8 rfl (lv_at hl 0 rfl) ?_
  refine va_get (D := D) (ci := 6) (C := RX6) (T := TX6) (N := 9) hx hb hts iX6 hown hK hP 0 rfl rfl 6 (by decide) (hts _ k_f_X6_32) (fun _ h9 => h9) rfl dX6_gearRatio_9 ?_
  have hPq := P_perm pm_1234 hP
  have hDq := D_perm pm_1234 hD
  have hPc := bP0 hPq
  have hDc := bD0 hDq
  have hFc := bF0 hDq hS hA
  refine va_callv (va_runV (As := [.ref (q 0), .ref (ad 3)]) (rest := []) ⟨hx, hb, hml, hown, hts⟩ (c_X2_refresh l D K g ma nu de ne di n fr (ad 3) (ad 4) (ad 5) (ad 6) (ad 7) r M pv ip sv q d s.heap.size hn64 hd hfr hT) (cwV 2 hts (TB_V k_m_X6_116 k_im_X2_refresh k_se_X2_refresh k_in_X2 k_co_X2_refresh (fun _ h => h)) rfl rfl rfl (by decide +kernel) ⟨Nat.le_of_ble_eq_true rfl, Nat.le_of_ble_eq_true rfl⟩) ⟨cP_blind, va_recv hK hPc (ci := 2) (q0 := 0) rfl rfl, cP_of hPc hK hDc⟩ rfl rfl hl.1 rfl (lv_room (Nat.le_of_ble_eq_true rfl)) dX6_gearRatio_12 ⟨Nat.le_of_ble_eq_true rfl, Nat.le_of_ble_eq_true rfl⟩) hS (fun q _ h => hFc q h) hFc (fun u9 t9 H locs ht9 hvm hw hB hz1 hk1 hS => ?_)
  obtain ⟨hP1, hK1, hD1⟩ := hB
  rw [ht9] at hP1
  obtain ⟨hPq1, hDq1⟩ := bJ0 hPq hDq hk1 hFc hP1 hD1
  have hP := P_perm (pm_1234 (X0 := _)).symm hPq1
  have hD := D_perm (pm_1234 (X0 := _)).symm hDq1
  have hP : va_P D vwCl ([(ad 0, .inr (6, [.ref (q 0), .ref (q1 0), .ref (q2 0), .int f1, .int f2, .ref (ad 1), .ref (ad 3), .ref (ad 8), .ref (g 0)]))] ++ (WG K g u9.2.1 u9.2.2.1 u9.2.2.2.1 u9.2.2.2.2.1 di (nI u9.1) (nI 1) ++ ([(ad 3, .inr (4, [.ref (ad 4)]))] ++ (WE K (ad 4) (ad 5) (ad 6) (ad 7) r u9.2.2.2.2.2.1 u9.2.2.2.2.2.2.1 u9.2.2.2.2.2.2.2.1 u9.2.2.2.2.2.2.2.2 ++ (WD K q d ++ ([(ad 8, .inr (5, [.ref (ad 9)]))] ++ (WE K (ad 9) (ad 10) (ad 11) (ad 12) r2 M2 pv2 ip2 sv2 ++ (WH K (ad 1) (ad 2) f (nI s0) ++ (WD K q1 d1 ++ (WD K q2 d2)))))))))) H := hP
  have hD : va_D A ([(ad 0, .inr (6, [.ref (q 0), .ref (q1 0), .ref (q2 0), .int f1, .int f2, .ref (ad 1), .ref (ad 3), .ref (ad 8), .ref (g 0)]))] ++ (WG K g u9.2.1 u9.2.2.1 u9.2.2.2.1 u9.2.2.2.2.1 di (nI u9.1) (nI 1) ++ ([(ad 3, .inr (4, [.ref (ad 4)]))] ++ (WE K (ad 4) (ad 5) (ad 6) (ad 7) r u9.2.2.2.2.2.1 u9.2.2.2.2.2.2.1 u9.2.2.2.2.2.2.2.1 u9.2.2.2.2.2.2.2.2 ++ (WD K q d ++ ([(ad 8, .inr (5, [.ref (ad 9)]))] ++ (WE K (ad 9) (ad 10) (ad 11) (ad 12) r2 M2 pv2 ip2 sv2 ++ (WH K (ad 1) (ad 2) f (nI s0) ++ (WD K q1 d1 ++ (WD K q2 d2)))))))))) := hD
  obtain ⟨u9a, u9b⟩ := u9
  obtain ⟨hgn, htab⟩ := hw
  dsimp only at hgn htab
  subst hgn
  have hn64b := gN_le d
  have hP : va_P D vwCl ([(ad 0, .inr (6, [.ref (q 0), .ref (q1 0), .ref (q2 0), .int f1, .int f2, .ref (ad 1), .ref (ad 3), .ref (ad 8), .ref (g 0)]))] ++ (WG K g u9b.1 u9b.2.1 u9b.2.2.1 u9b.2.2.2.1 di (nI (gN d)) (nI 1) ++ ([(ad 3, .inr (4, [.ref (ad 4)]))] ++ (WE K (ad 4) (ad 5) (ad 6) (ad 7) r u9b.2.2.2.2.1 u9b.2.2.2.2.2.1 u9b.2.2.2.2.2.2.1 u9b.2.2.2.2.2.2.2 ++ (WD K q d ++ ([(ad 8, .inr (5, [.ref (ad 9)]))] ++ (WE K (ad 9) (ad 10) (ad 11) (ad 12) r2 M2 pv2 ip2 sv2 ++ (WH K (ad 1) (ad 2) f (nI s0) ++ (WD K q1 d1 ++ (WD K q2 d2)))))))))) H := hP
  have hD : va_D A ([(ad 0, .inr (6, [.ref (q 0), .ref (q1 0), .ref (q2 0), .int f1, .int f2, .ref (ad 1), .ref (ad 3), .ref (ad 8), .ref (g 0)]))] ++ (WG K g u9b.1 u9b.2.1 u9b.2.2.1 u9b.2.2.2.1 di (nI (gN d)) (nI 1) ++ ([(ad 3, .inr (4, [.ref (ad 4)]))] ++ (WE K (ad 4) (ad 5) (ad 6) (ad 7) r u9b.2.2.2.2.1 u9b.2.2.2.2.2.1 u9b.2.2.2.2.2.2.1 u9b.2.2.2.2.2.2.2 ++ (WD K q d ++ ([(ad 8, .inr (5, [.ref (ad 9)]))] ++ (WE K (ad 9) (ad 10) (ad 11) (ad 12) r2 M2 pv2 ip2 sv2 ++ (WH K (ad 1) (ad 2) f (nI s0) ++ (WD K q1 d1 ++ (WD K q2 d2)))))))))) := hD
  have hJ2 : II d (u9b.2.2.2.2.1, u9b.2.2.2.2.2.1, u9b.2.2.2.2.2.2.1, u9b.2.2.2.2.2.2.2, M2, pv2, ip2, sv2, u9b.1, u9b.2.1, u9b.2.2.1, u9b.2.2.2.1, di, (gN d), (nI 1)) := ⟨hn64b, Or.inr rfl, fun _ => ⟨rfl, htab⟩⟩
  refine lv_aload_n hx hb dX6_gearRatio_15 rfl (lv_at hl 0 rfl) ?_
  refine va_get (D := D) (ci := 6) (C := RX6) (T := TX6) (N := 9) hx hb hts iX6 hown hK hP 0 rfl rfl 8 (by decide) (hts _ k_f_X6_46) (fun _ h9 => h9) rfl dX6_gearRatio_16 ?_
  refine lv_iload_n hx hb dX6_gearRatio_19 rfl (lv_at hl 1 rfl) ?_
  have hPq := P_perm pm_1 hP
  have hDq := D_perm pm_1 hD
  have hPc := bP0 hPq
  have hDc := bD0 hDq
  refine va_calli (va_runV (As := [.int x]) (rest := []) ⟨hx, hb, hml, hown, hts⟩ (c_X2_hasGear l D K g u9b.1 u9b.2.1 u9b.2.2.1 u9b.2.2.2.1 di (gN d) (nI 1) x H.size hn64b) (cwV 1 hts (TB_V k_m_X6_207 k_im_X2_hasGear k_se_X2_hasGear k_in_X2 k_co_X2_hasGear (fun _ h => h)) rfl rfl rfl (by decide +kernel) ⟨Nat.le_of_ble_eq_true rfl, Nat.le_of_ble_eq_true rfl⟩) ⟨cP_blind, va_recv hK hPc (ci := 2) (q0 := 0) rfl rfl, cP_of hPc hK hDc⟩ rfl rfl hl.1 rfl (lv_room (Nat.le_of_ble_eq_true rfl)) dX6_gearRatio_20 ⟨Nat.le_of_ble_eq_true rfl, Nat.le_of_ble_eq_true rfl⟩) hS (fun q _ h => absurd h id) (fun q h => absurd h id) (fun rg u9 t9 H locs ht9 hvm hw hB hz1 hk1 hS => ?_)
  have hP := P_same hP hk1
  have hw : rg = bI (ger d x) := hw
  by_cases hgr : ger d x
  rotate_left
  · refine t_i (hw.trans (bI_f hgr).symm) ?_
    refine b_if_ne hx hb (nI_toIntI (by omega)) dX6_gearRatio_23 (tgt := 36) (by decide) (fun c23 => absurd c23 (by omega)) (fun c23 => ?_)
    refine thr_54 hx hb hlf hown hts hTX (is := 210) (text := "there is no such gear") (by decide +kernel) hS (by rw [hml]; exact hl.1) dX6_gearRatio_26 dX6_gearRatio_29 dX6_gearRatio_30 dX6_gearRatio_32 dX6_gearRatio_35 hxt (Nat.le_of_ble_eq_true rfl) (Nat.le_of_ble_eq_true rfl) (Nat.le_of_ble_eq_true rfl) (Nat.le_of_ble_eq_true rfl) hlocks (Nat.le_of_ble_eq_true rfl) (Nat.le_of_ble_eq_true rfl) (fun t9 hal hsz9 hkk => ?_)
    exact ⟨((d, d1, d2, f1, f2, f, s0), (u9b.2.2.2.2.1, u9b.2.2.2.2.2.1, u9b.2.2.2.2.2.2.1, u9b.2.2.2.2.2.2.2, M2, pv2, ip2, sv2, u9b.1, u9b.2.1, u9b.2.2.1, u9b.2.2.2.1, di, (gN d), (nI 1))), ⟨rfl, hJ2⟩, ⟨by rw [show rs_gearRatio d x y = _ from (cI_t (hgr))]; exact ⟨by decide, rfl⟩, hP.kept (fun k q h => hkk q.1 ((hP k q h).lt)), va_K.moved hal hK, hD⟩, Nat.le_trans hS.1 hsz9, fun q h1 h2 => (hkk q (Nat.lt_of_lt_of_le h1 hS.1)).trans (hS.2.1 q h1 h2)⟩
  refine t_i (hw.trans (bI_t hgr).symm) ?_
  obtain ⟨kg, hkg, rfl⟩ := id hgr
  have hkgn : (nI kg).toInt.toNat = kg := by rw [nI_toIntI (by omega)]; omega
  refine b_if_ne hx hb (nI_toIntI (by omega)) dX6_gearRatio_23 (tgt := 36) (by decide) (fun c23 => ?_) (fun c23 => absurd c23 (by omega))
  refine lv_iload_n hx hb dX6_gearRatio_36 rfl (lv_at hl 2 rfl) ?_
  refine va_calli (va_runS (As := [.int y]) (rest := []) ⟨hx, hb, hml, hown, hts⟩ (c_X6_isPart l y ) (va_cwS 1 hts (TB_S k_m_X6_158 k_st_X6_isPart k_in_X6 k_co_X6_isPart (fun _ h => h)) rfl rfl rfl (by decide +kernel) ⟨Nat.le_of_ble_eq_true rfl, Nat.le_of_ble_eq_true rfl⟩) ⟨tP_blind, tP_of⟩ rfl rfl hl.1 rfl (lv_room (Nat.le_of_ble_eq_true rfl)) dX6_gearRatio_37 ⟨Nat.le_of_ble_eq_true rfl, Nat.le_of_ble_eq_true rfl⟩) hS (fun q _ h => absurd h id) (fun q h => absurd h id) (fun rs u9 t9 H locs ht9 hvm hw hB hz1 hk1 hS => ?_)
  have hP := P_same hP hk1
  by_cases hprt : prt y
  rotate_left
  · refine t_i (hw.trans (bI_f hprt).symm) ?_
    refine b_if_ne hx hb (nI_toIntI (by omega)) dX6_gearRatio_40 (tgt := 53) (by decide) (fun c40 => absurd c40 (by omega)) (fun c40 => ?_)
    refine thr_61 hx hb hlf hown hts hTX (is := 161) (text := "part is neither 0 nor 1") (by decide +kernel) hS (by rw [hml]; exact hl.1) dX6_gearRatio_43 dX6_gearRatio_46 dX6_gearRatio_47 dX6_gearRatio_49 dX6_gearRatio_52 hxt (Nat.le_of_ble_eq_true rfl) (Nat.le_of_ble_eq_true rfl) (Nat.le_of_ble_eq_true rfl) (Nat.le_of_ble_eq_true rfl) hlocks (Nat.le_of_ble_eq_true rfl) (Nat.le_of_ble_eq_true rfl) (fun t9 hal hsz9 hkk => ?_)
    exact ⟨((d, d1, d2, f1, f2, f, s0), (u9b.2.2.2.2.1, u9b.2.2.2.2.2.1, u9b.2.2.2.2.2.2.1, u9b.2.2.2.2.2.2.2, M2, pv2, ip2, sv2, u9b.1, u9b.2.1, u9b.2.2.1, u9b.2.2.2.1, di, (gN d), (nI 1))), ⟨rfl, hJ2⟩, ⟨by rw [show rs_gearRatio d (nI kg) y = _ from ((cI_f (fun z => z hgr)).trans (cI_t (hprt)))]; exact ⟨by decide, rfl⟩, hP.kept (fun k q h => hkk q.1 ((hP k q h).lt)), va_K.moved hal hK, hD⟩, Nat.le_trans hS.1 hsz9, fun q h1 h2 => (hkk q (Nat.lt_of_lt_of_le h1 hS.1)).trans (hS.2.1 q h1 h2)⟩
  refine t_i (hw.trans (bI_t hprt).symm) ?_
  obtain ⟨kp, hkp, rfl⟩ := id hprt
  have hkpn : (nI kp).toInt.toNat = kp := by rw [nI_toIntI (by omega)]; omega
  refine b_if_ne hx hb (nI_toIntI (by omega)) dX6_gearRatio_40 (tgt := 53) (by decide) (fun c40 => ?_) (fun c40 => absurd c40 (by omega))
  refine lv_aload_n hx hb dX6_gearRatio_53 rfl (lv_at hl 0 rfl) ?_
  refine va_get (D := D) (ci := 6) (C := RX6) (T := TX6) (N := 9) hx hb hts iX6 hown hK hP 0 rfl rfl 8 (by decide) (hts _ k_f_X6_46) (fun _ h9 => h9) rfl dX6_gearRatio_54 ?_
  refine lv_iload_n hx hb dX6_gearRatio_57 rfl (lv_at hl 1 rfl) ?_
  refine lv_iload_n hx hb dX6_gearRatio_58 rfl (lv_at hl 2 rfl) ?_
  have hPq := P_perm pm_1 hP
  have hDq := D_perm pm_1 hD
  have hPc := bP0 hPq
  have hDc := bD0 hDq
  refine va_calll (va_runV (As := [.int (nI kg), .int (nI kp)]) (rest := []) ⟨hx, hb, hml, hown, hts⟩ (c_X2_ratioPart l D K g u9b.1 u9b.2.1 u9b.2.2.1 u9b.2.2.2.1 di (gN d) (nI 1) kg kp H.size hn64b hkg hkp) (cwV 2 hts (TB_V k_m_X6_218 k_im_X2_ratioPart k_se_X2_ratioPart k_in_X2 k_co_X2_ratioPart (fun _ h => h)) rfl rfl rfl (by decide +kernel) ⟨Nat.le_of_ble_eq_true rfl, Nat.le_of_ble_eq_true rfl⟩) ⟨cP_blind, va_recv hK hPc (ci := 2) (q0 := 0) rfl rfl, cP_of hPc hK hDc⟩ rfl rfl hl.1 rfl (lv_room (Nat.le_of_ble_eq_true rfl)) dX6_gearRatio_59 ⟨Nat.le_of_ble_eq_true rfl, Nat.le_of_ble_eq_true rfl⟩) hS (fun q _ h => absurd h id) (fun q h => absurd h id) (fun rr u9 t9 H locs ht9 hvm hw hB hz1 hk1 hS => ?_)
  have hP := P_same hP hk1
  obtain ⟨ht1, ht2, ht3, ht4, -⟩ := htab kg hkg
  refine vx_ret ?_
  exact W.widen (k := 1) (n := 6) (Nat.le_of_ble_eq_true rfl) (Nat.le_of_ble_eq_true rfl) (W.lret (v := rr) hx hb hr (fun t9 ht9 hW => ⟨⟨rr, ((d, d1, d2, f1, f2, f, s0), (u9b.2.2.2.2.1, u9b.2.2.2.2.2.1, u9b.2.2.2.2.2.2.1, u9b.2.2.2.2.2.2.2, M2, pv2, ip2, sv2, u9b.1, u9b.2.1, u9b.2.2.1, u9b.2.2.2.1, di, (gN d), (nI 1))), rfl, ⟨rfl, hJ2, ((cI_f (fun z => z hgr)).trans ((cI_f (fun z => z hprt)).trans (r0 (by rw [hkgn, hkpn, hw]; split; exact ht3.symm; exact ht4.symm))))⟩, by rw [ht9]; exact hP, va_K.moved hW.alike hK, hD⟩, hS.F ht9⟩) hS.2.2 dX6_gearRatio_62)
set_option maxHeartbeats 4000000 in
set_option maxRecDepth 100000 in
theorem c_X6_fewestShifts (l : Launch) (hlf : l.stackTraces = false) (D : va_G) (K : Nat → ClassId) (ad q q1 q2 g r r2 : Nat → Nat) (v : CV) (i : CI) (x : Int32) (y : Int32) (sz : Nat) (hI : IV v) (hJ : II v.1 i)  : vx_Met l yX6_fewestShifts (.code yX6_fewestShifts cX6_fewestShifts 3 (some .int) :: TB) ({ frames := 7, cells := 1, slots := 6, locals := 150 } : Room) (va_Pc [.ref (ad 0), .int x, .int y] (cPT D K (WX K ad q q1 q2 g r r2 v i) sz)) (va_Qi (fun (z : Int32) (u : CV × CI) => u.1 = v ∧ II u.1.1 u.2 ∧ rs_fewest v.1 x y = (0, z.toInt)) (fun (u : CV × CI) t => cB D K (va_A (WX K ad q q1 q2 g r r2 v i) sz) (WX K ad q q1 q2 g r r2 u.1 u.2) t) (va_A (WX K ad q q1 q2 g r r2 v i) sz)) (vx_X (fun (u : CV × CI) => u.1 = v ∧ II u.1.1 u.2) (fun E (u : CV × CI) t => exc [eIO] (rs_fewest v.1 x y).1 E ∧ cB D K (va_A (WX K ad q q1 q2 g r r2 v i) sz) (WX K ad q q1 q2 g r r2 u.1 u.2) t) (va_A (WX K ad q q1 q2 g r r2 v i) sz)) 1 6 (va_A (WX K ad q q1 q2 g r r2 v i) sz) := by
  refine vx_ofW (cc := cX6_fewestShifts) (maxL := 3) (ret := (some .int)) (by decide) rfl ?_
  intro p e s m args below meth c s₁ B hml hxt hv
  obtain ⟨rfl, ⟨hsz, hP, hK, hD0⟩, hTX⟩ := hv
  have hx := B.exec
  have hb := B.bytes
  have hr := B.returns
  have hts := hts_tl (atoms_spec (ws := (.code yX6_fewestShifts cX6_fewestShifts 3 (some .int) :: TB)) B.pre)
  have hown : s.vm.findClass RX6 = some m.cls := findClass_of_methodNamed B.named
  have hlocks := B.notSynchronized
  subst hsz
  have hD := hD0.self (sz := s.heap.size)
  generalize hAe : (va_A (WX K ad q q1 q2 g r r2 v i) s.heap.size) = A at hD hTX ⊢
  have hA : ∀ q : Nat, s.heap.size ≤ q → A q := fun q h => by rw [← hAe]; exact Or.inr h
  have hS : va_S A s.heap s.heap [] := va_S.rf
  clear hAe hD0
  obtain ⟨d, d1, d2, f1, f2, f, s0⟩ := v
  obtain ⟨M, pv, ip, sv, M2, pv2, ip2, sv2, ma, nu, de, ne, di, n, fr⟩ := i
  obtain ⟨hd, hd1, hd2, hf1, hf2, hs20, hhf⟩ := id hI
  obtain ⟨hn64, hfr, hT⟩ := id hJ
  dsimp only at hd hd1 hd2 hf1 hf2 hs20 hhf hn64 hfr hT
  obtain ⟨ns, m1, ge, hns, hm, hge, h0, h1, h2, hs9, he9⟩ := id hd
  have hm1 : dn d 8 1 = m1 := dn_of h1 (by omega)
  have hn1 : dn d 8 0 = ns := dn_of h0 (by omega)
  have hp6 : 2 ^ m1 ≤ 64 := Nat.pow_le_pow_right (show 0 < 2 by decide) hm
  have hg1 : dn d 8 2 = ge := dn_of h2 (by omega)
  have hP : va_P D vwCl ([(ad 0, .inr (6, [.ref (q 0), .ref (q1 0), .ref (q2 0), .int f1, .int f2, .ref (ad 1), .ref (ad 3), .ref (ad 8), .ref (g 0)]))] ++ (WG K g ma nu de ne di (nI n) fr ++ ([(ad 3, .inr (4, [.ref (ad 4)]))] ++ (WE K (ad 4) (ad 5) (ad 6) (ad 7) r M pv ip sv ++ (WD K q d ++ ([(ad 8, .inr (5, [.ref (ad 9)]))] ++ (WE K (ad 9) (ad 10) (ad 11) (ad 12) r2 M2 pv2 ip2 sv2 ++ (WH K (ad 1) (ad 2) f (nI s0) ++ (WD K q1 d1 ++ (WD K q2 d2)))))))))) s.heap := hP
  have hD : va_D A ([(ad 0, .inr (6, [.ref (q 0), .ref (q1 0), .ref (q2 0), .int f1, .int f2, .ref (ad 1), .ref (ad 3), .ref (ad 8), .ref (g 0)]))] ++ (WG K g ma nu de ne di (nI n) fr ++ ([(ad 3, .inr (4, [.ref (ad 4)]))] ++ (WE K (ad 4) (ad 5) (ad 6) (ad 7) r M pv ip sv ++ (WD K q d ++ ([(ad 8, .inr (5, [.ref (ad 9)]))] ++ (WE K (ad 9) (ad 10) (ad 11) (ad 12) r2 M2 pv2 ip2 sv2 ++ (WH K (ad 1) (ad 2) f (nI s0) ++ (WD K q1 d1 ++ (WD K q2 d2)))))))))) := hD
  have hl := lv_entry ([.ref (ad 0), .int x, .int y]) (n := 3) (Nat.le_of_ble_eq_true rfl)
  rw [lg_entry_eq]
  generalize (lg_sl ([.ref (ad 0), .int x, .int y]) ++ List.replicate (3 - (lg_sl ([.ref (ad 0), .int x, .int y])).length) Slot.unset).toArray = ls at hl ⊢
  have hl : lv_has ls 3 [(0, .ref (ad 0)), (1, .int x), (2, .int y)] := hl
  refine lv_aload_n hx hb dX6_fewestShifts_0 rfl (lv_at hl 0 rfl) ?_
  refine va_get (D := D) (ci := 6) (C := RX6) (T := TX6) (N := 9) hx hb hts iX6 hown hK hP 0 rfl rfl 8 (by decide) (hts _ k_f_X6_46) (fun _ h9 => h9) rfl dX6_fewestShifts_1 ?_
  refine lv_aload_n hx hb dX6_fewestShifts_4 rfl (lv_at hl 0 rfl) ?_
  refine va_get (D := D) (ci := 6) (C := RX6) (T := TX6) (N := 9) hx hb hts iX6 hown hK hP 0 rfl rfl 0 (by decide) (hts _ k_f_X6_12) (fun _ h9 => h9) rfl dX6_fewestShifts_5 ?_
  refine lv_aload_n hx hb dX6_fewestShifts_8 rfl (lv_at hl 0 rfl) ?_
  refine va_get (D := D) (ci := 6) (C := RX6) (T := TX6) (N := 9) hx hb hts iX6 hown hK hP 0 rfl rfl 6 (by decide) (hts _ k_f_X6_32) (fun _ h9 => h9) rfl dX6_fewestShifts_9 ?_
  have hPq := P_perm pm_1234 hP
  have hDq := D_perm pm_1234 hD
  have hPc := bP0 hPq
  have hDc := bD0 hDq
  have hFc := bF0 hDq hS hA
  refine va_callv (va_runV (As := [.ref (q 0), .ref (ad 3)]) (rest := []) ⟨hx, hb, hml, hown, hts⟩ (c_X2_refresh l D K g ma nu de ne di n fr (ad 3) (ad 4) (ad 5) (ad 6) (ad 7) r M pv ip sv q d s.heap.size hn64 hd hfr hT) (cwV 2 hts (TB_V k_m_X6_116 k_im_X2_refresh k_se_X2_refresh k_in_X2 k_co_X2_refresh (fun _ h => h)) rfl rfl rfl (by decide +kernel) ⟨Nat.le_of_ble_eq_true rfl, Nat.le_of_ble_eq_true rfl⟩) ⟨cP_blind, va_recv hK hPc (ci := 2) (q0 := 0) rfl rfl, cP_of hPc hK hDc⟩ rfl rfl hl.1 rfl (lv_room (Nat.le_of_ble_eq_true rfl)) dX6_fewestShifts_12 ⟨Nat.le_of_ble_eq_true rfl, Nat.le_of_ble_eq_true rfl⟩) hS (fun q _ h => hFc q h) hFc (fun u9 t9 H locs ht9 hvm hw hB hz1 hk1 hS => ?_)
  obtain ⟨hP1, hK1, hD1⟩ := hB
  rw [ht9] at hP1
  obtain ⟨hPq1, hDq1⟩ := bJ0 hPq hDq hk1 hFc hP1 hD1
  have hP := P_perm (pm_1234 (X0 := _)).symm hPq1
  have hD := D_perm (pm_1234 (X0 := _)).symm hDq1
  have hP : va_P D vwCl ([(ad 0, .inr (6, [.ref (q 0), .ref (q1 0), .ref (q2 0), .int f1, .int f2, .ref (ad 1), .ref (ad 3), .ref (ad 8), .ref (g 0)]))] ++ (WG K g u9.2.1 u9.2.2.1 u9.2.2.2.1 u9.2.2.2.2.1 di (nI u9.1) (nI 1) ++ ([(ad 3, .inr (4, [.ref (ad 4)]))] ++ (WE K (ad 4) (ad 5) (ad 6) (ad 7) r u9.2.2.2.2.2.1 u9.2.2.2.2.2.2.1 u9.2.2.2.2.2.2.2.1 u9.2.2.2.2.2.2.2.2 ++ (WD K q d ++ ([(ad 8, .inr (5, [.ref (ad 9)]))] ++ (WE K (ad 9) (ad 10) (ad 11) (ad 12) r2 M2 pv2 ip2 sv2 ++ (WH K (ad 1) (ad 2) f (nI s0) ++ (WD K q1 d1 ++ (WD K q2 d2)))))))))) H := hP
  have hD : va_D A ([(ad 0, .inr (6, [.ref (q 0), .ref (q1 0), .ref (q2 0), .int f1, .int f2, .ref (ad 1), .ref (ad 3), .ref (ad 8), .ref (g 0)]))] ++ (WG K g u9.2.1 u9.2.2.1 u9.2.2.2.1 u9.2.2.2.2.1 di (nI u9.1) (nI 1) ++ ([(ad 3, .inr (4, [.ref (ad 4)]))] ++ (WE K (ad 4) (ad 5) (ad 6) (ad 7) r u9.2.2.2.2.2.1 u9.2.2.2.2.2.2.1 u9.2.2.2.2.2.2.2.1 u9.2.2.2.2.2.2.2.2 ++ (WD K q d ++ ([(ad 8, .inr (5, [.ref (ad 9)]))] ++ (WE K (ad 9) (ad 10) (ad 11) (ad 12) r2 M2 pv2 ip2 sv2 ++ (WH K (ad 1) (ad 2) f (nI s0) ++ (WD K q1 d1 ++ (WD K q2 d2)))))))))) := hD
  obtain ⟨u9a, u9b⟩ := u9
  obtain ⟨hgn, htab⟩ := hw
  dsimp only at hgn htab
  subst hgn
  have hn64b := gN_le d
  have hP : va_P D vwCl ([(ad 0, .inr (6, [.ref (q 0), .ref (q1 0), .ref (q2 0), .int f1, .int f2, .ref (ad 1), .ref (ad 3), .ref (ad 8), .ref (g 0)]))] ++ (WG K g u9b.1 u9b.2.1 u9b.2.2.1 u9b.2.2.2.1 di (nI (gN d)) (nI 1) ++ ([(ad 3, .inr (4, [.ref (ad 4)]))] ++ (WE K (ad 4) (ad 5) (ad 6) (ad 7) r u9b.2.2.2.2.1 u9b.2.2.2.2.2.1 u9b.2.2.2.2.2.2.1 u9b.2.2.2.2.2.2.2 ++ (WD K q d ++ ([(ad 8, .inr (5, [.ref (ad 9)]))] ++ (WE K (ad 9) (ad 10) (ad 11) (ad 12) r2 M2 pv2 ip2 sv2 ++ (WH K (ad 1) (ad 2) f (nI s0) ++ (WD K q1 d1 ++ (WD K q2 d2)))))))))) H := hP
  have hD : va_D A ([(ad 0, .inr (6, [.ref (q 0), .ref (q1 0), .ref (q2 0), .int f1, .int f2, .ref (ad 1), .ref (ad 3), .ref (ad 8), .ref (g 0)]))] ++ (WG K g u9b.1 u9b.2.1 u9b.2.2.1 u9b.2.2.2.1 di (nI (gN d)) (nI 1) ++ ([(ad 3, .inr (4, [.ref (ad 4)]))] ++ (WE K (ad 4) (ad 5) (ad 6) (ad 7) r u9b.2.2.2.2.1 u9b.2.2.2.2.2.1 u9b.2.2.2.2.2.2.1 u9b.2.2.2.2.2.2.2 ++ (WD K q d ++ ([(ad 8, .inr (5, [.ref (ad 9)]))] ++ (WE K (ad 9) (ad 10) (ad 11) (ad 12) r2 M2 pv2 ip2 sv2 ++ (WH K (ad 1) (ad 2) f (nI s0) ++ (WD K q1 d1 ++ (WD K q2 d2)))))))))) := hD
  have hJ2 : II d (u9b.2.2.2.2.1, u9b.2.2.2.2.2.1, u9b.2.2.2.2.2.2.1, u9b.2.2.2.2.2.2.2, M2, pv2, ip2, sv2, u9b.1, u9b.2.1, u9b.2.2.1, u9b.2.2.2.1, di, (gN d), (nI 1)) := ⟨hn64b, Or.inr rfl, fun _ => ⟨rfl, htab⟩⟩
  refine lv_aload_n hx hb dX6_fewestShifts_15 rfl (lv_at hl 0 rfl) ?_
  refine va_get (D := D) (ci := 6) (C := RX6) (T := TX6) (N := 9) hx hb hts iX6 hown hK hP 0 rfl rfl 8 (by decide) (hts _ k_f_X6_46) (fun _ h9 => h9) rfl dX6_fewestShifts_16 ?_
  refine lv_iload_n hx hb dX6_fewestShifts_19 rfl (lv_at hl 1 rfl) ?_
  have hPq := P_perm pm_1 hP
  have hDq := D_perm pm_1 hD
  have hPc := bP0 hPq
  have hDc := bD0 hDq
  refine va_calli (va_runV (As := [.int x]) (rest := []) ⟨hx, hb, hml, hown, hts⟩ (c_X2_hasGear l D K g u9b.1 u9b.2.1 u9b.2.2.1 u9b.2.2.2.1 di (gN d) (nI 1) x H.size hn64b) (cwV 1 hts (TB_V k_m_X6_207 k_im_X2_hasGear k_se_X2_hasGear k_in_X2 k_co_X2_hasGear (fun _ h => h)) rfl rfl rfl (by decide +kernel) ⟨Nat.le_of_ble_eq_true rfl, Nat.le_of_ble_eq_true rfl⟩) ⟨cP_blind, va_recv hK hPc (ci := 2) (q0 := 0) rfl rfl, cP_of hPc hK hDc⟩ rfl rfl hl.1 rfl (lv_room (Nat.le_of_ble_eq_true rfl)) dX6_fewestShifts_20 ⟨Nat.le_of_ble_eq_true rfl, Nat.le_of_ble_eq_true rfl⟩) hS (fun q _ h => absurd h id) (fun q h => absurd h id) (fun rg u9 t9 H locs ht9 hvm hw hB hz1 hk1 hS => ?_)
  have hP := P_same hP hk1
  have hw : rg = bI (ger d x) := hw
  by_cases hgr : ger d x
  rotate_left
  · refine t_i (hw.trans (bI_f hgr).symm) ?_
    refine b_if_eq hx hb (nI_toIntI (by omega)) dX6_fewestShifts_23 (tgt := 37) (by decide) (fun c23 => ?_) (fun c23 => absurd c23 (by omega))
    refine thr_54 hx hb hlf hown hts hTX (is := 226) (text := "one of the gears does not exist") (by decide +kernel) hS (by rw [hml]; exact hl.1) dX6_fewestShifts_37 dX6_fewestShifts_40 dX6_fewestShifts_41 dX6_fewestShifts_43 dX6_fewestShifts_46 hxt (Nat.le_of_ble_eq_true rfl) (Nat.le_of_ble_eq_true rfl) (Nat.le_of_ble_eq_true rfl) (Nat.le_of_ble_eq_true rfl) hlocks (Nat.le_of_ble_eq_true rfl) (Nat.le_of_ble_eq_true rfl) (fun t9 hal hsz9 hkk => ?_)
    exact ⟨((d, d1, d2, f1, f2, f, s0), (u9b.2.2.2.2.1, u9b.2.2.2.2.2.1, u9b.2.2.2.2.2.2.1, u9b.2.2.2.2.2.2.2, M2, pv2, ip2, sv2, u9b.1, u9b.2.1, u9b.2.2.1, u9b.2.2.2.1, di, (gN d), (nI 1))), ⟨rfl, hJ2⟩, ⟨by rw [show rs_fewest d x y = _ from (cI_t (fun z => by first | exact hgr z.1 | exact hgt z.2))]; exact ⟨by decide, rfl⟩, hP.kept (fun k q h => hkk q.1 ((hP k q h).lt)), va_K.moved hal hK, hD⟩, Nat.le_trans hS.1 hsz9, fun q h1 h2 => (hkk q (Nat.lt_of_lt_of_le h1 hS.1)).trans (hS.2.1 q h1 h2)⟩
  refine t_i (hw.trans (bI_t hgr).symm) ?_
  obtain ⟨kg, hkg, rfl⟩ := id hgr
  have hkgn : (nI kg).toInt.toNat = kg := by rw [nI_toIntI (by omega)]; omega
  refine b_if_eq hx hb (nI_toIntI (by omega)) dX6_fewestShifts_23 (tgt := 37) (by decide) (fun c23 => absurd c23 (by omega)) (fun c23 => ?_)
  refine lv_aload_n hx hb dX6_fewestShifts_26 rfl (lv_at hl 0 rfl) ?_
  refine va_get (D := D) (ci := 6) (C := RX6) (T := TX6) (N := 9) hx hb hts iX6 hown hK hP 0 rfl rfl 8 (by decide) (hts _ k_f_X6_46) (fun _ h9 => h9) rfl dX6_fewestShifts_27 ?_
  refine lv_iload_n hx hb dX6_fewestShifts_30 rfl (lv_at hl 2 rfl) ?_
  have hPq := P_perm pm_1 hP
  have hDq := D_perm pm_1 hD
  have hPc := bP0 hPq
  have hDc := bD0 hDq
  refine va_calli (va_runV (As := [.int y]) (rest := []) ⟨hx, hb, hml, hown, hts⟩ (c_X2_hasGear l D K g u9b.1 u9b.2.1 u9b.2.2.1 u9b.2.2.2.1 di (gN d) (nI 1) y H.size hn64b) (cwV 1 hts (TB_V k_m_X6_207 k_im_X2_hasGear k_se_X2_hasGear k_in_X2 k_co_X2_hasGear (fun _ h => h)) rfl rfl rfl (by decide +kernel) ⟨Nat.le_of_ble_eq_true rfl, Nat.le_of_ble_eq_true rfl⟩) ⟨cP_blind, va_recv hK hPc (ci := 2) (q0 := 0) rfl rfl, cP_of hPc hK hDc⟩ rfl rfl hl.1 rfl (lv_room (Nat.le_of_ble_eq_true rfl)) dX6_fewestShifts_31 ⟨Nat.le_of_ble_eq_true rfl, Nat.le_of_ble_eq_true rfl⟩) hS (fun q _ h => absurd h id) (fun q h => absurd h id) (fun rg u9 t9 H locs ht9 hvm hw hB hz1 hk1 hS => ?_)
  have hP := P_same hP hk1
  have hw : rg = bI (ger d y) := hw
  by_cases hgt : ger d y
  rotate_left
  · refine t_i (hw.trans (bI_f hgt).symm) ?_
    refine b_if_ne hx hb (nI_toIntI (by omega)) dX6_fewestShifts_34 (tgt := 47) (by decide) (fun c34 => absurd c34 (by omega)) (fun c34 => ?_)
    refine thr_54 hx hb hlf hown hts hTX (is := 226) (text := "one of the gears does not exist") (by decide +kernel) hS (by rw [hml]; exact hl.1) dX6_fewestShifts_37 dX6_fewestShifts_40 dX6_fewestShifts_41 dX6_fewestShifts_43 dX6_fewestShifts_46 hxt (Nat.le_of_ble_eq_true rfl) (Nat.le_of_ble_eq_true rfl) (Nat.le_of_ble_eq_true rfl) (Nat.le_of_ble_eq_true rfl) hlocks (Nat.le_of_ble_eq_true rfl) (Nat.le_of_ble_eq_true rfl) (fun t9 hal hsz9 hkk => ?_)
    exact ⟨((d, d1, d2, f1, f2, f, s0), (u9b.2.2.2.2.1, u9b.2.2.2.2.2.1, u9b.2.2.2.2.2.2.1, u9b.2.2.2.2.2.2.2, M2, pv2, ip2, sv2, u9b.1, u9b.2.1, u9b.2.2.1, u9b.2.2.2.1, di, (gN d), (nI 1))), ⟨rfl, hJ2⟩, ⟨by rw [show rs_fewest d (nI kg) y = _ from (cI_t (fun z => by first | exact hgr z.1 | exact hgt z.2))]; exact ⟨by decide, rfl⟩, hP.kept (fun k q h => hkk q.1 ((hP k q h).lt)), va_K.moved hal hK, hD⟩, Nat.le_trans hS.1 hsz9, fun q h1 h2 => (hkk q (Nat.lt_of_lt_of_le h1 hS.1)).trans (hS.2.1 q h1 h2)⟩
  refine t_i (hw.trans (bI_t hgt).symm) ?_
  obtain ⟨kt, hkt, rfl⟩ := id hgt
  have hktn : (nI kt).toInt.toNat = kt := by rw [nI_toIntI (by omega)]; omega
  refine b_if_ne hx hb (nI_toIntI (by omega)) dX6_fewestShifts_34 (tgt := 47) (by decide) (fun c34 => ?_) (fun c34 => absurd c34 (by omega))
  refine lv_aload_n hx hb dX6_fewestShifts_47 rfl (lv_at hl 0 rfl) ?_
  refine va_get (D := D) (ci := 6) (C := RX6) (T := TX6) (N := 9) hx hb hts iX6 hown hK hP 0 rfl rfl 8 (by decide) (hts _ k_f_X6_46) (fun _ h9 => h9) rfl dX6_fewestShifts_48 ?_
  refine lv_iload_n hx hb dX6_fewestShifts_51 rfl (lv_at hl 2 rfl) ?_
  have hGG : ∀ j, j < gN d → gF d j < 64 ∧ u9b.1 j = nI (gF d j) := fun j hj => ⟨(htab j hj).1, (htab j hj).2.1⟩
  have hPq := P_perm pm_1 hP
  have hDq := D_perm pm_1 hD
  have hPc := bP0 hPq
  have hDc := bD0 hDq
  have hFc := bF0 hDq hS hA
  refine va_callv (va_runV (As := [.int (nI kt)]) (rest := []) ⟨hx, hb, hml, hown, hts⟩ (c_X2_measure l D K g u9b.1 u9b.2.1 u9b.2.2.1 u9b.2.2.2.1 di (gN d) (nI 1) (gF d) kt H.size hn64b hkt hGG) (cwV 1 hts (TB_V k_m_X6_228 k_im_X2_measure k_se_X2_measure k_in_X2 k_co_X2_measure (fun _ h => h)) rfl rfl rfl (by decide +kernel) ⟨Nat.le_of_ble_eq_true rfl, Nat.le_of_ble_eq_true rfl⟩) ⟨cP_blind, va_recv hK hPc (ci := 2) (q0 := 0) rfl rfl, cP_of hPc hK hDc⟩ rfl rfl hl.1 rfl (lv_room (Nat.le_of_ble_eq_true rfl)) dX6_fewestShifts_52 ⟨Nat.le_of_ble_eq_true rfl, Nat.le_of_ble_eq_true rfl⟩) hS (fun q _ h => hFc q h) hFc (fun mu t9 H locs ht9 hvm hw hB hz1 hk1 hS => ?_)
  obtain ⟨hP1, hK1, hD1⟩ := hB
  rw [ht9] at hP1
  obtain ⟨hPq1, hDq1⟩ := bJ0 hPq hDq hk1 hFc hP1 hD1
  have hP := P_perm (pm_1 (X0 := _)).symm hPq1
  have hD := D_perm (pm_1 (X0 := _)).symm hDq1
  have hP : va_P D vwCl ([(ad 0, .inr (6, [.ref (q 0), .ref (q1 0), .ref (q2 0), .int f1, .int f2, .ref (ad 1), .ref (ad 3), .ref (ad 8), .ref (g 0)]))] ++ (WG K g u9b.1 u9b.2.1 u9b.2.2.1 u9b.2.2.2.1 mu (nI (gN d)) (nI 1) ++ ([(ad 3, .inr (4, [.ref (ad 4)]))] ++ (WE K (ad 4) (ad 5) (ad 6) (ad 7) r u9b.2.2.2.2.1 u9b.2.2.2.2.2.1 u9b.2.2.2.2.2.2.1 u9b.2.2.2.2.2.2.2 ++ (WD K q d ++ ([(ad 8, .inr (5, [.ref (ad 9)]))] ++ (WE K (ad 9) (ad 10) (ad 11) (ad 12) r2 M2 pv2 ip2 sv2 ++ (WH K (ad 1) (ad 2) f (nI s0) ++ (WD K q1 d1 ++ (WD K q2 d2)))))))))) H := hP
  have hD : va_D A ([(ad 0, .inr (6, [.ref (q 0), .ref (q1 0), .ref (q2 0), .int f1, .int f2, .ref (ad 1), .ref (ad 3), .ref (ad 8), .ref (g 0)]))] ++ (WG K g u9b.1 u9b.2.1 u9b.2.2.1 u9b.2.2.2.1 mu (nI (gN d)) (nI 1) ++ ([(ad 3, .inr (4, [.ref (ad 4)]))] ++ (WE K (ad 4) (ad 5) (ad 6) (ad 7) r u9b.2.2.2.2.1 u9b.2.2.2.2.2.1 u9b.2.2.2.2.2.2.1 u9b.2.2.2.2.2.2.2 ++ (WD K q d ++ ([(ad 8, .inr (5, [.ref (ad 9)]))] ++ (WE K (ad 9) (ad 10) (ad 11) (ad 12) r2 M2 pv2 ip2 sv2 ++ (WH K (ad 1) (ad 2) f (nI s0) ++ (WD K q1 d1 ++ (WD K q2 d2)))))))))) := hD
  have hmu := hw
  refine lv_aload_n hx hb dX6_fewestShifts_55 rfl (lv_at hl 0 rfl) ?_
  refine va_get (D := D) (ci := 6) (C := RX6) (T := TX6) (N := 9) hx hb hts iX6 hown hK hP 0 rfl rfl 8 (by decide) (hts _ k_f_X6_46) (fun _ h9 => h9) rfl dX6_fewestShifts_56 ?_
  refine lv_iload_n hx hb dX6_fewestShifts_59 rfl (lv_at hl 1 rfl) ?_
  have hPq := P_perm pm_1 hP
  have hDq := D_perm pm_1 hD
  have hPc := bP0 hPq
  have hDc := bD0 hDq
  refine va_calli (va_runV (As := [.int (nI kg)]) (rest := []) ⟨hx, hb, hml, hown, hts⟩ (c_X2_shiftsLeft l D K g u9b.1 u9b.2.1 u9b.2.2.1 u9b.2.2.2.1 mu (gN d) (nI 1) kg H.size hn64b hkg) (cwV 1 hts (TB_V k_m_X6_231 k_im_X2_shiftsLeft k_se_X2_shiftsLeft k_in_X2 k_co_X2_shiftsLeft (fun _ h => h)) rfl rfl rfl (by decide +kernel) ⟨Nat.le_of_ble_eq_true rfl, Nat.le_of_ble_eq_true rfl⟩) ⟨cP_blind, va_recv hK hPc (ci := 2) (q0 := 0) rfl rfl, cP_of hPc hK hDc⟩ rfl rfl hl.1 rfl (lv_room (Nat.le_of_ble_eq_true rfl)) dX6_fewestShifts_60 ⟨Nat.le_of_ble_eq_true rfl, Nat.le_of_ble_eq_true rfl⟩) hS (fun q _ h => absurd h id) (fun q h => absurd h id) (fun rl u9 t9 H locs ht9 hvm hw hB hz1 hk1 hS => ?_)
  have hP := P_same hP hk1
  refine vx_ret ?_
  exact W.widen (k := 1) (n := 6) (Nat.le_of_ble_eq_true rfl) (Nat.le_of_ble_eq_true rfl) (W.iret (v := rl) hx hb hr (fun t9 ht9 hW => ⟨⟨rl, ((d, d1, d2, f1, f2, f, s0), (u9b.2.2.2.2.1, u9b.2.2.2.2.2.1, u9b.2.2.2.2.2.2.1, u9b.2.2.2.2.2.2.2, M2, pv2, ip2, sv2, u9b.1, u9b.2.1, u9b.2.2.1, u9b.2.2.2.1, mu, (gN d), (nI 1))), rfl, ⟨rfl, hJ2, ((cI_f (fun z => z ⟨hgr, hgt⟩)).trans (r0 (by rw [hkgn, hktn, hw]; exact (hmu kg hkg).symm)))⟩, by rw [ht9]; exact hP, va_K.moved hW.alike hK, hD⟩, hS.F ht9⟩) hS.2.2 dX6_fewestShifts_63)
set_option maxHeartbeats 4000000 in
set_option maxRecDepth 100000 in
theorem c_X6_shift (l : Launch) (hlf : l.stackTraces = false) (D : va_G) (K : Nat → ClassId) (ad q q1 q2 g r r2 : Nat → Nat) (v : CV) (i : CI) (x : Int32) (y : Int32) (y3 : Int32) (sz : Nat) (hI : IV v) (hJ : II v.1 i)  : vx_Met l yX6_shift (.code yX6_shift cX6_shift 4 (some .int) :: TB) ({ frames := 7, cells := 1, slots := 6, locals := 150 } : Room) (va_Pc [.ref (ad 0), .int x, .int y, .int y3] (cPT D K (WX K ad q q1 q2 g r r2 v i) sz)) (va_Qi (fun (z : Int32) (u : CV × CI) => u.1 = v ∧ II u.1.1 u.2 ∧ rs_shift v.1 x y y3 = (0, z.toInt)) (fun (u : CV × CI) t => cB D K (va_A (WX K ad q q1 q2 g r r2 v i) sz) (WX K ad q q1 q2 g r r2 u.1 u.2) t) (va_A (WX K ad q q1 q2 g r r2 v i) sz)) (vx_X (fun (u : CV × CI) => u.1 = v ∧ II u.1.1 u.2) (fun E (u : CV × CI) t => exc [eIO] (rs_shift v.1 x y y3).1 E ∧ cB D K (va_A (WX K ad q q1 q2 g r r2 v i) sz) (WX K ad q q1 q2 g r r2 u.1 u.2) t) (va_A (WX K ad q q1 q2 g r r2 v i) sz)) 1 6 (va_A (WX K ad q q1 q2 g r r2 v i) sz) := by
  refine vx_ofW (cc := cX6_shift) (maxL := 4) (ret := (some .int)) (by decide) rfl ?_
  intro p e s m args below meth c s₁ B hml hxt hv
  obtain ⟨rfl, ⟨hsz, hP, hK, hD0⟩, hTX⟩ := hv
  have hx := B.exec
  have hb := B.bytes
  have hr := B.returns
  have hts := hts_tl (atoms_spec (ws := (.code yX6_shift cX6_shift 4 (some .int) :: TB)) B.pre)
  have hown : s.vm.findClass RX6 = some m.cls := findClass_of_methodNamed B.named
  have hlocks := B.notSynchronized
  subst hsz
  have hD := hD0.self (sz := s.heap.size)
  generalize hAe : (va_A (WX K ad q q1 q2 g r r2 v i) s.heap.size) = A at hD hTX ⊢
  have hA : ∀ q : Nat, s.heap.size ≤ q → A q := fun q h => by rw [← hAe]; exact Or.inr h
  have hS : va_S A s.heap s.heap [] := va_S.rf
  clear hAe hD0
  obtain ⟨d, d1, d2, f1, f2, f, s0⟩ := v
  obtain ⟨M, pv, ip, sv, M2, pv2, ip2, sv2, ma, nu, de, ne, di, n, fr⟩ := i
  obtain ⟨hd, hd1, hd2, hf1, hf2, hs20, hhf⟩ := id hI
  obtain ⟨hn64, hfr, hT⟩ := id hJ
  dsimp only at hd hd1 hd2 hf1 hf2 hs20 hhf hn64 hfr hT
  obtain ⟨ns, m1, ge, hns, hm, hge, h0, h1, h2, hs9, he9⟩ := id hd
  have hm1 : dn d 8 1 = m1 := dn_of h1 (by omega)
  have hn1 : dn d 8 0 = ns := dn_of h0 (by omega)
  have hp6 : 2 ^ m1 ≤ 64 := Nat.pow_le_pow_right (show 0 < 2 by decide) hm
  have hg1 : dn d 8 2 = ge := dn_of h2 (by omega)
  have hP : va_P D vwCl ([(ad 0, .inr (6, [.ref (q 0), .ref (q1 0), .ref (q2 0), .int f1, .int f2, .ref (ad 1), .ref (ad 3), .ref (ad 8), .ref (g 0)]))] ++ (WG K g ma nu de ne di (nI n) fr ++ ([(ad 3, .inr (4, [.ref (ad 4)]))] ++ (WE K (ad 4) (ad 5) (ad 6) (ad 7) r M pv ip sv ++ (WD K q d ++ ([(ad 8, .inr (5, [.ref (ad 9)]))] ++ (WE K (ad 9) (ad 10) (ad 11) (ad 12) r2 M2 pv2 ip2 sv2 ++ (WH K (ad 1) (ad 2) f (nI s0) ++ (WD K q1 d1 ++ (WD K q2 d2)))))))))) s.heap := hP
  have hD : va_D A ([(ad 0, .inr (6, [.ref (q 0), .ref (q1 0), .ref (q2 0), .int f1, .int f2, .ref (ad 1), .ref (ad 3), .ref (ad 8), .ref (g 0)]))] ++ (WG K g ma nu de ne di (nI n) fr ++ ([(ad 3, .inr (4, [.ref (ad 4)]))] ++ (WE K (ad 4) (ad 5) (ad 6) (ad 7) r M pv ip sv ++ (WD K q d ++ ([(ad 8, .inr (5, [.ref (ad 9)]))] ++ (WE K (ad 9) (ad 10) (ad 11) (ad 12) r2 M2 pv2 ip2 sv2 ++ (WH K (ad 1) (ad 2) f (nI s0) ++ (WD K q1 d1 ++ (WD K q2 d2)))))))))) := hD
  have hl := lv_entry ([.ref (ad 0), .int x, .int y, .int y3]) (n := 4) (Nat.le_of_ble_eq_true rfl)
  rw [lg_entry_eq]
  generalize (lg_sl ([.ref (ad 0), .int x, .int y, .int y3]) ++ List.replicate (4 - (lg_sl ([.ref (ad 0), .int x, .int y, .int y3])).length) Slot.unset).toArray = ls at hl ⊢
  have hl : lv_has ls 4 [(0, .ref (ad 0)), (1, .int x), (2, .int y), (3, .int y3)] := hl
  refine lv_aload_n hx hb dX6_shift_0 rfl (lv_at hl 0 rfl) ?_
  refine va_get (D := D) (ci := 6) (C := RX6) (T := TX6) (N := 9) hx hb hts iX6 hown hK hP 0 rfl rfl 8 (by decide) (hts _ k_f_X6_46) (fun _ h9 => h9) rfl dX6_shift_1 ?_
  refine lv_aload_n hx hb dX6_shift_4 rfl (lv_at hl 0 rfl) ?_
  refine va_get (D := D) (ci := 6) (C := RX6) (T := TX6) (N := 9) hx hb hts iX6 hown hK hP 0 rfl rfl 0 (by decide) (hts _ k_f_X6_12) (fun _ h9 => h9) rfl dX6_shift_5 ?_
  refine lv_aload_n hx hb dX6_shift_8 rfl (lv_at hl 0 rfl) ?_
  refine va_get (D := D) (ci := 6) (C := RX6) (T := TX6) (N := 9) hx hb hts iX6 hown hK hP 0 rfl rfl 6 (by decide) (hts _ k_f_X6_32) (fun _ h9 => h9) rfl dX6_shift_9 ?_
  have hPq := P_perm pm_1234 hP
  have hDq := D_perm pm_1234 hD
  have hPc := bP0 hPq
  have hDc := bD0 hDq
  have hFc := bF0 hDq hS hA
  refine va_callv (va_runV (As := [.ref (q 0), .ref (ad 3)]) (rest := []) ⟨hx, hb, hml, hown, hts⟩ (c_X2_refresh l D K g ma nu de ne di n fr (ad 3) (ad 4) (ad 5) (ad 6) (ad 7) r M pv ip sv q d s.heap.size hn64 hd hfr hT) (cwV 2 hts (TB_V k_m_X6_116 k_im_X2_refresh k_se_X2_refresh k_in_X2 k_co_X2_refresh (fun _ h => h)) rfl rfl rfl (by decide +kernel) ⟨Nat.le_of_ble_eq_true rfl, Nat.le_of_ble_eq_true rfl⟩) ⟨cP_blind, va_recv hK hPc (ci := 2) (q0 := 0) rfl rfl, cP_of hPc hK hDc⟩ rfl rfl hl.1 rfl (lv_room (Nat.le_of_ble_eq_true rfl)) dX6_shift_12 ⟨Nat.le_of_ble_eq_true rfl, Nat.le_of_ble_eq_true rfl⟩) hS (fun q _ h => hFc q h) hFc (fun u9 t9 H locs ht9 hvm hw hB hz1 hk1 hS => ?_)
  obtain ⟨hP1, hK1, hD1⟩ := hB
  rw [ht9] at hP1
  obtain ⟨hPq1, hDq1⟩ := bJ0 hPq hDq hk1 hFc hP1 hD1
  have hP := P_perm (pm_1234 (X0 := _)).symm hPq1
  have hD := D_perm (pm_1234 (X0 := _)).symm hDq1
  have hP : va_P D vwCl ([(ad 0, .inr (6, [.ref (q 0), .ref (q1 0), .ref (q2 0), .int f1, .int f2, .ref (ad 1), .ref (ad 3), .ref (ad 8), .ref (g 0)]))] ++ (WG K g u9.2.1 u9.2.2.1 u9.2.2.2.1 u9.2.2.2.2.1 di (nI u9.1) (nI 1) ++ ([(ad 3, .inr (4, [.ref (ad 4)]))] ++ (WE K (ad 4) (ad 5) (ad 6) (ad 7) r u9.2.2.2.2.2.1 u9.2.2.2.2.2.2.1 u9.2.2.2.2.2.2.2.1 u9.2.2.2.2.2.2.2.2 ++ (WD K q d ++ ([(ad 8, .inr (5, [.ref (ad 9)]))] ++ (WE K (ad 9) (ad 10) (ad 11) (ad 12) r2 M2 pv2 ip2 sv2 ++ (WH K (ad 1) (ad 2) f (nI s0) ++ (WD K q1 d1 ++ (WD K q2 d2)))))))))) H := hP
  have hD : va_D A ([(ad 0, .inr (6, [.ref (q 0), .ref (q1 0), .ref (q2 0), .int f1, .int f2, .ref (ad 1), .ref (ad 3), .ref (ad 8), .ref (g 0)]))] ++ (WG K g u9.2.1 u9.2.2.1 u9.2.2.2.1 u9.2.2.2.2.1 di (nI u9.1) (nI 1) ++ ([(ad 3, .inr (4, [.ref (ad 4)]))] ++ (WE K (ad 4) (ad 5) (ad 6) (ad 7) r u9.2.2.2.2.2.1 u9.2.2.2.2.2.2.1 u9.2.2.2.2.2.2.2.1 u9.2.2.2.2.2.2.2.2 ++ (WD K q d ++ ([(ad 8, .inr (5, [.ref (ad 9)]))] ++ (WE K (ad 9) (ad 10) (ad 11) (ad 12) r2 M2 pv2 ip2 sv2 ++ (WH K (ad 1) (ad 2) f (nI s0) ++ (WD K q1 d1 ++ (WD K q2 d2)))))))))) := hD
  obtain ⟨u9a, u9b⟩ := u9
  obtain ⟨hgn, htab⟩ := hw
  dsimp only at hgn htab
  subst hgn
  have hn64b := gN_le d
  have hP : va_P D vwCl ([(ad 0, .inr (6, [.ref (q 0), .ref (q1 0), .ref (q2 0), .int f1, .int f2, .ref (ad 1), .ref (ad 3), .ref (ad 8), .ref (g 0)]))] ++ (WG K g u9b.1 u9b.2.1 u9b.2.2.1 u9b.2.2.2.1 di (nI (gN d)) (nI 1) ++ ([(ad 3, .inr (4, [.ref (ad 4)]))] ++ (WE K (ad 4) (ad 5) (ad 6) (ad 7) r u9b.2.2.2.2.1 u9b.2.2.2.2.2.1 u9b.2.2.2.2.2.2.1 u9b.2.2.2.2.2.2.2 ++ (WD K q d ++ ([(ad 8, .inr (5, [.ref (ad 9)]))] ++ (WE K (ad 9) (ad 10) (ad 11) (ad 12) r2 M2 pv2 ip2 sv2 ++ (WH K (ad 1) (ad 2) f (nI s0) ++ (WD K q1 d1 ++ (WD K q2 d2)))))))))) H := hP
  have hD : va_D A ([(ad 0, .inr (6, [.ref (q 0), .ref (q1 0), .ref (q2 0), .int f1, .int f2, .ref (ad 1), .ref (ad 3), .ref (ad 8), .ref (g 0)]))] ++ (WG K g u9b.1 u9b.2.1 u9b.2.2.1 u9b.2.2.2.1 di (nI (gN d)) (nI 1) ++ ([(ad 3, .inr (4, [.ref (ad 4)]))] ++ (WE K (ad 4) (ad 5) (ad 6) (ad 7) r u9b.2.2.2.2.1 u9b.2.2.2.2.2.1 u9b.2.2.2.2.2.2.1 u9b.2.2.2.2.2.2.2 ++ (WD K q d ++ ([(ad 8, .inr (5, [.ref (ad 9)]))] ++ (WE K (ad 9) (ad 10) (ad 11) (ad 12) r2 M2 pv2 ip2 sv2 ++ (WH K (ad 1) (ad 2) f (nI s0) ++ (WD K q1 d1 ++ (WD K q2 d2)))))))))) := hD
  have hJ2 : II d (u9b.2.2.2.2.1, u9b.2.2.2.2.2.1, u9b.2.2.2.2.2.2.1, u9b.2.2.2.2.2.2.2, M2, pv2, ip2, sv2, u9b.1, u9b.2.1, u9b.2.2.1, u9b.2.2.2.1, di, (gN d), (nI 1)) := ⟨hn64b, Or.inr rfl, fun _ => ⟨rfl, htab⟩⟩
  refine lv_aload_n hx hb dX6_shift_15 rfl (lv_at hl 0 rfl) ?_
  refine va_get (D := D) (ci := 6) (C := RX6) (T := TX6) (N := 9) hx hb hts iX6 hown hK hP 0 rfl rfl 8 (by decide) (hts _ k_f_X6_46) (fun _ h9 => h9) rfl dX6_shift_16 ?_
  refine lv_iload_n hx hb dX6_shift_19 rfl (lv_at hl 1 rfl) ?_
  have hPq := P_perm pm_1 hP
  have hDq := D_perm pm_1 hD
  have hPc := bP0 hPq
  have hDc := bD0 hDq
  refine va_calli (va_runV (As := [.int x]) (rest := []) ⟨hx, hb, hml, hown, hts⟩ (c_X2_hasGear l D K g u9b.1 u9b.2.1 u9b.2.2.1 u9b.2.2.2.1 di (gN d) (nI 1) x H.size hn64b) (cwV 1 hts (TB_V k_m_X6_207 k_im_X2_hasGear k_se_X2_hasGear k_in_X2 k_co_X2_hasGear (fun _ h => h)) rfl rfl rfl (by decide +kernel) ⟨Nat.le_of_ble_eq_true rfl, Nat.le_of_ble_eq_true rfl⟩) ⟨cP_blind, va_recv hK hPc (ci := 2) (q0 := 0) rfl rfl, cP_of hPc hK hDc⟩ rfl rfl hl.1 rfl (lv_room (Nat.le_of_ble_eq_true rfl)) dX6_shift_20 ⟨Nat.le_of_ble_eq_true rfl, Nat.le_of_ble_eq_true rfl⟩) hS (fun q _ h => absurd h id) (fun q h => absurd h id) (fun rg u9 t9 H locs ht9 hvm hw hB hz1 hk1 hS => ?_)
  have hP := P_same hP hk1
  have hw : rg = bI (ger d x) := hw
  by_cases hgr : ger d x
  rotate_left
  · refine t_i (hw.trans (bI_f hgr).symm) ?_
    refine b_if_eq hx hb (nI_toIntI (by omega)) dX6_shift_23 (tgt := 37) (by decide) (fun c23 => ?_) (fun c23 => absurd c23 (by omega))
    refine thr_54 hx hb hlf hown hts hTX (is := 226) (text := "one of the gears does not exist") (by decide +kernel) hS (by rw [hml]; exact hl.1) dX6_shift_37 dX6_shift_40 dX6_shift_41 dX6_shift_43 dX6_shift_46 hxt (Nat.le_of_ble_eq_true rfl) (Nat.le_of_ble_eq_true rfl) (Nat.le_of_ble_eq_true rfl) (Nat.le_of_ble_eq_true rfl) hlocks (Nat.le_of_ble_eq_true rfl) (Nat.le_of_ble_eq_true rfl) (fun t9 hal hsz9 hkk => ?_)
    exact ⟨((d, d1, d2, f1, f2, f, s0), (u9b.2.2.2.2.1, u9b.2.2.2.2.2.1, u9b.2.2.2.2.2.2.1, u9b.2.2.2.2.2.2.2, M2, pv2, ip2, sv2, u9b.1, u9b.2.1, u9b.2.2.1, u9b.2.2.2.1, di, (gN d), (nI 1))), ⟨rfl, hJ2⟩, ⟨by rw [show rs_shift d x y y3 = _ from (cI_t (fun z => by first | exact hgr z.1 | exact hgt z.2))]; exact ⟨by decide, rfl⟩, hP.kept (fun k q h => hkk q.1 ((hP k q h).lt)), va_K.moved hal hK, hD⟩, Nat.le_trans hS.1 hsz9, fun q h1 h2 => (hkk q (Nat.lt_of_lt_of_le h1 hS.1)).trans (hS.2.1 q h1 h2)⟩
  refine t_i (hw.trans (bI_t hgr).symm) ?_
  obtain ⟨kg, hkg, rfl⟩ := id hgr
  have hkgn : (nI kg).toInt.toNat = kg := by rw [nI_toIntI (by omega)]; omega
  refine b_if_eq hx hb (nI_toIntI (by omega)) dX6_shift_23 (tgt := 37) (by decide) (fun c23 => absurd c23 (by omega)) (fun c23 => ?_)
  refine lv_aload_n hx hb dX6_shift_26 rfl (lv_at hl 0 rfl) ?_
  refine va_get (D := D) (ci := 6) (C := RX6) (T := TX6) (N := 9) hx hb hts iX6 hown hK hP 0 rfl rfl 8 (by decide) (hts _ k_f_X6_46) (fun _ h9 => h9) rfl dX6_shift_27 ?_
  refine lv_iload_n hx hb dX6_shift_30 rfl (lv_at hl 2 rfl) ?_
  have hPq := P_perm pm_1 hP
  have hDq := D_perm pm_1 hD
  have hPc := bP0 hPq
  have hDc := bD0 hDq
  refine va_calli (va_runV (As := [.int y]) (rest := []) ⟨hx, hb, hml, hown, hts⟩ (c_X2_hasGear l D K g u9b.1 u9b.2.1 u9b.2.2.1 u9b.2.2.2.1 di (gN d) (nI 1) y H.size hn64b) (cwV 1 hts (TB_V k_m_X6_207 k_im_X2_hasGear k_se_X2_hasGear k_in_X2 k_co_X2_hasGear (fun _ h => h)) rfl rfl rfl (by decide +kernel) ⟨Nat.le_of_ble_eq_true rfl, Nat.le_of_ble_eq_true rfl⟩) ⟨cP_blind, va_recv hK hPc (ci := 2) (q0 := 0) rfl rfl, cP_of hPc hK hDc⟩ rfl rfl hl.1 rfl (lv_room (Nat.le_of_ble_eq_true rfl)) dX6_shift_31 ⟨Nat.le_of_ble_eq_true rfl, Nat.le_of_ble_eq_true rfl⟩) hS (fun q _ h => absurd h id) (fun q h => absurd h id) (fun rg u9 t9 H locs ht9 hvm hw hB hz1 hk1 hS => ?_)
  have hP := P_same hP hk1
  have hw : rg = bI (ger d y) := hw
  by_cases hgt : ger d y
  rotate_left
  · refine t_i (hw.trans (bI_f hgt).symm) ?_
    refine b_if_ne hx hb (nI_toIntI (by omega)) dX6_shift_34 (tgt := 47) (by decide) (fun c34 => absurd c34 (by omega)) (fun c34 => ?_)
    refine thr_54 hx hb hlf hown hts hTX (is := 226) (text := "one of the gears does not exist") (by decide +kernel) hS (by rw [hml]; exact hl.1) dX6_shift_37 dX6_shift_40 dX6_shift_41 dX6_shift_43 dX6_shift_46 hxt (Nat.le_of_ble_eq_true rfl) (Nat.le_of_ble_eq_true rfl) (Nat.le_of_ble_eq_true rfl) (Nat.le_of_ble_eq_true rfl) hlocks (Nat.le_of_ble_eq_true rfl) (Nat.le_of_ble_eq_true rfl) (fun t9 hal hsz9 hkk => ?_)
    exact ⟨((d, d1, d2, f1, f2, f, s0), (u9b.2.2.2.2.1, u9b.2.2.2.2.2.1, u9b.2.2.2.2.2.2.1, u9b.2.2.2.2.2.2.2, M2, pv2, ip2, sv2, u9b.1, u9b.2.1, u9b.2.2.1, u9b.2.2.2.1, di, (gN d), (nI 1))), ⟨rfl, hJ2⟩, ⟨by rw [show rs_shift d (nI kg) y y3 = _ from (cI_t (fun z => by first | exact hgr z.1 | exact hgt z.2))]; exact ⟨by decide, rfl⟩, hP.kept (fun k q h => hkk q.1 ((hP k q h).lt)), va_K.moved hal hK, hD⟩, Nat.le_trans hS.1 hsz9, fun q h1 h2 => (hkk q (Nat.lt_of_lt_of_le h1 hS.1)).trans (hS.2.1 q h1 h2)⟩
  refine t_i (hw.trans (bI_t hgt).symm) ?_
  obtain ⟨kt, hkt, rfl⟩ := id hgt
  have hktn : (nI kt).toInt.toNat = kt := by rw [nI_toIntI (by omega)]; omega
  refine b_if_ne hx hb (nI_toIntI (by omega)) dX6_shift_34 (tgt := 47) (by decide) (fun c34 => ?_) (fun c34 => absurd c34 (by omega))
  refine lv_aload_n hx hb dX6_shift_47 rfl (lv_at hl 0 rfl) ?_
  refine va_get (D := D) (ci := 6) (C := RX6) (T := TX6) (N := 9) hx hb hts iX6 hown hK hP 0 rfl rfl 8 (by decide) (hts _ k_f_X6_46) (fun _ h9 => h9) rfl dX6_shift_48 ?_
  refine lv_iload_n hx hb dX6_shift_51 rfl (lv_at hl 2 rfl) ?_
  have hGG : ∀ j, j < gN d → gF d j < 64 ∧ u9b.1 j = nI (gF d j) := fun j hj => ⟨(htab j hj).1, (htab j hj).2.1⟩
  have hPq := P_perm pm_1 hP
  have hDq := D_perm pm_1 hD
  have hPc := bP0 hPq
  have hDc := bD0 hDq
  have hFc := bF0 hDq hS hA
  refine va_callv (va_runV (As := [.int (nI kt)]) (rest := []) ⟨hx, hb, hml, hown, hts⟩ (c_X2_measure l D K g u9b.1 u9b.2.1 u9b.2.2.1 u9b.2.2.2.1 di (gN d) (nI 1) (gF d) kt H.size hn64b hkt hGG) (cwV 1 hts (TB_V k_m_X6_228 k_im_X2_measure k_se_X2_measure k_in_X2 k_co_X2_measure (fun _ h => h)) rfl rfl rfl (by decide +kernel) ⟨Nat.le_of_ble_eq_true rfl, Nat.le_of_ble_eq_true rfl⟩) ⟨cP_blind, va_recv hK hPc (ci := 2) (q0 := 0) rfl rfl, cP_of hPc hK hDc⟩ rfl rfl hl.1 rfl (lv_room (Nat.le_of_ble_eq_true rfl)) dX6_shift_52 ⟨Nat.le_of_ble_eq_true rfl, Nat.le_of_ble_eq_true rfl⟩) hS (fun q _ h => hFc q h) hFc (fun mu t9 H locs ht9 hvm hw hB hz1 hk1 hS => ?_)
  obtain ⟨hP1, hK1, hD1⟩ := hB
  rw [ht9] at hP1
  obtain ⟨hPq1, hDq1⟩ := bJ0 hPq hDq hk1 hFc hP1 hD1
  have hP := P_perm (pm_1 (X0 := _)).symm hPq1
  have hD := D_perm (pm_1 (X0 := _)).symm hDq1
  have hP : va_P D vwCl ([(ad 0, .inr (6, [.ref (q 0), .ref (q1 0), .ref (q2 0), .int f1, .int f2, .ref (ad 1), .ref (ad 3), .ref (ad 8), .ref (g 0)]))] ++ (WG K g u9b.1 u9b.2.1 u9b.2.2.1 u9b.2.2.2.1 mu (nI (gN d)) (nI 1) ++ ([(ad 3, .inr (4, [.ref (ad 4)]))] ++ (WE K (ad 4) (ad 5) (ad 6) (ad 7) r u9b.2.2.2.2.1 u9b.2.2.2.2.2.1 u9b.2.2.2.2.2.2.1 u9b.2.2.2.2.2.2.2 ++ (WD K q d ++ ([(ad 8, .inr (5, [.ref (ad 9)]))] ++ (WE K (ad 9) (ad 10) (ad 11) (ad 12) r2 M2 pv2 ip2 sv2 ++ (WH K (ad 1) (ad 2) f (nI s0) ++ (WD K q1 d1 ++ (WD K q2 d2)))))))))) H := hP
  have hD : va_D A ([(ad 0, .inr (6, [.ref (q 0), .ref (q1 0), .ref (q2 0), .int f1, .int f2, .ref (ad 1), .ref (ad 3), .ref (ad 8), .ref (g 0)]))] ++ (WG K g u9b.1 u9b.2.1 u9b.2.2.1 u9b.2.2.2.1 mu (nI (gN d)) (nI 1) ++ ([(ad 3, .inr (4, [.ref (ad 4)]))] ++ (WE K (ad 4) (ad 5) (ad 6) (ad 7) r u9b.2.2.2.2.1 u9b.2.2.2.2.2.1 u9b.2.2.2.2.2.2.1 u9b.2.2.2.2.2.2.2 ++ (WD K q d ++ ([(ad 8, .inr (5, [.ref (ad 9)]))] ++ (WE K (ad 9) (ad 10) (ad 11) (ad 12) r2 M2 pv2 ip2 sv2 ++ (WH K (ad 1) (ad 2) f (nI s0) ++ (WD K q1 d1 ++ (WD K q2 d2)))))))))) := hD
  have hmu := hw
  refine lv_aload_n hx hb dX6_shift_55 rfl (lv_at hl 0 rfl) ?_
  refine va_get (D := D) (ci := 6) (C := RX6) (T := TX6) (N := 9) hx hb hts iX6 hown hK hP 0 rfl rfl 8 (by decide) (hts _ k_f_X6_46) (fun _ h9 => h9) rfl dX6_shift_56 ?_
  refine lv_iload_n hx hb dX6_shift_59 rfl (lv_at hl 1 rfl) ?_
  refine lv_iload_n hx hb dX6_shift_60 rfl (lv_at hl 3 rfl) ?_
  have hPq := P_perm pm_1 hP
  have hDq := D_perm pm_1 hD
  have hPc := bP0 hPq
  have hDc := bD0 hDq
  refine va_calli (va_runV (As := [.int (nI kg), .int y3]) (rest := []) ⟨hx, hb, hml, hown, hts⟩ (c_X2_onTheWay l D K g u9b.1 u9b.2.1 u9b.2.2.1 u9b.2.2.2.1 mu (gN d) (nI 1) (gF d) (dD (gF d) (gN d) kt (gN d - 1)) kg y3 H.size hn64b hkg hGG hmu (fun j v hj e9 => dD_step e9)) (cwV 2 hts (TB_V k_m_X6_234 k_im_X2_onTheWay k_se_X2_onTheWay k_in_X2 k_co_X2_onTheWay (fun _ h => h)) rfl rfl rfl (by decide +kernel) ⟨Nat.le_of_ble_eq_true rfl, Nat.le_of_ble_eq_true rfl⟩) ⟨cP_blind, va_recv hK hPc (ci := 2) (q0 := 0) rfl rfl, cP_of hPc hK hDc⟩ rfl rfl hl.1 rfl (lv_room (Nat.le_of_ble_eq_true rfl)) dX6_shift_61 ⟨Nat.le_of_ble_eq_true rfl, Nat.le_of_ble_eq_true rfl⟩) hS (fun q _ h => absurd h id) (fun q h => absurd h id) (fun ro u9 t9 H locs ht9 hvm hw hB hz1 hk1 hS => ?_)
  have hP := P_same hP hk1
  have hfin : rs_shift d (nI kg) (nI kt) y3 = (0, ro.toInt) := by
    refine (cI_f (fun z => z ⟨hgr, hgt⟩)).trans ?_
    rw [hkgn, hktn]
    rcases hw with ⟨k9, hk9, e1, e2, e3⟩ | ⟨e1, e2⟩
    · have e4 := nI_neg e1 hk9
      refine (cI_f (by omega)).trans (r0 ?_)
      have h9 := wkF_le (gF d) (gN d) (dD (gF d) (gN d) kt (gN d - 1)) kg hkg k9
      rw [e3, nI_toIntI (by omega), show y3.toInt.toNat = k9 by omega]
    · refine (cI_t e1).trans (r0 ?_)
      rw [e2]; decide
  refine vx_ret ?_
  exact W.widen (k := 1) (n := 6) (Nat.le_of_ble_eq_true rfl) (Nat.le_of_ble_eq_true rfl) (W.iret (v := ro) hx hb hr (fun t9 ht9 hW => ⟨⟨ro, ((d, d1, d2, f1, f2, f, s0), (u9b.2.2.2.2.1, u9b.2.2.2.2.2.1, u9b.2.2.2.2.2.2.1, u9b.2.2.2.2.2.2.2, M2, pv2, ip2, sv2, u9b.1, u9b.2.1, u9b.2.2.1, u9b.2.2.2.1, mu, (gN d), (nI 1))), rfl, ⟨rfl, hJ2, hfin⟩, by rw [ht9]; exact hP, va_K.moved hW.alike hK, hD⟩, hS.F ht9⟩) hS.2.2 dX6_shift_64)
set_option maxHeartbeats 4000000 in
set_option maxRecDepth 100000 in
theorem c_X6_save (l : Launch) (hlf : l.stackTraces = false) (D : va_G) (K : Nat → ClassId) (ad q q1 q2 g r r2 : Nat → Nat) (v : CV) (i : CI) (x : Int32) (sz : Nat) (hI : IV v) (hJ : II v.1 i)  : vx_Met l yX6_save (.code yX6_save cX6_save 2 none :: TB) ({ frames := 7, cells := 1, slots := 6, locals := 150 } : Room) (va_Pc [.ref (ad 0), .int x] (cPT D K (WX K ad q q1 q2 g r r2 v i) sz)) (va_Qv (fun (u : CV × CI) => SAV v x u.1 ∧ IV u.1 ∧ II u.1.1 u.2 ∧ rs_save x = (0, 0)) (fun (u : CV × CI) t => cB D K (va_A (WX K ad q q1 q2 g r r2 v i) sz) (WX K ad q q1 q2 g r r2 u.1 u.2) t) (va_A (WX K ad q q1 q2 g r r2 v i) sz)) (vx_X (fun (u : CV × CI) => u.1 = v ∧ II u.1.1 u.2) (fun E (u : CV × CI) t => exc [eIA] (rs_save x).1 E ∧ cB D K (va_A (WX K ad q q1 q2 g r r2 v i) sz) (WX K ad q q1 q2 g r r2 u.1 u.2) t) (va_A (WX K ad q q1 q2 g r r2 v i) sz)) 1 6 (va_A (WX K ad q q1 q2 g r r2 v i) sz) := by
  refine vx_ofW (cc := cX6_save) (maxL := 2) (ret := none) (by decide) rfl ?_
  intro p e s m args below meth c s₁ B hml hxt hv
  obtain ⟨rfl, ⟨hsz, hP, hK, hD0⟩, hTX⟩ := hv
  have hx := B.exec
  have hb := B.bytes
  have hr := B.returns
  have hts := hts_tl (atoms_spec (ws := (.code yX6_save cX6_save 2 none :: TB)) B.pre)
  have hown : s.vm.findClass RX6 = some m.cls := findClass_of_methodNamed B.named
  have hlocks := B.notSynchronized
  subst hsz
  have hD := hD0.self (sz := s.heap.size)
  generalize hAe : (va_A (WX K ad q q1 q2 g r r2 v i) s.heap.size) = A at hD hTX ⊢
  have hA : ∀ q : Nat, s.heap.size ≤ q → A q := fun q h => by rw [← hAe]; exact Or.inr h
  have hS : va_S A s.heap s.heap [] := va_S.rf
  clear hAe hD0
  obtain ⟨d, d1, d2, f1, f2, f, s0⟩ := v
  obtain ⟨M, pv, ip, sv, M2, pv2, ip2, sv2, ma, nu, de, ne, di, n, fr⟩ := i
  obtain ⟨hd, hd1, hd2, hf1, hf2, hs20, hhf⟩ := id hI
  obtain ⟨hn64, hfr, hT⟩ := id hJ
  dsimp only at hd hd1 hd2 hf1 hf2 hs20 hhf hn64 hfr hT
  obtain ⟨ns, m1, ge, hns, hm, hge, h0, h1, h2, hs9, he9⟩ := id hd
  have hm1 : dn d 8 1 = m1 := dn_of h1 (by omega)
  have hn1 : dn d 8 0 = ns := dn_of h0 (by omega)
  have hp6 : 2 ^ m1 ≤ 64 := Nat.pow_le_pow_right (show 0 < 2 by decide) hm
  have hg1 : dn d 8 2 = ge := dn_of h2 (by omega)
  have hP : va_P D vwCl ([(ad 0, .inr (6, [.ref (q 0), .ref (q1 0), .ref (q2 0), .int f1, .int f2, .ref (ad 1), .ref (ad 3), .ref (ad 8), .ref (g 0)]))] ++ (WG K g ma nu de ne di (nI n) fr ++ ([(ad 3, .inr (4, [.ref (ad 4)]))] ++ (WE K (ad 4) (ad 5) (ad 6) (ad 7) r M pv ip sv ++ (WD K q d ++ ([(ad 8, .inr (5, [.ref (ad 9)]))] ++ (WE K (ad 9) (ad 10) (ad 11) (ad 12) r2 M2 pv2 ip2 sv2 ++ (WH K (ad 1) (ad 2) f (nI s0) ++ (WD K q1 d1 ++ (WD K q2 d2)))))))))) s.heap := hP
  have hD : va_D A ([(ad 0, .inr (6, [.ref (q 0), .ref (q1 0), .ref (q2 0), .int f1, .int f2, .ref (ad 1), .ref (ad 3), .ref (ad 8), .ref (g 0)]))] ++ (WG K g ma nu de ne di (nI n) fr ++ ([(ad 3, .inr (4, [.ref (ad 4)]))] ++ (WE K (ad 4) (ad 5) (ad 6) (ad 7) r M pv ip sv ++ (WD K q d ++ ([(ad 8, .inr (5, [.ref (ad 9)]))] ++ (WE K (ad 9) (ad 10) (ad 11) (ad 12) r2 M2 pv2 ip2 sv2 ++ (WH K (ad 1) (ad 2) f (nI s0) ++ (WD K q1 d1 ++ (WD K q2 d2)))))))))) := hD
  have hl := lv_entry ([.ref (ad 0), .int x]) (n := 2) (Nat.le_of_ble_eq_true rfl)
  rw [lg_entry_eq]
  generalize (lg_sl ([.ref (ad 0), .int x]) ++ List.replicate (2 - (lg_sl ([.ref (ad 0), .int x])).length) Slot.unset).toArray = ls at hl ⊢
  have hl : lv_has ls 2 [(0, .ref (ad 0)), (1, .int x)] := hl
  refine lv_iload_n hx hb dX6_save_0 rfl (lv_at hl 1 rfl) ?_
  refine b_if_eq hx hb rfl dX6_save_1 (tgt := 19) (by decide) (fun c1 => ?_) (fun c1 => ?_)
  · refine lv_iload_n hx hb dX6_save_19 rfl (lv_at hl 1 rfl) ?_
    refine b_if_ne hx hb rfl dX6_save_20 (tgt := 42) (by decide) (fun c20 => ?_) (fun c20 => ?_)
    · refine lv_aload_n hx hb dX6_save_42 rfl (lv_at hl 0 rfl) ?_
      refine va_get (D := D) (ci := 6) (C := RX6) (T := TX6) (N := 9) hx hb hts iX6 hown hK hP 0 rfl rfl 2 (by decide) (hts _ k_f_X6_19) (fun _ h9 => h9) rfl dX6_save_43 ?_
      refine lv_aload_n hx hb dX6_save_46 rfl (lv_at hl 0 rfl) ?_
      refine va_get (D := D) (ci := 6) (C := RX6) (T := TX6) (N := 9) hx hb hts iX6 hown hK hP 0 rfl rfl 0 (by decide) (hts _ k_f_X6_12) (fun _ h9 => h9) rfl dX6_save_47 ?_
      have hPq := P_perm pm_94 hP
      have hDq := D_perm pm_94 hD
      have hPc := bP0 hPq
      have hDc := bD0 hDq
      have hFc := bF0 hDq hS hA
      refine va_callv (va_runV (As := [.ref (q 0)]) (rest := []) ⟨hx, hb, hml, hown, hts⟩ (c_X0_copyFrom l D K q2 q d2 d s.heap.size ) (cwV 1 hts (TB_V k_m_X6_239 k_im_X0_copyFrom k_se_X0_copyFrom k_in_X0 k_co_X0_copyFrom (fun _ h => h)) rfl rfl rfl (by decide +kernel) ⟨Nat.le_of_ble_eq_true rfl, Nat.le_of_ble_eq_true rfl⟩) ⟨cP_blind, va_recv hK hPc (ci := 0) (q0 := 0) rfl rfl, cP_of hPc hK hDc⟩ rfl rfl hl.1 rfl (lv_room (Nat.le_of_ble_eq_true rfl)) dX6_save_50 ⟨Nat.le_of_ble_eq_true rfl, Nat.le_of_ble_eq_true rfl⟩) hS (fun q _ h => hFc q h) hFc (fun u9 t9 H locs ht9 hvm hw hB hz1 hk1 hS => ?_)
      obtain ⟨hP1, hK1, hD1⟩ := hB
      rw [ht9] at hP1
      obtain ⟨hPq1, hDq1⟩ := bJ0 hPq hDq hk1 hFc hP1 hD1
      have hP := P_perm (pm_94 (X0 := _)).symm hPq1
      have hD := D_perm (pm_94 (X0 := _)).symm hDq1
      have hP : va_P D vwCl ([(ad 0, .inr (6, [.ref (q 0), .ref (q1 0), .ref (q2 0), .int f1, .int f2, .ref (ad 1), .ref (ad 3), .ref (ad 8), .ref (g 0)]))] ++ (WG K g ma nu de ne di (nI n) fr ++ ([(ad 3, .inr (4, [.ref (ad 4)]))] ++ (WE K (ad 4) (ad 5) (ad 6) (ad 7) r M pv ip sv ++ (WD K q d ++ ([(ad 8, .inr (5, [.ref (ad 9)]))] ++ (WE K (ad 9) (ad 10) (ad 11) (ad 12) r2 M2 pv2 ip2 sv2 ++ (WH K (ad 1) (ad 2) f (nI s0) ++ (WD K q1 d1 ++ (WD K q2 u9)))))))))) H := hP
      have hD : va_D A ([(ad 0, .inr (6, [.ref (q 0), .ref (q1 0), .ref (q2 0), .int f1, .int f2, .ref (ad 1), .ref (ad 3), .ref (ad 8), .ref (g 0)]))] ++ (WG K g ma nu de ne di (nI n) fr ++ ([(ad 3, .inr (4, [.ref (ad 4)]))] ++ (WE K (ad 4) (ad 5) (ad 6) (ad 7) r M pv ip sv ++ (WD K q d ++ ([(ad 8, .inr (5, [.ref (ad 9)]))] ++ (WE K (ad 9) (ad 10) (ad 11) (ad 12) r2 M2 pv2 ip2 sv2 ++ (WH K (ad 1) (ad 2) f (nI s0) ++ (WD K q1 d1 ++ (WD K q2 u9)))))))))) := hD
      have hEq := hw
      refine lv_aload_n hx hb dX6_save_53 rfl (lv_at hl 0 rfl) ?_
      refine lv_iconst (v := nI 1) hx hb dX6_save_54 (by decide) ?_
      refine va_put (D := D) (ci := 6) (v := .int (nI 1)) (ty := .boolean) (C := RX6) (T := TX6) (N := 9) hx hb hts iX6 tyX6 tyX6_ok nmX6 hown hK hP hD hS 0 rfl rfl 4 (by decide) (hts _ k_f_X6_247) (fun _ h9 => h9) rfl (by decide +kernel) (by decide) (by decide) (Nat.le_of_ble_eq_true rfl) dX6_save_55 (fun H locs hP hD hS => ?_)
      have hP : va_P D vwCl ([(ad 0, .inr (6, [.ref (q 0), .ref (q1 0), .ref (q2 0), .int f1, .int (nI 1), .ref (ad 1), .ref (ad 3), .ref (ad 8), .ref (g 0)]))] ++ (WG K g ma nu de ne di (nI n) fr ++ ([(ad 3, .inr (4, [.ref (ad 4)]))] ++ (WE K (ad 4) (ad 5) (ad 6) (ad 7) r M pv ip sv ++ (WD K q d ++ ([(ad 8, .inr (5, [.ref (ad 9)]))] ++ (WE K (ad 9) (ad 10) (ad 11) (ad 12) r2 M2 pv2 ip2 sv2 ++ (WH K (ad 1) (ad 2) f (nI s0) ++ (WD K q1 d1 ++ (WD K q2 u9)))))))))) H := hP
      have hD : va_D A ([(ad 0, .inr (6, [.ref (q 0), .ref (q1 0), .ref (q2 0), .int f1, .int (nI 1), .ref (ad 1), .ref (ad 3), .ref (ad 8), .ref (g 0)]))] ++ (WG K g ma nu de ne di (nI n) fr ++ ([(ad 3, .inr (4, [.ref (ad 4)]))] ++ (WE K (ad 4) (ad 5) (ad 6) (ad 7) r M pv ip sv ++ (WD K q d ++ ([(ad 8, .inr (5, [.ref (ad 9)]))] ++ (WE K (ad 9) (ad 10) (ad 11) (ad 12) r2 M2 pv2 ip2 sv2 ++ (WH K (ad 1) (ad 2) f (nI s0) ++ (WD K q1 d1 ++ (WD K q2 u9)))))))))) := hD
      refine vx_ret ?_
      exact W.widen (k := 1) (n := 6) (Nat.le_of_ble_eq_true rfl) (Nat.le_of_ble_eq_true rfl) (W.vret hx hb hr (fun t9 ht9 hW => ⟨⟨((d, d1, u9, f1, nI 1, f, s0), (M, pv, ip, sv, M2, pv2, ip2, sv2, ma, nu, de, ne, di, n, fr)), rfl, ⟨⟨rfl, rfl, Or.inr ⟨by omega, rfl, hEq, rfl, rfl⟩⟩, ⟨hd, hd1, DV_EqD hd hEq, hf1, Or.inr rfl, hs20, hhf⟩, hJ, cI_f (fun z => z (prt_iff.mpr (by omega)))⟩, by rw [ht9]; exact hP, va_K.moved hW.alike hK, hD⟩, hS.F ht9⟩) hS.2.2 dX6_save_58)
    refine lv_aload_n hx hb dX6_save_23 rfl (lv_at hl 0 rfl) ?_
    refine va_get (D := D) (ci := 6) (C := RX6) (T := TX6) (N := 9) hx hb hts iX6 hown hK hP 0 rfl rfl 1 (by decide) (hts _ k_f_X6_16) (fun _ h9 => h9) rfl dX6_save_24 ?_
    refine lv_aload_n hx hb dX6_save_27 rfl (lv_at hl 0 rfl) ?_
    refine va_get (D := D) (ci := 6) (C := RX6) (T := TX6) (N := 9) hx hb hts iX6 hown hK hP 0 rfl rfl 0 (by decide) (hts _ k_f_X6_12) (fun _ h9 => h9) rfl dX6_save_28 ?_
    have hPq := P_perm pm_84 hP
    have hDq := D_perm pm_84 hD
    have hPc := bP0 hPq
    have hDc := bD0 hDq
    have hFc := bF0 hDq hS hA
    refine va_callv (va_runV (As := [.ref (q 0)]) (rest := []) ⟨hx, hb, hml, hown, hts⟩ (c_X0_copyFrom l D K q1 q d1 d s.heap.size ) (cwV 1 hts (TB_V k_m_X6_239 k_im_X0_copyFrom k_se_X0_copyFrom k_in_X0 k_co_X0_copyFrom (fun _ h => h)) rfl rfl rfl (by decide +kernel) ⟨Nat.le_of_ble_eq_true rfl, Nat.le_of_ble_eq_true rfl⟩) ⟨cP_blind, va_recv hK hPc (ci := 0) (q0 := 0) rfl rfl, cP_of hPc hK hDc⟩ rfl rfl hl.1 rfl (lv_room (Nat.le_of_ble_eq_true rfl)) dX6_save_31 ⟨Nat.le_of_ble_eq_true rfl, Nat.le_of_ble_eq_true rfl⟩) hS (fun q _ h => hFc q h) hFc (fun u9 t9 H locs ht9 hvm hw hB hz1 hk1 hS => ?_)
    obtain ⟨hP1, hK1, hD1⟩ := hB
    rw [ht9] at hP1
    obtain ⟨hPq1, hDq1⟩ := bJ0 hPq hDq hk1 hFc hP1 hD1
    have hP := P_perm (pm_84 (X0 := _)).symm hPq1
    have hD := D_perm (pm_84 (X0 := _)).symm hDq1
    have hP : va_P D vwCl ([(ad 0, .inr (6, [.ref (q 0), .ref (q1 0), .ref (q2 0), .int f1, .int f2, .ref (ad 1), .ref (ad 3), .ref (ad 8), .ref (g 0)]))] ++ (WG K g ma nu de ne di (nI n) fr ++ ([(ad 3, .inr (4, [.ref (ad 4)]))] ++ (WE K (ad 4) (ad 5) (ad 6) (ad 7) r M pv ip sv ++ (WD K q d ++ ([(ad 8, .inr (5, [.ref (ad 9)]))] ++ (WE K (ad 9) (ad 10) (ad 11) (ad 12) r2 M2 pv2 ip2 sv2 ++ (WH K (ad 1) (ad 2) f (nI s0) ++ (WD K q1 u9 ++ (WD K q2 d2)))))))))) H := hP
    have hD : va_D A ([(ad 0, .inr (6, [.ref (q 0), .ref (q1 0), .ref (q2 0), .int f1, .int f2, .ref (ad 1), .ref (ad 3), .ref (ad 8), .ref (g 0)]))] ++ (WG K g ma nu de ne di (nI n) fr ++ ([(ad 3, .inr (4, [.ref (ad 4)]))] ++ (WE K (ad 4) (ad 5) (ad 6) (ad 7) r M pv ip sv ++ (WD K q d ++ ([(ad 8, .inr (5, [.ref (ad 9)]))] ++ (WE K (ad 9) (ad 10) (ad 11) (ad 12) r2 M2 pv2 ip2 sv2 ++ (WH K (ad 1) (ad 2) f (nI s0) ++ (WD K q1 u9 ++ (WD K q2 d2)))))))))) := hD
    have hEq := hw
    refine lv_aload_n hx hb dX6_save_34 rfl (lv_at hl 0 rfl) ?_
    refine lv_iconst (v := nI 1) hx hb dX6_save_35 (by decide) ?_
    refine va_put (D := D) (ci := 6) (v := .int (nI 1)) (ty := .boolean) (C := RX6) (T := TX6) (N := 9) hx hb hts iX6 tyX6 tyX6_ok nmX6 hown hK hP hD hS 0 rfl rfl 3 (by decide) (hts _ k_f_X6_243) (fun _ h9 => h9) rfl (by decide +kernel) (by decide) (by decide) (Nat.le_of_ble_eq_true rfl) dX6_save_36 (fun H locs hP hD hS => ?_)
    have hP : va_P D vwCl ([(ad 0, .inr (6, [.ref (q 0), .ref (q1 0), .ref (q2 0), .int (nI 1), .int f2, .ref (ad 1), .ref (ad 3), .ref (ad 8), .ref (g 0)]))] ++ (WG K g ma nu de ne di (nI n) fr ++ ([(ad 3, .inr (4, [.ref (ad 4)]))] ++ (WE K (ad 4) (ad 5) (ad 6) (ad 7) r M pv ip sv ++ (WD K q d ++ ([(ad 8, .inr (5, [.ref (ad 9)]))] ++ (WE K (ad 9) (ad 10) (ad 11) (ad 12) r2 M2 pv2 ip2 sv2 ++ (WH K (ad 1) (ad 2) f (nI s0) ++ (WD K q1 u9 ++ (WD K q2 d2)))))))))) H := hP
    have hD : va_D A ([(ad 0, .inr (6, [.ref (q 0), .ref (q1 0), .ref (q2 0), .int (nI 1), .int f2, .ref (ad 1), .ref (ad 3), .ref (ad 8), .ref (g 0)]))] ++ (WG K g ma nu de ne di (nI n) fr ++ ([(ad 3, .inr (4, [.ref (ad 4)]))] ++ (WE K (ad 4) (ad 5) (ad 6) (ad 7) r M pv ip sv ++ (WD K q d ++ ([(ad 8, .inr (5, [.ref (ad 9)]))] ++ (WE K (ad 9) (ad 10) (ad 11) (ad 12) r2 M2 pv2 ip2 sv2 ++ (WH K (ad 1) (ad 2) f (nI s0) ++ (WD K q1 u9 ++ (WD K q2 d2)))))))))) := hD
    refine lv_goto (tgt := 58) hx hb dX6_save_39 (by decide) ?_
    refine vx_ret ?_
    exact W.widen (k := 1) (n := 6) (Nat.le_of_ble_eq_true rfl) (Nat.le_of_ble_eq_true rfl) (W.vret hx hb hr (fun t9 ht9 hW => ⟨⟨((d, u9, d2, nI 1, f2, f, s0), (M, pv, ip, sv, M2, pv2, ip2, sv2, ma, nu, de, ne, di, n, fr)), rfl, ⟨⟨rfl, rfl, Or.inl ⟨by omega, hEq, rfl, rfl, rfl⟩⟩, ⟨hd, DV_EqD hd hEq, hd2, Or.inr rfl, hf2, hs20, hhf⟩, hJ, cI_f (fun z => z (prt_iff.mpr (by omega)))⟩, by rw [ht9]; exact hP, va_K.moved hW.alike hK, hD⟩, hS.F ht9⟩) hS.2.2 dX6_save_58)
  refine lv_iload_n hx hb dX6_save_4 rfl (lv_at hl 1 rfl) ?_
  refine lv_iconst (v := nI 1) hx hb dX6_save_5 (by decide) ?_
  refine b_icmp_eq hx hb rfl (nI_toIntI (by omega)) dX6_save_6 (tgt := 19) (by decide) (fun c6 => ?_) (fun c6 => ?_)
  · refine lv_iload_n hx hb dX6_save_19 rfl (lv_at hl 1 rfl) ?_
    refine b_if_ne hx hb rfl dX6_save_20 (tgt := 42) (by decide) (fun c20 => ?_) (fun c20 => ?_)
    · refine lv_aload_n hx hb dX6_save_42 rfl (lv_at hl 0 rfl) ?_
      refine va_get (D := D) (ci := 6) (C := RX6) (T := TX6) (N := 9) hx hb hts iX6 hown hK hP 0 rfl rfl 2 (by decide) (hts _ k_f_X6_19) (fun _ h9 => h9) rfl dX6_save_43 ?_
      refine lv_aload_n hx hb dX6_save_46 rfl (lv_at hl 0 rfl) ?_
      refine va_get (D := D) (ci := 6) (C := RX6) (T := TX6) (N := 9) hx hb hts iX6 hown hK hP 0 rfl rfl 0 (by decide) (hts _ k_f_X6_12) (fun _ h9 => h9) rfl dX6_save_47 ?_
      have hPq := P_perm pm_94 hP
      have hDq := D_perm pm_94 hD
      have hPc := bP0 hPq
      have hDc := bD0 hDq
      have hFc := bF0 hDq hS hA
      refine va_callv (va_runV (As := [.ref (q 0)]) (rest := []) ⟨hx, hb, hml, hown, hts⟩ (c_X0_copyFrom l D K q2 q d2 d s.heap.size ) (cwV 1 hts (TB_V k_m_X6_239 k_im_X0_copyFrom k_se_X0_copyFrom k_in_X0 k_co_X0_copyFrom (fun _ h => h)) rfl rfl rfl (by decide +kernel) ⟨Nat.le_of_ble_eq_true rfl, Nat.le_of_ble_eq_true rfl⟩) ⟨cP_blind, va_recv hK hPc (ci := 0) (q0 := 0) rfl rfl, cP_of hPc hK hDc⟩ rfl rfl hl.1 rfl (lv_room (Nat.le_of_ble_eq_true rfl)) dX6_save_50 ⟨Nat.le_of_ble_eq_true rfl, Nat.le_of_ble_eq_true rfl⟩) hS (fun q _ h => hFc q h) hFc (fun u9 t9 H locs ht9 hvm hw hB hz1 hk1 hS => ?_)
      obtain ⟨hP1, hK1, hD1⟩ := hB
      rw [ht9] at hP1
      obtain ⟨hPq1, hDq1⟩ := bJ0 hPq hDq hk1 hFc hP1 hD1
      have hP := P_perm (pm_94 (X0 := _)).symm hPq1
      have hD := D_perm (pm_94 (X0 := _)).symm hDq1
      have hP : va_P D vwCl ([(ad 0, .inr (6, [.ref (q 0), .ref (q1 0), .ref (q2 0), .int f1, .int f2, .ref (ad 1), .ref (ad 3), .ref (ad 8), .ref (g 0)]))] ++ (WG K g ma nu de ne di (nI n) fr ++ ([(ad 3, .inr (4, [.ref (ad 4)]))] ++ (WE K (ad 4) (ad 5) (ad 6) (ad 7) r M pv ip sv ++ (WD K q d ++ ([(ad 8, .inr (5, [.ref (ad 9)]))] ++ (WE K (ad 9) (ad 10) (ad 11) (ad 12) r2 M2 pv2 ip2 sv2 ++ (WH K (ad 1) (ad 2) f (nI s0) ++ (WD K q1 d1 ++ (WD K q2 u9)))))))))) H := hP
      have hD : va_D A ([(ad 0, .inr (6, [.ref (q 0), .ref (q1 0), .ref (q2 0), .int f1, .int f2, .ref (ad 1), .ref (ad 3), .ref (ad 8), .ref (g 0)]))] ++ (WG K g ma nu de ne di (nI n) fr ++ ([(ad 3, .inr (4, [.ref (ad 4)]))] ++ (WE K (ad 4) (ad 5) (ad 6) (ad 7) r M pv ip sv ++ (WD K q d ++ ([(ad 8, .inr (5, [.ref (ad 9)]))] ++ (WE K (ad 9) (ad 10) (ad 11) (ad 12) r2 M2 pv2 ip2 sv2 ++ (WH K (ad 1) (ad 2) f (nI s0) ++ (WD K q1 d1 ++ (WD K q2 u9)))))))))) := hD
      have hEq := hw
      refine lv_aload_n hx hb dX6_save_53 rfl (lv_at hl 0 rfl) ?_
      refine lv_iconst (v := nI 1) hx hb dX6_save_54 (by decide) ?_
      refine va_put (D := D) (ci := 6) (v := .int (nI 1)) (ty := .boolean) (C := RX6) (T := TX6) (N := 9) hx hb hts iX6 tyX6 tyX6_ok nmX6 hown hK hP hD hS 0 rfl rfl 4 (by decide) (hts _ k_f_X6_247) (fun _ h9 => h9) rfl (by decide +kernel) (by decide) (by decide) (Nat.le_of_ble_eq_true rfl) dX6_save_55 (fun H locs hP hD hS => ?_)
      have hP : va_P D vwCl ([(ad 0, .inr (6, [.ref (q 0), .ref (q1 0), .ref (q2 0), .int f1, .int (nI 1), .ref (ad 1), .ref (ad 3), .ref (ad 8), .ref (g 0)]))] ++ (WG K g ma nu de ne di (nI n) fr ++ ([(ad 3, .inr (4, [.ref (ad 4)]))] ++ (WE K (ad 4) (ad 5) (ad 6) (ad 7) r M pv ip sv ++ (WD K q d ++ ([(ad 8, .inr (5, [.ref (ad 9)]))] ++ (WE K (ad 9) (ad 10) (ad 11) (ad 12) r2 M2 pv2 ip2 sv2 ++ (WH K (ad 1) (ad 2) f (nI s0) ++ (WD K q1 d1 ++ (WD K q2 u9)))))))))) H := hP
      have hD : va_D A ([(ad 0, .inr (6, [.ref (q 0), .ref (q1 0), .ref (q2 0), .int f1, .int (nI 1), .ref (ad 1), .ref (ad 3), .ref (ad 8), .ref (g 0)]))] ++ (WG K g ma nu de ne di (nI n) fr ++ ([(ad 3, .inr (4, [.ref (ad 4)]))] ++ (WE K (ad 4) (ad 5) (ad 6) (ad 7) r M pv ip sv ++ (WD K q d ++ ([(ad 8, .inr (5, [.ref (ad 9)]))] ++ (WE K (ad 9) (ad 10) (ad 11) (ad 12) r2 M2 pv2 ip2 sv2 ++ (WH K (ad 1) (ad 2) f (nI s0) ++ (WD K q1 d1 ++ (WD K q2 u9)))))))))) := hD
      refine vx_ret ?_
      exact W.widen (k := 1) (n := 6) (Nat.le_of_ble_eq_true rfl) (Nat.le_of_ble_eq_true rfl) (W.vret hx hb hr (fun t9 ht9 hW => ⟨⟨((d, d1, u9, f1, nI 1, f, s0), (M, pv, ip, sv, M2, pv2, ip2, sv2, ma, nu, de, ne, di, n, fr)), rfl, ⟨⟨rfl, rfl, Or.inr ⟨by omega, rfl, hEq, rfl, rfl⟩⟩, ⟨hd, hd1, DV_EqD hd hEq, hf1, Or.inr rfl, hs20, hhf⟩, hJ, cI_f (fun z => z (prt_iff.mpr (by omega)))⟩, by rw [ht9]; exact hP, va_K.moved hW.alike hK, hD⟩, hS.F ht9⟩) hS.2.2 dX6_save_58)
    refine lv_aload_n hx hb dX6_save_23 rfl (lv_at hl 0 rfl) ?_
    refine va_get (D := D) (ci := 6) (C := RX6) (T := TX6) (N := 9) hx hb hts iX6 hown hK hP 0 rfl rfl 1 (by decide) (hts _ k_f_X6_16) (fun _ h9 => h9) rfl dX6_save_24 ?_
    refine lv_aload_n hx hb dX6_save_27 rfl (lv_at hl 0 rfl) ?_
    refine va_get (D := D) (ci := 6) (C := RX6) (T := TX6) (N := 9) hx hb hts iX6 hown hK hP 0 rfl rfl 0 (by decide) (hts _ k_f_X6_12) (fun _ h9 => h9) rfl dX6_save_28 ?_
    have hPq := P_perm pm_84 hP
    have hDq := D_perm pm_84 hD
    have hPc := bP0 hPq
    have hDc := bD0 hDq
    have hFc := bF0 hDq hS hA
    refine va_callv (va_runV (As := [.ref (q 0)]) (rest := []) ⟨hx, hb, hml, hown, hts⟩ (c_X0_copyFrom l D K q1 q d1 d s.heap.size ) (cwV 1 hts (TB_V k_m_X6_239 k_im_X0_copyFrom k_se_X0_copyFrom k_in_X0 k_co_X0_copyFrom (fun _ h => h)) rfl rfl rfl (by decide +kernel) ⟨Nat.le_of_ble_eq_true rfl, Nat.le_of_ble_eq_true rfl⟩) ⟨cP_blind, va_recv hK hPc (ci := 0) (q0 := 0) rfl rfl, cP_of hPc hK hDc⟩ rfl rfl hl.1 rfl (lv_room (Nat.le_of_ble_eq_true rfl)) dX6_save_31 ⟨Nat.le_of_ble_eq_true rfl, Nat.le_of_ble_eq_true rfl⟩) hS (fun q _ h => hFc q h) hFc (fun u9 t9 H locs ht9 hvm hw hB hz1 hk1 hS => ?_)
    obtain ⟨hP1, hK1, hD1⟩ := hB
    rw [ht9] at hP1
    obtain ⟨hPq1, hDq1⟩ := bJ0 hPq hDq hk1 hFc hP1 hD1
    have hP := P_perm (pm_84 (X0 := _)).symm hPq1
    have hD := D_perm (pm_84 (X0 := _)).symm hDq1
    have hP : va_P D vwCl ([(ad 0, .inr (6, [.ref (q 0), .ref (q1 0), .ref (q2 0), .int f1, .int f2, .ref (ad 1), .ref (ad 3), .ref (ad 8), .ref (g 0)]))] ++ (WG K g ma nu de ne di (nI n) fr ++ ([(ad 3, .inr (4, [.ref (ad 4)]))] ++ (WE K (ad 4) (ad 5) (ad 6) (ad 7) r M pv ip sv ++ (WD K q d ++ ([(ad 8, .inr (5, [.ref (ad 9)]))] ++ (WE K (ad 9) (ad 10) (ad 11) (ad 12) r2 M2 pv2 ip2 sv2 ++ (WH K (ad 1) (ad 2) f (nI s0) ++ (WD K q1 u9 ++ (WD K q2 d2)))))))))) H := hP
    have hD : va_D A ([(ad 0, .inr (6, [.ref (q 0), .ref (q1 0), .ref (q2 0), .int f1, .int f2, .ref (ad 1), .ref (ad 3), .ref (ad 8), .ref (g 0)]))] ++ (WG K g ma nu de ne di (nI n) fr ++ ([(ad 3, .inr (4, [.ref (ad 4)]))] ++ (WE K (ad 4) (ad 5) (ad 6) (ad 7) r M pv ip sv ++ (WD K q d ++ ([(ad 8, .inr (5, [.ref (ad 9)]))] ++ (WE K (ad 9) (ad 10) (ad 11) (ad 12) r2 M2 pv2 ip2 sv2 ++ (WH K (ad 1) (ad 2) f (nI s0) ++ (WD K q1 u9 ++ (WD K q2 d2)))))))))) := hD
    have hEq := hw
    refine lv_aload_n hx hb dX6_save_34 rfl (lv_at hl 0 rfl) ?_
    refine lv_iconst (v := nI 1) hx hb dX6_save_35 (by decide) ?_
    refine va_put (D := D) (ci := 6) (v := .int (nI 1)) (ty := .boolean) (C := RX6) (T := TX6) (N := 9) hx hb hts iX6 tyX6 tyX6_ok nmX6 hown hK hP hD hS 0 rfl rfl 3 (by decide) (hts _ k_f_X6_243) (fun _ h9 => h9) rfl (by decide +kernel) (by decide) (by decide) (Nat.le_of_ble_eq_true rfl) dX6_save_36 (fun H locs hP hD hS => ?_)
    have hP : va_P D vwCl ([(ad 0, .inr (6, [.ref (q 0), .ref (q1 0), .ref (q2 0), .int (nI 1), .int f2, .ref (ad 1), .ref (ad 3), .ref (ad 8), .ref (g 0)]))] ++ (WG K g ma nu de ne di (nI n) fr ++ ([(ad 3, .inr (4, [.ref (ad 4)]))] ++ (WE K (ad 4) (ad 5) (ad 6) (ad 7) r M pv ip sv ++ (WD K q d ++ ([(ad 8, .inr (5, [.ref (ad 9)]))] ++ (WE K (ad 9) (ad 10) (ad 11) (ad 12) r2 M2 pv2 ip2 sv2 ++ (WH K (ad 1) (ad 2) f (nI s0) ++ (WD K q1 u9 ++ (WD K q2 d2)))))))))) H := hP
    have hD : va_D A ([(ad 0, .inr (6, [.ref (q 0), .ref (q1 0), .ref (q2 0), .int (nI 1), .int f2, .ref (ad 1), .ref (ad 3), .ref (ad 8), .ref (g 0)]))] ++ (WG K g ma nu de ne di (nI n) fr ++ ([(ad 3, .inr (4, [.ref (ad 4)]))] ++ (WE K (ad 4) (ad 5) (ad 6) (ad 7) r M pv ip sv ++ (WD K q d ++ ([(ad 8, .inr (5, [.ref (ad 9)]))] ++ (WE K (ad 9) (ad 10) (ad 11) (ad 12) r2 M2 pv2 ip2 sv2 ++ (WH K (ad 1) (ad 2) f (nI s0) ++ (WD K q1 u9 ++ (WD K q2 d2)))))))))) := hD
    refine lv_goto (tgt := 58) hx hb dX6_save_39 (by decide) ?_
    refine vx_ret ?_
    exact W.widen (k := 1) (n := 6) (Nat.le_of_ble_eq_true rfl) (Nat.le_of_ble_eq_true rfl) (W.vret hx hb hr (fun t9 ht9 hW => ⟨⟨((d, u9, d2, nI 1, f2, f, s0), (M, pv, ip, sv, M2, pv2, ip2, sv2, ma, nu, de, ne, di, n, fr)), rfl, ⟨⟨rfl, rfl, Or.inl ⟨by omega, hEq, rfl, rfl, rfl⟩⟩, ⟨hd, DV_EqD hd hEq, hd2, Or.inr rfl, hf2, hs20, hhf⟩, hJ, cI_f (fun z => z (prt_iff.mpr (by omega)))⟩, by rw [ht9]; exact hP, va_K.moved hW.alike hK, hD⟩, hS.F ht9⟩) hS.2.2 dX6_save_58)
  refine thr_61 hx hb hlf hown hts hTX (is := 237) (text := "the slot does not exist") (by decide +kernel) hS (by rw [hml]; exact hl.1) dX6_save_9 dX6_save_12 dX6_save_13 dX6_save_15 dX6_save_18 hxt (Nat.le_of_ble_eq_true rfl) (Nat.le_of_ble_eq_true rfl) (Nat.le_of_ble_eq_true rfl) (Nat.le_of_ble_eq_true rfl) hlocks (Nat.le_of_ble_eq_true rfl) (Nat.le_of_ble_eq_true rfl) (fun t9 hal hsz9 hkk => ?_)
  exact ⟨((d, d1, d2, f1, f2, f, s0), (M, pv, ip, sv, M2, pv2, ip2, sv2, ma, nu, de, ne, di, n, fr)), ⟨rfl, hJ⟩, ⟨by rw [show rs_save x = _ from (cI_t (fun z => by have z := prt_iff.mp z; omega))]; exact ⟨by decide, rfl⟩, hP.kept (fun k q h => hkk q.1 ((hP k q h).lt)), va_K.moved hal hK, hD⟩, Nat.le_trans hS.1 hsz9, fun q h1 h2 => (hkk q (Nat.lt_of_lt_of_le h1 hS.1)).trans (hS.2.1 q h1 h2)⟩
set_option maxHeartbeats 4000000 in
set_option maxRecDepth 100000 in
theorem c_X6_restore (l : Launch) (hlf : l.stackTraces = false) (D : va_G) (K : Nat → ClassId) (ad q q1 q2 g r r2 : Nat → Nat) (v : CV) (i : CI) (x : Int32) (sz : Nat) (hI : IV v) (hJ : II v.1 i)  : vx_Met l yX6_restore (.code yX6_restore cX6_restore 2 none :: TB) ({ frames := 7, cells := 1, slots := 6, locals := 150 } : Room) (va_Pc [.ref (ad 0), .int x] (cPT D K (WX K ad q q1 q2 g r r2 v i) sz)) (va_Qv (fun (u : CV × CI) => RES v x u.1 ∧ IV u.1 ∧ II u.1.1 u.2 ∧ rs_restore v x = (0, 0)) (fun (u : CV × CI) t => cB D K (va_A (WX K ad q q1 q2 g r r2 v i) sz) (WX K ad q q1 q2 g r r2 u.1 u.2) t) (va_A (WX K ad q q1 q2 g r r2 v i) sz)) (vx_X (fun (u : CV × CI) => u.1 = v ∧ II u.1.1 u.2) (fun E (u : CV × CI) t => exc [eIA, eIS] (rs_restore v x).1 E ∧ cB D K (va_A (WX K ad q q1 q2 g r r2 v i) sz) (WX K ad q q1 q2 g r r2 u.1 u.2) t) (va_A (WX K ad q q1 q2 g r r2 v i) sz)) 1 6 (va_A (WX K ad q q1 q2 g r r2 v i) sz) := by
  refine vx_ofW (cc := cX6_restore) (maxL := 2) (ret := none) (by decide) rfl ?_
  intro p e s m args below meth c s₁ B hml hxt hv
  obtain ⟨rfl, ⟨hsz, hP, hK, hD0⟩, hTX⟩ := hv
  have hx := B.exec
  have hb := B.bytes
  have hr := B.returns
  have hts := hts_tl (atoms_spec (ws := (.code yX6_restore cX6_restore 2 none :: TB)) B.pre)
  have hown : s.vm.findClass RX6 = some m.cls := findClass_of_methodNamed B.named
  have hlocks := B.notSynchronized
  subst hsz
  have hD := hD0.self (sz := s.heap.size)
  generalize hAe : (va_A (WX K ad q q1 q2 g r r2 v i) s.heap.size) = A at hD hTX ⊢
  have hA : ∀ q : Nat, s.heap.size ≤ q → A q := fun q h => by rw [← hAe]; exact Or.inr h
  have hS : va_S A s.heap s.heap [] := va_S.rf
  clear hAe hD0
  obtain ⟨d, d1, d2, f1, f2, f, s0⟩ := v
  obtain ⟨M, pv, ip, sv, M2, pv2, ip2, sv2, ma, nu, de, ne, di, n, fr⟩ := i
  obtain ⟨hd, hd1, hd2, hf1, hf2, hs20, hhf⟩ := id hI
  obtain ⟨hn64, hfr, hT⟩ := id hJ
  dsimp only at hd hd1 hd2 hf1 hf2 hs20 hhf hn64 hfr hT
  obtain ⟨ns, m1, ge, hns, hm, hge, h0, h1, h2, hs9, he9⟩ := id hd
  have hm1 : dn d 8 1 = m1 := dn_of h1 (by omega)
  have hn1 : dn d 8 0 = ns := dn_of h0 (by omega)
  have hp6 : 2 ^ m1 ≤ 64 := Nat.pow_le_pow_right (show 0 < 2 by decide) hm
  have hg1 : dn d 8 2 = ge := dn_of h2 (by omega)
  have hP : va_P D vwCl ([(ad 0, .inr (6, [.ref (q 0), .ref (q1 0), .ref (q2 0), .int f1, .int f2, .ref (ad 1), .ref (ad 3), .ref (ad 8), .ref (g 0)]))] ++ (WG K g ma nu de ne di (nI n) fr ++ ([(ad 3, .inr (4, [.ref (ad 4)]))] ++ (WE K (ad 4) (ad 5) (ad 6) (ad 7) r M pv ip sv ++ (WD K q d ++ ([(ad 8, .inr (5, [.ref (ad 9)]))] ++ (WE K (ad 9) (ad 10) (ad 11) (ad 12) r2 M2 pv2 ip2 sv2 ++ (WH K (ad 1) (ad 2) f (nI s0) ++ (WD K q1 d1 ++ (WD K q2 d2)))))))))) s.heap := hP
  have hD : va_D A ([(ad 0, .inr (6, [.ref (q 0), .ref (q1 0), .ref (q2 0), .int f1, .int f2, .ref (ad 1), .ref (ad 3), .ref (ad 8), .ref (g 0)]))] ++ (WG K g ma nu de ne di (nI n) fr ++ ([(ad 3, .inr (4, [.ref (ad 4)]))] ++ (WE K (ad 4) (ad 5) (ad 6) (ad 7) r M pv ip sv ++ (WD K q d ++ ([(ad 8, .inr (5, [.ref (ad 9)]))] ++ (WE K (ad 9) (ad 10) (ad 11) (ad 12) r2 M2 pv2 ip2 sv2 ++ (WH K (ad 1) (ad 2) f (nI s0) ++ (WD K q1 d1 ++ (WD K q2 d2)))))))))) := hD
  have hl := lv_entry ([.ref (ad 0), .int x]) (n := 2) (Nat.le_of_ble_eq_true rfl)
  rw [lg_entry_eq]
  generalize (lg_sl ([.ref (ad 0), .int x]) ++ List.replicate (2 - (lg_sl ([.ref (ad 0), .int x])).length) Slot.unset).toArray = ls at hl ⊢
  have hl : lv_has ls 2 [(0, .ref (ad 0)), (1, .int x)] := hl
  refine lv_iload_n hx hb dX6_restore_0 rfl (lv_at hl 1 rfl) ?_
  refine b_if_eq hx hb rfl dX6_restore_1 (tgt := 19) (by decide) (fun c1 => ?_) (fun c1 => ?_)
  · refine lv_iload_n hx hb dX6_restore_19 rfl (lv_at hl 1 rfl) ?_
    refine b_if_ne hx hb rfl dX6_restore_20 (tgt := 33) (by decide) (fun c20 => ?_) (fun c20 => ?_)
    · refine lv_aload_n hx hb dX6_restore_33 rfl (lv_at hl 0 rfl) ?_
      refine va_get (D := D) (ci := 6) (C := RX6) (T := TX6) (N := 9) hx hb hts iX6 hown hK hP 0 rfl rfl 4 (by decide) (hts _ k_f_X6_247) (fun _ h9 => h9) rfl dX6_restore_34 ?_
      refine b_if_ne hx hb rfl dX6_restore_37 (tgt := 50) (by decide) (fun c37 => ?_) (fun c37 => ?_)
      · refine lv_aload_n hx hb dX6_restore_50 rfl (lv_at hl 0 rfl) ?_
        refine va_get (D := D) (ci := 6) (C := RX6) (T := TX6) (N := 9) hx hb hts iX6 hown hK hP 0 rfl rfl 0 (by decide) (hts _ k_f_X6_12) (fun _ h9 => h9) rfl dX6_restore_51 ?_
        refine lv_iload_n hx hb dX6_restore_54 rfl (lv_at hl 1 rfl) ?_
        refine b_if_ne hx hb rfl dX6_restore_55 (tgt := 65) (by decide) (fun c55 => ?_) (fun c55 => absurd c55 (by omega))
        refine lv_aload_n hx hb dX6_restore_65 rfl (lv_at hl 0 rfl) ?_
        refine va_get (D := D) (ci := 6) (C := RX6) (T := TX6) (N := 9) hx hb hts iX6 hown hK hP 0 rfl rfl 2 (by decide) (hts _ k_f_X6_19) (fun _ h9 => h9) rfl dX6_restore_66 ?_
        have hPq := P_perm pm_49 hP
        have hDq := D_perm pm_49 hD
        have hPc := bP0 hPq
        have hDc := bD0 hDq
        have hFc := bF0 hDq hS hA
        refine va_callv (va_runV (As := [.ref (q2 0)]) (rest := []) ⟨hx, hb, hml, hown, hts⟩ (c_X0_copyFrom l D K q q2 d d2 s.heap.size ) (cwV 1 hts (TB_V k_m_X6_239 k_im_X0_copyFrom k_se_X0_copyFrom k_in_X0 k_co_X0_copyFrom (fun _ h => h)) rfl rfl rfl (by decide +kernel) ⟨Nat.le_of_ble_eq_true rfl, Nat.le_of_ble_eq_true rfl⟩) ⟨cP_blind, va_recv hK hPc (ci := 0) (q0 := 0) rfl rfl, cP_of hPc hK hDc⟩ rfl rfl hl.1 rfl (lv_room (Nat.le_of_ble_eq_true rfl)) dX6_restore_69 ⟨Nat.le_of_ble_eq_true rfl, Nat.le_of_ble_eq_true rfl⟩) hS (fun q _ h => hFc q h) hFc (fun u9 t9 H locs ht9 hvm hw hB hz1 hk1 hS => ?_)
        obtain ⟨hP1, hK1, hD1⟩ := hB
        rw [ht9] at hP1
        obtain ⟨hPq1, hDq1⟩ := bJ0 hPq hDq hk1 hFc hP1 hD1
        have hP := P_perm (pm_49 (X0 := _)).symm hPq1
        have hD := D_perm (pm_49 (X0 := _)).symm hDq1
        have hP : va_P D vwCl ([(ad 0, .inr (6, [.ref (q 0), .ref (q1 0), .ref (q2 0), .int f1, .int f2, .ref (ad 1), .ref (ad 3), .ref (ad 8), .ref (g 0)]))] ++ (WG K g ma nu de ne di (nI n) fr ++ ([(ad 3, .inr (4, [.ref (ad 4)]))] ++ (WE K (ad 4) (ad 5) (ad 6) (ad 7) r M pv ip sv ++ (WD K q u9 ++ ([(ad 8, .inr (5, [.ref (ad 9)]))] ++ (WE K (ad 9) (ad 10) (ad 11) (ad 12) r2 M2 pv2 ip2 sv2 ++ (WH K (ad 1) (ad 2) f (nI s0) ++ (WD K q1 d1 ++ (WD K q2 d2)))))))))) H := hP
        have hD : va_D A ([(ad 0, .inr (6, [.ref (q 0), .ref (q1 0), .ref (q2 0), .int f1, .int f2, .ref (ad 1), .ref (ad 3), .ref (ad 8), .ref (g 0)]))] ++ (WG K g ma nu de ne di (nI n) fr ++ ([(ad 3, .inr (4, [.ref (ad 4)]))] ++ (WE K (ad 4) (ad 5) (ad 6) (ad 7) r M pv ip sv ++ (WD K q u9 ++ ([(ad 8, .inr (5, [.ref (ad 9)]))] ++ (WE K (ad 9) (ad 10) (ad 11) (ad 12) r2 M2 pv2 ip2 sv2 ++ (WH K (ad 1) (ad 2) f (nI s0) ++ (WD K q1 d1 ++ (WD K q2 d2)))))))))) := hD
        have hEq := hw
        refine lv_aload_n hx hb dX6_restore_72 rfl (lv_at hl 0 rfl) ?_
        refine va_get (D := D) (ci := 6) (C := RX6) (T := TX6) (N := 9) hx hb hts iX6 hown hK hP 0 rfl rfl 5 (by decide) (hts _ k_f_X6_25) (fun _ h9 => h9) rfl dX6_restore_73 ?_
        have hPq := P_perm pm_7 hP
        have hDq := D_perm pm_7 hD
        have hPc := bP0 hPq
        have hDc := bD0 hDq
        have hFc := bF0 hDq hS hA
        refine va_callv (va_runV (As := []) (rest := []) ⟨hx, hb, hml, hown, hts⟩ (c_X3_clear l D K (ad 1) (ad 2) f s0 H.size ) (cwV 0 hts (TB_V k_m_X6_252 k_im_X3_clear k_se_X3_clear k_in_X3 k_co_X3_clear (fun _ h => h)) rfl rfl rfl (by decide +kernel) ⟨Nat.le_of_ble_eq_true rfl, Nat.le_of_ble_eq_true rfl⟩) ⟨cP_blind, va_recv hK hPc (ci := 3) (q0 := 0) rfl rfl, cP_of hPc hK hDc⟩ rfl rfl hl.1 rfl (lv_room (Nat.le_of_ble_eq_true rfl)) dX6_restore_76 ⟨Nat.le_of_ble_eq_true rfl, Nat.le_of_ble_eq_true rfl⟩) hS (fun q _ h => hFc q h) hFc (fun u8 t9 H locs ht9 hvm hw hB hz1 hk1 hS => ?_)
        obtain ⟨hP1, hK1, hD1⟩ := hB
        rw [ht9] at hP1
        obtain ⟨hPq1, hDq1⟩ := bJ0 hPq hDq hk1 hFc hP1 hD1
        have hP := P_perm (pm_7 (X0 := _)).symm hPq1
        have hD := D_perm (pm_7 (X0 := _)).symm hDq1
        have hP : va_P D vwCl ([(ad 0, .inr (6, [.ref (q 0), .ref (q1 0), .ref (q2 0), .int f1, .int f2, .ref (ad 1), .ref (ad 3), .ref (ad 8), .ref (g 0)]))] ++ (WG K g ma nu de ne di (nI n) fr ++ ([(ad 3, .inr (4, [.ref (ad 4)]))] ++ (WE K (ad 4) (ad 5) (ad 6) (ad 7) r M pv ip sv ++ (WD K q u9 ++ ([(ad 8, .inr (5, [.ref (ad 9)]))] ++ (WE K (ad 9) (ad 10) (ad 11) (ad 12) r2 M2 pv2 ip2 sv2 ++ (WH K (ad 1) (ad 2) f (nI 0) ++ (WD K q1 d1 ++ (WD K q2 d2)))))))))) H := hP
        have hD : va_D A ([(ad 0, .inr (6, [.ref (q 0), .ref (q1 0), .ref (q2 0), .int f1, .int f2, .ref (ad 1), .ref (ad 3), .ref (ad 8), .ref (g 0)]))] ++ (WG K g ma nu de ne di (nI n) fr ++ ([(ad 3, .inr (4, [.ref (ad 4)]))] ++ (WE K (ad 4) (ad 5) (ad 6) (ad 7) r M pv ip sv ++ (WD K q u9 ++ ([(ad 8, .inr (5, [.ref (ad 9)]))] ++ (WE K (ad 9) (ad 10) (ad 11) (ad 12) r2 M2 pv2 ip2 sv2 ++ (WH K (ad 1) (ad 2) f (nI 0) ++ (WD K q1 d1 ++ (WD K q2 d2)))))))))) := hD
        refine lv_aload_n hx hb dX6_restore_79 rfl (lv_at hl 0 rfl) ?_
        refine va_get (D := D) (ci := 6) (C := RX6) (T := TX6) (N := 9) hx hb hts iX6 hown hK hP 0 rfl rfl 8 (by decide) (hts _ k_f_X6_46) (fun _ h9 => h9) rfl dX6_restore_80 ?_
        have hPq := P_perm pm_1 hP
        have hDq := D_perm pm_1 hD
        have hPc := bP0 hPq
        have hDc := bD0 hDq
        have hFc := bF0 hDq hS hA
        refine va_callv (va_runV (As := []) (rest := []) ⟨hx, hb, hml, hown, hts⟩ (c_X2_forget l D K g ma nu de ne di n fr H.size ) (cwV 0 hts (TB_V k_m_X6_79 k_im_X2_forget k_se_X2_forget k_in_X2 k_co_X2_forget (fun _ h => h)) rfl rfl rfl (by decide +kernel) ⟨Nat.le_of_ble_eq_true rfl, Nat.le_of_ble_eq_true rfl⟩) ⟨cP_blind, va_recv hK hPc (ci := 2) (q0 := 0) rfl rfl, cP_of hPc hK hDc⟩ rfl rfl hl.1 rfl (lv_room (Nat.le_of_ble_eq_true rfl)) dX6_restore_83 ⟨Nat.le_of_ble_eq_true rfl, Nat.le_of_ble_eq_true rfl⟩) hS (fun q _ h => hFc q h) hFc (fun u7 t9 H locs ht9 hvm hw hB hz1 hk1 hS => ?_)
        obtain ⟨hP1, hK1, hD1⟩ := hB
        rw [ht9] at hP1
        obtain ⟨hPq1, hDq1⟩ := bJ0 hPq hDq hk1 hFc hP1 hD1
        have hP := P_perm (pm_1 (X0 := _)).symm hPq1
        have hD := D_perm (pm_1 (X0 := _)).symm hDq1
        have hP : va_P D vwCl ([(ad 0, .inr (6, [.ref (q 0), .ref (q1 0), .ref (q2 0), .int f1, .int f2, .ref (ad 1), .ref (ad 3), .ref (ad 8), .ref (g 0)]))] ++ (WG K g ma nu de ne di (nI n) (nI 0) ++ ([(ad 3, .inr (4, [.ref (ad 4)]))] ++ (WE K (ad 4) (ad 5) (ad 6) (ad 7) r M pv ip sv ++ (WD K q u9 ++ ([(ad 8, .inr (5, [.ref (ad 9)]))] ++ (WE K (ad 9) (ad 10) (ad 11) (ad 12) r2 M2 pv2 ip2 sv2 ++ (WH K (ad 1) (ad 2) f (nI 0) ++ (WD K q1 d1 ++ (WD K q2 d2)))))))))) H := hP
        have hD : va_D A ([(ad 0, .inr (6, [.ref (q 0), .ref (q1 0), .ref (q2 0), .int f1, .int f2, .ref (ad 1), .ref (ad 3), .ref (ad 8), .ref (g 0)]))] ++ (WG K g ma nu de ne di (nI n) (nI 0) ++ ([(ad 3, .inr (4, [.ref (ad 4)]))] ++ (WE K (ad 4) (ad 5) (ad 6) (ad 7) r M pv ip sv ++ (WD K q u9 ++ ([(ad 8, .inr (5, [.ref (ad 9)]))] ++ (WE K (ad 9) (ad 10) (ad 11) (ad 12) r2 M2 pv2 ip2 sv2 ++ (WH K (ad 1) (ad 2) f (nI 0) ++ (WD K q1 d1 ++ (WD K q2 d2)))))))))) := hD
        refine vx_ret ?_
        exact W.widen (k := 1) (n := 6) (Nat.le_of_ble_eq_true rfl) (Nat.le_of_ble_eq_true rfl) (W.vret hx hb hr (fun t9 ht9 hW => ⟨⟨((u9, d1, d2, f1, f2, f, 0), (M, pv, ip, sv, M2, pv2, ip2, sv2, ma, nu, de, ne, di, n, (nI 0))), rfl, ⟨⟨rfl, rfl, rfl, rfl, rfl, Or.inr ⟨by omega, hEq⟩⟩, ⟨DV_EqD hd2 hEq, hd1, hd2, hf1, hf2, Nat.zero_le _, fun j hj => absurd hj (Nat.not_lt_zero j)⟩, ⟨hn64, Or.inl rfl, fun z => absurd z nI01⟩, ((cI_f (fun z => z (prt_iff.mpr (by omega)))).trans ((cI_f (fun z => by
      rcases z with ⟨z1, z2⟩ | ⟨z1, z2⟩
      · have z2 : f1.toInt = 0 := f0_iff.mp z2; omega
      · have z2 : f2.toInt = 0 := f0_iff.mp z2; omega)).trans (rfl)))⟩, by rw [ht9]; exact hP, va_K.moved hW.alike hK, hD⟩, hS.F ht9⟩) hS.2.2 dX6_restore_86)
      refine thr_74 hx hb hlf hown hts hTX (is := 250) (text := "nothing was saved in the slot") (by decide +kernel) hS (by rw [hml]; exact hl.1) dX6_restore_40 dX6_restore_43 dX6_restore_44 dX6_restore_46 dX6_restore_49 hxt (Nat.le_of_ble_eq_true rfl) (Nat.le_of_ble_eq_true rfl) (Nat.le_of_ble_eq_true rfl) (Nat.le_of_ble_eq_true rfl) hlocks (Nat.le_of_ble_eq_true rfl) (Nat.le_of_ble_eq_true rfl) (fun t9 hal hsz9 hkk => ?_)
      exact ⟨((d, d1, d2, f1, f2, f, s0), (M, pv, ip, sv, M2, pv2, ip2, sv2, ma, nu, de, ne, di, n, fr)), ⟨rfl, hJ⟩, ⟨by rw [show rs_restore (d, d1, d2, f1, f2, f, s0) x = _ from ((cI_f (fun z => z (prt_iff.mpr (by omega)))).trans (cI_t (Or.inr ⟨by omega, f0_iff.mpr (by omega)⟩)))]; exact ⟨by decide, rfl⟩, hP.kept (fun k q h => hkk q.1 ((hP k q h).lt)), va_K.moved hal hK, hD⟩, Nat.le_trans hS.1 hsz9, fun q h1 h2 => (hkk q (Nat.lt_of_lt_of_le h1 hS.1)).trans (hS.2.1 q h1 h2)⟩
    refine lv_aload_n hx hb dX6_restore_23 rfl (lv_at hl 0 rfl) ?_
    refine va_get (D := D) (ci := 6) (C := RX6) (T := TX6) (N := 9) hx hb hts iX6 hown hK hP 0 rfl rfl 3 (by decide) (hts _ k_f_X6_243) (fun _ h9 => h9) rfl dX6_restore_24 ?_
    refine b_if_ne hx hb rfl dX6_restore_27 (tgt := 50) (by decide) (fun c27 => ?_) (fun c27 => ?_)
    · refine lv_aload_n hx hb dX6_restore_50 rfl (lv_at hl 0 rfl) ?_
      refine va_get (D := D) (ci := 6) (C := RX6) (T := TX6) (N := 9) hx hb hts iX6 hown hK hP 0 rfl rfl 0 (by decide) (hts _ k_f_X6_12) (fun _ h9 => h9) rfl dX6_restore_51 ?_
      refine lv_iload_n hx hb dX6_restore_54 rfl (lv_at hl 1 rfl) ?_
      refine b_if_ne hx hb rfl dX6_restore_55 (tgt := 65) (by decide) (fun c55 => absurd c55 (by omega)) (fun c55 => ?_)
      refine lv_aload_n hx hb dX6_restore_58 rfl (lv_at hl 0 rfl) ?_
      refine va_get (D := D) (ci := 6) (C := RX6) (T := TX6) (N := 9) hx hb hts iX6 hown hK hP 0 rfl rfl 1 (by decide) (hts _ k_f_X6_16) (fun _ h9 => h9) rfl dX6_restore_59 ?_
      refine lv_goto (tgt := 69) hx hb dX6_restore_62 (by decide) ?_
      have hPq := P_perm pm_48 hP
      have hDq := D_perm pm_48 hD
      have hPc := bP0 hPq
      have hDc := bD0 hDq
      have hFc := bF0 hDq hS hA
      refine va_callv (va_runV (As := [.ref (q1 0)]) (rest := []) ⟨hx, hb, hml, hown, hts⟩ (c_X0_copyFrom l D K q q1 d d1 s.heap.size ) (cwV 1 hts (TB_V k_m_X6_239 k_im_X0_copyFrom k_se_X0_copyFrom k_in_X0 k_co_X0_copyFrom (fun _ h => h)) rfl rfl rfl (by decide +kernel) ⟨Nat.le_of_ble_eq_true rfl, Nat.le_of_ble_eq_true rfl⟩) ⟨cP_blind, va_recv hK hPc (ci := 0) (q0 := 0) rfl rfl, cP_of hPc hK hDc⟩ rfl rfl hl.1 rfl (lv_room (Nat.le_of_ble_eq_true rfl)) dX6_restore_69 ⟨Nat.le_of_ble_eq_true rfl, Nat.le_of_ble_eq_true rfl⟩) hS (fun q _ h => hFc q h) hFc (fun u9 t9 H locs ht9 hvm hw hB hz1 hk1 hS => ?_)
      obtain ⟨hP1, hK1, hD1⟩ := hB
      rw [ht9] at hP1
      obtain ⟨hPq1, hDq1⟩ := bJ0 hPq hDq hk1 hFc hP1 hD1
      have hP := P_perm (pm_48 (X0 := _)).symm hPq1
      have hD := D_perm (pm_48 (X0 := _)).symm hDq1
      have hP : va_P D vwCl ([(ad 0, .inr (6, [.ref (q 0), .ref (q1 0), .ref (q2 0), .int f1, .int f2, .ref (ad 1), .ref (ad 3), .ref (ad 8), .ref (g 0)]))] ++ (WG K g ma nu de ne di (nI n) fr ++ ([(ad 3, .inr (4, [.ref (ad 4)]))] ++ (WE K (ad 4) (ad 5) (ad 6) (ad 7) r M pv ip sv ++ (WD K q u9 ++ ([(ad 8, .inr (5, [.ref (ad 9)]))] ++ (WE K (ad 9) (ad 10) (ad 11) (ad 12) r2 M2 pv2 ip2 sv2 ++ (WH K (ad 1) (ad 2) f (nI s0) ++ (WD K q1 d1 ++ (WD K q2 d2)))))))))) H := hP
      have hD : va_D A ([(ad 0, .inr (6, [.ref (q 0), .ref (q1 0), .ref (q2 0), .int f1, .int f2, .ref (ad 1), .ref (ad 3), .ref (ad 8), .ref (g 0)]))] ++ (WG K g ma nu de ne di (nI n) fr ++ ([(ad 3, .inr (4, [.ref (ad 4)]))] ++ (WE K (ad 4) (ad 5) (ad 6) (ad 7) r M pv ip sv ++ (WD K q u9 ++ ([(ad 8, .inr (5, [.ref (ad 9)]))] ++ (WE K (ad 9) (ad 10) (ad 11) (ad 12) r2 M2 pv2 ip2 sv2 ++ (WH K (ad 1) (ad 2) f (nI s0) ++ (WD K q1 d1 ++ (WD K q2 d2)))))))))) := hD
      have hEq := hw
      refine lv_aload_n hx hb dX6_restore_72 rfl (lv_at hl 0 rfl) ?_
      refine va_get (D := D) (ci := 6) (C := RX6) (T := TX6) (N := 9) hx hb hts iX6 hown hK hP 0 rfl rfl 5 (by decide) (hts _ k_f_X6_25) (fun _ h9 => h9) rfl dX6_restore_73 ?_
      have hPq := P_perm pm_7 hP
      have hDq := D_perm pm_7 hD
      have hPc := bP0 hPq
      have hDc := bD0 hDq
      have hFc := bF0 hDq hS hA
      refine va_callv (va_runV (As := []) (rest := []) ⟨hx, hb, hml, hown, hts⟩ (c_X3_clear l D K (ad 1) (ad 2) f s0 H.size ) (cwV 0 hts (TB_V k_m_X6_252 k_im_X3_clear k_se_X3_clear k_in_X3 k_co_X3_clear (fun _ h => h)) rfl rfl rfl (by decide +kernel) ⟨Nat.le_of_ble_eq_true rfl, Nat.le_of_ble_eq_true rfl⟩) ⟨cP_blind, va_recv hK hPc (ci := 3) (q0 := 0) rfl rfl, cP_of hPc hK hDc⟩ rfl rfl hl.1 rfl (lv_room (Nat.le_of_ble_eq_true rfl)) dX6_restore_76 ⟨Nat.le_of_ble_eq_true rfl, Nat.le_of_ble_eq_true rfl⟩) hS (fun q _ h => hFc q h) hFc (fun u8 t9 H locs ht9 hvm hw hB hz1 hk1 hS => ?_)
      obtain ⟨hP1, hK1, hD1⟩ := hB
      rw [ht9] at hP1
      obtain ⟨hPq1, hDq1⟩ := bJ0 hPq hDq hk1 hFc hP1 hD1
      have hP := P_perm (pm_7 (X0 := _)).symm hPq1
      have hD := D_perm (pm_7 (X0 := _)).symm hDq1
      have hP : va_P D vwCl ([(ad 0, .inr (6, [.ref (q 0), .ref (q1 0), .ref (q2 0), .int f1, .int f2, .ref (ad 1), .ref (ad 3), .ref (ad 8), .ref (g 0)]))] ++ (WG K g ma nu de ne di (nI n) fr ++ ([(ad 3, .inr (4, [.ref (ad 4)]))] ++ (WE K (ad 4) (ad 5) (ad 6) (ad 7) r M pv ip sv ++ (WD K q u9 ++ ([(ad 8, .inr (5, [.ref (ad 9)]))] ++ (WE K (ad 9) (ad 10) (ad 11) (ad 12) r2 M2 pv2 ip2 sv2 ++ (WH K (ad 1) (ad 2) f (nI 0) ++ (WD K q1 d1 ++ (WD K q2 d2)))))))))) H := hP
      have hD : va_D A ([(ad 0, .inr (6, [.ref (q 0), .ref (q1 0), .ref (q2 0), .int f1, .int f2, .ref (ad 1), .ref (ad 3), .ref (ad 8), .ref (g 0)]))] ++ (WG K g ma nu de ne di (nI n) fr ++ ([(ad 3, .inr (4, [.ref (ad 4)]))] ++ (WE K (ad 4) (ad 5) (ad 6) (ad 7) r M pv ip sv ++ (WD K q u9 ++ ([(ad 8, .inr (5, [.ref (ad 9)]))] ++ (WE K (ad 9) (ad 10) (ad 11) (ad 12) r2 M2 pv2 ip2 sv2 ++ (WH K (ad 1) (ad 2) f (nI 0) ++ (WD K q1 d1 ++ (WD K q2 d2)))))))))) := hD
      refine lv_aload_n hx hb dX6_restore_79 rfl (lv_at hl 0 rfl) ?_
      refine va_get (D := D) (ci := 6) (C := RX6) (T := TX6) (N := 9) hx hb hts iX6 hown hK hP 0 rfl rfl 8 (by decide) (hts _ k_f_X6_46) (fun _ h9 => h9) rfl dX6_restore_80 ?_
      have hPq := P_perm pm_1 hP
      have hDq := D_perm pm_1 hD
      have hPc := bP0 hPq
      have hDc := bD0 hDq
      have hFc := bF0 hDq hS hA
      refine va_callv (va_runV (As := []) (rest := []) ⟨hx, hb, hml, hown, hts⟩ (c_X2_forget l D K g ma nu de ne di n fr H.size ) (cwV 0 hts (TB_V k_m_X6_79 k_im_X2_forget k_se_X2_forget k_in_X2 k_co_X2_forget (fun _ h => h)) rfl rfl rfl (by decide +kernel) ⟨Nat.le_of_ble_eq_true rfl, Nat.le_of_ble_eq_true rfl⟩) ⟨cP_blind, va_recv hK hPc (ci := 2) (q0 := 0) rfl rfl, cP_of hPc hK hDc⟩ rfl rfl hl.1 rfl (lv_room (Nat.le_of_ble_eq_true rfl)) dX6_restore_83 ⟨Nat.le_of_ble_eq_true rfl, Nat.le_of_ble_eq_true rfl⟩) hS (fun q _ h => hFc q h) hFc (fun u7 t9 H locs ht9 hvm hw hB hz1 hk1 hS => ?_)
      obtain ⟨hP1, hK1, hD1⟩ := hB
      rw [ht9] at hP1
      obtain ⟨hPq1, hDq1⟩ := bJ0 hPq hDq hk1 hFc hP1 hD1
      have hP := P_perm (pm_1 (X0 := _)).symm hPq1
      have hD := D_perm (pm_1 (X0 := _)).symm hDq1
      have hP : va_P D vwCl ([(ad 0, .inr (6, [.ref (q 0), .ref (q1 0), .ref (q2 0), .int f1, .int f2, .ref (ad 1), .ref (ad 3), .ref (ad 8), .ref (g 0)]))] ++ (WG K g ma nu de ne di (nI n) (nI 0) ++ ([(ad 3, .inr (4, [.ref (ad 4)]))] ++ (WE K (ad 4) (ad 5) (ad 6) (ad 7) r M pv ip sv ++ (WD K q u9 ++ ([(ad 8, .inr (5, [.ref (ad 9)]))] ++ (WE K (ad 9) (ad 10) (ad 11) (ad 12) r2 M2 pv2 ip2 sv2 ++ (WH K (ad 1) (ad 2) f (nI 0) ++ (WD K q1 d1 ++ (WD K q2 d2)))))))))) H := hP
      have hD : va_D A ([(ad 0, .inr (6, [.ref (q 0), .ref (q1 0), .ref (q2 0), .int f1, .int f2, .ref (ad 1), .ref (ad 3), .ref (ad 8), .ref (g 0)]))] ++ (WG K g ma nu de ne di (nI n) (nI 0) ++ ([(ad 3, .inr (4, [.ref (ad 4)]))] ++ (WE K (ad 4) (ad 5) (ad 6) (ad 7) r M pv ip sv ++ (WD K q u9 ++ ([(ad 8, .inr (5, [.ref (ad 9)]))] ++ (WE K (ad 9) (ad 10) (ad 11) (ad 12) r2 M2 pv2 ip2 sv2 ++ (WH K (ad 1) (ad 2) f (nI 0) ++ (WD K q1 d1 ++ (WD K q2 d2)))))))))) := hD
      refine vx_ret ?_
      exact W.widen (k := 1) (n := 6) (Nat.le_of_ble_eq_true rfl) (Nat.le_of_ble_eq_true rfl) (W.vret hx hb hr (fun t9 ht9 hW => ⟨⟨((u9, d1, d2, f1, f2, f, 0), (M, pv, ip, sv, M2, pv2, ip2, sv2, ma, nu, de, ne, di, n, (nI 0))), rfl, ⟨⟨rfl, rfl, rfl, rfl, rfl, Or.inl ⟨by omega, hEq⟩⟩, ⟨DV_EqD hd1 hEq, hd1, hd2, hf1, hf2, Nat.zero_le _, fun j hj => absurd hj (Nat.not_lt_zero j)⟩, ⟨hn64, Or.inl rfl, fun z => absurd z nI01⟩, ((cI_f (fun z => z (prt_iff.mpr (by omega)))).trans ((cI_f (fun z => by
      rcases z with ⟨z1, z2⟩ | ⟨z1, z2⟩
      · have z2 : f1.toInt = 0 := f0_iff.mp z2; omega
      · have z2 : f2.toInt = 0 := f0_iff.mp z2; omega)).trans (rfl)))⟩, by rw [ht9]; exact hP, va_K.moved hW.alike hK, hD⟩, hS.F ht9⟩) hS.2.2 dX6_restore_86)
    refine lv_goto (tgt := 40) hx hb dX6_restore_30 (by decide) ?_
    refine thr_74 hx hb hlf hown hts hTX (is := 250) (text := "nothing was saved in the slot") (by decide +kernel) hS (by rw [hml]; exact hl.1) dX6_restore_40 dX6_restore_43 dX6_restore_44 dX6_restore_46 dX6_restore_49 hxt (Nat.le_of_ble_eq_true rfl) (Nat.le_of_ble_eq_true rfl) (Nat.le_of_ble_eq_true rfl) (Nat.le_of_ble_eq_true rfl) hlocks (Nat.le_of_ble_eq_true rfl) (Nat.le_of_ble_eq_true rfl) (fun t9 hal hsz9 hkk => ?_)
    exact ⟨((d, d1, d2, f1, f2, f, s0), (M, pv, ip, sv, M2, pv2, ip2, sv2, ma, nu, de, ne, di, n, fr)), ⟨rfl, hJ⟩, ⟨by rw [show rs_restore (d, d1, d2, f1, f2, f, s0) x = _ from ((cI_f (fun z => z (prt_iff.mpr (by omega)))).trans (cI_t (Or.inl ⟨by omega, f0_iff.mpr (by omega)⟩)))]; exact ⟨by decide, rfl⟩, hP.kept (fun k q h => hkk q.1 ((hP k q h).lt)), va_K.moved hal hK, hD⟩, Nat.le_trans hS.1 hsz9, fun q h1 h2 => (hkk q (Nat.lt_of_lt_of_le h1 hS.1)).trans (hS.2.1 q h1 h2)⟩
  refine lv_iload_n hx hb dX6_restore_4 rfl (lv_at hl 1 rfl) ?_
  refine lv_iconst (v := nI 1) hx hb dX6_restore_5 (by decide) ?_
  refine b_icmp_eq hx hb rfl (nI_toIntI (by omega)) dX6_restore_6 (tgt := 19) (by decide) (fun c6 => ?_) (fun c6 => ?_)
  · refine lv_iload_n hx hb dX6_restore_19 rfl (lv_at hl 1 rfl) ?_
    refine b_if_ne hx hb rfl dX6_restore_20 (tgt := 33) (by decide) (fun c20 => ?_) (fun c20 => ?_)
    · refine lv_aload_n hx hb dX6_restore_33 rfl (lv_at hl 0 rfl) ?_
      refine va_get (D := D) (ci := 6) (C := RX6) (T := TX6) (N := 9) hx hb hts iX6 hown hK hP 0 rfl rfl 4 (by decide) (hts _ k_f_X6_247) (fun _ h9 => h9) rfl dX6_restore_34 ?_
      refine b_if_ne hx hb rfl dX6_restore_37 (tgt := 50) (by decide) (fun c37 => ?_) (fun c37 => ?_)
      · refine lv_aload_n hx hb dX6_restore_50 rfl (lv_at hl 0 rfl) ?_
        refine va_get (D := D) (ci := 6) (C := RX6) (T := TX6) (N := 9) hx hb hts iX6 hown hK hP 0 rfl rfl 0 (by decide) (hts _ k_f_X6_12) (fun _ h9 => h9) rfl dX6_restore_51 ?_
        refine lv_iload_n hx hb dX6_restore_54 rfl (lv_at hl 1 rfl) ?_
        refine b_if_ne hx hb rfl dX6_restore_55 (tgt := 65) (by decide) (fun c55 => ?_) (fun c55 => absurd c55 (by omega))
        refine lv_aload_n hx hb dX6_restore_65 rfl (lv_at hl 0 rfl) ?_
        refine va_get (D := D) (ci := 6) (C := RX6) (T := TX6) (N := 9) hx hb hts iX6 hown hK hP 0 rfl rfl 2 (by decide) (hts _ k_f_X6_19) (fun _ h9 => h9) rfl dX6_restore_66 ?_
        have hPq := P_perm pm_49 hP
        have hDq := D_perm pm_49 hD
        have hPc := bP0 hPq
        have hDc := bD0 hDq
        have hFc := bF0 hDq hS hA
        refine va_callv (va_runV (As := [.ref (q2 0)]) (rest := []) ⟨hx, hb, hml, hown, hts⟩ (c_X0_copyFrom l D K q q2 d d2 s.heap.size ) (cwV 1 hts (TB_V k_m_X6_239 k_im_X0_copyFrom k_se_X0_copyFrom k_in_X0 k_co_X0_copyFrom (fun _ h => h)) rfl rfl rfl (by decide +kernel) ⟨Nat.le_of_ble_eq_true rfl, Nat.le_of_ble_eq_true rfl⟩) ⟨cP_blind, va_recv hK hPc (ci := 0) (q0 := 0) rfl rfl, cP_of hPc hK hDc⟩ rfl rfl hl.1 rfl (lv_room (Nat.le_of_ble_eq_true rfl)) dX6_restore_69 ⟨Nat.le_of_ble_eq_true rfl, Nat.le_of_ble_eq_true rfl⟩) hS (fun q _ h => hFc q h) hFc (fun u9 t9 H locs ht9 hvm hw hB hz1 hk1 hS => ?_)
        obtain ⟨hP1, hK1, hD1⟩ := hB
        rw [ht9] at hP1
        obtain ⟨hPq1, hDq1⟩ := bJ0 hPq hDq hk1 hFc hP1 hD1
        have hP := P_perm (pm_49 (X0 := _)).symm hPq1
        have hD := D_perm (pm_49 (X0 := _)).symm hDq1
        have hP : va_P D vwCl ([(ad 0, .inr (6, [.ref (q 0), .ref (q1 0), .ref (q2 0), .int f1, .int f2, .ref (ad 1), .ref (ad 3), .ref (ad 8), .ref (g 0)]))] ++ (WG K g ma nu de ne di (nI n) fr ++ ([(ad 3, .inr (4, [.ref (ad 4)]))] ++ (WE K (ad 4) (ad 5) (ad 6) (ad 7) r M pv ip sv ++ (WD K q u9 ++ ([(ad 8, .inr (5, [.ref (ad 9)]))] ++ (WE K (ad 9) (ad 10) (ad 11) (ad 12) r2 M2 pv2 ip2 sv2 ++ (WH K (ad 1) (ad 2) f (nI s0) ++ (WD K q1 d1 ++ (WD K q2 d2)))))))))) H := hP
        have hD : va_D A ([(ad 0, .inr (6, [.ref (q 0), .ref (q1 0), .ref (q2 0), .int f1, .int f2, .ref (ad 1), .ref (ad 3), .ref (ad 8), .ref (g 0)]))] ++ (WG K g ma nu de ne di (nI n) fr ++ ([(ad 3, .inr (4, [.ref (ad 4)]))] ++ (WE K (ad 4) (ad 5) (ad 6) (ad 7) r M pv ip sv ++ (WD K q u9 ++ ([(ad 8, .inr (5, [.ref (ad 9)]))] ++ (WE K (ad 9) (ad 10) (ad 11) (ad 12) r2 M2 pv2 ip2 sv2 ++ (WH K (ad 1) (ad 2) f (nI s0) ++ (WD K q1 d1 ++ (WD K q2 d2)))))))))) := hD
        have hEq := hw
        refine lv_aload_n hx hb dX6_restore_72 rfl (lv_at hl 0 rfl) ?_
        refine va_get (D := D) (ci := 6) (C := RX6) (T := TX6) (N := 9) hx hb hts iX6 hown hK hP 0 rfl rfl 5 (by decide) (hts _ k_f_X6_25) (fun _ h9 => h9) rfl dX6_restore_73 ?_
        have hPq := P_perm pm_7 hP
        have hDq := D_perm pm_7 hD
        have hPc := bP0 hPq
        have hDc := bD0 hDq
        have hFc := bF0 hDq hS hA
        refine va_callv (va_runV (As := []) (rest := []) ⟨hx, hb, hml, hown, hts⟩ (c_X3_clear l D K (ad 1) (ad 2) f s0 H.size ) (cwV 0 hts (TB_V k_m_X6_252 k_im_X3_clear k_se_X3_clear k_in_X3 k_co_X3_clear (fun _ h => h)) rfl rfl rfl (by decide +kernel) ⟨Nat.le_of_ble_eq_true rfl, Nat.le_of_ble_eq_true rfl⟩) ⟨cP_blind, va_recv hK hPc (ci := 3) (q0 := 0) rfl rfl, cP_of hPc hK hDc⟩ rfl rfl hl.1 rfl (lv_room (Nat.le_of_ble_eq_true rfl)) dX6_restore_76 ⟨Nat.le_of_ble_eq_true rfl, Nat.le_of_ble_eq_true rfl⟩) hS (fun q _ h => hFc q h) hFc (fun u8 t9 H locs ht9 hvm hw hB hz1 hk1 hS => ?_)
        obtain ⟨hP1, hK1, hD1⟩ := hB
        rw [ht9] at hP1
        obtain ⟨hPq1, hDq1⟩ := bJ0 hPq hDq hk1 hFc hP1 hD1
        have hP := P_perm (pm_7 (X0 := _)).symm hPq1
        have hD := D_perm (pm_7 (X0 := _)).symm hDq1
        have hP : va_P D vwCl ([(ad 0, .inr (6, [.ref (q 0), .ref (q1 0), .ref (q2 0), .int f1, .int f2, .ref (ad 1), .ref (ad 3), .ref (ad 8), .ref (g 0)]))] ++ (WG K g ma nu de ne di (nI n) fr ++ ([(ad 3, .inr (4, [.ref (ad 4)]))] ++ (WE K (ad 4) (ad 5) (ad 6) (ad 7) r M pv ip sv ++ (WD K q u9 ++ ([(ad 8, .inr (5, [.ref (ad 9)]))] ++ (WE K (ad 9) (ad 10) (ad 11) (ad 12) r2 M2 pv2 ip2 sv2 ++ (WH K (ad 1) (ad 2) f (nI 0) ++ (WD K q1 d1 ++ (WD K q2 d2)))))))))) H := hP
        have hD : va_D A ([(ad 0, .inr (6, [.ref (q 0), .ref (q1 0), .ref (q2 0), .int f1, .int f2, .ref (ad 1), .ref (ad 3), .ref (ad 8), .ref (g 0)]))] ++ (WG K g ma nu de ne di (nI n) fr ++ ([(ad 3, .inr (4, [.ref (ad 4)]))] ++ (WE K (ad 4) (ad 5) (ad 6) (ad 7) r M pv ip sv ++ (WD K q u9 ++ ([(ad 8, .inr (5, [.ref (ad 9)]))] ++ (WE K (ad 9) (ad 10) (ad 11) (ad 12) r2 M2 pv2 ip2 sv2 ++ (WH K (ad 1) (ad 2) f (nI 0) ++ (WD K q1 d1 ++ (WD K q2 d2)))))))))) := hD
        refine lv_aload_n hx hb dX6_restore_79 rfl (lv_at hl 0 rfl) ?_
        refine va_get (D := D) (ci := 6) (C := RX6) (T := TX6) (N := 9) hx hb hts iX6 hown hK hP 0 rfl rfl 8 (by decide) (hts _ k_f_X6_46) (fun _ h9 => h9) rfl dX6_restore_80 ?_
        have hPq := P_perm pm_1 hP
        have hDq := D_perm pm_1 hD
        have hPc := bP0 hPq
        have hDc := bD0 hDq
        have hFc := bF0 hDq hS hA
        refine va_callv (va_runV (As := []) (rest := []) ⟨hx, hb, hml, hown, hts⟩ (c_X2_forget l D K g ma nu de ne di n fr H.size ) (cwV 0 hts (TB_V k_m_X6_79 k_im_X2_forget k_se_X2_forget k_in_X2 k_co_X2_forget (fun _ h => h)) rfl rfl rfl (by decide +kernel) ⟨Nat.le_of_ble_eq_true rfl, Nat.le_of_ble_eq_true rfl⟩) ⟨cP_blind, va_recv hK hPc (ci := 2) (q0 := 0) rfl rfl, cP_of hPc hK hDc⟩ rfl rfl hl.1 rfl (lv_room (Nat.le_of_ble_eq_true rfl)) dX6_restore_83 ⟨Nat.le_of_ble_eq_true rfl, Nat.le_of_ble_eq_true rfl⟩) hS (fun q _ h => hFc q h) hFc (fun u7 t9 H locs ht9 hvm hw hB hz1 hk1 hS => ?_)
        obtain ⟨hP1, hK1, hD1⟩ := hB
        rw [ht9] at hP1
        obtain ⟨hPq1, hDq1⟩ := bJ0 hPq hDq hk1 hFc hP1 hD1
        have hP := P_perm (pm_1 (X0 := _)).symm hPq1
        have hD := D_perm (pm_1 (X0 := _)).symm hDq1
        have hP : va_P D vwCl ([(ad 0, .inr (6, [.ref (q 0), .ref (q1 0), .ref (q2 0), .int f1, .int f2, .ref (ad 1), .ref (ad 3), .ref (ad 8), .ref (g 0)]))] ++ (WG K g ma nu de ne di (nI n) (nI 0) ++ ([(ad 3, .inr (4, [.ref (ad 4)]))] ++ (WE K (ad 4) (ad 5) (ad 6) (ad 7) r M pv ip sv ++ (WD K q u9 ++ ([(ad 8, .inr (5, [.ref (ad 9)]))] ++ (WE K (ad 9) (ad 10) (ad 11) (ad 12) r2 M2 pv2 ip2 sv2 ++ (WH K (ad 1) (ad 2) f (nI 0) ++ (WD K q1 d1 ++ (WD K q2 d2)))))))))) H := hP
        have hD : va_D A ([(ad 0, .inr (6, [.ref (q 0), .ref (q1 0), .ref (q2 0), .int f1, .int f2, .ref (ad 1), .ref (ad 3), .ref (ad 8), .ref (g 0)]))] ++ (WG K g ma nu de ne di (nI n) (nI 0) ++ ([(ad 3, .inr (4, [.ref (ad 4)]))] ++ (WE K (ad 4) (ad 5) (ad 6) (ad 7) r M pv ip sv ++ (WD K q u9 ++ ([(ad 8, .inr (5, [.ref (ad 9)]))] ++ (WE K (ad 9) (ad 10) (ad 11) (ad 12) r2 M2 pv2 ip2 sv2 ++ (WH K (ad 1) (ad 2) f (nI 0) ++ (WD K q1 d1 ++ (WD K q2 d2)))))))))) := hD
        refine vx_ret ?_
        exact W.widen (k := 1) (n := 6) (Nat.le_of_ble_eq_true rfl) (Nat.le_of_ble_eq_true rfl) (W.vret hx hb hr (fun t9 ht9 hW => ⟨⟨((u9, d1, d2, f1, f2, f, 0), (M, pv, ip, sv, M2, pv2, ip2, sv2, ma, nu, de, ne, di, n, (nI 0))), rfl, ⟨⟨rfl, rfl, rfl, rfl, rfl, Or.inr ⟨by omega, hEq⟩⟩, ⟨DV_EqD hd2 hEq, hd1, hd2, hf1, hf2, Nat.zero_le _, fun j hj => absurd hj (Nat.not_lt_zero j)⟩, ⟨hn64, Or.inl rfl, fun z => absurd z nI01⟩, ((cI_f (fun z => z (prt_iff.mpr (by omega)))).trans ((cI_f (fun z => by
      rcases z with ⟨z1, z2⟩ | ⟨z1, z2⟩
      · have z2 : f1.toInt = 0 := f0_iff.mp z2; omega
      · have z2 : f2.toInt = 0 := f0_iff.mp z2; omega)).trans (rfl)))⟩, by rw [ht9]; exact hP, va_K.moved hW.alike hK, hD⟩, hS.F ht9⟩) hS.2.2 dX6_restore_86)
      refine thr_74 hx hb hlf hown hts hTX (is := 250) (text := "nothing was saved in the slot") (by decide +kernel) hS (by rw [hml]; exact hl.1) dX6_restore_40 dX6_restore_43 dX6_restore_44 dX6_restore_46 dX6_restore_49 hxt (Nat.le_of_ble_eq_true rfl) (Nat.le_of_ble_eq_true rfl) (Nat.le_of_ble_eq_true rfl) (Nat.le_of_ble_eq_true rfl) hlocks (Nat.le_of_ble_eq_true rfl) (Nat.le_of_ble_eq_true rfl) (fun t9 hal hsz9 hkk => ?_)
      exact ⟨((d, d1, d2, f1, f2, f, s0), (M, pv, ip, sv, M2, pv2, ip2, sv2, ma, nu, de, ne, di, n, fr)), ⟨rfl, hJ⟩, ⟨by rw [show rs_restore (d, d1, d2, f1, f2, f, s0) x = _ from ((cI_f (fun z => z (prt_iff.mpr (by omega)))).trans (cI_t (Or.inr ⟨by omega, f0_iff.mpr (by omega)⟩)))]; exact ⟨by decide, rfl⟩, hP.kept (fun k q h => hkk q.1 ((hP k q h).lt)), va_K.moved hal hK, hD⟩, Nat.le_trans hS.1 hsz9, fun q h1 h2 => (hkk q (Nat.lt_of_lt_of_le h1 hS.1)).trans (hS.2.1 q h1 h2)⟩
    refine lv_aload_n hx hb dX6_restore_23 rfl (lv_at hl 0 rfl) ?_
    refine va_get (D := D) (ci := 6) (C := RX6) (T := TX6) (N := 9) hx hb hts iX6 hown hK hP 0 rfl rfl 3 (by decide) (hts _ k_f_X6_243) (fun _ h9 => h9) rfl dX6_restore_24 ?_
    refine b_if_ne hx hb rfl dX6_restore_27 (tgt := 50) (by decide) (fun c27 => ?_) (fun c27 => ?_)
    · refine lv_aload_n hx hb dX6_restore_50 rfl (lv_at hl 0 rfl) ?_
      refine va_get (D := D) (ci := 6) (C := RX6) (T := TX6) (N := 9) hx hb hts iX6 hown hK hP 0 rfl rfl 0 (by decide) (hts _ k_f_X6_12) (fun _ h9 => h9) rfl dX6_restore_51 ?_
      refine lv_iload_n hx hb dX6_restore_54 rfl (lv_at hl 1 rfl) ?_
      refine b_if_ne hx hb rfl dX6_restore_55 (tgt := 65) (by decide) (fun c55 => absurd c55 (by omega)) (fun c55 => ?_)
      refine lv_aload_n hx hb dX6_restore_58 rfl (lv_at hl 0 rfl) ?_
      refine va_get (D := D) (ci := 6) (C := RX6) (T := TX6) (N := 9) hx hb hts iX6 hown hK hP 0 rfl rfl 1 (by decide) (hts _ k_f_X6_16) (fun _ h9 => h9) rfl dX6_restore_59 ?_
      refine lv_goto (tgt := 69) hx hb dX6_restore_62 (by decide) ?_
      have hPq := P_perm pm_48 hP
      have hDq := D_perm pm_48 hD
      have hPc := bP0 hPq
      have hDc := bD0 hDq
      have hFc := bF0 hDq hS hA
      refine va_callv (va_runV (As := [.ref (q1 0)]) (rest := []) ⟨hx, hb, hml, hown, hts⟩ (c_X0_copyFrom l D K q q1 d d1 s.heap.size ) (cwV 1 hts (TB_V k_m_X6_239 k_im_X0_copyFrom k_se_X0_copyFrom k_in_X0 k_co_X0_copyFrom (fun _ h => h)) rfl rfl rfl (by decide +kernel) ⟨Nat.le_of_ble_eq_true rfl, Nat.le_of_ble_eq_true rfl⟩) ⟨cP_blind, va_recv hK hPc (ci := 0) (q0 := 0) rfl rfl, cP_of hPc hK hDc⟩ rfl rfl hl.1 rfl (lv_room (Nat.le_of_ble_eq_true rfl)) dX6_restore_69 ⟨Nat.le_of_ble_eq_true rfl, Nat.le_of_ble_eq_true rfl⟩) hS (fun q _ h => hFc q h) hFc (fun u9 t9 H locs ht9 hvm hw hB hz1 hk1 hS => ?_)
      obtain ⟨hP1, hK1, hD1⟩ := hB
      rw [ht9] at hP1
      obtain ⟨hPq1, hDq1⟩ := bJ0 hPq hDq hk1 hFc hP1 hD1
      have hP := P_perm (pm_48 (X0 := _)).symm hPq1
      have hD := D_perm (pm_48 (X0 := _)).symm hDq1
      have hP : va_P D vwCl ([(ad 0, .inr (6, [.ref (q 0), .ref (q1 0), .ref (q2 0), .int f1, .int f2, .ref (ad 1), .ref (ad 3), .ref (ad 8), .ref (g 0)]))] ++ (WG K g ma nu de ne di (nI n) fr ++ ([(ad 3, .inr (4, [.ref (ad 4)]))] ++ (WE K (ad 4) (ad 5) (ad 6) (ad 7) r M pv ip sv ++ (WD K q u9 ++ ([(ad 8, .inr (5, [.ref (ad 9)]))] ++ (WE K (ad 9) (ad 10) (ad 11) (ad 12) r2 M2 pv2 ip2 sv2 ++ (WH K (ad 1) (ad 2) f (nI s0) ++ (WD K q1 d1 ++ (WD K q2 d2)))))))))) H := hP
      have hD : va_D A ([(ad 0, .inr (6, [.ref (q 0), .ref (q1 0), .ref (q2 0), .int f1, .int f2, .ref (ad 1), .ref (ad 3), .ref (ad 8), .ref (g 0)]))] ++ (WG K g ma nu de ne di (nI n) fr ++ ([(ad 3, .inr (4, [.ref (ad 4)]))] ++ (WE K (ad 4) (ad 5) (ad 6) (ad 7) r M pv ip sv ++ (WD K q u9 ++ ([(ad 8, .inr (5, [.ref (ad 9)]))] ++ (WE K (ad 9) (ad 10) (ad 11) (ad 12) r2 M2 pv2 ip2 sv2 ++ (WH K (ad 1) (ad 2) f (nI s0) ++ (WD K q1 d1 ++ (WD K q2 d2)))))))))) := hD
      have hEq := hw
      refine lv_aload_n hx hb dX6_restore_72 rfl (lv_at hl 0 rfl) ?_
      refine va_get (D := D) (ci := 6) (C := RX6) (T := TX6) (N := 9) hx hb hts iX6 hown hK hP 0 rfl rfl 5 (by decide) (hts _ k_f_X6_25) (fun _ h9 => h9) rfl dX6_restore_73 ?_
      have hPq := P_perm pm_7 hP
      have hDq := D_perm pm_7 hD
      have hPc := bP0 hPq
      have hDc := bD0 hDq
      have hFc := bF0 hDq hS hA
      refine va_callv (va_runV (As := []) (rest := []) ⟨hx, hb, hml, hown, hts⟩ (c_X3_clear l D K (ad 1) (ad 2) f s0 H.size ) (cwV 0 hts (TB_V k_m_X6_252 k_im_X3_clear k_se_X3_clear k_in_X3 k_co_X3_clear (fun _ h => h)) rfl rfl rfl (by decide +kernel) ⟨Nat.le_of_ble_eq_true rfl, Nat.le_of_ble_eq_true rfl⟩) ⟨cP_blind, va_recv hK hPc (ci := 3) (q0 := 0) rfl rfl, cP_of hPc hK hDc⟩ rfl rfl hl.1 rfl (lv_room (Nat.le_of_ble_eq_true rfl)) dX6_restore_76 ⟨Nat.le_of_ble_eq_true rfl, Nat.le_of_ble_eq_true rfl⟩) hS (fun q _ h => hFc q h) hFc (fun u8 t9 H locs ht9 hvm hw hB hz1 hk1 hS => ?_)
      obtain ⟨hP1, hK1, hD1⟩ := hB
      rw [ht9] at hP1
      obtain ⟨hPq1, hDq1⟩ := bJ0 hPq hDq hk1 hFc hP1 hD1
      have hP := P_perm (pm_7 (X0 := _)).symm hPq1
      have hD := D_perm (pm_7 (X0 := _)).symm hDq1
      have hP : va_P D vwCl ([(ad 0, .inr (6, [.ref (q 0), .ref (q1 0), .ref (q2 0), .int f1, .int f2, .ref (ad 1), .ref (ad 3), .ref (ad 8), .ref (g 0)]))] ++ (WG K g ma nu de ne di (nI n) fr ++ ([(ad 3, .inr (4, [.ref (ad 4)]))] ++ (WE K (ad 4) (ad 5) (ad 6) (ad 7) r M pv ip sv ++ (WD K q u9 ++ ([(ad 8, .inr (5, [.ref (ad 9)]))] ++ (WE K (ad 9) (ad 10) (ad 11) (ad 12) r2 M2 pv2 ip2 sv2 ++ (WH K (ad 1) (ad 2) f (nI 0) ++ (WD K q1 d1 ++ (WD K q2 d2)))))))))) H := hP
      have hD : va_D A ([(ad 0, .inr (6, [.ref (q 0), .ref (q1 0), .ref (q2 0), .int f1, .int f2, .ref (ad 1), .ref (ad 3), .ref (ad 8), .ref (g 0)]))] ++ (WG K g ma nu de ne di (nI n) fr ++ ([(ad 3, .inr (4, [.ref (ad 4)]))] ++ (WE K (ad 4) (ad 5) (ad 6) (ad 7) r M pv ip sv ++ (WD K q u9 ++ ([(ad 8, .inr (5, [.ref (ad 9)]))] ++ (WE K (ad 9) (ad 10) (ad 11) (ad 12) r2 M2 pv2 ip2 sv2 ++ (WH K (ad 1) (ad 2) f (nI 0) ++ (WD K q1 d1 ++ (WD K q2 d2)))))))))) := hD
      refine lv_aload_n hx hb dX6_restore_79 rfl (lv_at hl 0 rfl) ?_
      refine va_get (D := D) (ci := 6) (C := RX6) (T := TX6) (N := 9) hx hb hts iX6 hown hK hP 0 rfl rfl 8 (by decide) (hts _ k_f_X6_46) (fun _ h9 => h9) rfl dX6_restore_80 ?_
      have hPq := P_perm pm_1 hP
      have hDq := D_perm pm_1 hD
      have hPc := bP0 hPq
      have hDc := bD0 hDq
      have hFc := bF0 hDq hS hA
      refine va_callv (va_runV (As := []) (rest := []) ⟨hx, hb, hml, hown, hts⟩ (c_X2_forget l D K g ma nu de ne di n fr H.size ) (cwV 0 hts (TB_V k_m_X6_79 k_im_X2_forget k_se_X2_forget k_in_X2 k_co_X2_forget (fun _ h => h)) rfl rfl rfl (by decide +kernel) ⟨Nat.le_of_ble_eq_true rfl, Nat.le_of_ble_eq_true rfl⟩) ⟨cP_blind, va_recv hK hPc (ci := 2) (q0 := 0) rfl rfl, cP_of hPc hK hDc⟩ rfl rfl hl.1 rfl (lv_room (Nat.le_of_ble_eq_true rfl)) dX6_restore_83 ⟨Nat.le_of_ble_eq_true rfl, Nat.le_of_ble_eq_true rfl⟩) hS (fun q _ h => hFc q h) hFc (fun u7 t9 H locs ht9 hvm hw hB hz1 hk1 hS => ?_)
      obtain ⟨hP1, hK1, hD1⟩ := hB
      rw [ht9] at hP1
      obtain ⟨hPq1, hDq1⟩ := bJ0 hPq hDq hk1 hFc hP1 hD1
      have hP := P_perm (pm_1 (X0 := _)).symm hPq1
      have hD := D_perm (pm_1 (X0 := _)).symm hDq1
      have hP : va_P D vwCl ([(ad 0, .inr (6, [.ref (q 0), .ref (q1 0), .ref (q2 0), .int f1, .int f2, .ref (ad 1), .ref (ad 3), .ref (ad 8), .ref (g 0)]))] ++ (WG K g ma nu de ne di (nI n) (nI 0) ++ ([(ad 3, .inr (4, [.ref (ad 4)]))] ++ (WE K (ad 4) (ad 5) (ad 6) (ad 7) r M pv ip sv ++ (WD K q u9 ++ ([(ad 8, .inr (5, [.ref (ad 9)]))] ++ (WE K (ad 9) (ad 10) (ad 11) (ad 12) r2 M2 pv2 ip2 sv2 ++ (WH K (ad 1) (ad 2) f (nI 0) ++ (WD K q1 d1 ++ (WD K q2 d2)))))))))) H := hP
      have hD : va_D A ([(ad 0, .inr (6, [.ref (q 0), .ref (q1 0), .ref (q2 0), .int f1, .int f2, .ref (ad 1), .ref (ad 3), .ref (ad 8), .ref (g 0)]))] ++ (WG K g ma nu de ne di (nI n) (nI 0) ++ ([(ad 3, .inr (4, [.ref (ad 4)]))] ++ (WE K (ad 4) (ad 5) (ad 6) (ad 7) r M pv ip sv ++ (WD K q u9 ++ ([(ad 8, .inr (5, [.ref (ad 9)]))] ++ (WE K (ad 9) (ad 10) (ad 11) (ad 12) r2 M2 pv2 ip2 sv2 ++ (WH K (ad 1) (ad 2) f (nI 0) ++ (WD K q1 d1 ++ (WD K q2 d2)))))))))) := hD
      refine vx_ret ?_
      exact W.widen (k := 1) (n := 6) (Nat.le_of_ble_eq_true rfl) (Nat.le_of_ble_eq_true rfl) (W.vret hx hb hr (fun t9 ht9 hW => ⟨⟨((u9, d1, d2, f1, f2, f, 0), (M, pv, ip, sv, M2, pv2, ip2, sv2, ma, nu, de, ne, di, n, (nI 0))), rfl, ⟨⟨rfl, rfl, rfl, rfl, rfl, Or.inl ⟨by omega, hEq⟩⟩, ⟨DV_EqD hd1 hEq, hd1, hd2, hf1, hf2, Nat.zero_le _, fun j hj => absurd hj (Nat.not_lt_zero j)⟩, ⟨hn64, Or.inl rfl, fun z => absurd z nI01⟩, ((cI_f (fun z => z (prt_iff.mpr (by omega)))).trans ((cI_f (fun z => by
      rcases z with ⟨z1, z2⟩ | ⟨z1, z2⟩
      · have z2 : f1.toInt = 0 := f0_iff.mp z2; omega
      · have z2 : f2.toInt = 0 := f0_iff.mp z2; omega)).trans (rfl)))⟩, by rw [ht9]; exact hP, va_K.moved hW.alike hK, hD⟩, hS.F ht9⟩) hS.2.2 dX6_restore_86)
    refine lv_goto (tgt := 40) hx hb dX6_restore_30 (by decide) ?_
    refine thr_74 hx hb hlf hown hts hTX (is := 250) (text := "nothing was saved in the slot") (by decide +kernel) hS (by rw [hml]; exact hl.1) dX6_restore_40 dX6_restore_43 dX6_restore_44 dX6_restore_46 dX6_restore_49 hxt (Nat.le_of_ble_eq_true rfl) (Nat.le_of_ble_eq_true rfl) (Nat.le_of_ble_eq_true rfl) (Nat.le_of_ble_eq_true rfl) hlocks (Nat.le_of_ble_eq_true rfl) (Nat.le_of_ble_eq_true rfl) (fun t9 hal hsz9 hkk => ?_)
    exact ⟨((d, d1, d2, f1, f2, f, s0), (M, pv, ip, sv, M2, pv2, ip2, sv2, ma, nu, de, ne, di, n, fr)), ⟨rfl, hJ⟩, ⟨by rw [show rs_restore (d, d1, d2, f1, f2, f, s0) x = _ from ((cI_f (fun z => z (prt_iff.mpr (by omega)))).trans (cI_t (Or.inl ⟨by omega, f0_iff.mpr (by omega)⟩)))]; exact ⟨by decide, rfl⟩, hP.kept (fun k q h => hkk q.1 ((hP k q h).lt)), va_K.moved hal hK, hD⟩, Nat.le_trans hS.1 hsz9, fun q h1 h2 => (hkk q (Nat.lt_of_lt_of_le h1 hS.1)).trans (hS.2.1 q h1 h2)⟩
  refine thr_61 hx hb hlf hown hts hTX (is := 237) (text := "the slot does not exist") (by decide +kernel) hS (by rw [hml]; exact hl.1) dX6_restore_9 dX6_restore_12 dX6_restore_13 dX6_restore_15 dX6_restore_18 hxt (Nat.le_of_ble_eq_true rfl) (Nat.le_of_ble_eq_true rfl) (Nat.le_of_ble_eq_true rfl) (Nat.le_of_ble_eq_true rfl) hlocks (Nat.le_of_ble_eq_true rfl) (Nat.le_of_ble_eq_true rfl) (fun t9 hal hsz9 hkk => ?_)
  exact ⟨((d, d1, d2, f1, f2, f, s0), (M, pv, ip, sv, M2, pv2, ip2, sv2, ma, nu, de, ne, di, n, fr)), ⟨rfl, hJ⟩, ⟨by rw [show rs_restore (d, d1, d2, f1, f2, f, s0) x = _ from (cI_t (fun z => by have z := prt_iff.mp z; omega))]; exact ⟨by decide, rfl⟩, hP.kept (fun k q h => hkk q.1 ((hP k q h).lt)), va_K.moved hal hK, hD⟩, Nat.le_trans hS.1 hsz9, fun q h1 h2 => (hkk q (Nat.lt_of_lt_of_le h1 hS.1)).trans (hS.2.1 q h1 h2)⟩
