/-! PlanetaryGearbox: speeds and torques -/
theorem k_st_min : (Cond.static Lib.Math.min.name) ∈ TB := mTB (tb_3 _ (List.mem_of_getElem? (i := 115) rfl)) (by decide +kernel)
theorem k_co_min : (Cond.code Lib.Math.min.name Lib.Math.min.code 2 (some .int)) ∈ TB := mTB (tb_3 _ (List.mem_of_getElem? (i := 116) rfl)) (by decide +kernel)
theorem slp_lt (d : Nat → Nat → Int32) (t : Int) : ∀ k, slp d t k < 2 ^ k
  | 0 => by show 0 < 2 ^ 0; decide
  | k + 1 => by
    have ih := slp_lt d t k
    have h2 : (2 : Nat) ^ k < 2 ^ (k + 1) := Nat.pow_lt_pow_right (by decide) (Nat.lt_succ_self k)
    by_cases z : k < dn d 8 1 ∧ (dn d 8 2).testBit k = true ∧ (hold (TQ d (dn d 8 2)) k (dn d 7 k) : Int) < t
    · rw [show slp d t (k + 1) = slp d t k ||| 2 ^ k from cI_t z]
      exact Nat.or_lt_two_pow (Nat.lt_trans ih h2) h2
    · rw [show slp d t (k + 1) = slp d t k from cI_f z]
      omega
theorem grt_le (d : Nat → Nat → Int32) : ∀ k, grt d k ≤ 10000
  | 0 => Nat.le_refl _
  | k + 1 => by
    have ih := grt_le d k
    by_cases z : k < dn d 8 1 ∧ (dn d 8 2).testBit k = true
    · rw [show grt d (k + 1) = Nat.min (grt d k) (hold (TQ d (dn d 8 2)) k (dn d 7 k)) from cI_t z]
      exact Nat.le_trans (Nat.min_le_left _ _) ih
    · rw [show grt d (k + 1) = grt d k from cI_f z]
      exact ih
theorem min_nI {a b : Nat} (ha : a ≤ 10000) (hb : b ≤ 10000) : (if nI b < nI a then nI b else nI a) = nI (Nat.min a b) := by
  have e1 := nI_toIntI (n := a) (by omega)
  have e2 := nI_toIntI (n := b) (by omega)
  by_cases h : b < a
  · rw [if_pos (by rw [i32_lt, e1, e2]; omega), show Nat.min a b = b from Nat.min_eq_right (by omega)]
  · rw [if_neg (by rw [i32_lt, e1, e2]; omega), show Nat.min a b = a from Nat.min_eq_left (by omega)]
set_option maxHeartbeats 4000000 in
set_option maxRecDepth 100000 in
theorem c_X6_speed (l : Launch) (hlf : l.stackTraces = false) (D : va_G) (K : Nat → ClassId) (ad q q1 q2 g r r2 : Nat → Nat) (v : CV) (i : CI) (x : Int32) (y : Int32) (sz : Nat) (hI : IV v) (hJ : II v.1 i)  : vx_Met l yX6_speed (.code yX6_speed cX6_speed 3 (some .long) :: TB) ({ frames := 7, cells := 1, slots := 6, locals := 150 } : Room) (va_Pc [.ref (ad 0), .int x, .int y] (cPT D K (WX K ad q q1 q2 g r r2 v i) sz)) (va_Ql (fun (z : Int64) (u : CV × CI) => u.1 = v ∧ II u.1.1 u.2 ∧ rs_speed v.1 x y = (0, z.toInt)) (fun (u : CV × CI) t => cB D K (va_A (WX K ad q q1 q2 g r r2 v i) sz) (WX K ad q q1 q2 g r r2 u.1 u.2) t) (va_A (WX K ad q q1 q2 g r r2 v i) sz)) (vx_X (fun (u : CV × CI) => u.1 = v ∧ II u.1.1 u.2) (fun E (u : CV × CI) t => exc [eIO, eIA, eIS] (rs_speed v.1 x y).1 E ∧ cB D K (va_A (WX K ad q q1 q2 g r r2 v i) sz) (WX K ad q q1 q2 g r r2 u.1 u.2) t) (va_A (WX K ad q q1 q2 g r r2 v i) sz)) 1 6 (va_A (WX K ad q q1 q2 g r r2 v i) sz) := by
  refine vx_ofW (cc := cX6_speed) (maxL := 3) (ret := (some .long)) (by decide) rfl ?_
  intro p e s m args below meth c s₁ B hml hxt hv
  obtain ⟨rfl, ⟨hsz, hP, hK, hD0⟩, hTX⟩ := hv
  have hx := B.exec
  have hb := B.bytes
  have hr := B.returns
  have hts := hts_tl (atoms_spec (ws := (.code yX6_speed cX6_speed 3 (some .long) :: TB)) B.pre)
  have hown : s.vm.findClass RX6 = some m.cls := findClass_of_methodNamed B.named
  have hlocks := B.notSynchronized
  subst hsz
  have hD := hD0.self (sz := s.heap.size)
  generalize hAe : (va_A (WX K ad q q1 q2 g r r2 v i) s.heap.size) = A at hD hTX ⊢
  have hA : ∀ q : Nat, s.heap.size ≤ q → A q := fun q h => by rw [← hAe]; exact Or.inr h
  have hS : va_S A s.heap s.heap [] := va_S.rf
  clear hAe hD0
  obtain ⟨d, d1, d2, f1, f2, f, s0⟩ := v
  obtain ⟨M, pv, ip, sv, M2, pv2, ip2, sv2, ma, nu, de, ne, di, n, fr⟩ := i
  obtain ⟨hd, hd1, hd2, hf1, hf2, hs20, hhf⟩ := id hI
  obtain ⟨hn64, hfr, hT⟩ := id hJ
  dsimp only at hd hd1 hd2 hf1 hf2 hs20 hhf hn64 hfr hT
  obtain ⟨ns, m1, ge, hns, hm, hge, h0, h1, h2, hs9, he9⟩ := id hd
  have hm1 : dn d 8 1 = m1 := dn_of h1 (by omega)
  have hn1 : dn d 8 0 = ns := dn_of h0 (by omega)
  have hp6 : 2 ^ m1 ≤ 64 := Nat.pow_le_pow_right (show 0 < 2 by decide) hm
  have hg1 : dn d 8 2 = ge := dn_of h2 (by omega)
  have hP : va_P D vwCl ([(ad 0, .inr (6, [.ref (q 0), .ref (q1 0), .ref (q2 0), .int f1, .int f2, .ref (ad 1), .ref (ad 3), .ref (ad 8), .ref (g 0)]))] ++ (WG K g ma nu de ne di (nI n) fr ++ ([(ad 3, .inr (4, [.ref (ad 4)]))] ++ (WE K (ad 4) (ad 5) (ad 6) (ad 7) r M pv ip sv ++ (WD K q d ++ ([(ad 8, .inr (5, [.ref (ad 9)]))] ++ (WE K (ad 9) (ad 10) (ad 11) (ad 12) r2 M2 pv2 ip2 sv2 ++ (WH K (ad 1) (ad 2) f (nI s0) ++ (WD K q1 d1 ++ (WD K q2 d2)))))))))) s.heap := hP
  have hD : va_D A ([(ad 0, .inr (6, [.ref (q 0), .ref (q1 0), .ref (q2 0), .int f1, .int f2, .ref (ad 1), .ref (ad 3), .ref (ad 8), .ref (g 0)]))] ++ (WG K g ma nu de ne di (nI n) fr ++ ([(ad 3, .inr (4, [.ref (ad 4)]))] ++ (WE K (ad 4) (ad 5) (ad 6) (ad 7) r M pv ip sv ++ (WD K q d ++ ([(ad 8, .inr (5, [.ref (ad 9)]))] ++ (WE K (ad 9) (ad 10) (ad 11) (ad 12) r2 M2 pv2 ip2 sv2 ++ (WH K (ad 1) (ad 2) f (nI s0) ++ (WD K q1 d1 ++ (WD K q2 d2)))))))))) := hD
  have hl := lv_entry ([.ref (ad 0), .int x, .int y]) (n := 3) (Nat.le_of_ble_eq_true rfl)
  rw [lg_entry_eq]
  generalize (lg_sl ([.ref (ad 0), .int x, .int y]) ++ List.replicate (3 - (lg_sl ([.ref (ad 0), .int x, .int y])).length) Slot.unset).toArray = ls at hl ⊢
  have hl : lv_has ls 3 [(0, .ref (ad 0)), (1, .int x), (2, .int y)] := hl
  refine lv_iload_n hx hb dX6_speed_0 rfl (lv_at hl 1 rfl) ?_
  refine va_calli (va_runS (As := [.int x]) (rest := []) ⟨hx, hb, hml, hown, hts⟩ (c_X6_isShaft l x ) (va_cwS 1 hts (TB_S k_m_X6_50 k_st_X6_isShaft k_in_X6 k_co_X6_isShaft (fun _ h => h)) rfl rfl rfl (by decide +kernel) ⟨Nat.le_of_ble_eq_true rfl, Nat.le_of_ble_eq_true rfl⟩) ⟨tP_blind, tP_of⟩ rfl rfl hl.1 rfl (lv_room (Nat.le_of_ble_eq_true rfl)) dX6_speed_1 ⟨Nat.le_of_ble_eq_true rfl, Nat.le_of_ble_eq_true rfl⟩) hS (fun q _ h => absurd h id) (fun q h => absurd h id) (fun rs u9 t9 H locs ht9 hvm hw hB hz1 hk1 hS => ?_)
  have hP := P_same hP hk1
  by_cases hshf : shf x
  rotate_left
  · refine t_i (hw.trans (bI_f hshf).symm) ?_
    refine b_if_ne hx hb (nI_toIntI (by omega)) dX6_speed_4 (tgt := 17) (by decide) (fun c4 => absurd c4 (by omega)) (fun c4 => ?_)
    refine thr_54 hx hb hlf hown hts hTX (is := 86) (text := "the shaft is not 0 to 5") (by decide +kernel) hS (by rw [hml]; exact hl.1) dX6_speed_7 dX6_speed_10 dX6_speed_11 dX6_speed_13 dX6_speed_16 hxt (Nat.le_of_ble_eq_true rfl) (Nat.le_of_ble_eq_true rfl) (Nat.le_of_ble_eq_true rfl) (Nat.le_of_ble_eq_true rfl) hlocks (Nat.le_of_ble_eq_true rfl) (Nat.le_of_ble_eq_true rfl) (fun t9 hal hsz9 hkk => ?_)
    exact ⟨((d, d1, d2, f1, f2, f, s0), (M, pv, ip, sv, M2, pv2, ip2, sv2, ma, nu, de, ne, di, n, fr)), ⟨rfl, hJ⟩, ⟨by rw [show rs_speed d x y = _ from (cI_t (hshf))]; exact ⟨by decide, rfl⟩, hP.kept (fun k q h => hkk q.1 ((hP k q h).lt)), va_K.moved hal hK, hD⟩, Nat.le_trans hS.1 hsz9, fun q h1 h2 => (hkk q (Nat.lt_of_lt_of_le h1 hS.1)).trans (hS.2.1 q h1 h2)⟩
  refine t_i (hw.trans (bI_t hshf).symm) ?_
  obtain ⟨kx, hkx, rfl⟩ := id hshf
  have hkxn : (nI kx).toInt.toNat = kx := by rw [nI_toIntI (by omega)]; omega
  refine b_if_ne hx hb (nI_toIntI (by omega)) dX6_speed_4 (tgt := 17) (by decide) (fun c4 => ?_) (fun c4 => absurd c4 (by omega))
  refine lv_iload_n hx hb dX6_speed_17 rfl (lv_at hl 2 rfl) ?_
  refine va_calli (va_runS (As := [.int y]) (rest := []) ⟨hx, hb, hml, hown, hts⟩ (c_X6_isPart l y ) (va_cwS 1 hts (TB_S k_m_X6_158 k_st_X6_isPart k_in_X6 k_co_X6_isPart (fun _ h => h)) rfl rfl rfl (by decide +kernel) ⟨Nat.le_of_ble_eq_true rfl, Nat.le_of_ble_eq_true rfl⟩) ⟨tP_blind, tP_of⟩ rfl rfl hl.1 rfl (lv_room (Nat.le_of_ble_eq_true rfl)) dX6_speed_18 ⟨Nat.le_of_ble_eq_true rfl, Nat.le_of_ble_eq_true rfl⟩) hS (fun q _ h => absurd h id) (fun q h => absurd h id) (fun rs u9 t9 H locs ht9 hvm hw hB hz1 hk1 hS => ?_)
  have hP := P_same hP hk1
  by_cases hprt : prt y
  rotate_left
  · refine t_i (hw.trans (bI_f hprt).symm) ?_
    refine b_if_ne hx hb (nI_toIntI (by omega)) dX6_speed_21 (tgt := 34) (by decide) (fun c21 => absurd c21 (by omega)) (fun c21 => ?_)
    refine thr_61 hx hb hlf hown hts hTX (is := 161) (text := "part is neither 0 nor 1") (by decide +kernel) hS (by rw [hml]; exact hl.1) dX6_speed_24 dX6_speed_27 dX6_speed_28 dX6_speed_30 dX6_speed_33 hxt (Nat.le_of_ble_eq_true rfl) (Nat.le_of_ble_eq_true rfl) (Nat.le_of_ble_eq_true rfl) (Nat.le_of_ble_eq_true rfl) hlocks (Nat.le_of_ble_eq_true rfl) (Nat.le_of_ble_eq_true rfl) (fun t9 hal hsz9 hkk => ?_)
    exact ⟨((d, d1, d2, f1, f2, f, s0), (M, pv, ip, sv, M2, pv2, ip2, sv2, ma, nu, de, ne, di, n, fr)), ⟨rfl, hJ⟩, ⟨by rw [show rs_speed d (nI kx) y = _ from ((cI_f (fun z => z hshf)).trans (cI_t (hprt)))]; exact ⟨by decide, rfl⟩, hP.kept (fun k q h => hkk q.1 ((hP k q h).lt)), va_K.moved hal hK, hD⟩, Nat.le_trans hS.1 hsz9, fun q h1 h2 => (hkk q (Nat.lt_of_lt_of_le h1 hS.1)).trans (hS.2.1 q h1 h2)⟩
  refine t_i (hw.trans (bI_t hprt).symm) ?_
  obtain ⟨kp, hkp, rfl⟩ := id hprt
  have hkpn : (nI kp).toInt.toNat = kp := by rw [nI_toIntI (by omega)]; omega
  refine b_if_ne hx hb (nI_toIntI (by omega)) dX6_speed_21 (tgt := 34) (by decide) (fun c21 => ?_) (fun c21 => absurd c21 (by omega))
  refine lv_aload_n hx hb dX6_speed_34 rfl (lv_at hl 0 rfl) ?_
  refine va_get (D := D) (ci := 6) (C := RX6) (T := TX6) (N := 9) hx hb hts iX6 hown hK hP 0 rfl rfl 6 (by decide) (hts _ k_f_X6_32) (fun _ h9 => h9) rfl dX6_speed_35 ?_
  refine lv_aload_n hx hb dX6_speed_38 rfl (lv_at hl 0 rfl) ?_
  refine va_get (D := D) (ci := 6) (C := RX6) (T := TX6) (N := 9) hx hb hts iX6 hown hK hP 0 rfl rfl 0 (by decide) (hts _ k_f_X6_12) (fun _ h9 => h9) rfl dX6_speed_39 ?_
  refine lv_aload_n hx hb dX6_speed_42 rfl (lv_at hl 0 rfl) ?_
  refine va_get (D := D) (ci := 6) (C := RX6) (T := TX6) (N := 9) hx hb hts iX6 hown hK hP 0 rfl rfl 0 (by decide) (hts _ k_f_X6_12) (fun _ h9 => h9) rfl dX6_speed_43 ?_
  have hPq := P_perm pm_4 hP
  have hDq := D_perm pm_4 hD
  have hPc := bP0 hPq
  have hDc := bD0 hDq
  refine va_calli (va_runV (As := []) (rest := [.ref (q 0), .ref (ad 3)]) ⟨hx, hb, hml, hown, hts⟩ (c_X0_engagedMask l D K q d H.size ) (cwV 0 hts (TB_V k_m_X6_123 k_im_X0_engagedMask k_se_X0_engagedMask k_in_X0 k_co_X0_engagedMask (fun _ h => h)) rfl rfl rfl (by decide +kernel) ⟨Nat.le_of_ble_eq_true rfl, Nat.le_of_ble_eq_true rfl⟩) ⟨cP_blind, va_recv hK hPc (ci := 0) (q0 := 0) rfl rfl, cP_of hPc hK hDc⟩ rfl rfl hl.1 rfl (lv_room (Nat.le_of_ble_eq_true rfl)) dX6_speed_46 ⟨Nat.le_of_ble_eq_true rfl, Nat.le_of_ble_eq_true rfl⟩) hS (fun q _ h => absurd h id) (fun q h => absurd h id) (fun em u9 t9 H locs ht9 hvm hw hB hz1 hk1 hS => ?_)
  have hP := P_same hP hk1
  refine t_i (hw.trans h2) ?_
  have hPq := P_perm pm_234 hP
  have hDq := D_perm pm_234 hD
  have hPc := bP0 hPq
  have hDc := bD0 hDq
  have hFc := bF0 hDq hS hA
  refine va_callv (va_runV (As := [.ref (q 0), .int (nI ge)]) (rest := []) ⟨hx, hb, hml, hown, hts⟩ (c_X4_solve l D K (ad 3) (ad 4) (ad 5) (ad 6) (ad 7) r M pv ip sv q d ge H.size hd (by omega)) (cwV 2 hts (TB_V k_m_X6_151 k_im_X4_solve k_se_X4_solve k_in_X4 k_co_X4_solve (fun _ h => h)) rfl rfl rfl (by decide +kernel) ⟨Nat.le_of_ble_eq_true rfl, Nat.le_of_ble_eq_true rfl⟩) ⟨cP_blind, va_recv hK hPc (ci := 4) (q0 := 0) rfl rfl, cP_of hPc hK hDc⟩ rfl rfl hl.1 rfl (lv_room (Nat.le_of_ble_eq_true rfl)) dX6_speed_49 ⟨Nat.le_of_ble_eq_true rfl, Nat.le_of_ble_eq_true rfl⟩) hS (fun q _ h => hFc q h) hFc (fun V t9 H locs ht9 hvm hw hB hz1 hk1 hS => ?_)
  obtain ⟨hP1, hK1, hD1⟩ := hB
  rw [ht9] at hP1
  obtain ⟨hPq1, hDq1⟩ := bJ0 hPq hDq hk1 hFc hP1 hD1
  have hP := P_perm (pm_234 (X0 := _)).symm hPq1
  have hD := D_perm (pm_234 (X0 := _)).symm hDq1
  have hP : va_P D vwCl ([(ad 0, .inr (6, [.ref (q 0), .ref (q1 0), .ref (q2 0), .int f1, .int f2, .ref (ad 1), .ref (ad 3), .ref (ad 8), .ref (g 0)]))] ++ (WG K g ma nu de ne di (nI n) fr ++ ([(ad 3, .inr (4, [.ref (ad 4)]))] ++ (WE K (ad 4) (ad 5) (ad 6) (ad 7) r V.1 V.2.1 V.2.2.1 V.2.2.2 ++ (WD K q d ++ ([(ad 8, .inr (5, [.ref (ad 9)]))] ++ (WE K (ad 9) (ad 10) (ad 11) (ad 12) r2 M2 pv2 ip2 sv2 ++ (WH K (ad 1) (ad 2) f (nI s0) ++ (WD K q1 d1 ++ (WD K q2 d2)))))))))) H := hP
  have hD : va_D A ([(ad 0, .inr (6, [.ref (q 0), .ref (q1 0), .ref (q2 0), .int f1, .int f2, .ref (ad 1), .ref (ad 3), .ref (ad 8), .ref (g 0)]))] ++ (WG K g ma nu de ne di (nI n) fr ++ ([(ad 3, .inr (4, [.ref (ad 4)]))] ++ (WE K (ad 4) (ad 5) (ad 6) (ad 7) r V.1 V.2.1 V.2.2.1 V.2.2.2 ++ (WD K q d ++ ([(ad 8, .inr (5, [.ref (ad 9)]))] ++ (WE K (ad 9) (ad 10) (ad 11) (ad 12) r2 M2 pv2 ip2 sv2 ++ (WH K (ad 1) (ad 2) f (nI s0) ++ (WD K q1 d1 ++ (WD K q2 d2)))))))))) := hD
  have hS0 := hw
  refine lv_aload_n hx hb dX6_speed_52 rfl (lv_at hl 0 rfl) ?_
  refine va_get (D := D) (ci := 6) (C := RX6) (T := TX6) (N := 9) hx hb hts iX6 hown hK hP 0 rfl rfl 6 (by decide) (hts _ k_f_X6_32) (fun _ h9 => h9) rfl dX6_speed_53 ?_
  refine lv_iload_n hx hb dX6_speed_56 rfl (lv_at hl 1 rfl) ?_
  have hPq := P_perm pm_23 hP
  have hDq := D_perm pm_23 hD
  have hPc := bP0 hPq
  have hDc := bD0 hDq
  refine va_calli (va_runV (As := [.int (nI kx)]) (rest := []) ⟨hx, hb, hml, hown, hts⟩ (c_X4_isDetermined l D K (ad 3) (ad 4) (ad 5) (ad 6) (ad 7) r V.1 V.2.1 V.2.2.1 V.2.2.2 (spM d ge) kx H.size (by omega) hS0) (cwV 1 hts (TB_V k_m_X6_163 k_im_X4_isDetermined k_se_X4_isDetermined k_in_X4 k_co_X4_isDetermined (fun _ h => h)) rfl rfl rfl (by decide +kernel) ⟨Nat.le_of_ble_eq_true rfl, Nat.le_of_ble_eq_true rfl⟩) ⟨cP_blind, va_recv hK hPc (ci := 4) (q0 := 0) rfl rfl, cP_of hPc hK hDc⟩ rfl rfl hl.1 rfl (lv_room (Nat.le_of_ble_eq_true rfl)) dX6_speed_57 ⟨Nat.le_of_ble_eq_true rfl, Nat.le_of_ble_eq_true rfl⟩) hS (fun q _ h => absurd h id) (fun q h => absurd h id) (fun rd u9 t9 H locs ht9 hvm hw hB hz1 hk1 hS => ?_)
  have hP := P_same hP hk1
  have hw : rd = bI (Solv (SP d ge) ∧ DetS (SP d ge) kx) := hw
  by_cases hdet : (Solv (SP d ge) ∧ DetS (SP d ge) kx)
  rotate_left
  · refine t_i (hw.trans (bI_f hdet).symm) ?_
    refine b_if_ne hx hb (nI_toIntI (by omega)) dX6_speed_60 (tgt := 73) (by decide) (fun c60 => absurd c60 (by omega)) (fun c60 => ?_)
    refine thr_74 hx hb hlf hown hts hTX (is := 166) (text := "the gearbox is blocked or the speed not determined") (by decide +kernel) hS (by rw [hml]; exact hl.1) dX6_speed_63 dX6_speed_66 dX6_speed_67 dX6_speed_69 dX6_speed_72 hxt (Nat.le_of_ble_eq_true rfl) (Nat.le_of_ble_eq_true rfl) (Nat.le_of_ble_eq_true rfl) (Nat.le_of_ble_eq_true rfl) hlocks (Nat.le_of_ble_eq_true rfl) (Nat.le_of_ble_eq_true rfl) (fun t9 hal hsz9 hkk => ?_)
    exact ⟨((d, d1, d2, f1, f2, f, s0), (V.1, V.2.1, V.2.2.1, V.2.2.2, M2, pv2, ip2, sv2, ma, nu, de, ne, di, n, fr)), ⟨rfl, hJ⟩, ⟨by rw [show rs_speed d (nI kx) (nI kp) = _ from ((cI_f (fun z => z hshf)).trans ((cI_f (fun z => z hprt)).trans (cI_t (by rw [hg1, hkxn]; exact hdet))))]; exact ⟨by decide, rfl⟩, hP.kept (fun k q h => hkk q.1 ((hP k q h).lt)), va_K.moved hal hK, hD⟩, Nat.le_trans hS.1 hsz9, fun q h1 h2 => (hkk q (Nat.lt_of_lt_of_le h1 hS.1)).trans (hS.2.1 q h1 h2)⟩
  refine t_i (hw.trans (bI_t hdet).symm) ?_
  refine b_if_ne hx hb (nI_toIntI (by omega)) dX6_speed_60 (tgt := 73) (by decide) (fun c60 => ?_) (fun c60 => absurd c60 (by omega))
  refine lv_aload_n hx hb dX6_speed_73 rfl (lv_at hl 0 rfl) ?_
  refine va_get (D := D) (ci := 6) (C := RX6) (T := TX6) (N := 9) hx hb hts iX6 hown hK hP 0 rfl rfl 6 (by decide) (hts _ k_f_X6_32) (fun _ h9 => h9) rfl dX6_speed_74 ?_
  refine lv_iload_n hx hb dX6_speed_77 rfl (lv_at hl 1 rfl) ?_
  refine lv_iload_n hx hb dX6_speed_78 rfl (lv_at hl 2 rfl) ?_
  have hPq := P_perm pm_23 hP
  have hDq := D_perm pm_23 hD
  have hPc := bP0 hPq
  have hDc := bD0 hDq
  refine va_calll (va_runV (As := [.int (nI kx), .int (nI kp)]) (rest := []) ⟨hx, hb, hml, hown, hts⟩ (c_X4_speedPart l D K (ad 3) (ad 4) (ad 5) (ad 6) (ad 7) r V.1 V.2.1 V.2.2.1 V.2.2.2 (spM d ge) kx kp H.size (by omega) hkp hS0 hdet.1 hdet.2) (cwV 2 hts (TB_V k_m_X6_168 k_im_X4_speedPart k_se_X4_speedPart k_in_X4 k_co_X4_speedPart (fun _ h => h)) rfl rfl rfl (by decide +kernel) ⟨Nat.le_of_ble_eq_true rfl, Nat.le_of_ble_eq_true rfl⟩) ⟨cP_blind, va_recv hK hPc (ci := 4) (q0 := 0) rfl rfl, cP_of hPc hK hDc⟩ rfl rfl hl.1 rfl (lv_room (Nat.le_of_ble_eq_true rfl)) dX6_speed_79 ⟨Nat.le_of_ble_eq_true rfl, Nat.le_of_ble_eq_true rfl⟩) hS (fun q _ h => absurd h id) (fun q h => absurd h id) (fun rp u9 t9 H locs ht9 hvm hw hB hz1 hk1 hS => ?_)
  have hP := P_same hP hk1
  refine vx_ret ?_
  exact W.widen (k := 1) (n := 6) (Nat.le_of_ble_eq_true rfl) (Nat.le_of_ble_eq_true rfl) (W.lret (v := rp) hx hb hr (fun t9 ht9 hW => ⟨⟨rp, ((d, d1, d2, f1, f2, f, s0), (V.1, V.2.1, V.2.2.1, V.2.2.2, M2, pv2, ip2, sv2, ma, nu, de, ne, di, n, fr)), rfl, ⟨rfl, hJ, ((cI_f (fun z => z hshf)).trans ((cI_f (fun z => z hprt)).trans ((cI_f (fun z => z (by rw [hg1, hkxn]; exact hdet))).trans (r0 (by rw [hg1, hkxn, hkpn]; exact hw.symm)))))⟩, by rw [ht9]; exact hP, va_K.moved hW.alike hK, hD⟩, hS.F ht9⟩) hS.2.2 dX6_speed_82)
set_option maxHeartbeats 4000000 in
set_option maxRecDepth 100000 in
theorem c_X6_ratio (l : Launch) (hlf : l.stackTraces = false) (D : va_G) (K : Nat → ClassId) (ad q q1 q2 g r r2 : Nat → Nat) (v : CV) (i : CI) (y : Int32) (sz : Nat) (hI : IV v) (hJ : II v.1 i)  : vx_Met l yX6_ratio (.code yX6_ratio cX6_ratio 2 (some .long) :: TB) ({ frames := 7, cells := 1, slots := 6, locals := 150 } : Room) (va_Pc [.ref (ad 0), .int y] (cPT D K (WX K ad q q1 q2 g r r2 v i) sz)) (va_Ql (fun (z : Int64) (u : CV × CI) => u.1 = v ∧ II u.1.1 u.2 ∧ rs_ratio v.1 y = (0, z.toInt)) (fun (u : CV × CI) t => cB D K (va_A (WX K ad q q1 q2 g r r2 v i) sz) (WX K ad q q1 q2 g r r2 u.1 u.2) t) (va_A (WX K ad q q1 q2 g r r2 v i) sz)) (vx_X (fun (u : CV × CI) => u.1 = v ∧ II u.1.1 u.2) (fun E (u : CV × CI) t => exc [eIA, eIS] (rs_ratio v.1 y).1 E ∧ cB D K (va_A (WX K ad q q1 q2 g r r2 v i) sz) (WX K ad q q1 q2 g r r2 u.1 u.2) t) (va_A (WX K ad q q1 q2 g r r2 v i) sz)) 1 6 (va_A (WX K ad q q1 q2 g r r2 v i) sz) := by
  refine vx_ofW (cc := cX6_ratio) (maxL := 2) (ret := (some .long)) (by decide) rfl ?_
  intro p e s m args below meth c s₁ B hml hxt hv
  obtain ⟨rfl, ⟨hsz, hP, hK, hD0⟩, hTX⟩ := hv
  have hx := B.exec
  have hb := B.bytes
  have hr := B.returns
  have hts := hts_tl (atoms_spec (ws := (.code yX6_ratio cX6_ratio 2 (some .long) :: TB)) B.pre)
  have hown : s.vm.findClass RX6 = some m.cls := findClass_of_methodNamed B.named
  have hlocks := B.notSynchronized
  subst hsz
  have hD := hD0.self (sz := s.heap.size)
  generalize hAe : (va_A (WX K ad q q1 q2 g r r2 v i) s.heap.size) = A at hD hTX ⊢
  have hA : ∀ q : Nat, s.heap.size ≤ q → A q := fun q h => by rw [← hAe]; exact Or.inr h
  have hS : va_S A s.heap s.heap [] := va_S.rf
  clear hAe hD0
  obtain ⟨d, d1, d2, f1, f2, f, s0⟩ := v
  obtain ⟨M, pv, ip, sv, M2, pv2, ip2, sv2, ma, nu, de, ne, di, n, fr⟩ := i
  obtain ⟨hd, hd1, hd2, hf1, hf2, hs20, hhf⟩ := id hI
  obtain ⟨hn64, hfr, hT⟩ := id hJ
  dsimp only at hd hd1 hd2 hf1 hf2 hs20 hhf hn64 hfr hT
  obtain ⟨ns, m1, ge, hns, hm, hge, h0, h1, h2, hs9, he9⟩ := id hd
  have hm1 : dn d 8 1 = m1 := dn_of h1 (by omega)
  have hn1 : dn d 8 0 = ns := dn_of h0 (by omega)
  have hp6 : 2 ^ m1 ≤ 64 := Nat.pow_le_pow_right (show 0 < 2 by decide) hm
  have hg1 : dn d 8 2 = ge := dn_of h2 (by omega)
  have hP : va_P D vwCl ([(ad 0, .inr (6, [.ref (q 0), .ref (q1 0), .ref (q2 0), .int f1, .int f2, .ref (ad 1), .ref (ad 3), .ref (ad 8), .ref (g 0)]))] ++ (WG K g ma nu de ne di (nI n) fr ++ ([(ad 3, .inr (4, [.ref (ad 4)]))] ++ (WE K (ad 4) (ad 5) (ad 6) (ad 7) r M pv ip sv ++ (WD K q d ++ ([(ad 8, .inr (5, [.ref (ad 9)]))] ++ (WE K (ad 9) (ad 10) (ad 11) (ad 12) r2 M2 pv2 ip2 sv2 ++ (WH K (ad 1) (ad 2) f (nI s0) ++ (WD K q1 d1 ++ (WD K q2 d2)))))))))) s.heap := hP
  have hD : va_D A ([(ad 0, .inr (6, [.ref (q 0), .ref (q1 0), .ref (q2 0), .int f1, .int f2, .ref (ad 1), .ref (ad 3), .ref (ad 8), .ref (g 0)]))] ++ (WG K g ma nu de ne di (nI n) fr ++ ([(ad 3, .inr (4, [.ref (ad 4)]))] ++ (WE K (ad 4) (ad 5) (ad 6) (ad 7) r M pv ip sv ++ (WD K q d ++ ([(ad 8, .inr (5, [.ref (ad 9)]))] ++ (WE K (ad 9) (ad 10) (ad 11) (ad 12) r2 M2 pv2 ip2 sv2 ++ (WH K (ad 1) (ad 2) f (nI s0) ++ (WD K q1 d1 ++ (WD K q2 d2)))))))))) := hD
  have hl := lv_entry ([.ref (ad 0), .int y]) (n := 2) (Nat.le_of_ble_eq_true rfl)
  rw [lg_entry_eq]
  generalize (lg_sl ([.ref (ad 0), .int y]) ++ List.replicate (2 - (lg_sl ([.ref (ad 0), .int y])).length) Slot.unset).toArray = ls at hl ⊢
  have hl : lv_has ls 2 [(0, .ref (ad 0)), (1, .int y)] := hl
  refine lv_iload_n hx hb dX6_ratio_0 rfl (lv_at hl 1 rfl) ?_
  refine va_calli (va_runS (As := [.int y]) (rest := []) ⟨hx, hb, hml, hown, hts⟩ (c_X6_isPart l y ) (va_cwS 1 hts (TB_S k_m_X6_158 k_st_X6_isPart k_in_X6 k_co_X6_isPart (fun _ h => h)) rfl rfl rfl (by decide +kernel) ⟨Nat.le_of_ble_eq_true rfl, Nat.le_of_ble_eq_true rfl⟩) ⟨tP_blind, tP_of⟩ rfl rfl hl.1 rfl (lv_room (Nat.le_of_ble_eq_true rfl)) dX6_ratio_1 ⟨Nat.le_of_ble_eq_true rfl, Nat.le_of_ble_eq_true rfl⟩) hS (fun q _ h => absurd h id) (fun q h => absurd h id) (fun rs u9 t9 H locs ht9 hvm hw hB hz1 hk1 hS => ?_)
  have hP := P_same hP hk1
  by_cases hprt : prt y
  rotate_left
  · refine t_i (hw.trans (bI_f hprt).symm) ?_
    refine b_if_ne hx hb (nI_toIntI (by omega)) dX6_ratio_4 (tgt := 17) (by decide) (fun c4 => absurd c4 (by omega)) (fun c4 => ?_)
    refine thr_61 hx hb hlf hown hts hTX (is := 161) (text := "part is neither 0 nor 1") (by decide +kernel) hS (by rw [hml]; exact hl.1) dX6_ratio_7 dX6_ratio_10 dX6_ratio_11 dX6_ratio_13 dX6_ratio_16 hxt (Nat.le_of_ble_eq_true rfl) (Nat.le_of_ble_eq_true rfl) (Nat.le_of_ble_eq_true rfl) (Nat.le_of_ble_eq_true rfl) hlocks (Nat.le_of_ble_eq_true rfl) (Nat.le_of_ble_eq_true rfl) (fun t9 hal hsz9 hkk => ?_)
    exact ⟨((d, d1, d2, f1, f2, f, s0), (M, pv, ip, sv, M2, pv2, ip2, sv2, ma, nu, de, ne, di, n, fr)), ⟨rfl, hJ⟩, ⟨by rw [show rs_ratio d y = _ from (cI_t (hprt))]; exact ⟨by decide, rfl⟩, hP.kept (fun k q h => hkk q.1 ((hP k q h).lt)), va_K.moved hal hK, hD⟩, Nat.le_trans hS.1 hsz9, fun q h1 h2 => (hkk q (Nat.lt_of_lt_of_le h1 hS.1)).trans (hS.2.1 q h1 h2)⟩
  refine t_i (hw.trans (bI_t hprt).symm) ?_
  obtain ⟨kp, hkp, rfl⟩ := id hprt
  have hkpn : (nI kp).toInt.toNat = kp := by rw [nI_toIntI (by omega)]; omega
  refine b_if_ne hx hb (nI_toIntI (by omega)) dX6_ratio_4 (tgt := 17) (by decide) (fun c4 => ?_) (fun c4 => absurd c4 (by omega))
  refine lv_aload_n hx hb dX6_ratio_17 rfl (lv_at hl 0 rfl) ?_
  refine va_get (D := D) (ci := 6) (C := RX6) (T := TX6) (N := 9) hx hb hts iX6 hown hK hP 0 rfl rfl 6 (by decide) (hts _ k_f_X6_32) (fun _ h9 => h9) rfl dX6_ratio_18 ?_
  refine lv_aload_n hx hb dX6_ratio_21 rfl (lv_at hl 0 rfl) ?_
  refine va_get (D := D) (ci := 6) (C := RX6) (T := TX6) (N := 9) hx hb hts iX6 hown hK hP 0 rfl rfl 0 (by decide) (hts _ k_f_X6_12) (fun _ h9 => h9) rfl dX6_ratio_22 ?_
  refine lv_aload_n hx hb dX6_ratio_25 rfl (lv_at hl 0 rfl) ?_
  refine va_get (D := D) (ci := 6) (C := RX6) (T := TX6) (N := 9) hx hb hts iX6 hown hK hP 0 rfl rfl 0 (by decide) (hts _ k_f_X6_12) (fun _ h9 => h9) rfl dX6_ratio_26 ?_
  have hPq := P_perm pm_4 hP
  have hDq := D_perm pm_4 hD
  have hPc := bP0 hPq
  have hDc := bD0 hDq
  refine va_calli (va_runV (As := []) (rest := [.ref (q 0), .ref (ad 3)]) ⟨hx, hb, hml, hown, hts⟩ (c_X0_engagedMask l D K q d H.size ) (cwV 0 hts (TB_V k_m_X6_123 k_im_X0_engagedMask k_se_X0_engagedMask k_in_X0 k_co_X0_engagedMask (fun _ h => h)) rfl rfl rfl (by decide +kernel) ⟨Nat.le_of_ble_eq_true rfl, Nat.le_of_ble_eq_true rfl⟩) ⟨cP_blind, va_recv hK hPc (ci := 0) (q0 := 0) rfl rfl, cP_of hPc hK hDc⟩ rfl rfl hl.1 rfl (lv_room (Nat.le_of_ble_eq_true rfl)) dX6_ratio_29 ⟨Nat.le_of_ble_eq_true rfl, Nat.le_of_ble_eq_true rfl⟩) hS (fun q _ h => absurd h id) (fun q h => absurd h id) (fun em u9 t9 H locs ht9 hvm hw hB hz1 hk1 hS => ?_)
  have hP := P_same hP hk1
  refine t_i (hw.trans h2) ?_
  have hPq := P_perm pm_234 hP
  have hDq := D_perm pm_234 hD
  have hPc := bP0 hPq
  have hDc := bD0 hDq
  have hFc := bF0 hDq hS hA
  refine va_callv (va_runV (As := [.ref (q 0), .int (nI ge)]) (rest := []) ⟨hx, hb, hml, hown, hts⟩ (c_X4_solve l D K (ad 3) (ad 4) (ad 5) (ad 6) (ad 7) r M pv ip sv q d ge H.size hd (by omega)) (cwV 2 hts (TB_V k_m_X6_151 k_im_X4_solve k_se_X4_solve k_in_X4 k_co_X4_solve (fun _ h => h)) rfl rfl rfl (by decide +kernel) ⟨Nat.le_of_ble_eq_true rfl, Nat.le_of_ble_eq_true rfl⟩) ⟨cP_blind, va_recv hK hPc (ci := 4) (q0 := 0) rfl rfl, cP_of hPc hK hDc⟩ rfl rfl hl.1 rfl (lv_room (Nat.le_of_ble_eq_true rfl)) dX6_ratio_32 ⟨Nat.le_of_ble_eq_true rfl, Nat.le_of_ble_eq_true rfl⟩) hS (fun q _ h => hFc q h) hFc (fun V t9 H locs ht9 hvm hw hB hz1 hk1 hS => ?_)
  obtain ⟨hP1, hK1, hD1⟩ := hB
  rw [ht9] at hP1
  obtain ⟨hPq1, hDq1⟩ := bJ0 hPq hDq hk1 hFc hP1 hD1
  have hP := P_perm (pm_234 (X0 := _)).symm hPq1
  have hD := D_perm (pm_234 (X0 := _)).symm hDq1
  have hP : va_P D vwCl ([(ad 0, .inr (6, [.ref (q 0), .ref (q1 0), .ref (q2 0), .int f1, .int f2, .ref (ad 1), .ref (ad 3), .ref (ad 8), .ref (g 0)]))] ++ (WG K g ma nu de ne di (nI n) fr ++ ([(ad 3, .inr (4, [.ref (ad 4)]))] ++ (WE K (ad 4) (ad 5) (ad 6) (ad 7) r V.1 V.2.1 V.2.2.1 V.2.2.2 ++ (WD K q d ++ ([(ad 8, .inr (5, [.ref (ad 9)]))] ++ (WE K (ad 9) (ad 10) (ad 11) (ad 12) r2 M2 pv2 ip2 sv2 ++ (WH K (ad 1) (ad 2) f (nI s0) ++ (WD K q1 d1 ++ (WD K q2 d2)))))))))) H := hP
  have hD : va_D A ([(ad 0, .inr (6, [.ref (q 0), .ref (q1 0), .ref (q2 0), .int f1, .int f2, .ref (ad 1), .ref (ad 3), .ref (ad 8), .ref (g 0)]))] ++ (WG K g ma nu de ne di (nI n) fr ++ ([(ad 3, .inr (4, [.ref (ad 4)]))] ++ (WE K (ad 4) (ad 5) (ad 6) (ad 7) r V.1 V.2.1 V.2.2.1 V.2.2.2 ++ (WD K q d ++ ([(ad 8, .inr (5, [.ref (ad 9)]))] ++ (WE K (ad 9) (ad 10) (ad 11) (ad 12) r2 M2 pv2 ip2 sv2 ++ (WH K (ad 1) (ad 2) f (nI s0) ++ (WD K q1 d1 ++ (WD K q2 d2)))))))))) := hD
  have hS0 := hw
  refine lv_aload_n hx hb dX6_ratio_35 rfl (lv_at hl 0 rfl) ?_
  refine va_get (D := D) (ci := 6) (C := RX6) (T := TX6) (N := 9) hx hb hts iX6 hown hK hP 0 rfl rfl 6 (by decide) (hts _ k_f_X6_32) (fun _ h9 => h9) rfl dX6_ratio_36 ?_
  have hPq := P_perm pm_23 hP
  have hDq := D_perm pm_23 hD
  have hPc := bP0 hPq
  have hDc := bD0 hDq
  refine va_calli (va_runV (As := []) (rest := []) ⟨hx, hb, hml, hown, hts⟩ (c_X4_stateFound l D K (ad 3) (ad 4) (ad 5) (ad 6) (ad 7) r V.1 V.2.1 V.2.2.1 V.2.2.2 (spM d ge) H.size hS0) (cwV 0 hts (TB_V k_m_X6_155 k_im_X4_stateFound k_se_X4_stateFound k_in_X4 k_co_X4_stateFound (fun _ h => h)) rfl rfl rfl (by decide +kernel) ⟨Nat.le_of_ble_eq_true rfl, Nat.le_of_ble_eq_true rfl⟩) ⟨cP_blind, va_recv hK hPc (ci := 4) (q0 := 0) rfl rfl, cP_of hPc hK hDc⟩ rfl rfl hl.1 rfl (lv_room (Nat.le_of_ble_eq_true rfl)) dX6_ratio_39 ⟨Nat.le_of_ble_eq_true rfl, Nat.le_of_ble_eq_true rfl⟩) hS (fun q _ h => absurd h id) (fun q h => absurd h id) (fun sf u9 t9 H locs ht9 hvm hw hB hz1 hk1 hS => ?_)
  have hP := P_same hP hk1
  refine t_i (show sf = nI (stM d ge) from hw) ?_
  have hs3 := stC_le (SP d ge)
  have hs3 : stM d ge ≤ 3 := hs3
  refine b_if_eq hx hb (nI_toIntI (by omega)) dX6_ratio_42 (tgt := 55) (by decide) (fun c42 => ?_) (fun c42 => ?_)
  · refine lv_aload_n hx hb dX6_ratio_55 rfl (lv_at hl 0 rfl) ?_
    refine va_get (D := D) (ci := 6) (C := RX6) (T := TX6) (N := 9) hx hb hts iX6 hown hK hP 0 rfl rfl 6 (by decide) (hts _ k_f_X6_32) (fun _ h9 => h9) rfl dX6_ratio_56 ?_
    refine lv_iload_n hx hb dX6_ratio_59 rfl (lv_at hl 1 rfl) ?_
    have hst0 : stM d ge = 0 := by omega
    have hdr := stC_drive.mp (show stC (SP d ge) = 0 from (show stM d ge = 0 by omega))
    have hPq := P_perm pm_23 hP
    have hDq := D_perm pm_23 hD
    have hPc := bP0 hPq
    have hDc := bD0 hDq
    refine va_calll (va_runV (As := [.int (nI kp)]) (rest := []) ⟨hx, hb, hml, hown, hts⟩ (c_X4_ratioPart l D K (ad 3) (ad 4) (ad 5) (ad 6) (ad 7) r V.1 V.2.1 V.2.2.1 V.2.2.2 (spM d ge) kp H.size hkp hS0 hdr.1 hdr.2.1) (cwV 1 hts (TB_V k_m_X6_174 k_im_X4_ratioPart k_se_X4_ratioPart k_in_X4 k_co_X4_ratioPart (fun _ h => h)) rfl rfl rfl (by decide +kernel) ⟨Nat.le_of_ble_eq_true rfl, Nat.le_of_ble_eq_true rfl⟩) ⟨cP_blind, va_recv hK hPc (ci := 4) (q0 := 0) rfl rfl, cP_of hPc hK hDc⟩ rfl rfl hl.1 rfl (lv_room (Nat.le_of_ble_eq_true rfl)) dX6_ratio_60 ⟨Nat.le_of_ble_eq_true rfl, Nat.le_of_ble_eq_true rfl⟩) hS (fun q _ h => absurd h id) (fun q h => absurd h id) (fun rp u9 t9 H locs ht9 hvm hw hB hz1 hk1 hS => ?_)
    have hP := P_same hP hk1
    refine vx_ret ?_
    exact W.widen (k := 1) (n := 6) (Nat.le_of_ble_eq_true rfl) (Nat.le_of_ble_eq_true rfl) (W.lret (v := rp) hx hb hr (fun t9 ht9 hW => ⟨⟨rp, ((d, d1, d2, f1, f2, f, s0), (V.1, V.2.1, V.2.2.1, V.2.2.2, M2, pv2, ip2, sv2, ma, nu, de, ne, di, n, fr)), rfl, ⟨rfl, hJ, ((cI_f (fun z => z hprt)).trans ((cI_f (fun z => z (by rw [hg1]; exact hst0))).trans (r0 (by rw [hg1, hkpn]; exact hw.symm))))⟩, by rw [ht9]; exact hP, va_K.moved hW.alike hK, hD⟩, hS.F ht9⟩) hS.2.2 dX6_ratio_63)
  refine thr_74 hx hb hlf hown hts hTX (is := 172) (text := "the gearbox is not driving") (by decide +kernel) hS (by rw [hml]; exact hl.1) dX6_ratio_45 dX6_ratio_48 dX6_ratio_49 dX6_ratio_51 dX6_ratio_54 hxt (Nat.le_of_ble_eq_true rfl) (Nat.le_of_ble_eq_true rfl) (Nat.le_of_ble_eq_true rfl) (Nat.le_of_ble_eq_true rfl) hlocks (Nat.le_of_ble_eq_true rfl) (Nat.le_of_ble_eq_true rfl) (fun t9 hal hsz9 hkk => ?_)
  exact ⟨((d, d1, d2, f1, f2, f, s0), (V.1, V.2.1, V.2.2.1, V.2.2.2, M2, pv2, ip2, sv2, ma, nu, de, ne, di, n, fr)), ⟨rfl, hJ⟩, ⟨by rw [show rs_ratio d (nI kp) = _ from ((cI_f (fun z => z hprt)).trans (cI_t (by rw [hg1]; omega)))]; exact ⟨by decide, rfl⟩, hP.kept (fun k q h => hkk q.1 ((hP k q h).lt)), va_K.moved hal hK, hD⟩, Nat.le_trans hS.1 hsz9, fun q h1 h2 => (hkk q (Nat.lt_of_lt_of_le h1 hS.1)).trans (hS.2.1 q h1 h2)⟩
set_option maxHeartbeats 4000000 in
set_option maxRecDepth 100000 in
theorem c_X6_outputTorque (l : Launch) (hlf : l.stackTraces = false) (D : va_G) (K : Nat → ClassId) (ad q q1 q2 g r r2 : Nat → Nat) (v : CV) (i : CI) (y : Int32) (sz : Nat) (hI : IV v) (hJ : II v.1 i)  : vx_Met l yX6_outputTorque (.code yX6_outputTorque cX6_outputTorque 2 (some .long) :: TB) ({ frames := 7, cells := 1, slots := 6, locals := 150 } : Room) (va_Pc [.ref (ad 0), .int y] (cPT D K (WX K ad q q1 q2 g r r2 v i) sz)) (va_Ql (fun (z : Int64) (u : CV × CI) => u.1 = v ∧ II u.1.1 u.2 ∧ rs_outputTorque v.1 y = (0, z.toInt)) (fun (u : CV × CI) t => cB D K (va_A (WX K ad q q1 q2 g r r2 v i) sz) (WX K ad q q1 q2 g r r2 u.1 u.2) t) (va_A (WX K ad q q1 q2 g r r2 v i) sz)) (vx_X (fun (u : CV × CI) => u.1 = v ∧ II u.1.1 u.2) (fun E (u : CV × CI) t => exc [eIA, eIS] (rs_outputTorque v.1 y).1 E ∧ cB D K (va_A (WX K ad q q1 q2 g r r2 v i) sz) (WX K ad q q1 q2 g r r2 u.1 u.2) t) (va_A (WX K ad q q1 q2 g r r2 v i) sz)) 1 6 (va_A (WX K ad q q1 q2 g r r2 v i) sz) := by
  refine vx_ofW (cc := cX6_outputTorque) (maxL := 2) (ret := (some .long)) (by decide) rfl ?_
  intro p e s m args below meth c s₁ B hml hxt hv
  obtain ⟨rfl, ⟨hsz, hP, hK, hD0⟩, hTX⟩ := hv
  have hx := B.exec
  have hb := B.bytes
  have hr := B.returns
  have hts := hts_tl (atoms_spec (ws := (.code yX6_outputTorque cX6_outputTorque 2 (some .long) :: TB)) B.pre)
  have hown : s.vm.findClass RX6 = some m.cls := findClass_of_methodNamed B.named
  have hlocks := B.notSynchronized
  subst hsz
  have hD := hD0.self (sz := s.heap.size)
  generalize hAe : (va_A (WX K ad q q1 q2 g r r2 v i) s.heap.size) = A at hD hTX ⊢
  have hA : ∀ q : Nat, s.heap.size ≤ q → A q := fun q h => by rw [← hAe]; exact Or.inr h
  have hS : va_S A s.heap s.heap [] := va_S.rf
  clear hAe hD0
  obtain ⟨d, d1, d2, f1, f2, f, s0⟩ := v
  obtain ⟨M, pv, ip, sv, M2, pv2, ip2, sv2, ma, nu, de, ne, di, n, fr⟩ := i
  obtain ⟨hd, hd1, hd2, hf1, hf2, hs20, hhf⟩ := id hI
  obtain ⟨hn64, hfr, hT⟩ := id hJ
  dsimp only at hd hd1 hd2 hf1 hf2 hs20 hhf hn64 hfr hT
  obtain ⟨ns, m1, ge, hns, hm, hge, h0, h1, h2, hs9, he9⟩ := id hd
  have hm1 : dn d 8 1 = m1 := dn_of h1 (by omega)
  have hn1 : dn d 8 0 = ns := dn_of h0 (by omega)
  have hp6 : 2 ^ m1 ≤ 64 := Nat.pow_le_pow_right (show 0 < 2 by decide) hm
  have hg1 : dn d 8 2 = ge := dn_of h2 (by omega)
  have hP : va_P D vwCl ([(ad 0, .inr (6, [.ref (q 0), .ref (q1 0), .ref (q2 0), .int f1, .int f2, .ref (ad 1), .ref (ad 3), .ref (ad 8), .ref (g 0)]))] ++ (WG K g ma nu de ne di (nI n) fr ++ ([(ad 3, .inr (4, [.ref (ad 4)]))] ++ (WE K (ad 4) (ad 5) (ad 6) (ad 7) r M pv ip sv ++ (WD K q d ++ ([(ad 8, .inr (5, [.ref (ad 9)]))] ++ (WE K (ad 9) (ad 10) (ad 11) (ad 12) r2 M2 pv2 ip2 sv2 ++ (WH K (ad 1) (ad 2) f (nI s0) ++ (WD K q1 d1 ++ (WD K q2 d2)))))))))) s.heap := hP
  have hD : va_D A ([(ad 0, .inr (6, [.ref (q 0), .ref (q1 0), .ref (q2 0), .int f1, .int f2, .ref (ad 1), .ref (ad 3), .ref (ad 8), .ref (g 0)]))] ++ (WG K g ma nu de ne di (nI n) fr ++ ([(ad 3, .inr (4, [.ref (ad 4)]))] ++ (WE K (ad 4) (ad 5) (ad 6) (ad 7) r M pv ip sv ++ (WD K q d ++ ([(ad 8, .inr (5, [.ref (ad 9)]))] ++ (WE K (ad 9) (ad 10) (ad 11) (ad 12) r2 M2 pv2 ip2 sv2 ++ (WH K (ad 1) (ad 2) f (nI s0) ++ (WD K q1 d1 ++ (WD K q2 d2)))))))))) := hD
  have hl := lv_entry ([.ref (ad 0), .int y]) (n := 2) (Nat.le_of_ble_eq_true rfl)
  rw [lg_entry_eq]
  generalize (lg_sl ([.ref (ad 0), .int y]) ++ List.replicate (2 - (lg_sl ([.ref (ad 0), .int y])).length) Slot.unset).toArray = ls at hl ⊢
  have hl : lv_has ls 2 [(0, .ref (ad 0)), (1, .int y)] := hl
  refine lv_iload_n hx hb dX6_outputTorque_0 rfl (lv_at hl 1 rfl) ?_
  refine va_calli (va_runS (As := [.int y]) (rest := []) ⟨hx, hb, hml, hown, hts⟩ (c_X6_isPart l y ) (va_cwS 1 hts (TB_S k_m_X6_158 k_st_X6_isPart k_in_X6 k_co_X6_isPart (fun _ h => h)) rfl rfl rfl (by decide +kernel) ⟨Nat.le_of_ble_eq_true rfl, Nat.le_of_ble_eq_true rfl⟩) ⟨tP_blind, tP_of⟩ rfl rfl hl.1 rfl (lv_room (Nat.le_of_ble_eq_true rfl)) dX6_outputTorque_1 ⟨Nat.le_of_ble_eq_true rfl, Nat.le_of_ble_eq_true rfl⟩) hS (fun q _ h => absurd h id) (fun q h => absurd h id) (fun rs u9 t9 H locs ht9 hvm hw hB hz1 hk1 hS => ?_)
  have hP := P_same hP hk1
  by_cases hprt : prt y
  rotate_left
  · refine t_i (hw.trans (bI_f hprt).symm) ?_
    refine b_if_ne hx hb (nI_toIntI (by omega)) dX6_outputTorque_4 (tgt := 17) (by decide) (fun c4 => absurd c4 (by omega)) (fun c4 => ?_)
    refine thr_61 hx hb hlf hown hts hTX (is := 161) (text := "part is neither 0 nor 1") (by decide +kernel) hS (by rw [hml]; exact hl.1) dX6_outputTorque_7 dX6_outputTorque_10 dX6_outputTorque_11 dX6_outputTorque_13 dX6_outputTorque_16 hxt (Nat.le_of_ble_eq_true rfl) (Nat.le_of_ble_eq_true rfl) (Nat.le_of_ble_eq_true rfl) (Nat.le_of_ble_eq_true rfl) hlocks (Nat.le_of_ble_eq_true rfl) (Nat.le_of_ble_eq_true rfl) (fun t9 hal hsz9 hkk => ?_)
    exact ⟨((d, d1, d2, f1, f2, f, s0), (M, pv, ip, sv, M2, pv2, ip2, sv2, ma, nu, de, ne, di, n, fr)), ⟨rfl, hJ⟩, ⟨by rw [show rs_outputTorque d y = _ from (cI_t (hprt))]; exact ⟨by decide, rfl⟩, hP.kept (fun k q h => hkk q.1 ((hP k q h).lt)), va_K.moved hal hK, hD⟩, Nat.le_trans hS.1 hsz9, fun q h1 h2 => (hkk q (Nat.lt_of_lt_of_le h1 hS.1)).trans (hS.2.1 q h1 h2)⟩
  refine t_i (hw.trans (bI_t hprt).symm) ?_
  obtain ⟨kp, hkp, rfl⟩ := id hprt
  have hkpn : (nI kp).toInt.toNat = kp := by rw [nI_toIntI (by omega)]; omega
  refine b_if_ne hx hb (nI_toIntI (by omega)) dX6_outputTorque_4 (tgt := 17) (by decide) (fun c4 => ?_) (fun c4 => absurd c4 (by omega))
  refine lv_aload_n hx hb dX6_outputTorque_17 rfl (lv_at hl 0 rfl) ?_
  refine va_get (D := D) (ci := 6) (C := RX6) (T := TX6) (N := 9) hx hb hts iX6 hown hK hP 0 rfl rfl 7 (by decide) (hts _ k_f_X6_39) (fun _ h9 => h9) rfl dX6_outputTorque_18 ?_
  refine lv_aload_n hx hb dX6_outputTorque_21 rfl (lv_at hl 0 rfl) ?_
  refine va_get (D := D) (ci := 6) (C := RX6) (T := TX6) (N := 9) hx hb hts iX6 hown hK hP 0 rfl rfl 0 (by decide) (hts _ k_f_X6_12) (fun _ h9 => h9) rfl dX6_outputTorque_22 ?_
  refine lv_aload_n hx hb dX6_outputTorque_25 rfl (lv_at hl 0 rfl) ?_
  refine va_get (D := D) (ci := 6) (C := RX6) (T := TX6) (N := 9) hx hb hts iX6 hown hK hP 0 rfl rfl 0 (by decide) (hts _ k_f_X6_12) (fun _ h9 => h9) rfl dX6_outputTorque_26 ?_
  have hPq := P_perm pm_4 hP
  have hDq := D_perm pm_4 hD
  have hPc := bP0 hPq
  have hDc := bD0 hDq
  refine va_calli (va_runV (As := []) (rest := [.ref (q 0), .ref (ad 8)]) ⟨hx, hb, hml, hown, hts⟩ (c_X0_engagedMask l D K q d H.size ) (cwV 0 hts (TB_V k_m_X6_123 k_im_X0_engagedMask k_se_X0_engagedMask k_in_X0 k_co_X0_engagedMask (fun _ h => h)) rfl rfl rfl (by decide +kernel) ⟨Nat.le_of_ble_eq_true rfl, Nat.le_of_ble_eq_true rfl⟩) ⟨cP_blind, va_recv hK hPc (ci := 0) (q0 := 0) rfl rfl, cP_of hPc hK hDc⟩ rfl rfl hl.1 rfl (lv_room (Nat.le_of_ble_eq_true rfl)) dX6_outputTorque_29 ⟨Nat.le_of_ble_eq_true rfl, Nat.le_of_ble_eq_true rfl⟩) hS (fun q _ h => absurd h id) (fun q h => absurd h id) (fun em u9 t9 H locs ht9 hvm hw hB hz1 hk1 hS => ?_)
  have hP := P_same hP hk1
  refine t_i (hw.trans h2) ?_
  have hPq := P_perm pm_564 hP
  have hDq := D_perm pm_564 hD
  have hPc := bP0 hPq
  have hDc := bD0 hDq
  have hFc := bF0 hDq hS hA
  refine va_callv (va_runV (As := [.ref (q 0), .int (nI ge)]) (rest := []) ⟨hx, hb, hml, hown, hts⟩ (c_X5_solve l D K (ad 8) (ad 9) (ad 10) (ad 11) (ad 12) r2 M2 pv2 ip2 sv2 q d ge H.size hd (by omega)) (cwV 2 hts (TB_V k_m_X6_182 k_im_X5_solve k_se_X5_solve k_in_X5 k_co_X5_solve (fun _ h => h)) rfl rfl rfl (by decide +kernel) ⟨Nat.le_of_ble_eq_true rfl, Nat.le_of_ble_eq_true rfl⟩) ⟨cP_blind, va_recv hK hPc (ci := 5) (q0 := 0) rfl rfl, cP_of hPc hK hDc⟩ rfl rfl hl.1 rfl (lv_room (Nat.le_of_ble_eq_true rfl)) dX6_outputTorque_32 ⟨Nat.le_of_ble_eq_true rfl, Nat.le_of_ble_eq_true rfl⟩) hS (fun q _ h => hFc q h) hFc (fun Z t9 H locs ht9 hvm hw hB hz1 hk1 hS => ?_)
  obtain ⟨hP1, hK1, hD1⟩ := hB
  rw [ht9] at hP1
  obtain ⟨hPq1, hDq1⟩ := bJ0 hPq hDq hk1 hFc hP1 hD1
  have hP := P_perm (pm_564 (X0 := _)).symm hPq1
  have hD := D_perm (pm_564 (X0 := _)).symm hDq1
  have hP : va_P D vwCl ([(ad 0, .inr (6, [.ref (q 0), .ref (q1 0), .ref (q2 0), .int f1, .int f2, .ref (ad 1), .ref (ad 3), .ref (ad 8), .ref (g 0)]))] ++ (WG K g ma nu de ne di (nI n) fr ++ ([(ad 3, .inr (4, [.ref (ad 4)]))] ++ (WE K (ad 4) (ad 5) (ad 6) (ad 7) r M pv ip sv ++ (WD K q d ++ ([(ad 8, .inr (5, [.ref (ad 9)]))] ++ (WE K (ad 9) (ad 10) (ad 11) (ad 12) r2 Z.1 Z.2.1 Z.2.2.1 Z.2.2.2 ++ (WH K (ad 1) (ad 2) f (nI s0) ++ (WD K q1 d1 ++ (WD K q2 d2)))))))))) H := hP
  have hD : va_D A ([(ad 0, .inr (6, [.ref (q 0), .ref (q1 0), .ref (q2 0), .int f1, .int f2, .ref (ad 1), .ref (ad 3), .ref (ad 8), .ref (g 0)]))] ++ (WG K g ma nu de ne di (nI n) fr ++ ([(ad 3, .inr (4, [.ref (ad 4)]))] ++ (WE K (ad 4) (ad 5) (ad 6) (ad 7) r M pv ip sv ++ (WD K q d ++ ([(ad 8, .inr (5, [.ref (ad 9)]))] ++ (WE K (ad 9) (ad 10) (ad 11) (ad 12) r2 Z.1 Z.2.1 Z.2.2.1 Z.2.2.2 ++ (WH K (ad 1) (ad 2) f (nI s0) ++ (WD K q1 d1 ++ (WD K q2 d2)))))))))) := hD
  have hS2 := hw
  refine lv_aload_n hx hb dX6_outputTorque_35 rfl (lv_at hl 0 rfl) ?_
  refine va_get (D := D) (ci := 6) (C := RX6) (T := TX6) (N := 9) hx hb hts iX6 hown hK hP 0 rfl rfl 7 (by decide) (hts _ k_f_X6_39) (fun _ h9 => h9) rfl dX6_outputTorque_36 ?_
  have hPq := P_perm pm_56 hP
  have hDq := D_perm pm_56 hD
  have hPc := bP0 hPq
  have hDc := bD0 hDq
  refine va_calli (va_runV (As := []) (rest := []) ⟨hx, hb, hml, hown, hts⟩ (c_X5_isOutputDetermined l D K (ad 8) (ad 9) (ad 10) (ad 11) (ad 12) r2 Z.1 Z.2.1 Z.2.2.1 Z.2.2.2 (tqM d ge) H.size hS2) (cwV 0 hts (TB_V k_m_X6_183 k_im_X5_isOutputDetermined k_se_X5_isOutputDetermined k_in_X5 k_co_X5_isOutputDetermined (fun _ h => h)) rfl rfl rfl (by decide +kernel) ⟨Nat.le_of_ble_eq_true rfl, Nat.le_of_ble_eq_true rfl⟩) ⟨cP_blind, va_recv hK hPc (ci := 5) (q0 := 0) rfl rfl, cP_of hPc hK hDc⟩ rfl rfl hl.1 rfl (lv_room (Nat.le_of_ble_eq_true rfl)) dX6_outputTorque_39 ⟨Nat.le_of_ble_eq_true rfl, Nat.le_of_ble_eq_true rfl⟩) hS (fun q _ h => absurd h id) (fun q h => absurd h id) (fun rd u9 t9 H locs ht9 hvm hw hB hz1 hk1 hS => ?_)
  have hP := P_same hP hk1
  have hw : rd = bI (Solv (TQ d ge) ∧ DetS (TQ d ge) 0) := hw
  by_cases hdet : (Solv (TQ d ge) ∧ DetS (TQ d ge) 0)
  rotate_left
  · refine t_i (hw.trans (bI_f hdet).symm) ?_
    refine b_if_ne hx hb (nI_toIntI (by omega)) dX6_outputTorque_42 (tgt := 55) (by decide) (fun c42 => absurd c42 (by omega)) (fun c42 => ?_)
    refine thr_74 hx hb hlf hown hts hTX (is := 186) (text := "the torque is not determined") (by decide +kernel) hS (by rw [hml]; exact hl.1) dX6_outputTorque_45 dX6_outputTorque_48 dX6_outputTorque_49 dX6_outputTorque_51 dX6_outputTorque_54 hxt (Nat.le_of_ble_eq_true rfl) (Nat.le_of_ble_eq_true rfl) (Nat.le_of_ble_eq_true rfl) (Nat.le_of_ble_eq_true rfl) hlocks (Nat.le_of_ble_eq_true rfl) (Nat.le_of_ble_eq_true rfl) (fun t9 hal hsz9 hkk => ?_)
    exact ⟨((d, d1, d2, f1, f2, f, s0), (M, pv, ip, sv, Z.1, Z.2.1, Z.2.2.1, Z.2.2.2, ma, nu, de, ne, di, n, fr)), ⟨rfl, hJ⟩, ⟨by rw [show rs_outputTorque d (nI kp) = _ from ((cI_f (fun z => z hprt)).trans (cI_t (by rw [hg1]; exact hdet)))]; exact ⟨by decide, rfl⟩, hP.kept (fun k q h => hkk q.1 ((hP k q h).lt)), va_K.moved hal hK, hD⟩, Nat.le_trans hS.1 hsz9, fun q h1 h2 => (hkk q (Nat.lt_of_lt_of_le h1 hS.1)).trans (hS.2.1 q h1 h2)⟩
  refine t_i (hw.trans (bI_t hdet).symm) ?_
  refine b_if_ne hx hb (nI_toIntI (by omega)) dX6_outputTorque_42 (tgt := 55) (by decide) (fun c42 => ?_) (fun c42 => absurd c42 (by omega))
  refine lv_aload_n hx hb dX6_outputTorque_55 rfl (lv_at hl 0 rfl) ?_
  refine va_get (D := D) (ci := 6) (C := RX6) (T := TX6) (N := 9) hx hb hts iX6 hown hK hP 0 rfl rfl 7 (by decide) (hts _ k_f_X6_39) (fun _ h9 => h9) rfl dX6_outputTorque_56 ?_
  refine lv_iload_n hx hb dX6_outputTorque_59 rfl (lv_at hl 1 rfl) ?_
  have hPq := P_perm pm_56 hP
  have hDq := D_perm pm_56 hD
  have hPc := bP0 hPq
  have hDc := bD0 hDq
  refine va_calll (va_runV (As := [.int (nI kp)]) (rest := []) ⟨hx, hb, hml, hown, hts⟩ (c_X5_outputPart l D K (ad 8) (ad 9) (ad 10) (ad 11) (ad 12) r2 Z.1 Z.2.1 Z.2.2.1 Z.2.2.2 (tqM d ge) kp H.size hkp hS2 hdet.1 hdet.2) (cwV 1 hts (TB_V k_m_X6_188 k_im_X5_outputPart k_se_X5_outputPart k_in_X5 k_co_X5_outputPart (fun _ h => h)) rfl rfl rfl (by decide +kernel) ⟨Nat.le_of_ble_eq_true rfl, Nat.le_of_ble_eq_true rfl⟩) ⟨cP_blind, va_recv hK hPc (ci := 5) (q0 := 0) rfl rfl, cP_of hPc hK hDc⟩ rfl rfl hl.1 rfl (lv_room (Nat.le_of_ble_eq_true rfl)) dX6_outputTorque_60 ⟨Nat.le_of_ble_eq_true rfl, Nat.le_of_ble_eq_true rfl⟩) hS (fun q _ h => absurd h id) (fun q h => absurd h id) (fun rp u9 t9 H locs ht9 hvm hw hB hz1 hk1 hS => ?_)
  have hP := P_same hP hk1
  refine vx_ret ?_
  exact W.widen (k := 1) (n := 6) (Nat.le_of_ble_eq_true rfl) (Nat.le_of_ble_eq_true rfl) (W.lret (v := rp) hx hb hr (fun t9 ht9 hW => ⟨⟨rp, ((d, d1, d2, f1, f2, f, s0), (M, pv, ip, sv, Z.1, Z.2.1, Z.2.2.1, Z.2.2.2, ma, nu, de, ne, di, n, fr)), rfl, ⟨rfl, hJ, ((cI_f (fun z => z hprt)).trans ((cI_f (fun z => z (by rw [hg1]; exact hdet))).trans (r0 (by rw [hg1, hkpn]; exact hw.symm))))⟩, by rw [ht9]; exact hP, va_K.moved hW.alike hK, hD⟩, hS.F ht9⟩) hS.2.2 dX6_outputTorque_63)
set_option maxHeartbeats 4000000 in
set_option maxRecDepth 100000 in
theorem c_X6_torque (l : Launch) (hlf : l.stackTraces = false) (D : va_G) (K : Nat → ClassId) (ad q q1 q2 g r r2 : Nat → Nat) (v : CV) (i : CI) (x : Int32) (y : Int32) (sz : Nat) (hI : IV v) (hJ : II v.1 i)  : vx_Met l yX6_torque (.code yX6_torque cX6_torque 3 (some .long) :: TB) ({ frames := 7, cells := 1, slots := 6, locals := 150 } : Room) (va_Pc [.ref (ad 0), .int x, .int y] (cPT D K (WX K ad q q1 q2 g r r2 v i) sz)) (va_Ql (fun (z : Int64) (u : CV × CI) => u.1 = v ∧ II u.1.1 u.2 ∧ rs_torque v.1 x y = (0, z.toInt)) (fun (u : CV × CI) t => cB D K (va_A (WX K ad q q1 q2 g r r2 v i) sz) (WX K ad q q1 q2 g r r2 u.1 u.2) t) (va_A (WX K ad q q1 q2 g r r2 v i) sz)) (vx_X (fun (u : CV × CI) => u.1 = v ∧ II u.1.1 u.2) (fun E (u : CV × CI) t => exc [eIO, eIA, eIS] (rs_torque v.1 x y).1 E ∧ cB D K (va_A (WX K ad q q1 q2 g r r2 v i) sz) (WX K ad q q1 q2 g r r2 u.1 u.2) t) (va_A (WX K ad q q1 q2 g r r2 v i) sz)) 1 6 (va_A (WX K ad q q1 q2 g r r2 v i) sz) := by
  refine vx_ofW (cc := cX6_torque) (maxL := 3) (ret := (some .long)) (by decide) rfl ?_
  intro p e s m args below meth c s₁ B hml hxt hv
  obtain ⟨rfl, ⟨hsz, hP, hK, hD0⟩, hTX⟩ := hv
  have hx := B.exec
  have hb := B.bytes
  have hr := B.returns
  have hts := hts_tl (atoms_spec (ws := (.code yX6_torque cX6_torque 3 (some .long) :: TB)) B.pre)
  have hown : s.vm.findClass RX6 = some m.cls := findClass_of_methodNamed B.named
  have hlocks := B.notSynchronized
  subst hsz
  have hD := hD0.self (sz := s.heap.size)
  generalize hAe : (va_A (WX K ad q q1 q2 g r r2 v i) s.heap.size) = A at hD hTX ⊢
  have hA : ∀ q : Nat, s.heap.size ≤ q → A q := fun q h => by rw [← hAe]; exact Or.inr h
  have hS : va_S A s.heap s.heap [] := va_S.rf
  clear hAe hD0
  obtain ⟨d, d1, d2, f1, f2, f, s0⟩ := v
  obtain ⟨M, pv, ip, sv, M2, pv2, ip2, sv2, ma, nu, de, ne, di, n, fr⟩ := i
  obtain ⟨hd, hd1, hd2, hf1, hf2, hs20, hhf⟩ := id hI
  obtain ⟨hn64, hfr, hT⟩ := id hJ
  dsimp only at hd hd1 hd2 hf1 hf2 hs20 hhf hn64 hfr hT
  obtain ⟨ns, m1, ge, hns, hm, hge, h0, h1, h2, hs9, he9⟩ := id hd
  have hm1 : dn d 8 1 = m1 := dn_of h1 (by omega)
  have hn1 : dn d 8 0 = ns := dn_of h0 (by omega)
  have hp6 : 2 ^ m1 ≤ 64 := Nat.pow_le_pow_right (show 0 < 2 by decide) hm
  have hg1 : dn d 8 2 = ge := dn_of h2 (by omega)
  have hP : va_P D vwCl ([(ad 0, .inr (6, [.ref (q 0), .ref (q1 0), .ref (q2 0), .int f1, .int f2, .ref (ad 1), .ref (ad 3), .ref (ad 8), .ref (g 0)]))] ++ (WG K g ma nu de ne di (nI n) fr ++ ([(ad 3, .inr (4, [.ref (ad 4)]))] ++ (WE K (ad 4) (ad 5) (ad 6) (ad 7) r M pv ip sv ++ (WD K q d ++ ([(ad 8, .inr (5, [.ref (ad 9)]))] ++ (WE K (ad 9) (ad 10) (ad 11) (ad 12) r2 M2 pv2 ip2 sv2 ++ (WH K (ad 1) (ad 2) f (nI s0) ++ (WD K q1 d1 ++ (WD K q2 d2)))))))))) s.heap := hP
  have hD : va_D A ([(ad 0, .inr (6, [.ref (q 0), .ref (q1 0), .ref (q2 0), .int f1, .int f2, .ref (ad 1), .ref (ad 3), .ref (ad 8), .ref (g 0)]))] ++ (WG K g ma nu de ne di (nI n) fr ++ ([(ad 3, .inr (4, [.ref (ad 4)]))] ++ (WE K (ad 4) (ad 5) (ad 6) (ad 7) r M pv ip sv ++ (WD K q d ++ ([(ad 8, .inr (5, [.ref (ad 9)]))] ++ (WE K (ad 9) (ad 10) (ad 11) (ad 12) r2 M2 pv2 ip2 sv2 ++ (WH K (ad 1) (ad 2) f (nI s0) ++ (WD K q1 d1 ++ (WD K q2 d2)))))))))) := hD
  have hl := lv_entry ([.ref (ad 0), .int x, .int y]) (n := 3) (Nat.le_of_ble_eq_true rfl)
  rw [lg_entry_eq]
  generalize (lg_sl ([.ref (ad 0), .int x, .int y]) ++ List.replicate (3 - (lg_sl ([.ref (ad 0), .int x, .int y])).length) Slot.unset).toArray = ls at hl ⊢
  have hl : lv_has ls 3 [(0, .ref (ad 0)), (1, .int x), (2, .int y)] := hl
  refine lv_aload_n hx hb dX6_torque_0 rfl (lv_at hl 0 rfl) ?_
  refine va_get (D := D) (ci := 6) (C := RX6) (T := TX6) (N := 9) hx hb hts iX6 hown hK hP 0 rfl rfl 0 (by decide) (hts _ k_f_X6_12) (fun _ h9 => h9) rfl dX6_torque_1 ?_
  refine lv_iload_n hx hb dX6_torque_4 rfl (lv_at hl 1 rfl) ?_
  have hPq := P_perm pm_4 hP
  have hDq := D_perm pm_4 hD
  have hPc := bP0 hPq
  have hDc := bD0 hDq
  refine va_calli (va_runV (As := [.int x]) (rest := []) ⟨hx, hb, hml, hown, hts⟩ (c_X0_hasElement l D K q d m1 x s.heap.size hm h1) (cwV 1 hts (TB_V k_m_X6_99 k_im_X0_hasElement k_se_X0_hasElement k_in_X0 k_co_X0_hasElement (fun _ h => h)) rfl rfl rfl (by decide +kernel) ⟨Nat.le_of_ble_eq_true rfl, Nat.le_of_ble_eq_true rfl⟩) ⟨cP_blind, va_recv hK hPc (ci := 0) (q0 := 0) rfl rfl, cP_of hPc hK hDc⟩ rfl rfl hl.1 rfl (lv_room (Nat.le_of_ble_eq_true rfl)) dX6_torque_5 ⟨Nat.le_of_ble_eq_true rfl, Nat.le_of_ble_eq_true rfl⟩) hS (fun q _ h => absurd h id) (fun q h => absurd h id) (fun he u9 t9 H locs ht9 hvm hw hB hz1 hk1 hS => ?_)
  have hP := P_same hP hk1
  have hw := hw.trans (bI_iff (show _ ↔ elm d x by unfold elm; rw [hm1]))
  by_cases hel : elm d x
  rotate_left
  · refine t_i (hw.trans (bI_f hel).symm) ?_
    refine b_if_ne hx hb (nI_toIntI (by omega)) dX6_torque_8 (tgt := 21) (by decide) (fun c8 => absurd c8 (by omega)) (fun c8 => ?_)
    refine thr_54 hx hb hlf hown hts hTX (is := 102) (text := "there is no such element") (by decide +kernel) hS (by rw [hml]; exact hl.1) dX6_torque_11 dX6_torque_14 dX6_torque_15 dX6_torque_17 dX6_torque_20 hxt (Nat.le_of_ble_eq_true rfl) (Nat.le_of_ble_eq_true rfl) (Nat.le_of_ble_eq_true rfl) (Nat.le_of_ble_eq_true rfl) hlocks (Nat.le_of_ble_eq_true rfl) (Nat.le_of_ble_eq_true rfl) (fun t9 hal hsz9 hkk => ?_)
    exact ⟨((d, d1, d2, f1, f2, f, s0), (M, pv, ip, sv, M2, pv2, ip2, sv2, ma, nu, de, ne, di, n, fr)), ⟨rfl, hJ⟩, ⟨by rw [show rs_torque d x y = _ from (cI_t (hel))]; exact ⟨by decide, rfl⟩, hP.kept (fun k q h => hkk q.1 ((hP k q h).lt)), va_K.moved hal hK, hD⟩, Nat.le_trans hS.1 hsz9, fun q h1 h2 => (hkk q (Nat.lt_of_lt_of_le h1 hS.1)).trans (hS.2.1 q h1 h2)⟩
  refine t_i (hw.trans (bI_t hel).symm) ?_
  obtain ⟨ke, hke, rfl⟩ := id hel
  have hke2 := hke
  rw [hm1] at hke2
  have hkn : (nI ke).toInt.toNat = ke := by rw [nI_toIntI (by omega)]; omega
  refine b_if_ne hx hb (nI_toIntI (by omega)) dX6_torque_8 (tgt := 21) (by decide) (fun c8 => ?_) (fun c8 => absurd c8 (by omega))
  refine lv_iload_n hx hb dX6_torque_21 rfl (lv_at hl 2 rfl) ?_
  refine va_calli (va_runS (As := [.int y]) (rest := []) ⟨hx, hb, hml, hown, hts⟩ (c_X6_isPart l y ) (va_cwS 1 hts (TB_S k_m_X6_158 k_st_X6_isPart k_in_X6 k_co_X6_isPart (fun _ h => h)) rfl rfl rfl (by decide +kernel) ⟨Nat.le_of_ble_eq_true rfl, Nat.le_of_ble_eq_true rfl⟩) ⟨tP_blind, tP_of⟩ rfl rfl hl.1 rfl (lv_room (Nat.le_of_ble_eq_true rfl)) dX6_torque_22 ⟨Nat.le_of_ble_eq_true rfl, Nat.le_of_ble_eq_true rfl⟩) hS (fun q _ h => absurd h id) (fun q h => absurd h id) (fun rs u9 t9 H locs ht9 hvm hw hB hz1 hk1 hS => ?_)
  have hP := P_same hP hk1
  by_cases hprt : prt y
  rotate_left
  · refine t_i (hw.trans (bI_f hprt).symm) ?_
    refine b_if_ne hx hb (nI_toIntI (by omega)) dX6_torque_25 (tgt := 38) (by decide) (fun c25 => absurd c25 (by omega)) (fun c25 => ?_)
    refine thr_61 hx hb hlf hown hts hTX (is := 161) (text := "part is neither 0 nor 1") (by decide +kernel) hS (by rw [hml]; exact hl.1) dX6_torque_28 dX6_torque_31 dX6_torque_32 dX6_torque_34 dX6_torque_37 hxt (Nat.le_of_ble_eq_true rfl) (Nat.le_of_ble_eq_true rfl) (Nat.le_of_ble_eq_true rfl) (Nat.le_of_ble_eq_true rfl) hlocks (Nat.le_of_ble_eq_true rfl) (Nat.le_of_ble_eq_true rfl) (fun t9 hal hsz9 hkk => ?_)
    exact ⟨((d, d1, d2, f1, f2, f, s0), (M, pv, ip, sv, M2, pv2, ip2, sv2, ma, nu, de, ne, di, n, fr)), ⟨rfl, hJ⟩, ⟨by rw [show rs_torque d (nI ke) y = _ from ((cI_f (fun z => z hel)).trans (cI_t (hprt)))]; exact ⟨by decide, rfl⟩, hP.kept (fun k q h => hkk q.1 ((hP k q h).lt)), va_K.moved hal hK, hD⟩, Nat.le_trans hS.1 hsz9, fun q h1 h2 => (hkk q (Nat.lt_of_lt_of_le h1 hS.1)).trans (hS.2.1 q h1 h2)⟩
  refine t_i (hw.trans (bI_t hprt).symm) ?_
  obtain ⟨kp, hkp, rfl⟩ := id hprt
  have hkpn : (nI kp).toInt.toNat = kp := by rw [nI_toIntI (by omega)]; omega
  refine b_if_ne hx hb (nI_toIntI (by omega)) dX6_torque_25 (tgt := 38) (by decide) (fun c25 => ?_) (fun c25 => absurd c25 (by omega))
  refine lv_aload_n hx hb dX6_torque_38 rfl (lv_at hl 0 rfl) ?_
  refine va_get (D := D) (ci := 6) (C := RX6) (T := TX6) (N := 9) hx hb hts iX6 hown hK hP 0 rfl rfl 0 (by decide) (hts _ k_f_X6_12) (fun _ h9 => h9) rfl dX6_torque_39 ?_
  refine lv_iload_n hx hb dX6_torque_42 rfl (lv_at hl 1 rfl) ?_
  have hPq := P_perm pm_4 hP
  have hDq := D_perm pm_4 hD
  have hPc := bP0 hPq
  have hDc := bD0 hDq
  refine va_calli (va_runV (As := [.int (nI ke)]) (rest := []) ⟨hx, hb, hml, hown, hts⟩ (c_X0_isEngaged l D K q d m1 ge ke H.size hm h1 h2 (by omega) (by omega)) (cwV 1 hts (TB_V k_m_X6_145 k_im_X0_isEngaged k_se_X0_isEngaged k_in_X0 k_co_X0_isEngaged (fun _ h => h)) rfl rfl rfl (by decide +kernel) ⟨Nat.le_of_ble_eq_true rfl, Nat.le_of_ble_eq_true rfl⟩) ⟨cP_blind, va_recv hK hPc (ci := 0) (q0 := 0) rfl rfl, cP_of hPc hK hDc⟩ rfl rfl hl.1 rfl (lv_room (Nat.le_of_ble_eq_true rfl)) dX6_torque_43 ⟨Nat.le_of_ble_eq_true rfl, Nat.le_of_ble_eq_true rfl⟩) hS (fun q _ h => absurd h id) (fun q h => absurd h id) (fun ise u9 t9 H locs ht9 hvm hw hB hz1 hk1 hS => ?_)
  have hP := P_same hP hk1
  by_cases hen : ke < m1 ∧ ge.testBit ke = true
  rotate_left
  · refine t_i (hw.trans (bI_f hen).symm) ?_
    refine b_if_ne hx hb (nI_toIntI (by omega)) dX6_torque_46 (tgt := 59) (by decide) (fun c46 => absurd c46 (by omega)) (fun c46 => ?_)
    refine thr_74 hx hb hlf hown hts hTX (is := 191) (text := "the element is not engaged") (by decide +kernel) hS (by rw [hml]; exact hl.1) dX6_torque_49 dX6_torque_52 dX6_torque_53 dX6_torque_55 dX6_torque_58 hxt (Nat.le_of_ble_eq_true rfl) (Nat.le_of_ble_eq_true rfl) (Nat.le_of_ble_eq_true rfl) (Nat.le_of_ble_eq_true rfl) hlocks (Nat.le_of_ble_eq_true rfl) (Nat.le_of_ble_eq_true rfl) (fun t9 hal hsz9 hkk => ?_)
    exact ⟨((d, d1, d2, f1, f2, f, s0), (M, pv, ip, sv, M2, pv2, ip2, sv2, ma, nu, de, ne, di, n, fr)), ⟨rfl, hJ⟩, ⟨by rw [show rs_torque d (nI ke) (nI kp) = _ from ((cI_f (fun z => z hel)).trans ((cI_f (fun z => z hprt)).trans (cI_t (fun z => hen ⟨hke2, by rw [hg1, hkn] at z; exact z⟩))))]; exact ⟨by decide, rfl⟩, hP.kept (fun k q h => hkk q.1 ((hP k q h).lt)), va_K.moved hal hK, hD⟩, Nat.le_trans hS.1 hsz9, fun q h1 h2 => (hkk q (Nat.lt_of_lt_of_le h1 hS.1)).trans (hS.2.1 q h1 h2)⟩
  refine t_i (hw.trans (bI_t hen).symm) ?_
  refine b_if_ne hx hb (nI_toIntI (by omega)) dX6_torque_46 (tgt := 59) (by decide) (fun c46 => ?_) (fun c46 => absurd c46 (by omega))
  refine lv_aload_n hx hb dX6_torque_59 rfl (lv_at hl 0 rfl) ?_
  refine va_get (D := D) (ci := 6) (C := RX6) (T := TX6) (N := 9) hx hb hts iX6 hown hK hP 0 rfl rfl 7 (by decide) (hts _ k_f_X6_39) (fun _ h9 => h9) rfl dX6_torque_60 ?_
  refine lv_aload_n hx hb dX6_torque_63 rfl (lv_at hl 0 rfl) ?_
  refine va_get (D := D) (ci := 6) (C := RX6) (T := TX6) (N := 9) hx hb hts iX6 hown hK hP 0 rfl rfl 0 (by decide) (hts _ k_f_X6_12) (fun _ h9 => h9) rfl dX6_torque_64 ?_
  refine lv_aload_n hx hb dX6_torque_67 rfl (lv_at hl 0 rfl) ?_
  refine va_get (D := D) (ci := 6) (C := RX6) (T := TX6) (N := 9) hx hb hts iX6 hown hK hP 0 rfl rfl 0 (by decide) (hts _ k_f_X6_12) (fun _ h9 => h9) rfl dX6_torque_68 ?_
  have hPq := P_perm pm_4 hP
  have hDq := D_perm pm_4 hD
  have hPc := bP0 hPq
  have hDc := bD0 hDq
  refine va_calli (va_runV (As := []) (rest := [.ref (q 0), .ref (ad 8)]) ⟨hx, hb, hml, hown, hts⟩ (c_X0_engagedMask l D K q d H.size ) (cwV 0 hts (TB_V k_m_X6_123 k_im_X0_engagedMask k_se_X0_engagedMask k_in_X0 k_co_X0_engagedMask (fun _ h => h)) rfl rfl rfl (by decide +kernel) ⟨Nat.le_of_ble_eq_true rfl, Nat.le_of_ble_eq_true rfl⟩) ⟨cP_blind, va_recv hK hPc (ci := 0) (q0 := 0) rfl rfl, cP_of hPc hK hDc⟩ rfl rfl hl.1 rfl (lv_room (Nat.le_of_ble_eq_true rfl)) dX6_torque_71 ⟨Nat.le_of_ble_eq_true rfl, Nat.le_of_ble_eq_true rfl⟩) hS (fun q _ h => absurd h id) (fun q h => absurd h id) (fun em u9 t9 H locs ht9 hvm hw hB hz1 hk1 hS => ?_)
  have hP := P_same hP hk1
  refine t_i (hw.trans h2) ?_
  have hPq := P_perm pm_564 hP
  have hDq := D_perm pm_564 hD
  have hPc := bP0 hPq
  have hDc := bD0 hDq
  have hFc := bF0 hDq hS hA
  refine va_callv (va_runV (As := [.ref (q 0), .int (nI ge)]) (rest := []) ⟨hx, hb, hml, hown, hts⟩ (c_X5_solve l D K (ad 8) (ad 9) (ad 10) (ad 11) (ad 12) r2 M2 pv2 ip2 sv2 q d ge H.size hd (by omega)) (cwV 2 hts (TB_V k_m_X6_182 k_im_X5_solve k_se_X5_solve k_in_X5 k_co_X5_solve (fun _ h => h)) rfl rfl rfl (by decide +kernel) ⟨Nat.le_of_ble_eq_true rfl, Nat.le_of_ble_eq_true rfl⟩) ⟨cP_blind, va_recv hK hPc (ci := 5) (q0 := 0) rfl rfl, cP_of hPc hK hDc⟩ rfl rfl hl.1 rfl (lv_room (Nat.le_of_ble_eq_true rfl)) dX6_torque_74 ⟨Nat.le_of_ble_eq_true rfl, Nat.le_of_ble_eq_true rfl⟩) hS (fun q _ h => hFc q h) hFc (fun Z t9 H locs ht9 hvm hw hB hz1 hk1 hS => ?_)
  obtain ⟨hP1, hK1, hD1⟩ := hB
  rw [ht9] at hP1
  obtain ⟨hPq1, hDq1⟩ := bJ0 hPq hDq hk1 hFc hP1 hD1
  have hP := P_perm (pm_564 (X0 := _)).symm hPq1
  have hD := D_perm (pm_564 (X0 := _)).symm hDq1
  have hP : va_P D vwCl ([(ad 0, .inr (6, [.ref (q 0), .ref (q1 0), .ref (q2 0), .int f1, .int f2, .ref (ad 1), .ref (ad 3), .ref (ad 8), .ref (g 0)]))] ++ (WG K g ma nu de ne di (nI n) fr ++ ([(ad 3, .inr (4, [.ref (ad 4)]))] ++ (WE K (ad 4) (ad 5) (ad 6) (ad 7) r M pv ip sv ++ (WD K q d ++ ([(ad 8, .inr (5, [.ref (ad 9)]))] ++ (WE K (ad 9) (ad 10) (ad 11) (ad 12) r2 Z.1 Z.2.1 Z.2.2.1 Z.2.2.2 ++ (WH K (ad 1) (ad 2) f (nI s0) ++ (WD K q1 d1 ++ (WD K q2 d2)))))))))) H := hP
  have hD : va_D A ([(ad 0, .inr (6, [.ref (q 0), .ref (q1 0), .ref (q2 0), .int f1, .int f2, .ref (ad 1), .ref (ad 3), .ref (ad 8), .ref (g 0)]))] ++ (WG K g ma nu de ne di (nI n) fr ++ ([(ad 3, .inr (4, [.ref (ad 4)]))] ++ (WE K (ad 4) (ad 5) (ad 6) (ad 7) r M pv ip sv ++ (WD K q d ++ ([(ad 8, .inr (5, [.ref (ad 9)]))] ++ (WE K (ad 9) (ad 10) (ad 11) (ad 12) r2 Z.1 Z.2.1 Z.2.2.1 Z.2.2.2 ++ (WH K (ad 1) (ad 2) f (nI s0) ++ (WD K q1 d1 ++ (WD K q2 d2)))))))))) := hD
  have hS2 := hw
  refine lv_aload_n hx hb dX6_torque_77 rfl (lv_at hl 0 rfl) ?_
  refine va_get (D := D) (ci := 6) (C := RX6) (T := TX6) (N := 9) hx hb hts iX6 hown hK hP 0 rfl rfl 7 (by decide) (hts _ k_f_X6_39) (fun _ h9 => h9) rfl dX6_torque_78 ?_
  refine lv_iload_n hx hb dX6_torque_81 rfl (lv_at hl 1 rfl) ?_
  have hPq := P_perm pm_56 hP
  have hDq := D_perm pm_56 hD
  have hPc := bP0 hPq
  have hDc := bD0 hDq
  refine va_calli (va_runV (As := [.int (nI ke)]) (rest := []) ⟨hx, hb, hml, hown, hts⟩ (c_X5_isDetermined l D K (ad 8) (ad 9) (ad 10) (ad 11) (ad 12) r2 Z.1 Z.2.1 Z.2.2.1 Z.2.2.2 (tqM d ge) ke H.size (by omega) hS2) (cwV 1 hts (TB_V k_m_X6_193 k_im_X5_isDetermined k_se_X5_isDetermined k_in_X5 k_co_X5_isDetermined (fun _ h => h)) rfl rfl rfl (by decide +kernel) ⟨Nat.le_of_ble_eq_true rfl, Nat.le_of_ble_eq_true rfl⟩) ⟨cP_blind, va_recv hK hPc (ci := 5) (q0 := 0) rfl rfl, cP_of hPc hK hDc⟩ rfl rfl hl.1 rfl (lv_room (Nat.le_of_ble_eq_true rfl)) dX6_torque_82 ⟨Nat.le_of_ble_eq_true rfl, Nat.le_of_ble_eq_true rfl⟩) hS (fun q _ h => absurd h id) (fun q h => absurd h id) (fun rd u9 t9 H locs ht9 hvm hw hB hz1 hk1 hS => ?_)
  have hP := P_same hP hk1
  have hw : rd = bI (Solv (TQ d ge) ∧ DetS (TQ d ge) (4 + ke)) := hw
  by_cases hdet : (Solv (TQ d ge) ∧ DetS (TQ d ge) (4 + ke))
  rotate_left
  · refine t_i (hw.trans (bI_f hdet).symm) ?_
    refine b_if_ne hx hb (nI_toIntI (by omega)) dX6_torque_85 (tgt := 98) (by decide) (fun c85 => absurd c85 (by omega)) (fun c85 => ?_)
    refine thr_74 hx hb hlf hown hts hTX (is := 186) (text := "the torque is not determined") (by decide +kernel) hS (by rw [hml]; exact hl.1) dX6_torque_88 dX6_torque_91 dX6_torque_92 dX6_torque_94 dX6_torque_97 hxt (Nat.le_of_ble_eq_true rfl) (Nat.le_of_ble_eq_true rfl) (Nat.le_of_ble_eq_true rfl) (Nat.le_of_ble_eq_true rfl) hlocks (Nat.le_of_ble_eq_true rfl) (Nat.le_of_ble_eq_true rfl) (fun t9 hal hsz9 hkk => ?_)
    exact ⟨((d, d1, d2, f1, f2, f, s0), (M, pv, ip, sv, Z.1, Z.2.1, Z.2.2.1, Z.2.2.2, ma, nu, de, ne, di, n, fr)), ⟨rfl, hJ⟩, ⟨by rw [show rs_torque d (nI ke) (nI kp) = _ from ((cI_f (fun z => z hel)).trans ((cI_f (fun z => z hprt)).trans ((cI_f (fun z => z (by rw [hg1, hkn]; exact hen.2))).trans (cI_t (by rw [hg1, hkn]; exact hdet)))))]; exact ⟨by decide, rfl⟩, hP.kept (fun k q h => hkk q.1 ((hP k q h).lt)), va_K.moved hal hK, hD⟩, Nat.le_trans hS.1 hsz9, fun q h1 h2 => (hkk q (Nat.lt_of_lt_of_le h1 hS.1)).trans (hS.2.1 q h1 h2)⟩
  refine t_i (hw.trans (bI_t hdet).symm) ?_
  refine b_if_ne hx hb (nI_toIntI (by omega)) dX6_torque_85 (tgt := 98) (by decide) (fun c85 => ?_) (fun c85 => absurd c85 (by omega))
  refine lv_aload_n hx hb dX6_torque_98 rfl (lv_at hl 0 rfl) ?_
  refine va_get (D := D) (ci := 6) (C := RX6) (T := TX6) (N := 9) hx hb hts iX6 hown hK hP 0 rfl rfl 7 (by decide) (hts _ k_f_X6_39) (fun _ h9 => h9) rfl dX6_torque_99 ?_
  refine lv_iload_n hx hb dX6_torque_102 rfl (lv_at hl 1 rfl) ?_
  refine lv_iload_n hx hb dX6_torque_103 rfl (lv_at hl 2 rfl) ?_
  have hPq := P_perm pm_56 hP
  have hDq := D_perm pm_56 hD
  have hPc := bP0 hPq
  have hDc := bD0 hDq
  refine va_calll (va_runV (As := [.int (nI ke), .int (nI kp)]) (rest := []) ⟨hx, hb, hml, hown, hts⟩ (c_X5_elementPart l D K (ad 8) (ad 9) (ad 10) (ad 11) (ad 12) r2 Z.1 Z.2.1 Z.2.2.1 Z.2.2.2 (tqM d ge) ke kp H.size (by omega) hkp hS2 hdet.1 hdet.2) (cwV 2 hts (TB_V k_m_X6_194 k_im_X5_elementPart k_se_X5_elementPart k_in_X5 k_co_X5_elementPart (fun _ h => h)) rfl rfl rfl (by decide +kernel) ⟨Nat.le_of_ble_eq_true rfl, Nat.le_of_ble_eq_true rfl⟩) ⟨cP_blind, va_recv hK hPc (ci := 5) (q0 := 0) rfl rfl, cP_of hPc hK hDc⟩ rfl rfl hl.1 rfl (lv_room (Nat.le_of_ble_eq_true rfl)) dX6_torque_104 ⟨Nat.le_of_ble_eq_true rfl, Nat.le_of_ble_eq_true rfl⟩) hS (fun q _ h => absurd h id) (fun q h => absurd h id) (fun rp u9 t9 H locs ht9 hvm hw hB hz1 hk1 hS => ?_)
  have hP := P_same hP hk1
  refine vx_ret ?_
  exact W.widen (k := 1) (n := 6) (Nat.le_of_ble_eq_true rfl) (Nat.le_of_ble_eq_true rfl) (W.lret (v := rp) hx hb hr (fun t9 ht9 hW => ⟨⟨rp, ((d, d1, d2, f1, f2, f, s0), (M, pv, ip, sv, Z.1, Z.2.1, Z.2.2.1, Z.2.2.2, ma, nu, de, ne, di, n, fr)), rfl, ⟨rfl, hJ, ((cI_f (fun z => z hel)).trans ((cI_f (fun z => z hprt)).trans ((cI_f (fun z => z (by rw [hg1, hkn]; exact hen.2))).trans ((cI_f (fun z => z (by rw [hg1, hkn]; exact hdet))).trans (r0 (by rw [hg1, hkn, hkpn]; exact hw.symm))))))⟩, by rw [ht9]; exact hP, va_K.moved hW.alike hK, hD⟩, hS.F ht9⟩) hS.2.2 dX6_torque_107)
set_option maxHeartbeats 4000000 in
set_option maxRecDepth 100000 in
theorem c_X6_slipping (l : Launch) (hlf : l.stackTraces = false) (D : va_G) (K : Nat → ClassId) (ad q q1 q2 g r r2 : Nat → Nat) (v : CV) (i : CI) (x : Int32) (sz : Nat) (hI : IV v) (hJ : II v.1 i)  : vx_Met l yX6_slipping (.code yX6_slipping cX6_slipping 4 (some .int) :: TB) ({ frames := 7, cells := 1, slots := 6, locals := 150 } : Room) (va_Pc [.ref (ad 0), .int x] (cPT D K (WX K ad q q1 q2 g r r2 v i) sz)) (va_Qi (fun (z : Int32) (u : CV × CI) => u.1 = v ∧ II u.1.1 u.2 ∧ rs_slipping v.1 x = (0, z.toInt)) (fun (u : CV × CI) t => cB D K (va_A (WX K ad q q1 q2 g r r2 v i) sz) (WX K ad q q1 q2 g r r2 u.1 u.2) t) (va_A (WX K ad q q1 q2 g r r2 v i) sz)) (vx_X (fun (u : CV × CI) => u.1 = v ∧ II u.1.1 u.2) (fun E (u : CV × CI) t => exc [eIA] (rs_slipping v.1 x).1 E ∧ cB D K (va_A (WX K ad q q1 q2 g r r2 v i) sz) (WX K ad q q1 q2 g r r2 u.1 u.2) t) (va_A (WX K ad q q1 q2 g r r2 v i) sz)) 1 6 (va_A (WX K ad q q1 q2 g r r2 v i) sz) := by
  refine vx_ofW (cc := cX6_slipping) (maxL := 4) (ret := (some .int)) (by decide) rfl ?_
  intro p e s m args below meth c s₁ B hml hxt hv
  obtain ⟨rfl, ⟨hsz, hP, hK, hD0⟩, hTX⟩ := hv
  have hx := B.exec
  have hb := B.bytes
  have hr := B.returns
  have hts := hts_tl (atoms_spec (ws := (.code yX6_slipping cX6_slipping 4 (some .int) :: TB)) B.pre)
  have hown : s.vm.findClass RX6 = some m.cls := findClass_of_methodNamed B.named
  have hlocks := B.notSynchronized
  subst hsz
  have hD := hD0.self (sz := s.heap.size)
  generalize hAe : (va_A (WX K ad q q1 q2 g r r2 v i) s.heap.size) = A at hD hTX ⊢
  have hA : ∀ q : Nat, s.heap.size ≤ q → A q := fun q h => by rw [← hAe]; exact Or.inr h
  have hS : va_S A s.heap s.heap [] := va_S.rf
  clear hAe hD0
  obtain ⟨d, d1, d2, f1, f2, f, s0⟩ := v
  obtain ⟨M, pv, ip, sv, M2, pv2, ip2, sv2, ma, nu, de, ne, di, n, fr⟩ := i
  obtain ⟨hd, hd1, hd2, hf1, hf2, hs20, hhf⟩ := id hI
  obtain ⟨hn64, hfr, hT⟩ := id hJ
  dsimp only at hd hd1 hd2 hf1 hf2 hs20 hhf hn64 hfr hT
  obtain ⟨ns, m1, ge, hns, hm, hge, h0, h1, h2, hs9, he9⟩ := id hd
  have hm1 : dn d 8 1 = m1 := dn_of h1 (by omega)
  have hn1 : dn d 8 0 = ns := dn_of h0 (by omega)
  have hp6 : 2 ^ m1 ≤ 64 := Nat.pow_le_pow_right (show 0 < 2 by decide) hm
  have hg1 : dn d 8 2 = ge := dn_of h2 (by omega)
  have hP : va_P D vwCl ([(ad 0, .inr (6, [.ref (q 0), .ref (q1 0), .ref (q2 0), .int f1, .int f2, .ref (ad 1), .ref (ad 3), .ref (ad 8), .ref (g 0)]))] ++ (WG K g ma nu de ne di (nI n) fr ++ ([(ad 3, .inr (4, [.ref (ad 4)]))] ++ (WE K (ad 4) (ad 5) (ad 6) (ad 7) r M pv ip sv ++ (WD K q d ++ ([(ad 8, .inr (5, [.ref (ad 9)]))] ++ (WE K (ad 9) (ad 10) (ad 11) (ad 12) r2 M2 pv2 ip2 sv2 ++ (WH K (ad 1) (ad 2) f (nI s0) ++ (WD K q1 d1 ++ (WD K q2 d2)))))))))) s.heap := hP
  have hD : va_D A ([(ad 0, .inr (6, [.ref (q 0), .ref (q1 0), .ref (q2 0), .int f1, .int f2, .ref (ad 1), .ref (ad 3), .ref (ad 8), .ref (g 0)]))] ++ (WG K g ma nu de ne di (nI n) fr ++ ([(ad 3, .inr (4, [.ref (ad 4)]))] ++ (WE K (ad 4) (ad 5) (ad 6) (ad 7) r M pv ip sv ++ (WD K q d ++ ([(ad 8, .inr (5, [.ref (ad 9)]))] ++ (WE K (ad 9) (ad 10) (ad 11) (ad 12) r2 M2 pv2 ip2 sv2 ++ (WH K (ad 1) (ad 2) f (nI s0) ++ (WD K q1 d1 ++ (WD K q2 d2)))))))))) := hD
  have hl := lv_entry ([.ref (ad 0), .int x]) (n := 4) (Nat.le_of_ble_eq_true rfl)
  rw [lg_entry_eq]
  generalize (lg_sl ([.ref (ad 0), .int x]) ++ List.replicate (4 - (lg_sl ([.ref (ad 0), .int x])).length) Slot.unset).toArray = ls at hl ⊢
  have hl : lv_has ls 4 [(0, .ref (ad 0)), (1, .int x)] := hl
  refine lv_iload_n hx hb dX6_slipping_0 rfl (lv_at hl 1 rfl) ?_
  refine lv_iconst (v := nI 1) hx hb dX6_slipping_1 (by decide) ?_
  refine b_icmp_lt hx hb rfl (nI_toIntI (by omega)) dX6_slipping_2 (tgt := 12) (by decide) (fun c2 => ?_) (fun c2 => ?_)
  · refine thr_61 hx hb hlf hown hts hTX (is := 197) (text := "the input torque is out of range") (by decide +kernel) hS (by rw [hml]; exact hl.1) dX6_slipping_12 dX6_slipping_15 dX6_slipping_16 dX6_slipping_18 dX6_slipping_21 hxt (Nat.le_of_ble_eq_true rfl) (Nat.le_of_ble_eq_true rfl) (Nat.le_of_ble_eq_true rfl) (Nat.le_of_ble_eq_true rfl) hlocks (Nat.le_of_ble_eq_true rfl) (Nat.le_of_ble_eq_true rfl) (fun t9 hal hsz9 hkk => ?_)
    exact ⟨((d, d1, d2, f1, f2, f, s0), (M, pv, ip, sv, M2, pv2, ip2, sv2, ma, nu, de, ne, di, n, fr)), ⟨rfl, hJ⟩, ⟨by rw [show rs_slipping d x = _ from (cI_t (by omega))]; exact ⟨by decide, rfl⟩, hP.kept (fun k q h => hkk q.1 ((hP k q h).lt)), va_K.moved hal hK, hD⟩, Nat.le_trans hS.1 hsz9, fun q h1 h2 => (hkk q (Nat.lt_of_lt_of_le h1 hS.1)).trans (hS.2.1 q h1 h2)⟩
  refine lv_iload_n hx hb dX6_slipping_5 rfl (lv_at hl 1 rfl) ?_
  refine lv_sipush (v := nI 10000) hx hb dX6_slipping_6 (by decide) ?_
  refine b_icmp_le hx hb rfl (nI_toIntI (by omega)) dX6_slipping_9 (tgt := 22) (by decide) (fun c9 => ?_) (fun c9 => ?_)
  · refine lv_aload_n hx hb dX6_slipping_22 rfl (lv_at hl 0 rfl) ?_
    refine va_get (D := D) (ci := 6) (C := RX6) (T := TX6) (N := 9) hx hb hts iX6 hown hK hP 0 rfl rfl 7 (by decide) (hts _ k_f_X6_39) (fun _ h9 => h9) rfl dX6_slipping_23 ?_
    refine lv_aload_n hx hb dX6_slipping_26 rfl (lv_at hl 0 rfl) ?_
    refine va_get (D := D) (ci := 6) (C := RX6) (T := TX6) (N := 9) hx hb hts iX6 hown hK hP 0 rfl rfl 0 (by decide) (hts _ k_f_X6_12) (fun _ h9 => h9) rfl dX6_slipping_27 ?_
    refine lv_aload_n hx hb dX6_slipping_30 rfl (lv_at hl 0 rfl) ?_
    refine va_get (D := D) (ci := 6) (C := RX6) (T := TX6) (N := 9) hx hb hts iX6 hown hK hP 0 rfl rfl 0 (by decide) (hts _ k_f_X6_12) (fun _ h9 => h9) rfl dX6_slipping_31 ?_
    have hPq := P_perm pm_4 hP
    have hDq := D_perm pm_4 hD
    have hPc := bP0 hPq
    have hDc := bD0 hDq
    refine va_calli (va_runV (As := []) (rest := [.ref (q 0), .ref (ad 8)]) ⟨hx, hb, hml, hown, hts⟩ (c_X0_engagedMask l D K q d s.heap.size ) (cwV 0 hts (TB_V k_m_X6_123 k_im_X0_engagedMask k_se_X0_engagedMask k_in_X0 k_co_X0_engagedMask (fun _ h => h)) rfl rfl rfl (by decide +kernel) ⟨Nat.le_of_ble_eq_true rfl, Nat.le_of_ble_eq_true rfl⟩) ⟨cP_blind, va_recv hK hPc (ci := 0) (q0 := 0) rfl rfl, cP_of hPc hK hDc⟩ rfl rfl hl.1 rfl (lv_room (Nat.le_of_ble_eq_true rfl)) dX6_slipping_34 ⟨Nat.le_of_ble_eq_true rfl, Nat.le_of_ble_eq_true rfl⟩) hS (fun q _ h => absurd h id) (fun q h => absurd h id) (fun em u9 t9 H locs ht9 hvm hw hB hz1 hk1 hS => ?_)
    have hP := P_same hP hk1
    refine t_i (hw.trans h2) ?_
    have hPq := P_perm pm_564 hP
    have hDq := D_perm pm_564 hD
    have hPc := bP0 hPq
    have hDc := bD0 hDq
    have hFc := bF0 hDq hS hA
    refine va_callv (va_runV (As := [.ref (q 0), .int (nI ge)]) (rest := []) ⟨hx, hb, hml, hown, hts⟩ (c_X5_solve l D K (ad 8) (ad 9) (ad 10) (ad 11) (ad 12) r2 M2 pv2 ip2 sv2 q d ge H.size hd (by omega)) (cwV 2 hts (TB_V k_m_X6_182 k_im_X5_solve k_se_X5_solve k_in_X5 k_co_X5_solve (fun _ h => h)) rfl rfl rfl (by decide +kernel) ⟨Nat.le_of_ble_eq_true rfl, Nat.le_of_ble_eq_true rfl⟩) ⟨cP_blind, va_recv hK hPc (ci := 5) (q0 := 0) rfl rfl, cP_of hPc hK hDc⟩ rfl rfl hl.1 rfl (lv_room (Nat.le_of_ble_eq_true rfl)) dX6_slipping_37 ⟨Nat.le_of_ble_eq_true rfl, Nat.le_of_ble_eq_true rfl⟩) hS (fun q _ h => hFc q h) hFc (fun Z t9 H locs ht9 hvm hw hB hz1 hk1 hS => ?_)
    obtain ⟨hP1, hK1, hD1⟩ := hB
    rw [ht9] at hP1
    obtain ⟨hPq1, hDq1⟩ := bJ0 hPq hDq hk1 hFc hP1 hD1
    have hP := P_perm (pm_564 (X0 := _)).symm hPq1
    have hD := D_perm (pm_564 (X0 := _)).symm hDq1
    have hP : va_P D vwCl ([(ad 0, .inr (6, [.ref (q 0), .ref (q1 0), .ref (q2 0), .int f1, .int f2, .ref (ad 1), .ref (ad 3), .ref (ad 8), .ref (g 0)]))] ++ (WG K g ma nu de ne di (nI n) fr ++ ([(ad 3, .inr (4, [.ref (ad 4)]))] ++ (WE K (ad 4) (ad 5) (ad 6) (ad 7) r M pv ip sv ++ (WD K q d ++ ([(ad 8, .inr (5, [.ref (ad 9)]))] ++ (WE K (ad 9) (ad 10) (ad 11) (ad 12) r2 Z.1 Z.2.1 Z.2.2.1 Z.2.2.2 ++ (WH K (ad 1) (ad 2) f (nI s0) ++ (WD K q1 d1 ++ (WD K q2 d2)))))))))) H := hP
    have hD : va_D A ([(ad 0, .inr (6, [.ref (q 0), .ref (q1 0), .ref (q2 0), .int f1, .int f2, .ref (ad 1), .ref (ad 3), .ref (ad 8), .ref (g 0)]))] ++ (WG K g ma nu de ne di (nI n) fr ++ ([(ad 3, .inr (4, [.ref (ad 4)]))] ++ (WE K (ad 4) (ad 5) (ad 6) (ad 7) r M pv ip sv ++ (WD K q d ++ ([(ad 8, .inr (5, [.ref (ad 9)]))] ++ (WE K (ad 9) (ad 10) (ad 11) (ad 12) r2 Z.1 Z.2.1 Z.2.2.1 Z.2.2.2 ++ (WH K (ad 1) (ad 2) f (nI s0) ++ (WD K q1 d1 ++ (WD K q2 d2)))))))))) := hD
    have hS2 := hw
    refine lv_iconst (v := nI 0) hx hb dX6_slipping_40 (by decide) ?_
    refine lv_istore_n (lv' := [(2, .int (nI 0)), (0, .ref (ad 0)), (1, .int x)]) hx hb dX6_slipping_41 rfl hl (by decide) rfl (fun ls hl => ?_)
    refine lv_iconst (v := nI 0) hx hb dX6_slipping_42 (by decide) ?_
    refine lv_istore_n (lv' := [(3, .int (nI 0)), (2, .int (nI 0)), (0, .ref (ad 0)), (1, .int x)]) hx hb dX6_slipping_43 rfl hl (by decide) rfl (fun ls hl => ?_)
    have hl : lv_has ls 4 [(3, .int (nI 0)), (2, .int (nI (slp d x.toInt 0))), (0, .ref (ad 0)), (1, .int x)] := hl
    have L44 : ∀ (fuel : Nat) (k : Nat) (H : Heap) (locs : List Loc) (ls : Array Slot), 6 - k < fuel → (k ≤ 6) → va_P D vwCl ([(ad 0, .inr (6, [.ref (q 0), .ref (q1 0), .ref (q2 0), .int f1, .int f2, .ref (ad 1), .ref (ad 3), .ref (ad 8), .ref (g 0)]))] ++ (WG K g ma nu de ne di (nI n) fr ++ ([(ad 3, .inr (4, [.ref (ad 4)]))] ++ (WE K (ad 4) (ad 5) (ad 6) (ad 7) r M pv ip sv ++ (WD K q d ++ ([(ad 8, .inr (5, [.ref (ad 9)]))] ++ (WE K (ad 9) (ad 10) (ad 11) (ad 12) r2 Z.1 Z.2.1 Z.2.2.1 Z.2.2.2 ++ (WH K (ad 1) (ad 2) f (nI s0) ++ (WD K q1 d1 ++ (WD K q2 d2)))))))))) H → va_D A ([(ad 0, .inr (6, [.ref (q 0), .ref (q1 0), .ref (q2 0), .int f1, .int f2, .ref (ad 1), .ref (ad 3), .ref (ad 8), .ref (g 0)]))] ++ (WG K g ma nu de ne di (nI n) fr ++ ([(ad 3, .inr (4, [.ref (ad 4)]))] ++ (WE K (ad 4) (ad 5) (ad 6) (ad 7) r M pv ip sv ++ (WD K q d ++ ([(ad 8, .inr (5, [.ref (ad 9)]))] ++ (WE K (ad 9) (ad 10) (ad 11) (ad 12) r2 Z.1 Z.2.1 Z.2.2.1 Z.2.2.2 ++ (WH K (ad 1) (ad 2) f (nI s0) ++ (WD K q1 d1 ++ (WD K q2 d2)))))))))) → va_S A s.heap H locs → lv_has ls 4 [(3, .int (nI k)), (2, .int (nI (slp d x.toInt k))), (0, .ref (ad 0)), (1, .int x)] → W p l e ({ frames := 7, cells := 1, slots := 6, locals := 150 } : Room) s m [.ref (ad 0), .int x].toArray below meth c H locs 0 0 (vx_MQ below (va_Qi (fun (z : Int32) (u : CV × CI) => u.1 = (d, d1, d2, f1, f2, f, s0) ∧ II u.1.1 u.2 ∧ rs_slipping (d, d1, d2, f1, f2, f, s0).1 x = (0, z.toInt)) (fun (u : CV × CI) t => cB D K A (WX K ad q q1 q2 g r r2 u.1 u.2) t) A) (vx_X (fun (u : CV × CI) => u.1 = (d, d1, d2, f1, f2, f, s0) ∧ II u.1.1 u.2) (fun E (u : CV × CI) t => exc [eIA] (rs_slipping (d, d1, d2, f1, f2, f, s0).1 x).1 E ∧ cB D K A (WX K ad q q1 q2 g r r2 u.1 u.2) t) A) [.ref (ad 0), .int x].toArray s 1 6 A) (F0 m 44 ls []) := by
      intro fuel
      induction fuel with
      | zero =>
        intro k H locs ls hfu
        exact absurd hfu (Nat.not_lt_zero _)
      | succ fuel ih44 =>
        intro k H locs ls hfu hk hP hD hS hl
        have hs64 : slp d x.toInt k < 64 := Nat.lt_of_lt_of_le (slp_lt d x.toInt k) (Nat.pow_le_pow_right (show 0 < 2 by decide) hk)
        refine lv_iload_n hx hb dX6_slipping_44 rfl (lv_at hl 0 rfl) ?_
        refine lv_bipush (v := nI 6) hx hb dX6_slipping_45 (by decide) ?_
        refine b_icmp_ge hx hb (nI_toIntI (by omega)) (nI_toIntI (by omega)) dX6_slipping_47 (tgt := 93) (by decide) (fun c47 => ?_) (fun c47 => ?_)
        · refine lv_iload_n hx hb dX6_slipping_93 rfl (lv_at hl 1 rfl) ?_
          refine vx_ret ?_
          exact W.widen (k := 1) (n := 6) (Nat.le_of_ble_eq_true rfl) (Nat.le_of_ble_eq_true rfl) (W.iret (v := nI (slp d x.toInt k)) hx hb hr (fun t9 ht9 hW => ⟨⟨nI (slp d x.toInt k), ((d, d1, d2, f1, f2, f, s0), (M, pv, ip, sv, Z.1, Z.2.1, Z.2.2.1, Z.2.2.2, ma, nu, de, ne, di, n, fr)), rfl, ⟨rfl, hJ, ((cI_f (by omega)).trans (r0 (by rw [nI_toIntI (by omega), show k = 6 by omega])))⟩, by rw [ht9]; exact hP, va_K.moved hW.alike hK, hD⟩, hS.F ht9⟩) hS.2.2 dX6_slipping_94)
        refine lv_aload_n hx hb dX6_slipping_50 rfl (lv_at hl 2 rfl) ?_
        refine va_get (D := D) (ci := 6) (C := RX6) (T := TX6) (N := 9) hx hb hts iX6 hown hK hP 0 rfl rfl 0 (by decide) (hts _ k_f_X6_12) (fun _ h9 => h9) rfl dX6_slipping_51 ?_
        refine lv_iload_n hx hb dX6_slipping_54 rfl (lv_at hl 0 rfl) ?_
        have hPq := P_perm pm_4 hP
        have hDq := D_perm pm_4 hD
        have hPc := bP0 hPq
        have hDc := bD0 hDq
        refine va_calli (va_runV (As := [.int (nI k)]) (rest := []) ⟨hx, hb, hml, hown, hts⟩ (c_X0_isEngaged l D K q d m1 ge k H.size hm h1 h2 (by omega) (by omega)) (cwV 1 hts (TB_V k_m_X6_145 k_im_X0_isEngaged k_se_X0_isEngaged k_in_X0 k_co_X0_isEngaged (fun _ h => h)) rfl rfl rfl (by decide +kernel) ⟨Nat.le_of_ble_eq_true rfl, Nat.le_of_ble_eq_true rfl⟩) ⟨cP_blind, va_recv hK hPc (ci := 0) (q0 := 0) rfl rfl, cP_of hPc hK hDc⟩ rfl rfl hl.1 rfl (lv_room (Nat.le_of_ble_eq_true rfl)) dX6_slipping_55 ⟨Nat.le_of_ble_eq_true rfl, Nat.le_of_ble_eq_true rfl⟩) hS (fun q _ h => absurd h id) (fun q h => absurd h id) (fun ise u9 t9 H locs ht9 hvm hw hB hz1 hk1 hS => ?_)
        have hP := P_same hP hk1
        by_cases hen : k < m1 ∧ ge.testBit k = true
        rotate_left
        · refine t_i (hw.trans (bI_f hen).symm) ?_
          refine b_if_eq hx hb (nI_toIntI (by omega)) dX6_slipping_58 (tgt := 87) (by decide) (fun c58 => ?_) (fun c58 => absurd c58 (by omega))
          have hsl : slp d x.toInt (k + 1) = slp d x.toInt k := by
            exact cI_f (fun z => by rw [hm1, hg1] at z; first | exact hen ⟨z.1, z.2.1⟩ | (rw [hcd] at z; have := z.2.2; omega))
          have hl : lv_has ls 4 [(3, .int (nI k)), (2, .int (nI (slp d x.toInt (k + 1)))), (0, .ref (ad 0)), (1, .int x)] := by rw [hsl]; exact hl
          refine lv_iinc (v := nI (k + 1)) (lv' := [(3, .int (nI (k + 1))), (2, .int (nI (slp d x.toInt (k + 1)))), (0, .ref (ad 0)), (1, .int x)]) hx hb dX6_slipping_87 hl (k := 0) rfl (nI_add k 1) (by decide) rfl (fun ls hl => ?_)
          refine lv_goto (tgt := 44) hx hb dX6_slipping_90 (by decide) ?_
          exact ih44 (k + 1) _ _ _ (by omega) (by omega) hP hD hS (lv_sub hl [0, 1, 2, 3] rfl)
        refine t_i (hw.trans (bI_t hen).symm) ?_
        refine b_if_eq hx hb (nI_toIntI (by omega)) dX6_slipping_58 (tgt := 87) (by decide) (fun c58 => absurd c58 (by omega)) (fun c58 => ?_)
        refine lv_aload_n hx hb dX6_slipping_61 rfl (lv_at hl 2 rfl) ?_
        refine va_get (D := D) (ci := 6) (C := RX6) (T := TX6) (N := 9) hx hb hts iX6 hown hK hP 0 rfl rfl 7 (by decide) (hts _ k_f_X6_39) (fun _ h9 => h9) rfl dX6_slipping_62 ?_
        refine lv_iload_n hx hb dX6_slipping_65 rfl (lv_at hl 0 rfl) ?_
        refine lv_aload_n hx hb dX6_slipping_66 rfl (lv_at hl 2 rfl) ?_
        refine va_get (D := D) (ci := 6) (C := RX6) (T := TX6) (N := 9) hx hb hts iX6 hown hK hP 0 rfl rfl 0 (by decide) (hts _ k_f_X6_12) (fun _ h9 => h9) rfl dX6_slipping_67 ?_
        refine lv_iload_n hx hb dX6_slipping_70 rfl (lv_at hl 0 rfl) ?_
        have hPq := P_perm pm_4 hP
        have hDq := D_perm pm_4 hD
        have hPc := bP0 hPq
        have hDc := bD0 hDq
        refine va_calli (va_runV (As := [.int (nI k)]) (rest := [.int (nI k), .ref (ad 8)]) ⟨hx, hb, hml, hown, hts⟩ (c_X0_capacityOf l D K q d m1 k H.size hm h1 hen.1) (cwV 1 hts (TB_V k_m_X6_106 k_im_X0_capacityOf k_se_X0_capacityOf k_in_X0 k_co_X0_capacityOf (fun _ h => h)) rfl rfl rfl (by decide +kernel) ⟨Nat.le_of_ble_eq_true rfl, Nat.le_of_ble_eq_true rfl⟩) ⟨cP_blind, va_recv hK hPc (ci := 0) (q0 := 0) rfl rfl, cP_of hPc hK hDc⟩ rfl rfl hl.1 rfl (lv_room (Nat.le_of_ble_eq_true rfl)) dX6_slipping_71 ⟨Nat.le_of_ble_eq_true rfl, Nat.le_of_ble_eq_true rfl⟩) hS (fun q _ h => absurd h id) (fun q h => absurd h id) (fun cp u9 t9 H locs ht9 hvm hw hB hz1 hk1 hS => ?_)
        have hP := P_same hP hk1
        obtain ⟨_, c7, -, -, -, hc1, hc2, hc7⟩ := he9 k hen.1
        have hcd : dn d 7 k = c7 := dn_of hc7 (by omega)
        refine t_i (hw.trans hc7) ?_
        have hPq := P_perm pm_56 hP
        have hDq := D_perm pm_56 hD
        have hPc := bP0 hPq
        have hDc := bD0 hDq
        refine va_calli (va_runV (As := [.int (nI k), .int (nI c7)]) (rest := []) ⟨hx, hb, hml, hown, hts⟩ (c_X5_holdsUpTo l D K (ad 8) (ad 9) (ad 10) (ad 11) (ad 12) r2 Z.1 Z.2.1 Z.2.2.1 Z.2.2.2 (tqM d ge) k c7 H.size (by omega) hc2 hS2) (cwV 2 hts (TB_V k_m_X6_199 k_im_X5_holdsUpTo k_se_X5_holdsUpTo k_in_X5 k_co_X5_holdsUpTo (fun _ h => h)) rfl rfl rfl (by decide +kernel) ⟨Nat.le_of_ble_eq_true rfl, Nat.le_of_ble_eq_true rfl⟩) ⟨cP_blind, va_recv hK hPc (ci := 5) (q0 := 0) rfl rfl, cP_of hPc hK hDc⟩ rfl rfl hl.1 rfl (lv_room (Nat.le_of_ble_eq_true rfl)) dX6_slipping_74 ⟨Nat.le_of_ble_eq_true rfl, Nat.le_of_ble_eq_true rfl⟩) hS (fun q _ h => absurd h id) (fun q h => absurd h id) (fun rh u9 t9 H locs ht9 hvm hw hB hz1 hk1 hS => ?_)
        have hP := P_same hP hk1
        refine t_i (show rh = nI (hold (TQ d ge) k c7) from hw) ?_
        have hh9 := hold_le (TQ d ge) k c7
        refine lv_iload_n hx hb dX6_slipping_77 rfl (lv_at hl 3 rfl) ?_
        refine b_icmp_ge hx hb (nI_toIntI (by omega)) rfl dX6_slipping_78 (tgt := 87) (by decide) (fun c78 => ?_) (fun c78 => ?_)
        · have hsl : slp d x.toInt (k + 1) = slp d x.toInt k := by
            exact cI_f (fun z => by rw [hm1, hg1] at z; first | exact hen ⟨z.1, z.2.1⟩ | (rw [hcd] at z; have := z.2.2; omega))
          have hl : lv_has ls 4 [(3, .int (nI k)), (2, .int (nI (slp d x.toInt (k + 1)))), (0, .ref (ad 0)), (1, .int x)] := by rw [hsl]; exact hl
          refine lv_iinc (v := nI (k + 1)) (lv' := [(3, .int (nI (k + 1))), (2, .int (nI (slp d x.toInt (k + 1)))), (0, .ref (ad 0)), (1, .int x)]) hx hb dX6_slipping_87 hl (k := 0) rfl (nI_add k 1) (by decide) rfl (fun ls hl => ?_)
          refine lv_goto (tgt := 44) hx hb dX6_slipping_90 (by decide) ?_
          exact ih44 (k + 1) _ _ _ (by omega) (by omega) hP hD hS (lv_sub hl [0, 1, 2, 3] rfl)
        refine lv_iload_n hx hb dX6_slipping_81 rfl (lv_at hl 1 rfl) ?_
        refine lv_iconst (v := nI 1) hx hb dX6_slipping_82 (by decide) ?_
        refine lv_iload_n hx hb dX6_slipping_83 rfl (lv_at hl 0 rfl) ?_
        refine lv_ishl hx hb dX6_slipping_84 ?_
        refine lv_ior hx hb dX6_slipping_85 ?_
        refine t_i (w_or _ hs64 k (by omega)) ?_
        refine lv_istore_n (lv' := [(2, .int (nI (slp d x.toInt k ||| 2 ^ k))), (3, .int (nI k)), (0, .ref (ad 0)), (1, .int x)]) hx hb dX6_slipping_86 rfl hl (by decide) rfl (fun ls hl => ?_)
        have hsl : slp d x.toInt (k + 1) = (slp d x.toInt k ||| 2 ^ k) := by
          exact cI_t (by rw [hm1, hg1, hcd]; exact ⟨hen.1, hen.2, by omega⟩)
        have hl : lv_has ls 4 [(2, .int (nI (slp d x.toInt (k + 1)))), (3, .int (nI k)), (0, .ref (ad 0)), (1, .int x)] := by rw [hsl]; exact hl
        refine lv_iinc (v := nI (k + 1)) (lv' := [(3, .int (nI (k + 1))), (2, .int (nI (slp d x.toInt (k + 1)))), (0, .ref (ad 0)), (1, .int x)]) hx hb dX6_slipping_87 hl (k := 1) rfl (nI_add k 1) (by decide) rfl (fun ls hl => ?_)
        refine lv_goto (tgt := 44) hx hb dX6_slipping_90 (by decide) ?_
        exact ih44 (k + 1) _ _ _ (by omega) (by omega) hP hD hS (lv_sub hl [0, 1, 2, 3] rfl)
    exact L44 _ 0 _ _ _ (Nat.lt_succ_self _) (by omega) hP hD hS (lv_sub hl [0, 1, 2, 3] rfl)
  refine thr_61 hx hb hlf hown hts hTX (is := 197) (text := "the input torque is out of range") (by decide +kernel) hS (by rw [hml]; exact hl.1) dX6_slipping_12 dX6_slipping_15 dX6_slipping_16 dX6_slipping_18 dX6_slipping_21 hxt (Nat.le_of_ble_eq_true rfl) (Nat.le_of_ble_eq_true rfl) (Nat.le_of_ble_eq_true rfl) (Nat.le_of_ble_eq_true rfl) hlocks (Nat.le_of_ble_eq_true rfl) (Nat.le_of_ble_eq_true rfl) (fun t9 hal hsz9 hkk => ?_)
  exact ⟨((d, d1, d2, f1, f2, f, s0), (M, pv, ip, sv, M2, pv2, ip2, sv2, ma, nu, de, ne, di, n, fr)), ⟨rfl, hJ⟩, ⟨by rw [show rs_slipping d x = _ from (cI_t (by omega))]; exact ⟨by decide, rfl⟩, hP.kept (fun k q h => hkk q.1 ((hP k q h).lt)), va_K.moved hal hK, hD⟩, Nat.le_trans hS.1 hsz9, fun q h1 h2 => (hkk q (Nat.lt_of_lt_of_le h1 hS.1)).trans (hS.2.1 q h1 h2)⟩
set_option maxHeartbeats 4000000 in
set_option maxRecDepth 100000 in
theorem c_X6_greatestTorque (l : Launch) (hlf : l.stackTraces = false) (D : va_G) (K : Nat → ClassId) (ad q q1 q2 g r r2 : Nat → Nat) (v : CV) (i : CI)  (sz : Nat) (hI : IV v) (hJ : II v.1 i)  : vx_Met l yX6_greatestTorque (.code yX6_greatestTorque cX6_greatestTorque 3 (some .int) :: TB) ({ frames := 7, cells := 1, slots := 6, locals := 150 } : Room) (va_Pc [.ref (ad 0)] (cPT D K (WX K ad q q1 q2 g r r2 v i) sz)) (va_Qi (fun (z : Int32) (u : CV × CI) => u.1 = v ∧ II u.1.1 u.2 ∧ rs_greatest v.1 = (0, z.toInt)) (fun (u : CV × CI) t => cB D K (va_A (WX K ad q q1 q2 g r r2 v i) sz) (WX K ad q q1 q2 g r r2 u.1 u.2) t) (va_A (WX K ad q q1 q2 g r r2 v i) sz)) (vx_X (fun (u : CV × CI) => u.1 = v ∧ II u.1.1 u.2) (fun E (u : CV × CI) t => exc [eIS] (rs_greatest v.1).1 E ∧ cB D K (va_A (WX K ad q q1 q2 g r r2 v i) sz) (WX K ad q q1 q2 g r r2 u.1 u.2) t) (va_A (WX K ad q q1 q2 g r r2 v i) sz)) 1 6 (va_A (WX K ad q q1 q2 g r r2 v i) sz) := by
  refine vx_ofW (cc := cX6_greatestTorque) (maxL := 3) (ret := (some .int)) (by decide) rfl ?_
  intro p e s m args below meth c s₁ B hml hxt hv
  obtain ⟨rfl, ⟨hsz, hP, hK, hD0⟩, hTX⟩ := hv
  have hx := B.exec
  have hb := B.bytes
  have hr := B.returns
  have hts := hts_tl (atoms_spec (ws := (.code yX6_greatestTorque cX6_greatestTorque 3 (some .int) :: TB)) B.pre)
  have hown : s.vm.findClass RX6 = some m.cls := findClass_of_methodNamed B.named
  have hlocks := B.notSynchronized
  subst hsz
  have hD := hD0.self (sz := s.heap.size)
  generalize hAe : (va_A (WX K ad q q1 q2 g r r2 v i) s.heap.size) = A at hD hTX ⊢
  have hA : ∀ q : Nat, s.heap.size ≤ q → A q := fun q h => by rw [← hAe]; exact Or.inr h
  have hS : va_S A s.heap s.heap [] := va_S.rf
  clear hAe hD0
  obtain ⟨d, d1, d2, f1, f2, f, s0⟩ := v
  obtain ⟨M, pv, ip, sv, M2, pv2, ip2, sv2, ma, nu, de, ne, di, n, fr⟩ := i
  obtain ⟨hd, hd1, hd2, hf1, hf2, hs20, hhf⟩ := id hI
  obtain ⟨hn64, hfr, hT⟩ := id hJ
  dsimp only at hd hd1 hd2 hf1 hf2 hs20 hhf hn64 hfr hT
  obtain ⟨ns, m1, ge, hns, hm, hge, h0, h1, h2, hs9, he9⟩ := id hd
  have hm1 : dn d 8 1 = m1 := dn_of h1 (by omega)
  have hn1 : dn d 8 0 = ns := dn_of h0 (by omega)
  have hp6 : 2 ^ m1 ≤ 64 := Nat.pow_le_pow_right (show 0 < 2 by decide) hm
  have hg1 : dn d 8 2 = ge := dn_of h2 (by omega)
  have hP : va_P D vwCl ([(ad 0, .inr (6, [.ref (q 0), .ref (q1 0), .ref (q2 0), .int f1, .int f2, .ref (ad 1), .ref (ad 3), .ref (ad 8), .ref (g 0)]))] ++ (WG K g ma nu de ne di (nI n) fr ++ ([(ad 3, .inr (4, [.ref (ad 4)]))] ++ (WE K (ad 4) (ad 5) (ad 6) (ad 7) r M pv ip sv ++ (WD K q d ++ ([(ad 8, .inr (5, [.ref (ad 9)]))] ++ (WE K (ad 9) (ad 10) (ad 11) (ad 12) r2 M2 pv2 ip2 sv2 ++ (WH K (ad 1) (ad 2) f (nI s0) ++ (WD K q1 d1 ++ (WD K q2 d2)))))))))) s.heap := hP
  have hD : va_D A ([(ad 0, .inr (6, [.ref (q 0), .ref (q1 0), .ref (q2 0), .int f1, .int f2, .ref (ad 1), .ref (ad 3), .ref (ad 8), .ref (g 0)]))] ++ (WG K g ma nu de ne di (nI n) fr ++ ([(ad 3, .inr (4, [.ref (ad 4)]))] ++ (WE K (ad 4) (ad 5) (ad 6) (ad 7) r M pv ip sv ++ (WD K q d ++ ([(ad 8, .inr (5, [.ref (ad 9)]))] ++ (WE K (ad 9) (ad 10) (ad 11) (ad 12) r2 M2 pv2 ip2 sv2 ++ (WH K (ad 1) (ad 2) f (nI s0) ++ (WD K q1 d1 ++ (WD K q2 d2)))))))))) := hD
  have hl := lv_entry ([.ref (ad 0)]) (n := 3) (Nat.le_of_ble_eq_true rfl)
  rw [lg_entry_eq]
  generalize (lg_sl ([.ref (ad 0)]) ++ List.replicate (3 - (lg_sl ([.ref (ad 0)])).length) Slot.unset).toArray = ls at hl ⊢
  have hl : lv_has ls 3 [(0, .ref (ad 0))] := hl
  refine lv_aload_n hx hb dX6_greatestTorque_0 rfl (lv_at hl 0 rfl) ?_
  refine va_get (D := D) (ci := 6) (C := RX6) (T := TX6) (N := 9) hx hb hts iX6 hown hK hP 0 rfl rfl 6 (by decide) (hts _ k_f_X6_32) (fun _ h9 => h9) rfl dX6_greatestTorque_1 ?_
  refine lv_aload_n hx hb dX6_greatestTorque_4 rfl (lv_at hl 0 rfl) ?_
  refine va_get (D := D) (ci := 6) (C := RX6) (T := TX6) (N := 9) hx hb hts iX6 hown hK hP 0 rfl rfl 0 (by decide) (hts _ k_f_X6_12) (fun _ h9 => h9) rfl dX6_greatestTorque_5 ?_
  refine lv_aload_n hx hb dX6_greatestTorque_8 rfl (lv_at hl 0 rfl) ?_
  refine va_get (D := D) (ci := 6) (C := RX6) (T := TX6) (N := 9) hx hb hts iX6 hown hK hP 0 rfl rfl 0 (by decide) (hts _ k_f_X6_12) (fun _ h9 => h9) rfl dX6_greatestTorque_9 ?_
  have hPq := P_perm pm_4 hP
  have hDq := D_perm pm_4 hD
  have hPc := bP0 hPq
  have hDc := bD0 hDq
  refine va_calli (va_runV (As := []) (rest := [.ref (q 0), .ref (ad 3)]) ⟨hx, hb, hml, hown, hts⟩ (c_X0_engagedMask l D K q d s.heap.size ) (cwV 0 hts (TB_V k_m_X6_123 k_im_X0_engagedMask k_se_X0_engagedMask k_in_X0 k_co_X0_engagedMask (fun _ h => h)) rfl rfl rfl (by decide +kernel) ⟨Nat.le_of_ble_eq_true rfl, Nat.le_of_ble_eq_true rfl⟩) ⟨cP_blind, va_recv hK hPc (ci := 0) (q0 := 0) rfl rfl, cP_of hPc hK hDc⟩ rfl rfl hl.1 rfl (lv_room (Nat.le_of_ble_eq_true rfl)) dX6_greatestTorque_12 ⟨Nat.le_of_ble_eq_true rfl, Nat.le_of_ble_eq_true rfl⟩) hS (fun q _ h => absurd h id) (fun q h => absurd h id) (fun em u9 t9 H locs ht9 hvm hw hB hz1 hk1 hS => ?_)
  have hP := P_same hP hk1
  refine t_i (hw.trans h2) ?_
  have hPq := P_perm pm_234 hP
  have hDq := D_perm pm_234 hD
  have hPc := bP0 hPq
  have hDc := bD0 hDq
  have hFc := bF0 hDq hS hA
  refine va_callv (va_runV (As := [.ref (q 0), .int (nI ge)]) (rest := []) ⟨hx, hb, hml, hown, hts⟩ (c_X4_solve l D K (ad 3) (ad 4) (ad 5) (ad 6) (ad 7) r M pv ip sv q d ge H.size hd (by omega)) (cwV 2 hts (TB_V k_m_X6_151 k_im_X4_solve k_se_X4_solve k_in_X4 k_co_X4_solve (fun _ h => h)) rfl rfl rfl (by decide +kernel) ⟨Nat.le_of_ble_eq_true rfl, Nat.le_of_ble_eq_true rfl⟩) ⟨cP_blind, va_recv hK hPc (ci := 4) (q0 := 0) rfl rfl, cP_of hPc hK hDc⟩ rfl rfl hl.1 rfl (lv_room (Nat.le_of_ble_eq_true rfl)) dX6_greatestTorque_15 ⟨Nat.le_of_ble_eq_true rfl, Nat.le_of_ble_eq_true rfl⟩) hS (fun q _ h => hFc q h) hFc (fun V t9 H locs ht9 hvm hw hB hz1 hk1 hS => ?_)
  obtain ⟨hP1, hK1, hD1⟩ := hB
  rw [ht9] at hP1
  obtain ⟨hPq1, hDq1⟩ := bJ0 hPq hDq hk1 hFc hP1 hD1
  have hP := P_perm (pm_234 (X0 := _)).symm hPq1
  have hD := D_perm (pm_234 (X0 := _)).symm hDq1
  have hP : va_P D vwCl ([(ad 0, .inr (6, [.ref (q 0), .ref (q1 0), .ref (q2 0), .int f1, .int f2, .ref (ad 1), .ref (ad 3), .ref (ad 8), .ref (g 0)]))] ++ (WG K g ma nu de ne di (nI n) fr ++ ([(ad 3, .inr (4, [.ref (ad 4)]))] ++ (WE K (ad 4) (ad 5) (ad 6) (ad 7) r V.1 V.2.1 V.2.2.1 V.2.2.2 ++ (WD K q d ++ ([(ad 8, .inr (5, [.ref (ad 9)]))] ++ (WE K (ad 9) (ad 10) (ad 11) (ad 12) r2 M2 pv2 ip2 sv2 ++ (WH K (ad 1) (ad 2) f (nI s0) ++ (WD K q1 d1 ++ (WD K q2 d2)))))))))) H := hP
  have hD : va_D A ([(ad 0, .inr (6, [.ref (q 0), .ref (q1 0), .ref (q2 0), .int f1, .int f2, .ref (ad 1), .ref (ad 3), .ref (ad 8), .ref (g 0)]))] ++ (WG K g ma nu de ne di (nI n) fr ++ ([(ad 3, .inr (4, [.ref (ad 4)]))] ++ (WE K (ad 4) (ad 5) (ad 6) (ad 7) r V.1 V.2.1 V.2.2.1 V.2.2.2 ++ (WD K q d ++ ([(ad 8, .inr (5, [.ref (ad 9)]))] ++ (WE K (ad 9) (ad 10) (ad 11) (ad 12) r2 M2 pv2 ip2 sv2 ++ (WH K (ad 1) (ad 2) f (nI s0) ++ (WD K q1 d1 ++ (WD K q2 d2)))))))))) := hD
  have hS0 := hw
  refine lv_aload_n hx hb dX6_greatestTorque_18 rfl (lv_at hl 0 rfl) ?_
  refine va_get (D := D) (ci := 6) (C := RX6) (T := TX6) (N := 9) hx hb hts iX6 hown hK hP 0 rfl rfl 6 (by decide) (hts _ k_f_X6_32) (fun _ h9 => h9) rfl dX6_greatestTorque_19 ?_
  have hPq := P_perm pm_23 hP
  have hDq := D_perm pm_23 hD
  have hPc := bP0 hPq
  have hDc := bD0 hDq
  refine va_calli (va_runV (As := []) (rest := []) ⟨hx, hb, hml, hown, hts⟩ (c_X4_stateFound l D K (ad 3) (ad 4) (ad 5) (ad 6) (ad 7) r V.1 V.2.1 V.2.2.1 V.2.2.2 (spM d ge) H.size hS0) (cwV 0 hts (TB_V k_m_X6_155 k_im_X4_stateFound k_se_X4_stateFound k_in_X4 k_co_X4_stateFound (fun _ h => h)) rfl rfl rfl (by decide +kernel) ⟨Nat.le_of_ble_eq_true rfl, Nat.le_of_ble_eq_true rfl⟩) ⟨cP_blind, va_recv hK hPc (ci := 4) (q0 := 0) rfl rfl, cP_of hPc hK hDc⟩ rfl rfl hl.1 rfl (lv_room (Nat.le_of_ble_eq_true rfl)) dX6_greatestTorque_22 ⟨Nat.le_of_ble_eq_true rfl, Nat.le_of_ble_eq_true rfl⟩) hS (fun q _ h => absurd h id) (fun q h => absurd h id) (fun sf u9 t9 H locs ht9 hvm hw hB hz1 hk1 hS => ?_)
  have hP := P_same hP hk1
  refine t_i (show sf = nI (stM d ge) from hw) ?_
  have hs3 := stC_le (SP d ge)
  have hs3 : stM d ge ≤ 3 := hs3
  refine b_if_eq hx hb (nI_toIntI (by omega)) dX6_greatestTorque_25 (tgt := 38) (by decide) (fun c25 => ?_) (fun c25 => ?_)
  · have hst0 : stM d ge = 0 := by omega
    refine lv_aload_n hx hb dX6_greatestTorque_38 rfl (lv_at hl 0 rfl) ?_
    refine va_get (D := D) (ci := 6) (C := RX6) (T := TX6) (N := 9) hx hb hts iX6 hown hK hP 0 rfl rfl 7 (by decide) (hts _ k_f_X6_39) (fun _ h9 => h9) rfl dX6_greatestTorque_39 ?_
    refine lv_aload_n hx hb dX6_greatestTorque_42 rfl (lv_at hl 0 rfl) ?_
    refine va_get (D := D) (ci := 6) (C := RX6) (T := TX6) (N := 9) hx hb hts iX6 hown hK hP 0 rfl rfl 0 (by decide) (hts _ k_f_X6_12) (fun _ h9 => h9) rfl dX6_greatestTorque_43 ?_
    refine lv_aload_n hx hb dX6_greatestTorque_46 rfl (lv_at hl 0 rfl) ?_
    refine va_get (D := D) (ci := 6) (C := RX6) (T := TX6) (N := 9) hx hb hts iX6 hown hK hP 0 rfl rfl 0 (by decide) (hts _ k_f_X6_12) (fun _ h9 => h9) rfl dX6_greatestTorque_47 ?_
    have hPq := P_perm pm_4 hP
    have hDq := D_perm pm_4 hD
    have hPc := bP0 hPq
    have hDc := bD0 hDq
    refine va_calli (va_runV (As := []) (rest := [.ref (q 0), .ref (ad 8)]) ⟨hx, hb, hml, hown, hts⟩ (c_X0_engagedMask l D K q d H.size ) (cwV 0 hts (TB_V k_m_X6_123 k_im_X0_engagedMask k_se_X0_engagedMask k_in_X0 k_co_X0_engagedMask (fun _ h => h)) rfl rfl rfl (by decide +kernel) ⟨Nat.le_of_ble_eq_true rfl, Nat.le_of_ble_eq_true rfl⟩) ⟨cP_blind, va_recv hK hPc (ci := 0) (q0 := 0) rfl rfl, cP_of hPc hK hDc⟩ rfl rfl hl.1 rfl (lv_room (Nat.le_of_ble_eq_true rfl)) dX6_greatestTorque_50 ⟨Nat.le_of_ble_eq_true rfl, Nat.le_of_ble_eq_true rfl⟩) hS (fun q _ h => absurd h id) (fun q h => absurd h id) (fun em u9 t9 H locs ht9 hvm hw hB hz1 hk1 hS => ?_)
    have hP := P_same hP hk1
    refine t_i (hw.trans h2) ?_
    have hPq := P_perm pm_564 hP
    have hDq := D_perm pm_564 hD
    have hPc := bP0 hPq
    have hDc := bD0 hDq
    have hFc := bF0 hDq hS hA
    refine va_callv (va_runV (As := [.ref (q 0), .int (nI ge)]) (rest := []) ⟨hx, hb, hml, hown, hts⟩ (c_X5_solve l D K (ad 8) (ad 9) (ad 10) (ad 11) (ad 12) r2 M2 pv2 ip2 sv2 q d ge H.size hd (by omega)) (cwV 2 hts (TB_V k_m_X6_182 k_im_X5_solve k_se_X5_solve k_in_X5 k_co_X5_solve (fun _ h => h)) rfl rfl rfl (by decide +kernel) ⟨Nat.le_of_ble_eq_true rfl, Nat.le_of_ble_eq_true rfl⟩) ⟨cP_blind, va_recv hK hPc (ci := 5) (q0 := 0) rfl rfl, cP_of hPc hK hDc⟩ rfl rfl hl.1 rfl (lv_room (Nat.le_of_ble_eq_true rfl)) dX6_greatestTorque_53 ⟨Nat.le_of_ble_eq_true rfl, Nat.le_of_ble_eq_true rfl⟩) hS (fun q _ h => hFc q h) hFc (fun Z t9 H locs ht9 hvm hw hB hz1 hk1 hS => ?_)
    obtain ⟨hP1, hK1, hD1⟩ := hB
    rw [ht9] at hP1
    obtain ⟨hPq1, hDq1⟩ := bJ0 hPq hDq hk1 hFc hP1 hD1
    have hP := P_perm (pm_564 (X0 := _)).symm hPq1
    have hD := D_perm (pm_564 (X0 := _)).symm hDq1
    have hP : va_P D vwCl ([(ad 0, .inr (6, [.ref (q 0), .ref (q1 0), .ref (q2 0), .int f1, .int f2, .ref (ad 1), .ref (ad 3), .ref (ad 8), .ref (g 0)]))] ++ (WG K g ma nu de ne di (nI n) fr ++ ([(ad 3, .inr (4, [.ref (ad 4)]))] ++ (WE K (ad 4) (ad 5) (ad 6) (ad 7) r V.1 V.2.1 V.2.2.1 V.2.2.2 ++ (WD K q d ++ ([(ad 8, .inr (5, [.ref (ad 9)]))] ++ (WE K (ad 9) (ad 10) (ad 11) (ad 12) r2 Z.1 Z.2.1 Z.2.2.1 Z.2.2.2 ++ (WH K (ad 1) (ad 2) f (nI s0) ++ (WD K q1 d1 ++ (WD K q2 d2)))))))))) H := hP
    have hD : va_D A ([(ad 0, .inr (6, [.ref (q 0), .ref (q1 0), .ref (q2 0), .int f1, .int f2, .ref (ad 1), .ref (ad 3), .ref (ad 8), .ref (g 0)]))] ++ (WG K g ma nu de ne di (nI n) fr ++ ([(ad 3, .inr (4, [.ref (ad 4)]))] ++ (WE K (ad 4) (ad 5) (ad 6) (ad 7) r V.1 V.2.1 V.2.2.1 V.2.2.2 ++ (WD K q d ++ ([(ad 8, .inr (5, [.ref (ad 9)]))] ++ (WE K (ad 9) (ad 10) (ad 11) (ad 12) r2 Z.1 Z.2.1 Z.2.2.1 Z.2.2.2 ++ (WH K (ad 1) (ad 2) f (nI s0) ++ (WD K q1 d1 ++ (WD K q2 d2)))))))))) := hD
    have hS2 := hw
    refine lv_sipush (v := nI 10000) hx hb dX6_greatestTorque_56 (by decide) ?_
    refine lv_istore_n (lv' := [(1, .int (nI 10000)), (0, .ref (ad 0))]) hx hb dX6_greatestTorque_59 rfl hl (by decide) rfl (fun ls hl => ?_)
    refine lv_iconst (v := nI 0) hx hb dX6_greatestTorque_60 (by decide) ?_
    refine lv_istore_n (lv' := [(2, .int (nI 0)), (1, .int (nI 10000)), (0, .ref (ad 0))]) hx hb dX6_greatestTorque_61 rfl hl (by decide) rfl (fun ls hl => ?_)
    have hl : lv_has ls 3 [(2, .int (nI 0)), (1, .int (nI (grt d 0))), (0, .ref (ad 0))] := hl
    have L62 : ∀ (fuel : Nat) (k : Nat) (H : Heap) (locs : List Loc) (ls : Array Slot), 6 - k < fuel → (k ≤ 6) → va_P D vwCl ([(ad 0, .inr (6, [.ref (q 0), .ref (q1 0), .ref (q2 0), .int f1, .int f2, .ref (ad 1), .ref (ad 3), .ref (ad 8), .ref (g 0)]))] ++ (WG K g ma nu de ne di (nI n) fr ++ ([(ad 3, .inr (4, [.ref (ad 4)]))] ++ (WE K (ad 4) (ad 5) (ad 6) (ad 7) r V.1 V.2.1 V.2.2.1 V.2.2.2 ++ (WD K q d ++ ([(ad 8, .inr (5, [.ref (ad 9)]))] ++ (WE K (ad 9) (ad 10) (ad 11) (ad 12) r2 Z.1 Z.2.1 Z.2.2.1 Z.2.2.2 ++ (WH K (ad 1) (ad 2) f (nI s0) ++ (WD K q1 d1 ++ (WD K q2 d2)))))))))) H → va_D A ([(ad 0, .inr (6, [.ref (q 0), .ref (q1 0), .ref (q2 0), .int f1, .int f2, .ref (ad 1), .ref (ad 3), .ref (ad 8), .ref (g 0)]))] ++ (WG K g ma nu de ne di (nI n) fr ++ ([(ad 3, .inr (4, [.ref (ad 4)]))] ++ (WE K (ad 4) (ad 5) (ad 6) (ad 7) r V.1 V.2.1 V.2.2.1 V.2.2.2 ++ (WD K q d ++ ([(ad 8, .inr (5, [.ref (ad 9)]))] ++ (WE K (ad 9) (ad 10) (ad 11) (ad 12) r2 Z.1 Z.2.1 Z.2.2.1 Z.2.2.2 ++ (WH K (ad 1) (ad 2) f (nI s0) ++ (WD K q1 d1 ++ (WD K q2 d2)))))))))) → va_S A s.heap H locs → lv_has ls 3 [(2, .int (nI k)), (1, .int (nI (grt d k))), (0, .ref (ad 0))] → W p l e ({ frames := 7, cells := 1, slots := 6, locals := 150 } : Room) s m [.ref (ad 0)].toArray below meth c H locs 0 0 (vx_MQ below (va_Qi (fun (z : Int32) (u : CV × CI) => u.1 = (d, d1, d2, f1, f2, f, s0) ∧ II u.1.1 u.2 ∧ rs_greatest (d, d1, d2, f1, f2, f, s0).1 = (0, z.toInt)) (fun (u : CV × CI) t => cB D K A (WX K ad q q1 q2 g r r2 u.1 u.2) t) A) (vx_X (fun (u : CV × CI) => u.1 = (d, d1, d2, f1, f2, f, s0) ∧ II u.1.1 u.2) (fun E (u : CV × CI) t => exc [eIS] (rs_greatest (d, d1, d2, f1, f2, f, s0).1).1 E ∧ cB D K A (WX K ad q q1 q2 g r r2 u.1 u.2) t) A) [.ref (ad 0)].toArray s 1 6 A) (F0 m 62 ls []) := by
      intro fuel
      induction fuel with
      | zero =>
        intro k H locs ls hfu
        exact absurd hfu (Nat.not_lt_zero _)
      | succ fuel ih62 =>
        intro k H locs ls hfu hk hP hD hS hl
        refine lv_iload_n hx hb dX6_greatestTorque_62 rfl (lv_at hl 0 rfl) ?_
        refine lv_bipush (v := nI 6) hx hb dX6_greatestTorque_63 (by decide) ?_
        refine b_icmp_ge hx hb (nI_toIntI (by omega)) (nI_toIntI (by omega)) dX6_greatestTorque_65 (tgt := 106) (by decide) (fun c65 => ?_) (fun c65 => ?_)
        · refine lv_iload_n hx hb dX6_greatestTorque_106 rfl (lv_at hl 1 rfl) ?_
          refine vx_ret ?_
          exact W.widen (k := 1) (n := 6) (Nat.le_of_ble_eq_true rfl) (Nat.le_of_ble_eq_true rfl) (W.iret (v := nI (grt d k)) hx hb hr (fun t9 ht9 hW => ⟨⟨nI (grt d k), ((d, d1, d2, f1, f2, f, s0), (V.1, V.2.1, V.2.2.1, V.2.2.2, Z.1, Z.2.1, Z.2.2.1, Z.2.2.2, ma, nu, de, ne, di, n, fr)), rfl, ⟨rfl, hJ, ((cI_f (fun z => z (by rw [hg1]; exact hst0))).trans (r0 (by have := grt_le d k; rw [nI_toIntI (by omega), show k = 6 by omega])))⟩, by rw [ht9]; exact hP, va_K.moved hW.alike hK, hD⟩, hS.F ht9⟩) hS.2.2 dX6_greatestTorque_107)
        refine lv_aload_n hx hb dX6_greatestTorque_68 rfl (lv_at hl 2 rfl) ?_
        refine va_get (D := D) (ci := 6) (C := RX6) (T := TX6) (N := 9) hx hb hts iX6 hown hK hP 0 rfl rfl 0 (by decide) (hts _ k_f_X6_12) (fun _ h9 => h9) rfl dX6_greatestTorque_69 ?_
        refine lv_iload_n hx hb dX6_greatestTorque_72 rfl (lv_at hl 0 rfl) ?_
        have hPq := P_perm pm_4 hP
        have hDq := D_perm pm_4 hD
        have hPc := bP0 hPq
        have hDc := bD0 hDq
        refine va_calli (va_runV (As := [.int (nI k)]) (rest := []) ⟨hx, hb, hml, hown, hts⟩ (c_X0_isEngaged l D K q d m1 ge k H.size hm h1 h2 (by omega) (by omega)) (cwV 1 hts (TB_V k_m_X6_145 k_im_X0_isEngaged k_se_X0_isEngaged k_in_X0 k_co_X0_isEngaged (fun _ h => h)) rfl rfl rfl (by decide +kernel) ⟨Nat.le_of_ble_eq_true rfl, Nat.le_of_ble_eq_true rfl⟩) ⟨cP_blind, va_recv hK hPc (ci := 0) (q0 := 0) rfl rfl, cP_of hPc hK hDc⟩ rfl rfl hl.1 rfl (lv_room (Nat.le_of_ble_eq_true rfl)) dX6_greatestTorque_73 ⟨Nat.le_of_ble_eq_true rfl, Nat.le_of_ble_eq_true rfl⟩) hS (fun q _ h => absurd h id) (fun q h => absurd h id) (fun ise u9 t9 H locs ht9 hvm hw hB hz1 hk1 hS => ?_)
        have hP := P_same hP hk1
        by_cases hen : k < m1 ∧ ge.testBit k = true
        rotate_left
        · refine t_i (hw.trans (bI_f hen).symm) ?_
          refine b_if_eq hx hb (nI_toIntI (by omega)) dX6_greatestTorque_76 (tgt := 100) (by decide) (fun c76 => ?_) (fun c76 => absurd c76 (by omega))
          have hsl : grt d (k + 1) = grt d k := by
            exact cI_f (fun z => by rw [hm1, hg1] at z; exact hen z)
          have hl : lv_has ls 3 [(2, .int (nI k)), (1, .int (nI (grt d (k + 1)))), (0, .ref (ad 0))] := by rw [hsl]; exact hl
          refine lv_iinc (v := nI (k + 1)) (lv' := [(2, .int (nI (k + 1))), (1, .int (nI (grt d (k + 1)))), (0, .ref (ad 0))]) hx hb dX6_greatestTorque_100 hl (k := 0) rfl (nI_add k 1) (by decide) rfl (fun ls hl => ?_)
          refine lv_goto (tgt := 62) hx hb dX6_greatestTorque_103 (by decide) ?_
          exact ih62 (k + 1) _ _ _ (by omega) (by omega) hP hD hS (lv_sub hl [0, 1, 2] rfl)
        refine t_i (hw.trans (bI_t hen).symm) ?_
        refine b_if_eq hx hb (nI_toIntI (by omega)) dX6_greatestTorque_76 (tgt := 100) (by decide) (fun c76 => absurd c76 (by omega)) (fun c76 => ?_)
        refine lv_iload_n hx hb dX6_greatestTorque_79 rfl (lv_at hl 1 rfl) ?_
        refine lv_aload_n hx hb dX6_greatestTorque_80 rfl (lv_at hl 2 rfl) ?_
        refine va_get (D := D) (ci := 6) (C := RX6) (T := TX6) (N := 9) hx hb hts iX6 hown hK hP 0 rfl rfl 7 (by decide) (hts _ k_f_X6_39) (fun _ h9 => h9) rfl dX6_greatestTorque_81 ?_
        refine lv_iload_n hx hb dX6_greatestTorque_84 rfl (lv_at hl 0 rfl) ?_
        refine lv_aload_n hx hb dX6_greatestTorque_85 rfl (lv_at hl 2 rfl) ?_
        refine va_get (D := D) (ci := 6) (C := RX6) (T := TX6) (N := 9) hx hb hts iX6 hown hK hP 0 rfl rfl 0 (by decide) (hts _ k_f_X6_12) (fun _ h9 => h9) rfl dX6_greatestTorque_86 ?_
        refine lv_iload_n hx hb dX6_greatestTorque_89 rfl (lv_at hl 0 rfl) ?_
        have hPq := P_perm pm_4 hP
        have hDq := D_perm pm_4 hD
        have hPc := bP0 hPq
        have hDc := bD0 hDq
        refine va_calli (va_runV (As := [.int (nI k)]) (rest := [.int (nI k), .ref (ad 8), .int (nI (grt d k))]) ⟨hx, hb, hml, hown, hts⟩ (c_X0_capacityOf l D K q d m1 k H.size hm h1 hen.1) (cwV 1 hts (TB_V k_m_X6_106 k_im_X0_capacityOf k_se_X0_capacityOf k_in_X0 k_co_X0_capacityOf (fun _ h => h)) rfl rfl rfl (by decide +kernel) ⟨Nat.le_of_ble_eq_true rfl, Nat.le_of_ble_eq_true rfl⟩) ⟨cP_blind, va_recv hK hPc (ci := 0) (q0 := 0) rfl rfl, cP_of hPc hK hDc⟩ rfl rfl hl.1 rfl (lv_room (Nat.le_of_ble_eq_true rfl)) dX6_greatestTorque_90 ⟨Nat.le_of_ble_eq_true rfl, Nat.le_of_ble_eq_true rfl⟩) hS (fun q _ h => absurd h id) (fun q h => absurd h id) (fun cp u9 t9 H locs ht9 hvm hw hB hz1 hk1 hS => ?_)
        have hP := P_same hP hk1
        obtain ⟨_, c7, -, -, -, hc1, hc2, hc7⟩ := he9 k hen.1
        have hcd : dn d 7 k = c7 := dn_of hc7 (by omega)
        refine t_i (hw.trans hc7) ?_
        have hPq := P_perm pm_56 hP
        have hDq := D_perm pm_56 hD
        have hPc := bP0 hPq
        have hDc := bD0 hDq
        refine va_calli (va_runV (As := [.int (nI k), .int (nI c7)]) (rest := [.int (nI (grt d k))]) ⟨hx, hb, hml, hown, hts⟩ (c_X5_holdsUpTo l D K (ad 8) (ad 9) (ad 10) (ad 11) (ad 12) r2 Z.1 Z.2.1 Z.2.2.1 Z.2.2.2 (tqM d ge) k c7 H.size (by omega) hc2 hS2) (cwV 2 hts (TB_V k_m_X6_199 k_im_X5_holdsUpTo k_se_X5_holdsUpTo k_in_X5 k_co_X5_holdsUpTo (fun _ h => h)) rfl rfl rfl (by decide +kernel) ⟨Nat.le_of_ble_eq_true rfl, Nat.le_of_ble_eq_true rfl⟩) ⟨cP_blind, va_recv hK hPc (ci := 5) (q0 := 0) rfl rfl, cP_of hPc hK hDc⟩ rfl rfl hl.1 rfl (lv_room (Nat.le_of_ble_eq_true rfl)) dX6_greatestTorque_93 ⟨Nat.le_of_ble_eq_true rfl, Nat.le_of_ble_eq_true rfl⟩) hS (fun q _ h => absurd h id) (fun q h => absurd h id) (fun rh u9 t9 H locs ht9 hvm hw hB hz1 hk1 hS => ?_)
        have hP := P_same hP hk1
        refine t_i (show rh = nI (hold (TQ d ge) k c7) from hw) ?_
        have hh9 := hold_le (TQ d ge) k c7
        refine va_mmin hx hb (hml.trans hl.1.symm) hown (hts _ k_m_X6_202) (hts _ k_st_min) (hts _ k_in_java_lang_Math) (hts _ k_co_min) (Nat.le_of_ble_eq_true rfl) (Nat.le_of_ble_eq_true rfl) (Nat.le_of_ble_eq_true rfl) (Nat.le_of_ble_eq_true rfl) dX6_greatestTorque_96 ?_
        refine t_i (min_nI (grt_le d k) hh9) ?_
        refine lv_istore_n (lv' := [(1, .int (nI (Nat.min (grt d k) (hold (TQ d ge) k c7)))), (2, .int (nI k)), (0, .ref (ad 0))]) hx hb dX6_greatestTorque_99 rfl hl (by decide) rfl (fun ls hl => ?_)
        have hsl : grt d (k + 1) = (Nat.min (grt d k) (hold (TQ d ge) k c7)) := by
          rw [show grt d (k + 1) = _ from cI_t (by rw [hm1, hg1]; exact hen), hg1, hcd]
        have hl : lv_has ls 3 [(1, .int (nI (grt d (k + 1)))), (2, .int (nI k)), (0, .ref (ad 0))] := by rw [hsl]; exact hl
        refine lv_iinc (v := nI (k + 1)) (lv' := [(2, .int (nI (k + 1))), (1, .int (nI (grt d (k + 1)))), (0, .ref (ad 0))]) hx hb dX6_greatestTorque_100 hl (k := 1) rfl (nI_add k 1) (by decide) rfl (fun ls hl => ?_)
        refine lv_goto (tgt := 62) hx hb dX6_greatestTorque_103 (by decide) ?_
        exact ih62 (k + 1) _ _ _ (by omega) (by omega) hP hD hS (lv_sub hl [0, 1, 2] rfl)
    exact L62 _ 0 _ _ _ (Nat.lt_succ_self _) (by omega) hP hD hS (lv_sub hl [0, 1, 2] rfl)
  refine thr_74 hx hb hlf hown hts hTX (is := 172) (text := "the gearbox is not driving") (by decide +kernel) hS (by rw [hml]; exact hl.1) dX6_greatestTorque_28 dX6_greatestTorque_31 dX6_greatestTorque_32 dX6_greatestTorque_34 dX6_greatestTorque_37 hxt (Nat.le_of_ble_eq_true rfl) (Nat.le_of_ble_eq_true rfl) (Nat.le_of_ble_eq_true rfl) (Nat.le_of_ble_eq_true rfl) hlocks (Nat.le_of_ble_eq_true rfl) (Nat.le_of_ble_eq_true rfl) (fun t9 hal hsz9 hkk => ?_)
  exact ⟨((d, d1, d2, f1, f2, f, s0), (V.1, V.2.1, V.2.2.1, V.2.2.2, M2, pv2, ip2, sv2, ma, nu, de, ne, di, n, fr)), ⟨rfl, hJ⟩, ⟨by rw [show rs_greatest d = _ from (cI_t (by rw [hg1]; omega))]; exact ⟨by decide, rfl⟩, hP.kept (fun k q h => hkk q.1 ((hP k q h).lt)), va_K.moved hal hK, hD⟩, Nat.le_trans hS.1 hsz9, fun q h1 h2 => (hkk q (Nat.lt_of_lt_of_le h1 hS.1)).trans (hS.2.1 q h1 h2)⟩
