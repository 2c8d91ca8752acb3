/-! PlanetaryGearbox: construction, elements (2) -/
theorem nI01 : ¬ (nI 0 = nI 1) := by decide
set_option maxHeartbeats 4000000 in
set_option maxRecDepth 100000 in
theorem c_X6_addSet (l : Launch) (hlf : l.stackTraces = false) (D : va_G) (K : Nat → ClassId) (ad q q1 q2 g r r2 : Nat → Nat) (v : CV) (i : CI) (xa : Int32) (xb : Int32) (xc : Int32) (xs : Int32) (xr : Int32) (sz : Nat) (hI : IV v) (hJ : II v.1 i)  : vx_Met l yX6_addSet (.code yX6_addSet cX6_addSet 6 (some .int) :: TB) ({ frames := 7, cells := 1, slots := 6, locals := 150 } : Room) (va_Pc [.ref (ad 0), .int xa, .int xb, .int xc, .int xs, .int xr] (cPT D K (WX K ad q q1 q2 g r r2 v i) sz)) (va_Qi (fun (z : Int32) (u : CV × CI) => u.1 = (dS v.1 (dn v.1 8 0) xa xb xc xs xr, v.2) ∧ IV u.1 ∧ II u.1.1 u.2 ∧ rs_addSet v.1 xa xb xc xs xr = (0, z.toInt)) (fun (u : CV × CI) t => cB D K (va_A (WX K ad q q1 q2 g r r2 v i) sz) (WX K ad q q1 q2 g r r2 u.1 u.2) t) (va_A (WX K ad q q1 q2 g r r2 v i) sz)) (vx_X (fun (u : CV × CI) => u.1 = v ∧ II u.1.1 u.2) (fun E (u : CV × CI) t => exc [eIO, eIA, eIS] (rs_addSet v.1 xa xb xc xs xr).1 E ∧ cB D K (va_A (WX K ad q q1 q2 g r r2 v i) sz) (WX K ad q q1 q2 g r r2 u.1 u.2) t) (va_A (WX K ad q q1 q2 g r r2 v i) sz)) 1 6 (va_A (WX K ad q q1 q2 g r r2 v i) sz) := by
  refine vx_ofW (cc := cX6_addSet) (maxL := 6) (ret := (some .int)) (by decide) rfl ?_
  intro p e s m args below meth c s₁ B hml hxt hv
  obtain ⟨rfl, ⟨hsz, hP, hK, hD0⟩, hTX⟩ := hv
  have hx := B.exec
  have hb := B.bytes
  have hr := B.returns
  have hts := hts_tl (atoms_spec (ws := (.code yX6_addSet cX6_addSet 6 (some .int) :: TB)) B.pre)
  have hown : s.vm.findClass RX6 = some m.cls := findClass_of_methodNamed B.named
  have hlocks := B.notSynchronized
  subst hsz
  have hD := hD0.self (sz := s.heap.size)
  generalize hAe : (va_A (WX K ad q q1 q2 g r r2 v i) s.heap.size) = A at hD hTX ⊢
  have hA : ∀ q : Nat, s.heap.size ≤ q → A q := fun q h => by rw [← hAe]; exact Or.inr h
  have hS : va_S A s.heap s.heap [] := va_S.rf
  clear hAe hD0
  obtain ⟨d, d1, d2, f1, f2, f, s0⟩ := v
  obtain ⟨M, pv, ip, sv, M2, pv2, ip2, sv2, ma, nu, de, ne, di, n, fr⟩ := i
  obtain ⟨hd, hd1, hd2, hf1, hf2, hs20, hhf⟩ := id hI
  obtain ⟨hn64, hfr, hT⟩ := id hJ
  dsimp only at hd hd1 hd2 hf1 hf2 hs20 hhf hn64 hfr hT
  obtain ⟨ns, m1, ge, hns, hm, hge, h0, h1, h2, hs9, he9⟩ := id hd
  have hm1 : dn d 8 1 = m1 := dn_of h1 (by omega)
  have hn1 : dn d 8 0 = ns := dn_of h0 (by omega)
  have hp6 : 2 ^ m1 ≤ 64 := Nat.pow_le_pow_right (show 0 < 2 by decide) hm
  have hg1 : dn d 8 2 = ge := dn_of h2 (by omega)
  have hP : va_P D vwCl ([(ad 0, .inr (6, [.ref (q 0), .ref (q1 0), .ref (q2 0), .int f1, .int f2, .ref (ad 1), .ref (ad 3), .ref (ad 8), .ref (g 0)]))] ++ (WG K g ma nu de ne di (nI n) fr ++ ([(ad 3, .inr (4, [.ref (ad 4)]))] ++ (WE K (ad 4) (ad 5) (ad 6) (ad 7) r M pv ip sv ++ (WD K q d ++ ([(ad 8, .inr (5, [.ref (ad 9)]))] ++ (WE K (ad 9) (ad 10) (ad 11) (ad 12) r2 M2 pv2 ip2 sv2 ++ (WH K (ad 1) (ad 2) f (nI s0) ++ (WD K q1 d1 ++ (WD K q2 d2)))))))))) s.heap := hP
  have hD : va_D A ([(ad 0, .inr (6, [.ref (q 0), .ref (q1 0), .ref (q2 0), .int f1, .int f2, .ref (ad 1), .ref (ad 3), .ref (ad 8), .ref (g 0)]))] ++ (WG K g ma nu de ne di (nI n) fr ++ ([(ad 3, .inr (4, [.ref (ad 4)]))] ++ (WE K (ad 4) (ad 5) (ad 6) (ad 7) r M pv ip sv ++ (WD K q d ++ ([(ad 8, .inr (5, [.ref (ad 9)]))] ++ (WE K (ad 9) (ad 10) (ad 11) (ad 12) r2 M2 pv2 ip2 sv2 ++ (WH K (ad 1) (ad 2) f (nI s0) ++ (WD K q1 d1 ++ (WD K q2 d2)))))))))) := hD
  have hl := lv_entry ([.ref (ad 0), .int xa, .int xb, .int xc, .int xs, .int xr]) (n := 6) (Nat.le_of_ble_eq_true rfl)
  rw [lg_entry_eq]
  generalize (lg_sl ([.ref (ad 0), .int xa, .int xb, .int xc, .int xs, .int xr]) ++ List.replicate (6 - (lg_sl ([.ref (ad 0), .int xa, .int xb, .int xc, .int xs, .int xr])).length) Slot.unset).toArray = ls at hl ⊢
  have hl : lv_has ls 6 [(0, .ref (ad 0)), (1, .int xa), (2, .int xb), (3, .int xc), (4, .int xs), (5, .int xr)] := hl
  refine lv_iload_n hx hb dX6_addSet_0 rfl (lv_at hl 1 rfl) ?_
  refine va_calli (va_runS (As := [.int xa]) (rest := []) ⟨hx, hb, hml, hown, hts⟩ (c_X6_isShaft l xa ) (va_cwS 1 hts (TB_S k_m_X6_50 k_st_X6_isShaft k_in_X6 k_co_X6_isShaft (fun _ h => h)) rfl rfl rfl (by decide +kernel) ⟨Nat.le_of_ble_eq_true rfl, Nat.le_of_ble_eq_true rfl⟩) ⟨tP_blind, tP_of⟩ rfl rfl hl.1 rfl (lv_room (Nat.le_of_ble_eq_true rfl)) dX6_addSet_1 ⟨Nat.le_of_ble_eq_true rfl, Nat.le_of_ble_eq_true rfl⟩) hS (fun q _ h => absurd h id) (fun q h => absurd h id) (fun rs u9 t9 H locs ht9 hvm hw hB hz1 hk1 hS => ?_)
  have hP := P_same hP hk1
  by_cases hs_xa : shf xa
  rotate_left
  · refine t_i (hw.trans (bI_f hs_xa).symm) ?_
    refine b_if_eq hx hb (nI_toIntI (by omega)) dX6_addSet_4 (tgt := 21) (by decide) (fun c4 => ?_) (fun c4 => absurd c4 (by omega))
    refine thr_54 hx hb hlf hown hts hTX (is := 56) (text := "a shaft is not 0 to 5") (by decide +kernel) hS (by rw [hml]; exact hl.1) dX6_addSet_21 dX6_addSet_24 dX6_addSet_25 dX6_addSet_27 dX6_addSet_30 hxt (Nat.le_of_ble_eq_true rfl) (Nat.le_of_ble_eq_true rfl) (Nat.le_of_ble_eq_true rfl) (Nat.le_of_ble_eq_true rfl) hlocks (Nat.le_of_ble_eq_true rfl) (Nat.le_of_ble_eq_true rfl) (fun t9 hal hsz9 hkk => ?_)
    exact ⟨((d, d1, d2, f1, f2, f, s0), (M, pv, ip, sv, M2, pv2, ip2, sv2, ma, nu, de, ne, di, n, fr)), ⟨rfl, hJ⟩, ⟨by rw [show rs_addSet d xa xb xc xs xr = _ from (cI_t (fun z => by first | exact hs_xa z.1 | exact hs_xb z.2.1 | exact hs_xc z.2.2))]; exact ⟨by decide, rfl⟩, hP.kept (fun k q h => hkk q.1 ((hP k q h).lt)), va_K.moved hal hK, hD⟩, Nat.le_trans hS.1 hsz9, fun q h1 h2 => (hkk q (Nat.lt_of_lt_of_le h1 hS.1)).trans (hS.2.1 q h1 h2)⟩
  refine t_i (hw.trans (bI_t hs_xa).symm) ?_
  refine b_if_eq hx hb (nI_toIntI (by omega)) dX6_addSet_4 (tgt := 21) (by decide) (fun c4 => absurd c4 (by omega)) (fun c4 => ?_)
  refine lv_iload_n hx hb dX6_addSet_7 rfl (lv_at hl 2 rfl) ?_
  refine va_calli (va_runS (As := [.int xb]) (rest := []) ⟨hx, hb, hml, hown, hts⟩ (c_X6_isShaft l xb ) (va_cwS 1 hts (TB_S k_m_X6_50 k_st_X6_isShaft k_in_X6 k_co_X6_isShaft (fun _ h => h)) rfl rfl rfl (by decide +kernel) ⟨Nat.le_of_ble_eq_true rfl, Nat.le_of_ble_eq_true rfl⟩) ⟨tP_blind, tP_of⟩ rfl rfl hl.1 rfl (lv_room (Nat.le_of_ble_eq_true rfl)) dX6_addSet_8 ⟨Nat.le_of_ble_eq_true rfl, Nat.le_of_ble_eq_true rfl⟩) hS (fun q _ h => absurd h id) (fun q h => absurd h id) (fun rs u9 t9 H locs ht9 hvm hw hB hz1 hk1 hS => ?_)
  have hP := P_same hP hk1
  by_cases hs_xb : shf xb
  rotate_left
  · refine t_i (hw.trans (bI_f hs_xb).symm) ?_
    refine b_if_eq hx hb (nI_toIntI (by omega)) dX6_addSet_11 (tgt := 21) (by decide) (fun c11 => ?_) (fun c11 => absurd c11 (by omega))
    refine thr_54 hx hb hlf hown hts hTX (is := 56) (text := "a shaft is not 0 to 5") (by decide +kernel) hS (by rw [hml]; exact hl.1) dX6_addSet_21 dX6_addSet_24 dX6_addSet_25 dX6_addSet_27 dX6_addSet_30 hxt (Nat.le_of_ble_eq_true rfl) (Nat.le_of_ble_eq_true rfl) (Nat.le_of_ble_eq_true rfl) (Nat.le_of_ble_eq_true rfl) hlocks (Nat.le_of_ble_eq_true rfl) (Nat.le_of_ble_eq_true rfl) (fun t9 hal hsz9 hkk => ?_)
    exact ⟨((d, d1, d2, f1, f2, f, s0), (M, pv, ip, sv, M2, pv2, ip2, sv2, ma, nu, de, ne, di, n, fr)), ⟨rfl, hJ⟩, ⟨by rw [show rs_addSet d xa xb xc xs xr = _ from (cI_t (fun z => by first | exact hs_xa z.1 | exact hs_xb z.2.1 | exact hs_xc z.2.2))]; exact ⟨by decide, rfl⟩, hP.kept (fun k q h => hkk q.1 ((hP k q h).lt)), va_K.moved hal hK, hD⟩, Nat.le_trans hS.1 hsz9, fun q h1 h2 => (hkk q (Nat.lt_of_lt_of_le h1 hS.1)).trans (hS.2.1 q h1 h2)⟩
  refine t_i (hw.trans (bI_t hs_xb).symm) ?_
  refine b_if_eq hx hb (nI_toIntI (by omega)) dX6_addSet_11 (tgt := 21) (by decide) (fun c11 => absurd c11 (by omega)) (fun c11 => ?_)
  refine lv_iload_n hx hb dX6_addSet_14 rfl (lv_at hl 3 rfl) ?_
  refine va_calli (va_runS (As := [.int xc]) (rest := []) ⟨hx, hb, hml, hown, hts⟩ (c_X6_isShaft l xc ) (va_cwS 1 hts (TB_S k_m_X6_50 k_st_X6_isShaft k_in_X6 k_co_X6_isShaft (fun _ h => h)) rfl rfl rfl (by decide +kernel) ⟨Nat.le_of_ble_eq_true rfl, Nat.le_of_ble_eq_true rfl⟩) ⟨tP_blind, tP_of⟩ rfl rfl hl.1 rfl (lv_room (Nat.le_of_ble_eq_true rfl)) dX6_addSet_15 ⟨Nat.le_of_ble_eq_true rfl, Nat.le_of_ble_eq_true rfl⟩) hS (fun q _ h => absurd h id) (fun q h => absurd h id) (fun rs u9 t9 H locs ht9 hvm hw hB hz1 hk1 hS => ?_)
  have hP := P_same hP hk1
  by_cases hs_xc : shf xc
  rotate_left
  · refine t_i (hw.trans (bI_f hs_xc).symm) ?_
    refine b_if_ne hx hb (nI_toIntI (by omega)) dX6_addSet_18 (tgt := 31) (by decide) (fun c18 => absurd c18 (by omega)) (fun c18 => ?_)
    refine thr_54 hx hb hlf hown hts hTX (is := 56) (text := "a shaft is not 0 to 5") (by decide +kernel) hS (by rw [hml]; exact hl.1) dX6_addSet_21 dX6_addSet_24 dX6_addSet_25 dX6_addSet_27 dX6_addSet_30 hxt (Nat.le_of_ble_eq_true rfl) (Nat.le_of_ble_eq_true rfl) (Nat.le_of_ble_eq_true rfl) (Nat.le_of_ble_eq_true rfl) hlocks (Nat.le_of_ble_eq_true rfl) (Nat.le_of_ble_eq_true rfl) (fun t9 hal hsz9 hkk => ?_)
    exact ⟨((d, d1, d2, f1, f2, f, s0), (M, pv, ip, sv, M2, pv2, ip2, sv2, ma, nu, de, ne, di, n, fr)), ⟨rfl, hJ⟩, ⟨by rw [show rs_addSet d xa xb xc xs xr = _ from (cI_t (fun z => by first | exact hs_xa z.1 | exact hs_xb z.2.1 | exact hs_xc z.2.2))]; exact ⟨by decide, rfl⟩, hP.kept (fun k q h => hkk q.1 ((hP k q h).lt)), va_K.moved hal hK, hD⟩, Nat.le_trans hS.1 hsz9, fun q h1 h2 => (hkk q (Nat.lt_of_lt_of_le h1 hS.1)).trans (hS.2.1 q h1 h2)⟩
  refine t_i (hw.trans (bI_t hs_xc).symm) ?_
  refine b_if_ne hx hb (nI_toIntI (by omega)) dX6_addSet_18 (tgt := 31) (by decide) (fun c18 => ?_) (fun c18 => absurd c18 (by omega))
  refine lv_iload_n hx hb dX6_addSet_31 rfl (lv_at hl 1 rfl) ?_
  refine lv_iload_n hx hb dX6_addSet_32 rfl (lv_at hl 2 rfl) ?_
  refine b_icmp_eq hx hb rfl rfl dX6_addSet_33 (tgt := 46) (by decide) (fun c33 => ?_) (fun c33 => ?_)
  · refine thr_61 hx hb hlf hown hts hTX (is := 63) (text := "two of the shafts are the same") (by decide +kernel) hS (by rw [hml]; exact hl.1) dX6_addSet_46 dX6_addSet_49 dX6_addSet_50 dX6_addSet_52 dX6_addSet_55 hxt (Nat.le_of_ble_eq_true rfl) (Nat.le_of_ble_eq_true rfl) (Nat.le_of_ble_eq_true rfl) (Nat.le_of_ble_eq_true rfl) hlocks (Nat.le_of_ble_eq_true rfl) (Nat.le_of_ble_eq_true rfl) (fun t9 hal hsz9 hkk => ?_)
    exact ⟨((d, d1, d2, f1, f2, f, s0), (M, pv, ip, sv, M2, pv2, ip2, sv2, ma, nu, de, ne, di, n, fr)), ⟨rfl, hJ⟩, ⟨by rw [show rs_addSet d xa xb xc xs xr = _ from ((cI_f (fun z => z ⟨hs_xa, hs_xb, hs_xc⟩)).trans (cI_t (by simp only [i32_eq]; omega)))]; exact ⟨by decide, rfl⟩, hP.kept (fun k q h => hkk q.1 ((hP k q h).lt)), va_K.moved hal hK, hD⟩, Nat.le_trans hS.1 hsz9, fun q h1 h2 => (hkk q (Nat.lt_of_lt_of_le h1 hS.1)).trans (hS.2.1 q h1 h2)⟩
  refine lv_iload_n hx hb dX6_addSet_36 rfl (lv_at hl 1 rfl) ?_
  refine lv_iload_n hx hb dX6_addSet_37 rfl (lv_at hl 3 rfl) ?_
  refine b_icmp_eq hx hb rfl rfl dX6_addSet_38 (tgt := 46) (by decide) (fun c38 => ?_) (fun c38 => ?_)
  · refine thr_61 hx hb hlf hown hts hTX (is := 63) (text := "two of the shafts are the same") (by decide +kernel) hS (by rw [hml]; exact hl.1) dX6_addSet_46 dX6_addSet_49 dX6_addSet_50 dX6_addSet_52 dX6_addSet_55 hxt (Nat.le_of_ble_eq_true rfl) (Nat.le_of_ble_eq_true rfl) (Nat.le_of_ble_eq_true rfl) (Nat.le_of_ble_eq_true rfl) hlocks (Nat.le_of_ble_eq_true rfl) (Nat.le_of_ble_eq_true rfl) (fun t9 hal hsz9 hkk => ?_)
    exact ⟨((d, d1, d2, f1, f2, f, s0), (M, pv, ip, sv, M2, pv2, ip2, sv2, ma, nu, de, ne, di, n, fr)), ⟨rfl, hJ⟩, ⟨by rw [show rs_addSet d xa xb xc xs xr = _ from ((cI_f (fun z => z ⟨hs_xa, hs_xb, hs_xc⟩)).trans (cI_t (by simp only [i32_eq]; omega)))]; exact ⟨by decide, rfl⟩, hP.kept (fun k q h => hkk q.1 ((hP k q h).lt)), va_K.moved hal hK, hD⟩, Nat.le_trans hS.1 hsz9, fun q h1 h2 => (hkk q (Nat.lt_of_lt_of_le h1 hS.1)).trans (hS.2.1 q h1 h2)⟩
  refine lv_iload_n hx hb dX6_addSet_41 rfl (lv_at hl 2 rfl) ?_
  refine lv_iload_n hx hb dX6_addSet_42 rfl (lv_at hl 3 rfl) ?_
  refine b_icmp_ne hx hb rfl rfl dX6_addSet_43 (tgt := 56) (by decide) (fun c43 => ?_) (fun c43 => ?_)
  · refine lv_iload hx hb dX6_addSet_56 (lv_at hl 4 rfl) ?_
    refine lv_bipush (v := nI 10) hx hb dX6_addSet_58 (by decide) ?_
    refine b_icmp_lt hx hb rfl (nI_toIntI (by omega)) dX6_addSet_60 (tgt := 70) (by decide) (fun c60 => ?_) (fun c60 => ?_)
    · refine thr_61 hx hb hlf hown hts hTX (is := 66) (text := "the number of teeth of the sun is out of range") (by decide +kernel) hS (by rw [hml]; exact hl.1) dX6_addSet_70 dX6_addSet_73 dX6_addSet_74 dX6_addSet_76 dX6_addSet_79 hxt (Nat.le_of_ble_eq_true rfl) (Nat.le_of_ble_eq_true rfl) (Nat.le_of_ble_eq_true rfl) (Nat.le_of_ble_eq_true rfl) hlocks (Nat.le_of_ble_eq_true rfl) (Nat.le_of_ble_eq_true rfl) (fun t9 hal hsz9 hkk => ?_)
      exact ⟨((d, d1, d2, f1, f2, f, s0), (M, pv, ip, sv, M2, pv2, ip2, sv2, ma, nu, de, ne, di, n, fr)), ⟨rfl, hJ⟩, ⟨by rw [show rs_addSet d xa xb xc xs xr = _ from ((cI_f (fun z => z ⟨hs_xa, hs_xb, hs_xc⟩)).trans ((cI_f (fun z => by simp only [i32_eq] at z; omega)).trans (cI_t (by omega))))]; exact ⟨by decide, rfl⟩, hP.kept (fun k q h => hkk q.1 ((hP k q h).lt)), va_K.moved hal hK, hD⟩, Nat.le_trans hS.1 hsz9, fun q h1 h2 => (hkk q (Nat.lt_of_lt_of_le h1 hS.1)).trans (hS.2.1 q h1 h2)⟩
    refine lv_iload hx hb dX6_addSet_63 (lv_at hl 4 rfl) ?_
    refine lv_bipush (v := nI 40) hx hb dX6_addSet_65 (by decide) ?_
    refine b_icmp_le hx hb rfl (nI_toIntI (by omega)) dX6_addSet_67 (tgt := 80) (by decide) (fun c67 => ?_) (fun c67 => ?_)
    · refine lv_iload hx hb dX6_addSet_80 (lv_at hl 5 rfl) ?_
      refine lv_iload hx hb dX6_addSet_82 (lv_at hl 4 rfl) ?_
      refine b_icmp_le hx hb rfl rfl dX6_addSet_84 (tgt := 94) (by decide) (fun c84 => ?_) (fun c84 => ?_)
      · refine thr_61 hx hb hlf hown hts hTX (is := 68) (text := "the number of teeth of the ring is out of range") (by decide +kernel) hS (by rw [hml]; exact hl.1) dX6_addSet_94 dX6_addSet_97 dX6_addSet_98 dX6_addSet_100 dX6_addSet_103 hxt (Nat.le_of_ble_eq_true rfl) (Nat.le_of_ble_eq_true rfl) (Nat.le_of_ble_eq_true rfl) (Nat.le_of_ble_eq_true rfl) hlocks (Nat.le_of_ble_eq_true rfl) (Nat.le_of_ble_eq_true rfl) (fun t9 hal hsz9 hkk => ?_)
        exact ⟨((d, d1, d2, f1, f2, f, s0), (M, pv, ip, sv, M2, pv2, ip2, sv2, ma, nu, de, ne, di, n, fr)), ⟨rfl, hJ⟩, ⟨by rw [show rs_addSet d xa xb xc xs xr = _ from ((cI_f (fun z => z ⟨hs_xa, hs_xb, hs_xc⟩)).trans ((cI_f (fun z => by simp only [i32_eq] at z; omega)).trans ((cI_f (by omega)).trans (cI_t (by omega)))))]; exact ⟨by decide, rfl⟩, hP.kept (fun k q h => hkk q.1 ((hP k q h).lt)), va_K.moved hal hK, hD⟩, Nat.le_trans hS.1 hsz9, fun q h1 h2 => (hkk q (Nat.lt_of_lt_of_le h1 hS.1)).trans (hS.2.1 q h1 h2)⟩
      refine lv_iload hx hb dX6_addSet_87 (lv_at hl 5 rfl) ?_
      refine lv_bipush (v := nI 100) hx hb dX6_addSet_89 (by decide) ?_
      refine b_icmp_le hx hb rfl (nI_toIntI (by omega)) dX6_addSet_91 (tgt := 104) (by decide) (fun c91 => ?_) (fun c91 => ?_)
      · refine lv_aload_n hx hb dX6_addSet_104 rfl (lv_at hl 0 rfl) ?_
        refine va_get (D := D) (ci := 6) (C := RX6) (T := TX6) (N := 9) hx hb hts iX6 hown hK hP 0 rfl rfl 0 (by decide) (hts _ k_f_X6_12) (fun _ h9 => h9) rfl dX6_addSet_105 ?_
        have hPq := P_perm pm_4 hP
        have hDq := D_perm pm_4 hD
        have hPc := bP0 hPq
        have hDc := bD0 hDq
        refine va_calli (va_runV (As := []) (rest := []) ⟨hx, hb, hml, hown, hts⟩ (c_X0_setCount l D K q d H.size ) (cwV 0 hts (TB_V k_m_X6_70 k_im_X0_setCount k_se_X0_setCount k_in_X0 k_co_X0_setCount (fun _ h => h)) rfl rfl rfl (by decide +kernel) ⟨Nat.le_of_ble_eq_true rfl, Nat.le_of_ble_eq_true rfl⟩) ⟨cP_blind, va_recv hK hPc (ci := 0) (q0 := 0) rfl rfl, cP_of hPc hK hDc⟩ rfl rfl hl.1 rfl (lv_room (Nat.le_of_ble_eq_true rfl)) dX6_addSet_108 ⟨Nat.le_of_ble_eq_true rfl, Nat.le_of_ble_eq_true rfl⟩) hS (fun q _ h => absurd h id) (fun q h => absurd h id) (fun rc u9 t9 H locs ht9 hvm hw hB hz1 hk1 hS => ?_)
        have hP := P_same hP hk1
        refine t_i (hw.trans h0) ?_
        refine lv_iconst (v := nI 3) hx hb dX6_addSet_111 (by decide) ?_
        refine b_icmp_lt hx hb (nI_toIntI (by omega)) (nI_toIntI (by omega)) dX6_addSet_112 (tgt := 125) (by decide) (fun c112 => ?_) (fun c112 => ?_)
        · refine lv_aload_n hx hb dX6_addSet_125 rfl (lv_at hl 0 rfl) ?_
          refine va_get (D := D) (ci := 6) (C := RX6) (T := TX6) (N := 9) hx hb hts iX6 hown hK hP 0 rfl rfl 8 (by decide) (hts _ k_f_X6_46) (fun _ h9 => h9) rfl dX6_addSet_126 ?_
          have hPq := P_perm pm_1 hP
          have hDq := D_perm pm_1 hD
          have hPc := bP0 hPq
          have hDc := bD0 hDq
          have hFc := bF0 hDq hS hA
          refine va_callv (va_runV (As := []) (rest := []) ⟨hx, hb, hml, hown, hts⟩ (c_X2_forget l D K g ma nu de ne di n fr H.size ) (cwV 0 hts (TB_V k_m_X6_79 k_im_X2_forget k_se_X2_forget k_in_X2 k_co_X2_forget (fun _ h => h)) rfl rfl rfl (by decide +kernel) ⟨Nat.le_of_ble_eq_true rfl, Nat.le_of_ble_eq_true rfl⟩) ⟨cP_blind, va_recv hK hPc (ci := 2) (q0 := 0) rfl rfl, cP_of hPc hK hDc⟩ rfl rfl hl.1 rfl (lv_room (Nat.le_of_ble_eq_true rfl)) dX6_addSet_129 ⟨Nat.le_of_ble_eq_true rfl, Nat.le_of_ble_eq_true rfl⟩) hS (fun q _ h => hFc q h) hFc (fun u9 t9 H locs ht9 hvm hw hB hz1 hk1 hS => ?_)
          obtain ⟨hP1, hK1, hD1⟩ := hB
          rw [ht9] at hP1
          obtain ⟨hPq1, hDq1⟩ := bJ0 hPq hDq hk1 hFc hP1 hD1
          have hP := P_perm (pm_1 (X0 := _)).symm hPq1
          have hD := D_perm (pm_1 (X0 := _)).symm hDq1
          have hP : va_P D vwCl ([(ad 0, .inr (6, [.ref (q 0), .ref (q1 0), .ref (q2 0), .int f1, .int f2, .ref (ad 1), .ref (ad 3), .ref (ad 8), .ref (g 0)]))] ++ (WG K g ma nu de ne di (nI n) (nI 0) ++ ([(ad 3, .inr (4, [.ref (ad 4)]))] ++ (WE K (ad 4) (ad 5) (ad 6) (ad 7) r M pv ip sv ++ (WD K q d ++ ([(ad 8, .inr (5, [.ref (ad 9)]))] ++ (WE K (ad 9) (ad 10) (ad 11) (ad 12) r2 M2 pv2 ip2 sv2 ++ (WH K (ad 1) (ad 2) f (nI s0) ++ (WD K q1 d1 ++ (WD K q2 d2)))))))))) H := hP
          have hD : va_D A ([(ad 0, .inr (6, [.ref (q 0), .ref (q1 0), .ref (q2 0), .int f1, .int f2, .ref (ad 1), .ref (ad 3), .ref (ad 8), .ref (g 0)]))] ++ (WG K g ma nu de ne di (nI n) (nI 0) ++ ([(ad 3, .inr (4, [.ref (ad 4)]))] ++ (WE K (ad 4) (ad 5) (ad 6) (ad 7) r M pv ip sv ++ (WD K q d ++ ([(ad 8, .inr (5, [.ref (ad 9)]))] ++ (WE K (ad 9) (ad 10) (ad 11) (ad 12) r2 M2 pv2 ip2 sv2 ++ (WH K (ad 1) (ad 2) f (nI s0) ++ (WD K q1 d1 ++ (WD K q2 d2)))))))))) := hD
          refine lv_aload_n hx hb dX6_addSet_132 rfl (lv_at hl 0 rfl) ?_
          refine va_get (D := D) (ci := 6) (C := RX6) (T := TX6) (N := 9) hx hb hts iX6 hown hK hP 0 rfl rfl 0 (by decide) (hts _ k_f_X6_12) (fun _ h9 => h9) rfl dX6_addSet_133 ?_
          refine lv_iload_n hx hb dX6_addSet_136 rfl (lv_at hl 1 rfl) ?_
          refine lv_iload_n hx hb dX6_addSet_137 rfl (lv_at hl 2 rfl) ?_
          refine lv_iload_n hx hb dX6_addSet_138 rfl (lv_at hl 3 rfl) ?_
          refine lv_iload hx hb dX6_addSet_139 (lv_at hl 4 rfl) ?_
          refine lv_iload hx hb dX6_addSet_141 (lv_at hl 5 rfl) ?_
          have hPq := P_perm pm_4 hP
          have hDq := D_perm pm_4 hD
          have hPc := bP0 hPq
          have hDc := bD0 hDq
          have hFc := bF0 hDq hS hA
          refine va_callv (va_runV (As := [.int xa, .int xb, .int xc, .int xs, .int xr]) (rest := []) ⟨hx, hb, hml, hown, hts⟩ (c_X0_appendSet l D K q d ns xa xb xc xs xr H.size (by omega) h0) (cwV 5 hts (TB_V k_m_X6_82 k_im_X0_appendSet k_se_X0_appendSet k_in_X0 k_co_X0_appendSet (fun _ h => h)) rfl rfl rfl (by decide +kernel) ⟨Nat.le_of_ble_eq_true rfl, Nat.le_of_ble_eq_true rfl⟩) ⟨cP_blind, va_recv hK hPc (ci := 0) (q0 := 0) rfl rfl, cP_of hPc hK hDc⟩ rfl rfl hl.1 rfl (lv_room (Nat.le_of_ble_eq_true rfl)) dX6_addSet_143 ⟨Nat.le_of_ble_eq_true rfl, Nat.le_of_ble_eq_true rfl⟩) hS (fun q _ h => hFc q h) hFc (fun u9 t9 H locs ht9 hvm hw hB hz1 hk1 hS => ?_)
          obtain ⟨hP1, hK1, hD1⟩ := hB
          rw [ht9] at hP1
          obtain ⟨hPq1, hDq1⟩ := bJ0 hPq hDq hk1 hFc hP1 hD1
          have hP := P_perm (pm_4 (X0 := _)).symm hPq1
          have hD := D_perm (pm_4 (X0 := _)).symm hDq1
          have hP : va_P D vwCl ([(ad 0, .inr (6, [.ref (q 0), .ref (q1 0), .ref (q2 0), .int f1, .int f2, .ref (ad 1), .ref (ad 3), .ref (ad 8), .ref (g 0)]))] ++ (WG K g ma nu de ne di (nI n) (nI 0) ++ ([(ad 3, .inr (4, [.ref (ad 4)]))] ++ (WE K (ad 4) (ad 5) (ad 6) (ad 7) r M pv ip sv ++ (WD K q (dS d ns xa xb xc xs xr) ++ ([(ad 8, .inr (5, [.ref (ad 9)]))] ++ (WE K (ad 9) (ad 10) (ad 11) (ad 12) r2 M2 pv2 ip2 sv2 ++ (WH K (ad 1) (ad 2) f (nI s0) ++ (WD K q1 d1 ++ (WD K q2 d2)))))))))) H := hP
          have hD : va_D A ([(ad 0, .inr (6, [.ref (q 0), .ref (q1 0), .ref (q2 0), .int f1, .int f2, .ref (ad 1), .ref (ad 3), .ref (ad 8), .ref (g 0)]))] ++ (WG K g ma nu de ne di (nI n) (nI 0) ++ ([(ad 3, .inr (4, [.ref (ad 4)]))] ++ (WE K (ad 4) (ad 5) (ad 6) (ad 7) r M pv ip sv ++ (WD K q (dS d ns xa xb xc xs xr) ++ ([(ad 8, .inr (5, [.ref (ad 9)]))] ++ (WE K (ad 9) (ad 10) (ad 11) (ad 12) r2 M2 pv2 ip2 sv2 ++ (WH K (ad 1) (ad 2) f (nI s0) ++ (WD K q1 d1 ++ (WD K q2 d2)))))))))) := hD
          refine lv_aload_n hx hb dX6_addSet_146 rfl (lv_at hl 0 rfl) ?_
          refine va_get (D := D) (ci := 6) (C := RX6) (T := TX6) (N := 9) hx hb hts iX6 hown hK hP 0 rfl rfl 0 (by decide) (hts _ k_f_X6_12) (fun _ h9 => h9) rfl dX6_addSet_147 ?_
          have hPq := P_perm pm_4 hP
          have hDq := D_perm pm_4 hD
          have hPc := bP0 hPq
          have hDc := bD0 hDq
          refine va_calli (va_runV (As := []) (rest := []) ⟨hx, hb, hml, hown, hts⟩ (c_X0_setCount l D K q (dS d ns xa xb xc xs xr) H.size ) (cwV 0 hts (TB_V k_m_X6_70 k_im_X0_setCount k_se_X0_setCount k_in_X0 k_co_X0_setCount (fun _ h => h)) rfl rfl rfl (by decide +kernel) ⟨Nat.le_of_ble_eq_true rfl, Nat.le_of_ble_eq_true rfl⟩) ⟨cP_blind, va_recv hK hPc (ci := 0) (q0 := 0) rfl rfl, cP_of hPc hK hDc⟩ rfl rfl hl.1 rfl (lv_room (Nat.le_of_ble_eq_true rfl)) dX6_addSet_150 ⟨Nat.le_of_ble_eq_true rfl, Nat.le_of_ble_eq_true rfl⟩) hS (fun q _ h => absurd h id) (fun q h => absurd h id) (fun rc u9 t9 H locs ht9 hvm hw hB hz1 hk1 hS => ?_)
          have hP := P_same hP hk1
          refine t_i (hw.trans rfl) ?_
          refine vx_ret ?_
          exact W.widen (k := 1) (n := 6) (Nat.le_of_ble_eq_true rfl) (Nat.le_of_ble_eq_true rfl) (W.iret (v := nI (ns + 1)) hx hb hr (fun t9 ht9 hW => ⟨⟨nI (ns + 1), (((dS d ns xa xb xc xs xr), d1, d2, f1, f2, f, s0), (M, pv, ip, sv, M2, pv2, ip2, sv2, ma, nu, de, ne, di, n, (nI 0))), rfl, ⟨by rw [hn1], ⟨DV_dS hd (by omega) h0 ⟨hs_xa, hs_xb, hs_xc⟩ (fun z => by simp only [i32_eq] at z; omega) (by omega) (by omega), hd1, hd2, hf1, hf2, hs20, hhf⟩, ⟨hn64, Or.inl rfl, fun z => absurd z nI01⟩, ((cI_f (fun z => z ⟨hs_xa, hs_xb, hs_xc⟩)).trans ((cI_f (fun z => by simp only [i32_eq] at z; omega)).trans ((cI_f (by omega)).trans ((cI_f (by omega)).trans ((cI_f (by rw [hn1]; omega)).trans (r0 (by rw [hn1, nI_toIntI (by omega)]; rfl)))))))⟩, by rw [ht9]; exact hP, va_K.moved hW.alike hK, hD⟩, hS.F ht9⟩) hS.2.2 dX6_addSet_153)
        refine thr_74 hx hb hlf hown hts hTX (is := 76) (text := "there are 3 gear sets") (by decide +kernel) hS (by rw [hml]; exact hl.1) dX6_addSet_115 dX6_addSet_118 dX6_addSet_119 dX6_addSet_121 dX6_addSet_124 hxt (Nat.le_of_ble_eq_true rfl) (Nat.le_of_ble_eq_true rfl) (Nat.le_of_ble_eq_true rfl) (Nat.le_of_ble_eq_true rfl) hlocks (Nat.le_of_ble_eq_true rfl) (Nat.le_of_ble_eq_true rfl) (fun t9 hal hsz9 hkk => ?_)
        exact ⟨((d, d1, d2, f1, f2, f, s0), (M, pv, ip, sv, M2, pv2, ip2, sv2, ma, nu, de, ne, di, n, fr)), ⟨rfl, hJ⟩, ⟨by rw [show rs_addSet d xa xb xc xs xr = _ from ((cI_f (fun z => z ⟨hs_xa, hs_xb, hs_xc⟩)).trans ((cI_f (fun z => by simp only [i32_eq] at z; omega)).trans ((cI_f (by omega)).trans ((cI_f (by omega)).trans (cI_t (by rw [hn1]; omega))))))]; exact ⟨by decide, rfl⟩, hP.kept (fun k q h => hkk q.1 ((hP k q h).lt)), va_K.moved hal hK, hD⟩, Nat.le_trans hS.1 hsz9, fun q h1 h2 => (hkk q (Nat.lt_of_lt_of_le h1 hS.1)).trans (hS.2.1 q h1 h2)⟩
      refine thr_61 hx hb hlf hown hts hTX (is := 68) (text := "the number of teeth of the ring is out of range") (by decide +kernel) hS (by rw [hml]; exact hl.1) dX6_addSet_94 dX6_addSet_97 dX6_addSet_98 dX6_addSet_100 dX6_addSet_103 hxt (Nat.le_of_ble_eq_true rfl) (Nat.le_of_ble_eq_true rfl) (Nat.le_of_ble_eq_true rfl) (Nat.le_of_ble_eq_true rfl) hlocks (Nat.le_of_ble_eq_true rfl) (Nat.le_of_ble_eq_true rfl) (fun t9 hal hsz9 hkk => ?_)
      exact ⟨((d, d1, d2, f1, f2, f, s0), (M, pv, ip, sv, M2, pv2, ip2, sv2, ma, nu, de, ne, di, n, fr)), ⟨rfl, hJ⟩, ⟨by rw [show rs_addSet d xa xb xc xs xr = _ from ((cI_f (fun z => z ⟨hs_xa, hs_xb, hs_xc⟩)).trans ((cI_f (fun z => by simp only [i32_eq] at z; omega)).trans ((cI_f (by omega)).trans (cI_t (by omega)))))]; exact ⟨by decide, rfl⟩, hP.kept (fun k q h => hkk q.1 ((hP k q h).lt)), va_K.moved hal hK, hD⟩, Nat.le_trans hS.1 hsz9, fun q h1 h2 => (hkk q (Nat.lt_of_lt_of_le h1 hS.1)).trans (hS.2.1 q h1 h2)⟩
    refine thr_61 hx hb hlf hown hts hTX (is := 66) (text := "the number of teeth of the sun is out of range") (by decide +kernel) hS (by rw [hml]; exact hl.1) dX6_addSet_70 dX6_addSet_73 dX6_addSet_74 dX6_addSet_76 dX6_addSet_79 hxt (Nat.le_of_ble_eq_true rfl) (Nat.le_of_ble_eq_true rfl) (Nat.le_of_ble_eq_true rfl) (Nat.le_of_ble_eq_true rfl) hlocks (Nat.le_of_ble_eq_true rfl) (Nat.le_of_ble_eq_true rfl) (fun t9 hal hsz9 hkk => ?_)
    exact ⟨((d, d1, d2, f1, f2, f, s0), (M, pv, ip, sv, M2, pv2, ip2, sv2, ma, nu, de, ne, di, n, fr)), ⟨rfl, hJ⟩, ⟨by rw [show rs_addSet d xa xb xc xs xr = _ from ((cI_f (fun z => z ⟨hs_xa, hs_xb, hs_xc⟩)).trans ((cI_f (fun z => by simp only [i32_eq] at z; omega)).trans (cI_t (by omega))))]; exact ⟨by decide, rfl⟩, hP.kept (fun k q h => hkk q.1 ((hP k q h).lt)), va_K.moved hal hK, hD⟩, Nat.le_trans hS.1 hsz9, fun q h1 h2 => (hkk q (Nat.lt_of_lt_of_le h1 hS.1)).trans (hS.2.1 q h1 h2)⟩
  refine thr_61 hx hb hlf hown hts hTX (is := 63) (text := "two of the shafts are the same") (by decide +kernel) hS (by rw [hml]; exact hl.1) dX6_addSet_46 dX6_addSet_49 dX6_addSet_50 dX6_addSet_52 dX6_addSet_55 hxt (Nat.le_of_ble_eq_true rfl) (Nat.le_of_ble_eq_true rfl) (Nat.le_of_ble_eq_true rfl) (Nat.le_of_ble_eq_true rfl) hlocks (Nat.le_of_ble_eq_true rfl) (Nat.le_of_ble_eq_true rfl) (fun t9 hal hsz9 hkk => ?_)
  exact ⟨((d, d1, d2, f1, f2, f, s0), (M, pv, ip, sv, M2, pv2, ip2, sv2, ma, nu, de, ne, di, n, fr)), ⟨rfl, hJ⟩, ⟨by rw [show rs_addSet d xa xb xc xs xr = _ from ((cI_f (fun z => z ⟨hs_xa, hs_xb, hs_xc⟩)).trans (cI_t (by simp only [i32_eq]; omega)))]; exact ⟨by decide, rfl⟩, hP.kept (fun k q h => hkk q.1 ((hP k q h).lt)), va_K.moved hal hK, hD⟩, Nat.le_trans hS.1 hsz9, fun q h1 h2 => (hkk q (Nat.lt_of_lt_of_le h1 hS.1)).trans (hS.2.1 q h1 h2)⟩
set_option maxHeartbeats 4000000 in
set_option maxRecDepth 100000 in
theorem c_X6_addBrake (l : Launch) (hlf : l.stackTraces = false) (D : va_G) (K : Nat → ClassId) (ad q q1 q2 g r r2 : Nat → Nat) (v : CV) (i : CI) (xa : Int32) (sz : Nat) (hI : IV v) (hJ : II v.1 i)  : vx_Met l yX6_addBrake (.code yX6_addBrake cX6_addBrake 2 (some .int) :: TB) ({ frames := 7, cells := 1, slots := 6, locals := 150 } : Room) (va_Pc [.ref (ad 0), .int xa] (cPT D K (WX K ad q q1 q2 g r r2 v i) sz)) (va_Qi (fun (z : Int32) (u : CV × CI) => u.1 = (dE v.1 (dn v.1 8 1) xa (-1), v.2) ∧ IV u.1 ∧ II u.1.1 u.2 ∧ rs_addBrake v.1 xa = (0, z.toInt)) (fun (u : CV × CI) t => cB D K (va_A (WX K ad q q1 q2 g r r2 v i) sz) (WX K ad q q1 q2 g r r2 u.1 u.2) t) (va_A (WX K ad q q1 q2 g r r2 v i) sz)) (vx_X (fun (u : CV × CI) => u.1 = v ∧ II u.1.1 u.2) (fun E (u : CV × CI) t => exc [eIO, eIS] (rs_addBrake v.1 xa).1 E ∧ cB D K (va_A (WX K ad q q1 q2 g r r2 v i) sz) (WX K ad q q1 q2 g r r2 u.1 u.2) t) (va_A (WX K ad q q1 q2 g r r2 v i) sz)) 1 6 (va_A (WX K ad q q1 q2 g r r2 v i) sz) := by
  refine vx_ofW (cc := cX6_addBrake) (maxL := 2) (ret := (some .int)) (by decide) rfl ?_
  intro p e s m args below meth c s₁ B hml hxt hv
  obtain ⟨rfl, ⟨hsz, hP, hK, hD0⟩, hTX⟩ := hv
  have hx := B.exec
  have hb := B.bytes
  have hr := B.returns
  have hts := hts_tl (atoms_spec (ws := (.code yX6_addBrake cX6_addBrake 2 (some .int) :: TB)) B.pre)
  have hown : s.vm.findClass RX6 = some m.cls := findClass_of_methodNamed B.named
  have hlocks := B.notSynchronized
  subst hsz
  have hD := hD0.self (sz := s.heap.size)
  generalize hAe : (va_A (WX K ad q q1 q2 g r r2 v i) s.heap.size) = A at hD hTX ⊢
  have hA : ∀ q : Nat, s.heap.size ≤ q → A q := fun q h => by rw [← hAe]; exact Or.inr h
  have hS : va_S A s.heap s.heap [] := va_S.rf
  clear hAe hD0
  obtain ⟨d, d1, d2, f1, f2, f, s0⟩ := v
  obtain ⟨M, pv, ip, sv, M2, pv2, ip2, sv2, ma, nu, de, ne, di, n, fr⟩ := i
  obtain ⟨hd, hd1, hd2, hf1, hf2, hs20, hhf⟩ := id hI
  obtain ⟨hn64, hfr, hT⟩ := id hJ
  dsimp only at hd hd1 hd2 hf1 hf2 hs20 hhf hn64 hfr hT
  obtain ⟨ns, m1, ge, hns, hm, hge, h0, h1, h2, hs9, he9⟩ := id hd
  have hm1 : dn d 8 1 = m1 := dn_of h1 (by omega)
  have hn1 : dn d 8 0 = ns := dn_of h0 (by omega)
  have hp6 : 2 ^ m1 ≤ 64 := Nat.pow_le_pow_right (show 0 < 2 by decide) hm
  have hg1 : dn d 8 2 = ge := dn_of h2 (by omega)
  have hP : va_P D vwCl ([(ad 0, .inr (6, [.ref (q 0), .ref (q1 0), .ref (q2 0), .int f1, .int f2, .ref (ad 1), .ref (ad 3), .ref (ad 8), .ref (g 0)]))] ++ (WG K g ma nu de ne di (nI n) fr ++ ([(ad 3, .inr (4, [.ref (ad 4)]))] ++ (WE K (ad 4) (ad 5) (ad 6) (ad 7) r M pv ip sv ++ (WD K q d ++ ([(ad 8, .inr (5, [.ref (ad 9)]))] ++ (WE K (ad 9) (ad 10) (ad 11) (ad 12) r2 M2 pv2 ip2 sv2 ++ (WH K (ad 1) (ad 2) f (nI s0) ++ (WD K q1 d1 ++ (WD K q2 d2)))))))))) s.heap := hP
  have hD : va_D A ([(ad 0, .inr (6, [.ref (q 0), .ref (q1 0), .ref (q2 0), .int f1, .int f2, .ref (ad 1), .ref (ad 3), .ref (ad 8), .ref (g 0)]))] ++ (WG K g ma nu de ne di (nI n) fr ++ ([(ad 3, .inr (4, [.ref (ad 4)]))] ++ (WE K (ad 4) (ad 5) (ad 6) (ad 7) r M pv ip sv ++ (WD K q d ++ ([(ad 8, .inr (5, [.ref (ad 9)]))] ++ (WE K (ad 9) (ad 10) (ad 11) (ad 12) r2 M2 pv2 ip2 sv2 ++ (WH K (ad 1) (ad 2) f (nI s0) ++ (WD K q1 d1 ++ (WD K q2 d2)))))))))) := hD
  have hl := lv_entry ([.ref (ad 0), .int xa]) (n := 2) (Nat.le_of_ble_eq_true rfl)
  rw [lg_entry_eq]
  generalize (lg_sl ([.ref (ad 0), .int xa]) ++ List.replicate (2 - (lg_sl ([.ref (ad 0), .int xa])).length) Slot.unset).toArray = ls at hl ⊢
  have hl : lv_has ls 2 [(0, .ref (ad 0)), (1, .int xa)] := hl
  refine lv_iload_n hx hb dX6_addBrake_0 rfl (lv_at hl 1 rfl) ?_
  refine va_calli (va_runS (As := [.int xa]) (rest := []) ⟨hx, hb, hml, hown, hts⟩ (c_X6_isShaft l xa ) (va_cwS 1 hts (TB_S k_m_X6_50 k_st_X6_isShaft k_in_X6 k_co_X6_isShaft (fun _ h => h)) rfl rfl rfl (by decide +kernel) ⟨Nat.le_of_ble_eq_true rfl, Nat.le_of_ble_eq_true rfl⟩) ⟨tP_blind, tP_of⟩ rfl rfl hl.1 rfl (lv_room (Nat.le_of_ble_eq_true rfl)) dX6_addBrake_1 ⟨Nat.le_of_ble_eq_true rfl, Nat.le_of_ble_eq_true rfl⟩) hS (fun q _ h => absurd h id) (fun q h => absurd h id) (fun rs u9 t9 H locs ht9 hvm hw hB hz1 hk1 hS => ?_)
  have hP := P_same hP hk1
  by_cases hs_xa : shf xa
  rotate_left
  · refine t_i (hw.trans (bI_f hs_xa).symm) ?_
    refine b_if_ne hx hb (nI_toIntI (by omega)) dX6_addBrake_4 (tgt := 17) (by decide) (fun c4 => absurd c4 (by omega)) (fun c4 => ?_)
    refine thr_54 hx hb hlf hown hts hTX (is := 86) (text := "the shaft is not 0 to 5") (by decide +kernel) hS (by rw [hml]; exact hl.1) dX6_addBrake_7 dX6_addBrake_10 dX6_addBrake_11 dX6_addBrake_13 dX6_addBrake_16 hxt (Nat.le_of_ble_eq_true rfl) (Nat.le_of_ble_eq_true rfl) (Nat.le_of_ble_eq_true rfl) (Nat.le_of_ble_eq_true rfl) hlocks (Nat.le_of_ble_eq_true rfl) (Nat.le_of_ble_eq_true rfl) (fun t9 hal hsz9 hkk => ?_)
    exact ⟨((d, d1, d2, f1, f2, f, s0), (M, pv, ip, sv, M2, pv2, ip2, sv2, ma, nu, de, ne, di, n, fr)), ⟨rfl, hJ⟩, ⟨by rw [show rs_addBrake d xa = _ from (cI_t (hs_xa))]; exact ⟨by decide, rfl⟩, hP.kept (fun k q h => hkk q.1 ((hP k q h).lt)), va_K.moved hal hK, hD⟩, Nat.le_trans hS.1 hsz9, fun q h1 h2 => (hkk q (Nat.lt_of_lt_of_le h1 hS.1)).trans (hS.2.1 q h1 h2)⟩
  refine t_i (hw.trans (bI_t hs_xa).symm) ?_
  refine b_if_ne hx hb (nI_toIntI (by omega)) dX6_addBrake_4 (tgt := 17) (by decide) (fun c4 => ?_) (fun c4 => absurd c4 (by omega))
  refine lv_aload_n hx hb dX6_addBrake_17 rfl (lv_at hl 0 rfl) ?_
  refine va_get (D := D) (ci := 6) (C := RX6) (T := TX6) (N := 9) hx hb hts iX6 hown hK hP 0 rfl rfl 0 (by decide) (hts _ k_f_X6_12) (fun _ h9 => h9) rfl dX6_addBrake_18 ?_
  have hPq := P_perm pm_4 hP
  have hDq := D_perm pm_4 hD
  have hPc := bP0 hPq
  have hDc := bD0 hDq
  refine va_calli (va_runV (As := []) (rest := []) ⟨hx, hb, hml, hown, hts⟩ (c_X0_elementCount l D K q d H.size ) (cwV 0 hts (TB_V k_m_X6_88 k_im_X0_elementCount k_se_X0_elementCount k_in_X0 k_co_X0_elementCount (fun _ h => h)) rfl rfl rfl (by decide +kernel) ⟨Nat.le_of_ble_eq_true rfl, Nat.le_of_ble_eq_true rfl⟩) ⟨cP_blind, va_recv hK hPc (ci := 0) (q0 := 0) rfl rfl, cP_of hPc hK hDc⟩ rfl rfl hl.1 rfl (lv_room (Nat.le_of_ble_eq_true rfl)) dX6_addBrake_21 ⟨Nat.le_of_ble_eq_true rfl, Nat.le_of_ble_eq_true rfl⟩) hS (fun q _ h => absurd h id) (fun q h => absurd h id) (fun rc u9 t9 H locs ht9 hvm hw hB hz1 hk1 hS => ?_)
  have hP := P_same hP hk1
  refine t_i (hw.trans h1) ?_
  refine lv_bipush (v := nI 6) hx hb dX6_addBrake_24 (by decide) ?_
  refine b_icmp_lt hx hb (nI_toIntI (by omega)) (nI_toIntI (by omega)) dX6_addBrake_26 (tgt := 39) (by decide) (fun c26 => ?_) (fun c26 => ?_)
  · refine lv_aload_n hx hb dX6_addBrake_39 rfl (lv_at hl 0 rfl) ?_
    refine va_get (D := D) (ci := 6) (C := RX6) (T := TX6) (N := 9) hx hb hts iX6 hown hK hP 0 rfl rfl 8 (by decide) (hts _ k_f_X6_46) (fun _ h9 => h9) rfl dX6_addBrake_40 ?_
    have hPq := P_perm pm_1 hP
    have hDq := D_perm pm_1 hD
    have hPc := bP0 hPq
    have hDc := bD0 hDq
    have hFc := bF0 hDq hS hA
    refine va_callv (va_runV (As := []) (rest := []) ⟨hx, hb, hml, hown, hts⟩ (c_X2_forget l D K g ma nu de ne di n fr H.size ) (cwV 0 hts (TB_V k_m_X6_79 k_im_X2_forget k_se_X2_forget k_in_X2 k_co_X2_forget (fun _ h => h)) rfl rfl rfl (by decide +kernel) ⟨Nat.le_of_ble_eq_true rfl, Nat.le_of_ble_eq_true rfl⟩) ⟨cP_blind, va_recv hK hPc (ci := 2) (q0 := 0) rfl rfl, cP_of hPc hK hDc⟩ rfl rfl hl.1 rfl (lv_room (Nat.le_of_ble_eq_true rfl)) dX6_addBrake_43 ⟨Nat.le_of_ble_eq_true rfl, Nat.le_of_ble_eq_true rfl⟩) hS (fun q _ h => hFc q h) hFc (fun u9 t9 H locs ht9 hvm hw hB hz1 hk1 hS => ?_)
    obtain ⟨hP1, hK1, hD1⟩ := hB
    rw [ht9] at hP1
    obtain ⟨hPq1, hDq1⟩ := bJ0 hPq hDq hk1 hFc hP1 hD1
    have hP := P_perm (pm_1 (X0 := _)).symm hPq1
    have hD := D_perm (pm_1 (X0 := _)).symm hDq1
    have hP : va_P D vwCl ([(ad 0, .inr (6, [.ref (q 0), .ref (q1 0), .ref (q2 0), .int f1, .int f2, .ref (ad 1), .ref (ad 3), .ref (ad 8), .ref (g 0)]))] ++ (WG K g ma nu de ne di (nI n) (nI 0) ++ ([(ad 3, .inr (4, [.ref (ad 4)]))] ++ (WE K (ad 4) (ad 5) (ad 6) (ad 7) r M pv ip sv ++ (WD K q d ++ ([(ad 8, .inr (5, [.ref (ad 9)]))] ++ (WE K (ad 9) (ad 10) (ad 11) (ad 12) r2 M2 pv2 ip2 sv2 ++ (WH K (ad 1) (ad 2) f (nI s0) ++ (WD K q1 d1 ++ (WD K q2 d2)))))))))) H := hP
    have hD : va_D A ([(ad 0, .inr (6, [.ref (q 0), .ref (q1 0), .ref (q2 0), .int f1, .int f2, .ref (ad 1), .ref (ad 3), .ref (ad 8), .ref (g 0)]))] ++ (WG K g ma nu de ne di (nI n) (nI 0) ++ ([(ad 3, .inr (4, [.ref (ad 4)]))] ++ (WE K (ad 4) (ad 5) (ad 6) (ad 7) r M pv ip sv ++ (WD K q d ++ ([(ad 8, .inr (5, [.ref (ad 9)]))] ++ (WE K (ad 9) (ad 10) (ad 11) (ad 12) r2 M2 pv2 ip2 sv2 ++ (WH K (ad 1) (ad 2) f (nI s0) ++ (WD K q1 d1 ++ (WD K q2 d2)))))))))) := hD
    refine lv_aload_n hx hb dX6_addBrake_46 rfl (lv_at hl 0 rfl) ?_
    refine va_get (D := D) (ci := 6) (C := RX6) (T := TX6) (N := 9) hx hb hts iX6 hown hK hP 0 rfl rfl 0 (by decide) (hts _ k_f_X6_12) (fun _ h9 => h9) rfl dX6_addBrake_47 ?_
    refine lv_iload_n hx hb dX6_addBrake_50 rfl (lv_at hl 1 rfl) ?_
    refine lv_iconst (v := (-1)) hx hb dX6_addBrake_51 (by decide) ?_
    have hPq := P_perm pm_4 hP
    have hDq := D_perm pm_4 hD
    have hPc := bP0 hPq
    have hDc := bD0 hDq
    have hFc := bF0 hDq hS hA
    refine va_calli (va_runV (As := [.int xa, .int (-1)]) (rest := []) ⟨hx, hb, hml, hown, hts⟩ (c_X0_appendElement l D K q d m1 xa (-1) H.size (by omega) h1) (cwV 2 hts (TB_V k_m_X6_93 k_im_X0_appendElement k_se_X0_appendElement k_in_X0 k_co_X0_appendElement (fun _ h => h)) rfl rfl rfl (by decide +kernel) ⟨Nat.le_of_ble_eq_true rfl, Nat.le_of_ble_eq_true rfl⟩) ⟨cP_blind, va_recv hK hPc (ci := 0) (q0 := 0) rfl rfl, cP_of hPc hK hDc⟩ rfl rfl hl.1 rfl (lv_room (Nat.le_of_ble_eq_true rfl)) dX6_addBrake_52 ⟨Nat.le_of_ble_eq_true rfl, Nat.le_of_ble_eq_true rfl⟩) hS (fun q _ h => hFc q h) hFc (fun re u9 t9 H locs ht9 hvm hw hB hz1 hk1 hS => ?_)
    obtain ⟨hP1, hK1, hD1⟩ := hB
    rw [ht9] at hP1
    obtain ⟨hPq1, hDq1⟩ := bJ0 hPq hDq hk1 hFc hP1 hD1
    have hP := P_perm (pm_4 (X0 := _)).symm hPq1
    have hD := D_perm (pm_4 (X0 := _)).symm hDq1
    have hP : va_P D vwCl ([(ad 0, .inr (6, [.ref (q 0), .ref (q1 0), .ref (q2 0), .int f1, .int f2, .ref (ad 1), .ref (ad 3), .ref (ad 8), .ref (g 0)]))] ++ (WG K g ma nu de ne di (nI n) (nI 0) ++ ([(ad 3, .inr (4, [.ref (ad 4)]))] ++ (WE K (ad 4) (ad 5) (ad 6) (ad 7) r M pv ip sv ++ (WD K q (dE d m1 xa (-1)) ++ ([(ad 8, .inr (5, [.ref (ad 9)]))] ++ (WE K (ad 9) (ad 10) (ad 11) (ad 12) r2 M2 pv2 ip2 sv2 ++ (WH K (ad 1) (ad 2) f (nI s0) ++ (WD K q1 d1 ++ (WD K q2 d2)))))))))) H := hP
    have hD : va_D A ([(ad 0, .inr (6, [.ref (q 0), .ref (q1 0), .ref (q2 0), .int f1, .int f2, .ref (ad 1), .ref (ad 3), .ref (ad 8), .ref (g 0)]))] ++ (WG K g ma nu de ne di (nI n) (nI 0) ++ ([(ad 3, .inr (4, [.ref (ad 4)]))] ++ (WE K (ad 4) (ad 5) (ad 6) (ad 7) r M pv ip sv ++ (WD K q (dE d m1 xa (-1)) ++ ([(ad 8, .inr (5, [.ref (ad 9)]))] ++ (WE K (ad 9) (ad 10) (ad 11) (ad 12) r2 M2 pv2 ip2 sv2 ++ (WH K (ad 1) (ad 2) f (nI s0) ++ (WD K q1 d1 ++ (WD K q2 d2)))))))))) := hD
    refine t_i hw ?_
    refine vx_ret ?_
    exact W.widen (k := 1) (n := 6) (Nat.le_of_ble_eq_true rfl) (Nat.le_of_ble_eq_true rfl) (W.iret (v := nI m1) hx hb hr (fun t9 ht9 hW => ⟨⟨nI m1, (((dE d m1 xa (-1)), d1, d2, f1, f2, f, s0), (M, pv, ip, sv, M2, pv2, ip2, sv2, ma, nu, de, ne, di, n, (nI 0))), rfl, ⟨by rw [hm1], ⟨DV_dE hd (by omega) h1 hs_xa (Or.inl rfl), hd1, hd2, hf1, hf2, hs20, fun j hj => by
      obtain ⟨z, hz, e9⟩ := hhf j hj
      rw [hm1] at hz
      have e8 : dn (dE d m1 xa (-1)) 8 1 = m1 + 1 := dn_of (show _ = nI (m1 + 1) from rfl) (by omega)
      exact ⟨z, by show z < 2 ^ dn (dE d m1 xa (-1)) 8 1; rw [e8]; exact Nat.lt_of_lt_of_le hz (Nat.pow_le_pow_right (by decide) (by omega)), e9⟩⟩, ⟨hn64, Or.inl rfl, fun z => absurd z nI01⟩, ((cI_f (fun z => z hs_xa)).trans ((cI_f (by rw [hm1]; omega)).trans (r0 (by rw [hm1, nI_toIntI (by omega)]))))⟩, by rw [ht9]; exact hP, va_K.moved hW.alike hK, hD⟩, hS.F ht9⟩) hS.2.2 dX6_addBrake_55)
  refine thr_74 hx hb hlf hown hts hTX (is := 91) (text := "there are 6 elements") (by decide +kernel) hS (by rw [hml]; exact hl.1) dX6_addBrake_29 dX6_addBrake_32 dX6_addBrake_33 dX6_addBrake_35 dX6_addBrake_38 hxt (Nat.le_of_ble_eq_true rfl) (Nat.le_of_ble_eq_true rfl) (Nat.le_of_ble_eq_true rfl) (Nat.le_of_ble_eq_true rfl) hlocks (Nat.le_of_ble_eq_true rfl) (Nat.le_of_ble_eq_true rfl) (fun t9 hal hsz9 hkk => ?_)
  exact ⟨((d, d1, d2, f1, f2, f, s0), (M, pv, ip, sv, M2, pv2, ip2, sv2, ma, nu, de, ne, di, n, fr)), ⟨rfl, hJ⟩, ⟨by rw [show rs_addBrake d xa = _ from ((cI_f (fun z => z hs_xa)).trans (cI_t (by rw [hm1]; omega)))]; exact ⟨by decide, rfl⟩, hP.kept (fun k q h => hkk q.1 ((hP k q h).lt)), va_K.moved hal hK, hD⟩, Nat.le_trans hS.1 hsz9, fun q h1 h2 => (hkk q (Nat.lt_of_lt_of_le h1 hS.1)).trans (hS.2.1 q h1 h2)⟩
set_option maxHeartbeats 4000000 in
set_option maxRecDepth 100000 in
theorem c_X6_addClutch (l : Launch) (hlf : l.stackTraces = false) (D : va_G) (K : Nat → ClassId) (ad q q1 q2 g r r2 : Nat → Nat) (v : CV) (i : CI) (xa : Int32) (xb : Int32) (sz : Nat) (hI : IV v) (hJ : II v.1 i)  : vx_Met l yX6_addClutch (.code yX6_addClutch cX6_addClutch 3 (some .int) :: TB) ({ frames := 7, cells := 1, slots := 6, locals := 150 } : Room) (va_Pc [.ref (ad 0), .int xa, .int xb] (cPT D K (WX K ad q q1 q2 g r r2 v i) sz)) (va_Qi (fun (z : Int32) (u : CV × CI) => u.1 = (dE v.1 (dn v.1 8 1) xa xb, v.2) ∧ IV u.1 ∧ II u.1.1 u.2 ∧ rs_addClutch v.1 xa xb = (0, z.toInt)) (fun (u : CV × CI) t => cB D K (va_A (WX K ad q q1 q2 g r r2 v i) sz) (WX K ad q q1 q2 g r r2 u.1 u.2) t) (va_A (WX K ad q q1 q2 g r r2 v i) sz)) (vx_X (fun (u : CV × CI) => u.1 = v ∧ II u.1.1 u.2) (fun E (u : CV × CI) t => exc [eIO, eIA, eIS] (rs_addClutch v.1 xa xb).1 E ∧ cB D K (va_A (WX K ad q q1 q2 g r r2 v i) sz) (WX K ad q q1 q2 g r r2 u.1 u.2) t) (va_A (WX K ad q q1 q2 g r r2 v i) sz)) 1 6 (va_A (WX K ad q q1 q2 g r r2 v i) sz) := by
  refine vx_ofW (cc := cX6_addClutch) (maxL := 3) (ret := (some .int)) (by decide) rfl ?_
  intro p e s m args below meth c s₁ B hml hxt hv
  obtain ⟨rfl, ⟨hsz, hP, hK, hD0⟩, hTX⟩ := hv
  have hx := B.exec
  have hb := B.bytes
  have hr := B.returns
  have hts := hts_tl (atoms_spec (ws := (.code yX6_addClutch cX6_addClutch 3 (some .int) :: TB)) B.pre)
  have hown : s.vm.findClass RX6 = some m.cls := findClass_of_methodNamed B.named
  have hlocks := B.notSynchronized
  subst hsz
  have hD := hD0.self (sz := s.heap.size)
  generalize hAe : (va_A (WX K ad q q1 q2 g r r2 v i) s.heap.size) = A at hD hTX ⊢
  have hA : ∀ q : Nat, s.heap.size ≤ q → A q := fun q h => by rw [← hAe]; exact Or.inr h
  have hS : va_S A s.heap s.heap [] := va_S.rf
  clear hAe hD0
  obtain ⟨d, d1, d2, f1, f2, f, s0⟩ := v
  obtain ⟨M, pv, ip, sv, M2, pv2, ip2, sv2, ma, nu, de, ne, di, n, fr⟩ := i
  obtain ⟨hd, hd1, hd2, hf1, hf2, hs20, hhf⟩ := id hI
  obtain ⟨hn64, hfr, hT⟩ := id hJ
  dsimp only at hd hd1 hd2 hf1 hf2 hs20 hhf hn64 hfr hT
  obtain ⟨ns, m1, ge, hns, hm, hge, h0, h1, h2, hs9, he9⟩ := id hd
  have hm1 : dn d 8 1 = m1 := dn_of h1 (by omega)
  have hn1 : dn d 8 0 = ns := dn_of h0 (by omega)
  have hp6 : 2 ^ m1 ≤ 64 := Nat.pow_le_pow_right (show 0 < 2 by decide) hm
  have hg1 : dn d 8 2 = ge := dn_of h2 (by omega)
  have hP : va_P D vwCl ([(ad 0, .inr (6, [.ref (q 0), .ref (q1 0), .ref (q2 0), .int f1, .int f2, .ref (ad 1), .ref (ad 3), .ref (ad 8), .ref (g 0)]))] ++ (WG K g ma nu de ne di (nI n) fr ++ ([(ad 3, .inr (4, [.ref (ad 4)]))] ++ (WE K (ad 4) (ad 5) (ad 6) (ad 7) r M pv ip sv ++ (WD K q d ++ ([(ad 8, .inr (5, [.ref (ad 9)]))] ++ (WE K (ad 9) (ad 10) (ad 11) (ad 12) r2 M2 pv2 ip2 sv2 ++ (WH K (ad 1) (ad 2) f (nI s0) ++ (WD K q1 d1 ++ (WD K q2 d2)))))))))) s.heap := hP
  have hD : va_D A ([(ad 0, .inr (6, [.ref (q 0), .ref (q1 0), .ref (q2 0), .int f1, .int f2, .ref (ad 1), .ref (ad 3), .ref (ad 8), .ref (g 0)]))] ++ (WG K g ma nu de ne di (nI n) fr ++ ([(ad 3, .inr (4, [.ref (ad 4)]))] ++ (WE K (ad 4) (ad 5) (ad 6) (ad 7) r M pv ip sv ++ (WD K q d ++ ([(ad 8, .inr (5, [.ref (ad 9)]))] ++ (WE K (ad 9) (ad 10) (ad 11) (ad 12) r2 M2 pv2 ip2 sv2 ++ (WH K (ad 1) (ad 2) f (nI s0) ++ (WD K q1 d1 ++ (WD K q2 d2)))))))))) := hD
  have hl := lv_entry ([.ref (ad 0), .int xa, .int xb]) (n := 3) (Nat.le_of_ble_eq_true rfl)
  rw [lg_entry_eq]
  generalize (lg_sl ([.ref (ad 0), .int xa, .int xb]) ++ List.replicate (3 - (lg_sl ([.ref (ad 0), .int xa, .int xb])).length) Slot.unset).toArray = ls at hl ⊢
  have hl : lv_has ls 3 [(0, .ref (ad 0)), (1, .int xa), (2, .int xb)] := hl
  refine lv_iload_n hx hb dX6_addClutch_0 rfl (lv_at hl 1 rfl) ?_
  refine va_calli (va_runS (As := [.int xa]) (rest := []) ⟨hx, hb, hml, hown, hts⟩ (c_X6_isShaft l xa ) (va_cwS 1 hts (TB_S k_m_X6_50 k_st_X6_isShaft k_in_X6 k_co_X6_isShaft (fun _ h => h)) rfl rfl rfl (by decide +kernel) ⟨Nat.le_of_ble_eq_true rfl, Nat.le_of_ble_eq_true rfl⟩) ⟨tP_blind, tP_of⟩ rfl rfl hl.1 rfl (lv_room (Nat.le_of_ble_eq_true rfl)) dX6_addClutch_1 ⟨Nat.le_of_ble_eq_true rfl, Nat.le_of_ble_eq_true rfl⟩) hS (fun q _ h => absurd h id) (fun q h => absurd h id) (fun rs u9 t9 H locs ht9 hvm hw hB hz1 hk1 hS => ?_)
  have hP := P_same hP hk1
  by_cases hs_xa : shf xa
  rotate_left
  · refine t_i (hw.trans (bI_f hs_xa).symm) ?_
    refine b_if_eq hx hb (nI_toIntI (by omega)) dX6_addClutch_4 (tgt := 14) (by decide) (fun c4 => ?_) (fun c4 => absurd c4 (by omega))
    refine thr_54 hx hb hlf hown hts hTX (is := 56) (text := "a shaft is not 0 to 5") (by decide +kernel) hS (by rw [hml]; exact hl.1) dX6_addClutch_14 dX6_addClutch_17 dX6_addClutch_18 dX6_addClutch_20 dX6_addClutch_23 hxt (Nat.le_of_ble_eq_true rfl) (Nat.le_of_ble_eq_true rfl) (Nat.le_of_ble_eq_true rfl) (Nat.le_of_ble_eq_true rfl) hlocks (Nat.le_of_ble_eq_true rfl) (Nat.le_of_ble_eq_true rfl) (fun t9 hal hsz9 hkk => ?_)
    exact ⟨((d, d1, d2, f1, f2, f, s0), (M, pv, ip, sv, M2, pv2, ip2, sv2, ma, nu, de, ne, di, n, fr)), ⟨rfl, hJ⟩, ⟨by rw [show rs_addClutch d xa xb = _ from (cI_t (fun z => by first | exact hs_xa z.1 | exact hs_xb z.2))]; exact ⟨by decide, rfl⟩, hP.kept (fun k q h => hkk q.1 ((hP k q h).lt)), va_K.moved hal hK, hD⟩, Nat.le_trans hS.1 hsz9, fun q h1 h2 => (hkk q (Nat.lt_of_lt_of_le h1 hS.1)).trans (hS.2.1 q h1 h2)⟩
  refine t_i (hw.trans (bI_t hs_xa).symm) ?_
  refine b_if_eq hx hb (nI_toIntI (by omega)) dX6_addClutch_4 (tgt := 14) (by decide) (fun c4 => absurd c4 (by omega)) (fun c4 => ?_)
  refine lv_iload_n hx hb dX6_addClutch_7 rfl (lv_at hl 2 rfl) ?_
  refine va_calli (va_runS (As := [.int xb]) (rest := []) ⟨hx, hb, hml, hown, hts⟩ (c_X6_isShaft l xb ) (va_cwS 1 hts (TB_S k_m_X6_50 k_st_X6_isShaft k_in_X6 k_co_X6_isShaft (fun _ h => h)) rfl rfl rfl (by decide +kernel) ⟨Nat.le_of_ble_eq_true rfl, Nat.le_of_ble_eq_true rfl⟩) ⟨tP_blind, tP_of⟩ rfl rfl hl.1 rfl (lv_room (Nat.le_of_ble_eq_true rfl)) dX6_addClutch_8 ⟨Nat.le_of_ble_eq_true rfl, Nat.le_of_ble_eq_true rfl⟩) hS (fun q _ h => absurd h id) (fun q h => absurd h id) (fun rs u9 t9 H locs ht9 hvm hw hB hz1 hk1 hS => ?_)
  have hP := P_same hP hk1
  by_cases hs_xb : shf xb
  rotate_left
  · refine t_i (hw.trans (bI_f hs_xb).symm) ?_
    refine b_if_ne hx hb (nI_toIntI (by omega)) dX6_addClutch_11 (tgt := 24) (by decide) (fun c11 => absurd c11 (by omega)) (fun c11 => ?_)
    refine thr_54 hx hb hlf hown hts hTX (is := 56) (text := "a shaft is not 0 to 5") (by decide +kernel) hS (by rw [hml]; exact hl.1) dX6_addClutch_14 dX6_addClutch_17 dX6_addClutch_18 dX6_addClutch_20 dX6_addClutch_23 hxt (Nat.le_of_ble_eq_true rfl) (Nat.le_of_ble_eq_true rfl) (Nat.le_of_ble_eq_true rfl) (Nat.le_of_ble_eq_true rfl) hlocks (Nat.le_of_ble_eq_true rfl) (Nat.le_of_ble_eq_true rfl) (fun t9 hal hsz9 hkk => ?_)
    exact ⟨((d, d1, d2, f1, f2, f, s0), (M, pv, ip, sv, M2, pv2, ip2, sv2, ma, nu, de, ne, di, n, fr)), ⟨rfl, hJ⟩, ⟨by rw [show rs_addClutch d xa xb = _ from (cI_t (fun z => by first | exact hs_xa z.1 | exact hs_xb z.2))]; exact ⟨by decide, rfl⟩, hP.kept (fun k q h => hkk q.1 ((hP k q h).lt)), va_K.moved hal hK, hD⟩, Nat.le_trans hS.1 hsz9, fun q h1 h2 => (hkk q (Nat.lt_of_lt_of_le h1 hS.1)).trans (hS.2.1 q h1 h2)⟩
  refine t_i (hw.trans (bI_t hs_xb).symm) ?_
  refine b_if_ne hx hb (nI_toIntI (by omega)) dX6_addClutch_11 (tgt := 24) (by decide) (fun c11 => ?_) (fun c11 => absurd c11 (by omega))
  refine lv_iload_n hx hb dX6_addClutch_24 rfl (lv_at hl 1 rfl) ?_
  refine lv_iload_n hx hb dX6_addClutch_25 rfl (lv_at hl 2 rfl) ?_
  refine b_icmp_ne hx hb rfl rfl dX6_addClutch_26 (tgt := 39) (by decide) (fun c26 => ?_) (fun c26 => ?_)
  · refine lv_aload_n hx hb dX6_addClutch_39 rfl (lv_at hl 0 rfl) ?_
    refine va_get (D := D) (ci := 6) (C := RX6) (T := TX6) (N := 9) hx hb hts iX6 hown hK hP 0 rfl rfl 0 (by decide) (hts _ k_f_X6_12) (fun _ h9 => h9) rfl dX6_addClutch_40 ?_
    have hPq := P_perm pm_4 hP
    have hDq := D_perm pm_4 hD
    have hPc := bP0 hPq
    have hDc := bD0 hDq
    refine va_calli (va_runV (As := []) (rest := []) ⟨hx, hb, hml, hown, hts⟩ (c_X0_elementCount l D K q d H.size ) (cwV 0 hts (TB_V k_m_X6_88 k_im_X0_elementCount k_se_X0_elementCount k_in_X0 k_co_X0_elementCount (fun _ h => h)) rfl rfl rfl (by decide +kernel) ⟨Nat.le_of_ble_eq_true rfl, Nat.le_of_ble_eq_true rfl⟩) ⟨cP_blind, va_recv hK hPc (ci := 0) (q0 := 0) rfl rfl, cP_of hPc hK hDc⟩ rfl rfl hl.1 rfl (lv_room (Nat.le_of_ble_eq_true rfl)) dX6_addClutch_43 ⟨Nat.le_of_ble_eq_true rfl, Nat.le_of_ble_eq_true rfl⟩) hS (fun q _ h => absurd h id) (fun q h => absurd h id) (fun rc u9 t9 H locs ht9 hvm hw hB hz1 hk1 hS => ?_)
    have hP := P_same hP hk1
    refine t_i (hw.trans h1) ?_
    refine lv_bipush (v := nI 6) hx hb dX6_addClutch_46 (by decide) ?_
    refine b_icmp_lt hx hb (nI_toIntI (by omega)) (nI_toIntI (by omega)) dX6_addClutch_48 (tgt := 61) (by decide) (fun c48 => ?_) (fun c48 => ?_)
    · refine lv_aload_n hx hb dX6_addClutch_61 rfl (lv_at hl 0 rfl) ?_
      refine va_get (D := D) (ci := 6) (C := RX6) (T := TX6) (N := 9) hx hb hts iX6 hown hK hP 0 rfl rfl 8 (by decide) (hts _ k_f_X6_46) (fun _ h9 => h9) rfl dX6_addClutch_62 ?_
      have hPq := P_perm pm_1 hP
      have hDq := D_perm pm_1 hD
      have hPc := bP0 hPq
      have hDc := bD0 hDq
      have hFc := bF0 hDq hS hA
      refine va_callv (va_runV (As := []) (rest := []) ⟨hx, hb, hml, hown, hts⟩ (c_X2_forget l D K g ma nu de ne di n fr H.size ) (cwV 0 hts (TB_V k_m_X6_79 k_im_X2_forget k_se_X2_forget k_in_X2 k_co_X2_forget (fun _ h => h)) rfl rfl rfl (by decide +kernel) ⟨Nat.le_of_ble_eq_true rfl, Nat.le_of_ble_eq_true rfl⟩) ⟨cP_blind, va_recv hK hPc (ci := 2) (q0 := 0) rfl rfl, cP_of hPc hK hDc⟩ rfl rfl hl.1 rfl (lv_room (Nat.le_of_ble_eq_true rfl)) dX6_addClutch_65 ⟨Nat.le_of_ble_eq_true rfl, Nat.le_of_ble_eq_true rfl⟩) hS (fun q _ h => hFc q h) hFc (fun u9 t9 H locs ht9 hvm hw hB hz1 hk1 hS => ?_)
      obtain ⟨hP1, hK1, hD1⟩ := hB
      rw [ht9] at hP1
      obtain ⟨hPq1, hDq1⟩ := bJ0 hPq hDq hk1 hFc hP1 hD1
      have hP := P_perm (pm_1 (X0 := _)).symm hPq1
      have hD := D_perm (pm_1 (X0 := _)).symm hDq1
      have hP : va_P D vwCl ([(ad 0, .inr (6, [.ref (q 0), .ref (q1 0), .ref (q2 0), .int f1, .int f2, .ref (ad 1), .ref (ad 3), .ref (ad 8), .ref (g 0)]))] ++ (WG K g ma nu de ne di (nI n) (nI 0) ++ ([(ad 3, .inr (4, [.ref (ad 4)]))] ++ (WE K (ad 4) (ad 5) (ad 6) (ad 7) r M pv ip sv ++ (WD K q d ++ ([(ad 8, .inr (5, [.ref (ad 9)]))] ++ (WE K (ad 9) (ad 10) (ad 11) (ad 12) r2 M2 pv2 ip2 sv2 ++ (WH K (ad 1) (ad 2) f (nI s0) ++ (WD K q1 d1 ++ (WD K q2 d2)))))))))) H := hP
      have hD : va_D A ([(ad 0, .inr (6, [.ref (q 0), .ref (q1 0), .ref (q2 0), .int f1, .int f2, .ref (ad 1), .ref (ad 3), .ref (ad 8), .ref (g 0)]))] ++ (WG K g ma nu de ne di (nI n) (nI 0) ++ ([(ad 3, .inr (4, [.ref (ad 4)]))] ++ (WE K (ad 4) (ad 5) (ad 6) (ad 7) r M pv ip sv ++ (WD K q d ++ ([(ad 8, .inr (5, [.ref (ad 9)]))] ++ (WE K (ad 9) (ad 10) (ad 11) (ad 12) r2 M2 pv2 ip2 sv2 ++ (WH K (ad 1) (ad 2) f (nI s0) ++ (WD K q1 d1 ++ (WD K q2 d2)))))))))) := hD
      refine lv_aload_n hx hb dX6_addClutch_68 rfl (lv_at hl 0 rfl) ?_
      refine va_get (D := D) (ci := 6) (C := RX6) (T := TX6) (N := 9) hx hb hts iX6 hown hK hP 0 rfl rfl 0 (by decide) (hts _ k_f_X6_12) (fun _ h9 => h9) rfl dX6_addClutch_69 ?_
      refine lv_iload_n hx hb dX6_addClutch_72 rfl (lv_at hl 1 rfl) ?_
      refine lv_iload_n hx hb dX6_addClutch_73 rfl (lv_at hl 2 rfl) ?_
      have hPq := P_perm pm_4 hP
      have hDq := D_perm pm_4 hD
      have hPc := bP0 hPq
      have hDc := bD0 hDq
      have hFc := bF0 hDq hS hA
      refine va_calli (va_runV (As := [.int xa, .int xb]) (rest := []) ⟨hx, hb, hml, hown, hts⟩ (c_X0_appendElement l D K q d m1 xa xb H.size (by omega) h1) (cwV 2 hts (TB_V k_m_X6_93 k_im_X0_appendElement k_se_X0_appendElement k_in_X0 k_co_X0_appendElement (fun _ h => h)) rfl rfl rfl (by decide +kernel) ⟨Nat.le_of_ble_eq_true rfl, Nat.le_of_ble_eq_true rfl⟩) ⟨cP_blind, va_recv hK hPc (ci := 0) (q0 := 0) rfl rfl, cP_of hPc hK hDc⟩ rfl rfl hl.1 rfl (lv_room (Nat.le_of_ble_eq_true rfl)) dX6_addClutch_74 ⟨Nat.le_of_ble_eq_true rfl, Nat.le_of_ble_eq_true rfl⟩) hS (fun q _ h => hFc q h) hFc (fun re u9 t9 H locs ht9 hvm hw hB hz1 hk1 hS => ?_)
      obtain ⟨hP1, hK1, hD1⟩ := hB
      rw [ht9] at hP1
      obtain ⟨hPq1, hDq1⟩ := bJ0 hPq hDq hk1 hFc hP1 hD1
      have hP := P_perm (pm_4 (X0 := _)).symm hPq1
      have hD := D_perm (pm_4 (X0 := _)).symm hDq1
      have hP : va_P D vwCl ([(ad 0, .inr (6, [.ref (q 0), .ref (q1 0), .ref (q2 0), .int f1, .int f2, .ref (ad 1), .ref (ad 3), .ref (ad 8), .ref (g 0)]))] ++ (WG K g ma nu de ne di (nI n) (nI 0) ++ ([(ad 3, .inr (4, [.ref (ad 4)]))] ++ (WE K (ad 4) (ad 5) (ad 6) (ad 7) r M pv ip sv ++ (WD K q (dE d m1 xa xb) ++ ([(ad 8, .inr (5, [.ref (ad 9)]))] ++ (WE K (ad 9) (ad 10) (ad 11) (ad 12) r2 M2 pv2 ip2 sv2 ++ (WH K (ad 1) (ad 2) f (nI s0) ++ (WD K q1 d1 ++ (WD K q2 d2)))))))))) H := hP
      have hD : va_D A ([(ad 0, .inr (6, [.ref (q 0), .ref (q1 0), .ref (q2 0), .int f1, .int f2, .ref (ad 1), .ref (ad 3), .ref (ad 8), .ref (g 0)]))] ++ (WG K g ma nu de ne di (nI n) (nI 0) ++ ([(ad 3, .inr (4, [.ref (ad 4)]))] ++ (WE K (ad 4) (ad 5) (ad 6) (ad 7) r M pv ip sv ++ (WD K q (dE d m1 xa xb) ++ ([(ad 8, .inr (5, [.ref (ad 9)]))] ++ (WE K (ad 9) (ad 10) (ad 11) (ad 12) r2 M2 pv2 ip2 sv2 ++ (WH K (ad 1) (ad 2) f (nI s0) ++ (WD K q1 d1 ++ (WD K q2 d2)))))))))) := hD
      refine t_i hw ?_
      refine vx_ret ?_
      exact W.widen (k := 1) (n := 6) (Nat.le_of_ble_eq_true rfl) (Nat.le_of_ble_eq_true rfl) (W.iret (v := nI m1) hx hb hr (fun t9 ht9 hW => ⟨⟨nI m1, (((dE d m1 xa xb), d1, d2, f1, f2, f, s0), (M, pv, ip, sv, M2, pv2, ip2, sv2, ma, nu, de, ne, di, n, (nI 0))), rfl, ⟨by rw [hm1], ⟨DV_dE hd (by omega) h1 hs_xa (Or.inr ⟨hs_xb, fun z => by simp only [i32_eq] at z; omega⟩), hd1, hd2, hf1, hf2, hs20, fun j hj => by
      obtain ⟨z, hz, e9⟩ := hhf j hj
      rw [hm1] at hz
      have e8 : dn (dE d m1 xa xb) 8 1 = m1 + 1 := dn_of (show _ = nI (m1 + 1) from rfl) (by omega)
      exact ⟨z, by show z < 2 ^ dn (dE d m1 xa xb) 8 1; rw [e8]; exact Nat.lt_of_lt_of_le hz (Nat.pow_le_pow_right (by decide) (by omega)), e9⟩⟩, ⟨hn64, Or.inl rfl, fun z => absurd z nI01⟩, ((cI_f (fun z => z ⟨hs_xa, hs_xb⟩)).trans ((cI_f (fun z => by simp only [i32_eq] at z; omega)).trans ((cI_f (by rw [hm1]; omega)).trans (r0 (by rw [hm1, nI_toIntI (by omega)])))))⟩, by rw [ht9]; exact hP, va_K.moved hW.alike hK, hD⟩, hS.F ht9⟩) hS.2.2 dX6_addClutch_77)
    refine thr_74 hx hb hlf hown hts hTX (is := 91) (text := "there are 6 elements") (by decide +kernel) hS (by rw [hml]; exact hl.1) dX6_addClutch_51 dX6_addClutch_54 dX6_addClutch_55 dX6_addClutch_57 dX6_addClutch_60 hxt (Nat.le_of_ble_eq_true rfl) (Nat.le_of_ble_eq_true rfl) (Nat.le_of_ble_eq_true rfl) (Nat.le_of_ble_eq_true rfl) hlocks (Nat.le_of_ble_eq_true rfl) (Nat.le_of_ble_eq_true rfl) (fun t9 hal hsz9 hkk => ?_)
    exact ⟨((d, d1, d2, f1, f2, f, s0), (M, pv, ip, sv, M2, pv2, ip2, sv2, ma, nu, de, ne, di, n, fr)), ⟨rfl, hJ⟩, ⟨by rw [show rs_addClutch d xa xb = _ from ((cI_f (fun z => z ⟨hs_xa, hs_xb⟩)).trans ((cI_f (fun z => by simp only [i32_eq] at z; omega)).trans (cI_t (by rw [hm1]; omega))))]; exact ⟨by decide, rfl⟩, hP.kept (fun k q h => hkk q.1 ((hP k q h).lt)), va_K.moved hal hK, hD⟩, Nat.le_trans hS.1 hsz9, fun q h1 h2 => (hkk q (Nat.lt_of_lt_of_le h1 hS.1)).trans (hS.2.1 q h1 h2)⟩
  refine thr_61 hx hb hlf hown hts hTX (is := 97) (text := "both shafts are the same") (by decide +kernel) hS (by rw [hml]; exact hl.1) dX6_addClutch_29 dX6_addClutch_32 dX6_addClutch_33 dX6_addClutch_35 dX6_addClutch_38 hxt (Nat.le_of_ble_eq_true rfl) (Nat.le_of_ble_eq_true rfl) (Nat.le_of_ble_eq_true rfl) (Nat.le_of_ble_eq_true rfl) hlocks (Nat.le_of_ble_eq_true rfl) (Nat.le_of_ble_eq_true rfl) (fun t9 hal hsz9 hkk => ?_)
  exact ⟨((d, d1, d2, f1, f2, f, s0), (M, pv, ip, sv, M2, pv2, ip2, sv2, ma, nu, de, ne, di, n, fr)), ⟨rfl, hJ⟩, ⟨by rw [show rs_addClutch d xa xb = _ from ((cI_f (fun z => z ⟨hs_xa, hs_xb⟩)).trans (cI_t (by simp only [i32_eq]; omega)))]; exact ⟨by decide, rfl⟩, hP.kept (fun k q h => hkk q.1 ((hP k q h).lt)), va_K.moved hal hK, hD⟩, Nat.le_trans hS.1 hsz9, fun q h1 h2 => (hkk q (Nat.lt_of_lt_of_le h1 hS.1)).trans (hS.2.1 q h1 h2)⟩
set_option maxHeartbeats 4000000 in
set_option maxRecDepth 100000 in
theorem c_X6_setCapacity (l : Launch) (hlf : l.stackTraces = false) (D : va_G) (K : Nat → ClassId) (ad q q1 q2 g r r2 : Nat → Nat) (v : CV) (i : CI) (x : Int32) (y : Int32) (sz : Nat) (hI : IV v) (hJ : II v.1 i)  : vx_Met l yX6_setCapacity (.code yX6_setCapacity cX6_setCapacity 4 (some .int) :: TB) ({ frames := 7, cells := 1, slots := 6, locals := 150 } : Room) (va_Pc [.ref (ad 0), .int x, .int y] (cPT D K (WX K ad q q1 q2 g r r2 v i) sz)) (va_Qi (fun (z : Int32) (u : CV × CI) => u.1 = (dU v.1 7 x.toInt.toNat y, v.2) ∧ IV u.1 ∧ II u.1.1 u.2 ∧ rs_setCapacity v.1 x y = (0, z.toInt)) (fun (u : CV × CI) t => cB D K (va_A (WX K ad q q1 q2 g r r2 v i) sz) (WX K ad q q1 q2 g r r2 u.1 u.2) t) (va_A (WX K ad q q1 q2 g r r2 v i) sz)) (vx_X (fun (u : CV × CI) => u.1 = v ∧ II u.1.1 u.2) (fun E (u : CV × CI) t => exc [eIO, eIA] (rs_setCapacity v.1 x y).1 E ∧ cB D K (va_A (WX K ad q q1 q2 g r r2 v i) sz) (WX K ad q q1 q2 g r r2 u.1 u.2) t) (va_A (WX K ad q q1 q2 g r r2 v i) sz)) 1 6 (va_A (WX K ad q q1 q2 g r r2 v i) sz) := by
  refine vx_ofW (cc := cX6_setCapacity) (maxL := 4) (ret := (some .int)) (by decide) rfl ?_
  intro p e s m args below meth c s₁ B hml hxt hv
  obtain ⟨rfl, ⟨hsz, hP, hK, hD0⟩, hTX⟩ := hv
  have hx := B.exec
  have hb := B.bytes
  have hr := B.returns
  have hts := hts_tl (atoms_spec (ws := (.code yX6_setCapacity cX6_setCapacity 4 (some .int) :: TB)) B.pre)
  have hown : s.vm.findClass RX6 = some m.cls := findClass_of_methodNamed B.named
  have hlocks := B.notSynchronized
  subst hsz
  have hD := hD0.self (sz := s.heap.size)
  generalize hAe : (va_A (WX K ad q q1 q2 g r r2 v i) s.heap.size) = A at hD hTX ⊢
  have hA : ∀ q : Nat, s.heap.size ≤ q → A q := fun q h => by rw [← hAe]; exact Or.inr h
  have hS : va_S A s.heap s.heap [] := va_S.rf
  clear hAe hD0
  obtain ⟨d, d1, d2, f1, f2, f, s0⟩ := v
  obtain ⟨M, pv, ip, sv, M2, pv2, ip2, sv2, ma, nu, de, ne, di, n, fr⟩ := i
  obtain ⟨hd, hd1, hd2, hf1, hf2, hs20, hhf⟩ := id hI
  obtain ⟨hn64, hfr, hT⟩ := id hJ
  dsimp only at hd hd1 hd2 hf1 hf2 hs20 hhf hn64 hfr hT
  obtain ⟨ns, m1, ge, hns, hm, hge, h0, h1, h2, hs9, he9⟩ := id hd
  have hm1 : dn d 8 1 = m1 := dn_of h1 (by omega)
  have hn1 : dn d 8 0 = ns := dn_of h0 (by omega)
  have hp6 : 2 ^ m1 ≤ 64 := Nat.pow_le_pow_right (show 0 < 2 by decide) hm
  have hg1 : dn d 8 2 = ge := dn_of h2 (by omega)
  have hP : va_P D vwCl ([(ad 0, .inr (6, [.ref (q 0), .ref (q1 0), .ref (q2 0), .int f1, .int f2, .ref (ad 1), .ref (ad 3), .ref (ad 8), .ref (g 0)]))] ++ (WG K g ma nu de ne di (nI n) fr ++ ([(ad 3, .inr (4, [.ref (ad 4)]))] ++ (WE K (ad 4) (ad 5) (ad 6) (ad 7) r M pv ip sv ++ (WD K q d ++ ([(ad 8, .inr (5, [.ref (ad 9)]))] ++ (WE K (ad 9) (ad 10) (ad 11) (ad 12) r2 M2 pv2 ip2 sv2 ++ (WH K (ad 1) (ad 2) f (nI s0) ++ (WD K q1 d1 ++ (WD K q2 d2)))))))))) s.heap := hP
  have hD : va_D A ([(ad 0, .inr (6, [.ref (q 0), .ref (q1 0), .ref (q2 0), .int f1, .int f2, .ref (ad 1), .ref (ad 3), .ref (ad 8), .ref (g 0)]))] ++ (WG K g ma nu de ne di (nI n) fr ++ ([(ad 3, .inr (4, [.ref (ad 4)]))] ++ (WE K (ad 4) (ad 5) (ad 6) (ad 7) r M pv ip sv ++ (WD K q d ++ ([(ad 8, .inr (5, [.ref (ad 9)]))] ++ (WE K (ad 9) (ad 10) (ad 11) (ad 12) r2 M2 pv2 ip2 sv2 ++ (WH K (ad 1) (ad 2) f (nI s0) ++ (WD K q1 d1 ++ (WD K q2 d2)))))))))) := hD
  have hl := lv_entry ([.ref (ad 0), .int x, .int y]) (n := 4) (Nat.le_of_ble_eq_true rfl)
  rw [lg_entry_eq]
  generalize (lg_sl ([.ref (ad 0), .int x, .int y]) ++ List.replicate (4 - (lg_sl ([.ref (ad 0), .int x, .int y])).length) Slot.unset).toArray = ls at hl ⊢
  have hl : lv_has ls 4 [(0, .ref (ad 0)), (1, .int x), (2, .int y)] := hl
  refine lv_aload_n hx hb dX6_setCapacity_0 rfl (lv_at hl 0 rfl) ?_
  refine va_get (D := D) (ci := 6) (C := RX6) (T := TX6) (N := 9) hx hb hts iX6 hown hK hP 0 rfl rfl 0 (by decide) (hts _ k_f_X6_12) (fun _ h9 => h9) rfl dX6_setCapacity_1 ?_
  refine lv_iload_n hx hb dX6_setCapacity_4 rfl (lv_at hl 1 rfl) ?_
  have hPq := P_perm pm_4 hP
  have hDq := D_perm pm_4 hD
  have hPc := bP0 hPq
  have hDc := bD0 hDq
  refine va_calli (va_runV (As := [.int x]) (rest := []) ⟨hx, hb, hml, hown, hts⟩ (c_X0_hasElement l D K q d m1 x s.heap.size hm h1) (cwV 1 hts (TB_V k_m_X6_99 k_im_X0_hasElement k_se_X0_hasElement k_in_X0 k_co_X0_hasElement (fun _ h => h)) rfl rfl rfl (by decide +kernel) ⟨Nat.le_of_ble_eq_true rfl, Nat.le_of_ble_eq_true rfl⟩) ⟨cP_blind, va_recv hK hPc (ci := 0) (q0 := 0) rfl rfl, cP_of hPc hK hDc⟩ rfl rfl hl.1 rfl (lv_room (Nat.le_of_ble_eq_true rfl)) dX6_setCapacity_5 ⟨Nat.le_of_ble_eq_true rfl, Nat.le_of_ble_eq_true rfl⟩) hS (fun q _ h => absurd h id) (fun q h => absurd h id) (fun he u9 t9 H locs ht9 hvm hw hB hz1 hk1 hS => ?_)
  have hP := P_same hP hk1
  have hw := hw.trans (bI_iff (show _ ↔ elm d x by unfold elm; rw [hm1]))
  by_cases hel : elm d x
  rotate_left
  · refine t_i (hw.trans (bI_f hel).symm) ?_
    refine b_if_ne hx hb (nI_toIntI (by omega)) dX6_setCapacity_8 (tgt := 21) (by decide) (fun c8 => absurd c8 (by omega)) (fun c8 => ?_)
    refine thr_54 hx hb hlf hown hts hTX (is := 102) (text := "there is no such element") (by decide +kernel) hS (by rw [hml]; exact hl.1) dX6_setCapacity_11 dX6_setCapacity_14 dX6_setCapacity_15 dX6_setCapacity_17 dX6_setCapacity_20 hxt (Nat.le_of_ble_eq_true rfl) (Nat.le_of_ble_eq_true rfl) (Nat.le_of_ble_eq_true rfl) (Nat.le_of_ble_eq_true rfl) hlocks (Nat.le_of_ble_eq_true rfl) (Nat.le_of_ble_eq_true rfl) (fun t9 hal hsz9 hkk => ?_)
    exact ⟨((d, d1, d2, f1, f2, f, s0), (M, pv, ip, sv, M2, pv2, ip2, sv2, ma, nu, de, ne, di, n, fr)), ⟨rfl, hJ⟩, ⟨by rw [show rs_setCapacity d x y = _ from (cI_t (hel))]; exact ⟨by decide, rfl⟩, hP.kept (fun k q h => hkk q.1 ((hP k q h).lt)), va_K.moved hal hK, hD⟩, Nat.le_trans hS.1 hsz9, fun q h1 h2 => (hkk q (Nat.lt_of_lt_of_le h1 hS.1)).trans (hS.2.1 q h1 h2)⟩
  refine t_i (hw.trans (bI_t hel).symm) ?_
  obtain ⟨ke, hke, rfl⟩ := id hel
  have hke2 := hke
  rw [hm1] at hke2
  have hkn : (nI ke).toInt.toNat = ke := by rw [nI_toIntI (by omega)]; omega
  refine b_if_ne hx hb (nI_toIntI (by omega)) dX6_setCapacity_8 (tgt := 21) (by decide) (fun c8 => ?_) (fun c8 => absurd c8 (by omega))
  refine lv_iload_n hx hb dX6_setCapacity_21 rfl (lv_at hl 2 rfl) ?_
  refine lv_iconst (v := nI 1) hx hb dX6_setCapacity_22 (by decide) ?_
  refine b_icmp_lt hx hb rfl (nI_toIntI (by omega)) dX6_setCapacity_23 (tgt := 33) (by decide) (fun c23 => ?_) (fun c23 => ?_)
  · refine thr_61 hx hb hlf hown hts hTX (is := 104) (text := "the capacity is out of range") (by decide +kernel) hS (by rw [hml]; exact hl.1) dX6_setCapacity_33 dX6_setCapacity_36 dX6_setCapacity_37 dX6_setCapacity_39 dX6_setCapacity_42 hxt (Nat.le_of_ble_eq_true rfl) (Nat.le_of_ble_eq_true rfl) (Nat.le_of_ble_eq_true rfl) (Nat.le_of_ble_eq_true rfl) hlocks (Nat.le_of_ble_eq_true rfl) (Nat.le_of_ble_eq_true rfl) (fun t9 hal hsz9 hkk => ?_)
    exact ⟨((d, d1, d2, f1, f2, f, s0), (M, pv, ip, sv, M2, pv2, ip2, sv2, ma, nu, de, ne, di, n, fr)), ⟨rfl, hJ⟩, ⟨by rw [show rs_setCapacity d (nI ke) y = _ from ((cI_f (fun z => z hel)).trans (cI_t (by omega)))]; exact ⟨by decide, rfl⟩, hP.kept (fun k q h => hkk q.1 ((hP k q h).lt)), va_K.moved hal hK, hD⟩, Nat.le_trans hS.1 hsz9, fun q h1 h2 => (hkk q (Nat.lt_of_lt_of_le h1 hS.1)).trans (hS.2.1 q h1 h2)⟩
  refine lv_iload_n hx hb dX6_setCapacity_26 rfl (lv_at hl 2 rfl) ?_
  refine lv_sipush (v := nI 10000) hx hb dX6_setCapacity_27 (by decide) ?_
  refine b_icmp_le hx hb rfl (nI_toIntI (by omega)) dX6_setCapacity_30 (tgt := 43) (by decide) (fun c30 => ?_) (fun c30 => ?_)
  · refine lv_aload_n hx hb dX6_setCapacity_43 rfl (lv_at hl 0 rfl) ?_
    refine va_get (D := D) (ci := 6) (C := RX6) (T := TX6) (N := 9) hx hb hts iX6 hown hK hP 0 rfl rfl 0 (by decide) (hts _ k_f_X6_12) (fun _ h9 => h9) rfl dX6_setCapacity_44 ?_
    refine lv_iload_n hx hb dX6_setCapacity_47 rfl (lv_at hl 1 rfl) ?_
    have hPq := P_perm pm_4 hP
    have hDq := D_perm pm_4 hD
    have hPc := bP0 hPq
    have hDc := bD0 hDq
    refine va_calli (va_runV (As := [.int (nI ke)]) (rest := []) ⟨hx, hb, hml, hown, hts⟩ (c_X0_capacityOf l D K q d m1 ke H.size hm h1 hke2) (cwV 1 hts (TB_V k_m_X6_106 k_im_X0_capacityOf k_se_X0_capacityOf k_in_X0 k_co_X0_capacityOf (fun _ h => h)) rfl rfl rfl (by decide +kernel) ⟨Nat.le_of_ble_eq_true rfl, Nat.le_of_ble_eq_true rfl⟩) ⟨cP_blind, va_recv hK hPc (ci := 0) (q0 := 0) rfl rfl, cP_of hPc hK hDc⟩ rfl rfl hl.1 rfl (lv_room (Nat.le_of_ble_eq_true rfl)) dX6_setCapacity_48 ⟨Nat.le_of_ble_eq_true rfl, Nat.le_of_ble_eq_true rfl⟩) hS (fun q _ h => absurd h id) (fun q h => absurd h id) (fun cp u9 t9 H locs ht9 hvm hw hB hz1 hk1 hS => ?_)
    have hP := P_same hP hk1
    refine t_i hw ?_
    refine lv_istore_n (lv' := [(3, .int (d 7 ke)), (0, .ref (ad 0)), (1, .int (nI ke)), (2, .int y)]) hx hb dX6_setCapacity_51 rfl hl (by decide) rfl (fun ls hl => ?_)
    refine lv_aload_n hx hb dX6_setCapacity_52 rfl (lv_at hl 1 rfl) ?_
    refine va_get (D := D) (ci := 6) (C := RX6) (T := TX6) (N := 9) hx hb hts iX6 hown hK hP 0 rfl rfl 0 (by decide) (hts _ k_f_X6_12) (fun _ h9 => h9) rfl dX6_setCapacity_53 ?_
    refine lv_iload_n hx hb dX6_setCapacity_56 rfl (lv_at hl 2 rfl) ?_
    refine lv_iload_n hx hb dX6_setCapacity_57 rfl (lv_at hl 3 rfl) ?_
    have hPq := P_perm pm_4 hP
    have hDq := D_perm pm_4 hD
    have hPc := bP0 hPq
    have hDc := bD0 hDq
    have hFc := bF0 hDq hS hA
    refine va_callv (va_runV (As := [.int (nI ke), .int y]) (rest := []) ⟨hx, hb, hml, hown, hts⟩ (c_X0_changeCapacity l D K q d m1 ke y H.size hm h1 hke2) (cwV 2 hts (TB_V k_m_X6_110 k_im_X0_changeCapacity k_se_X0_changeCapacity k_in_X0 k_co_X0_changeCapacity (fun _ h => h)) rfl rfl rfl (by decide +kernel) ⟨Nat.le_of_ble_eq_true rfl, Nat.le_of_ble_eq_true rfl⟩) ⟨cP_blind, va_recv hK hPc (ci := 0) (q0 := 0) rfl rfl, cP_of hPc hK hDc⟩ rfl rfl hl.1 rfl (lv_room (Nat.le_of_ble_eq_true rfl)) dX6_setCapacity_58 ⟨Nat.le_of_ble_eq_true rfl, Nat.le_of_ble_eq_true rfl⟩) hS (fun q _ h => hFc q h) hFc (fun u9 t9 H locs ht9 hvm hw hB hz1 hk1 hS => ?_)
    obtain ⟨hP1, hK1, hD1⟩ := hB
    rw [ht9] at hP1
    obtain ⟨hPq1, hDq1⟩ := bJ0 hPq hDq hk1 hFc hP1 hD1
    have hP := P_perm (pm_4 (X0 := _)).symm hPq1
    have hD := D_perm (pm_4 (X0 := _)).symm hDq1
    have hP : va_P D vwCl ([(ad 0, .inr (6, [.ref (q 0), .ref (q1 0), .ref (q2 0), .int f1, .int f2, .ref (ad 1), .ref (ad 3), .ref (ad 8), .ref (g 0)]))] ++ (WG K g ma nu de ne di (nI n) fr ++ ([(ad 3, .inr (4, [.ref (ad 4)]))] ++ (WE K (ad 4) (ad 5) (ad 6) (ad 7) r M pv ip sv ++ (WD K q (dU d 7 ke y) ++ ([(ad 8, .inr (5, [.ref (ad 9)]))] ++ (WE K (ad 9) (ad 10) (ad 11) (ad 12) r2 M2 pv2 ip2 sv2 ++ (WH K (ad 1) (ad 2) f (nI s0) ++ (WD K q1 d1 ++ (WD K q2 d2)))))))))) H := hP
    have hD : va_D A ([(ad 0, .inr (6, [.ref (q 0), .ref (q1 0), .ref (q2 0), .int f1, .int f2, .ref (ad 1), .ref (ad 3), .ref (ad 8), .ref (g 0)]))] ++ (WG K g ma nu de ne di (nI n) fr ++ ([(ad 3, .inr (4, [.ref (ad 4)]))] ++ (WE K (ad 4) (ad 5) (ad 6) (ad 7) r M pv ip sv ++ (WD K q (dU d 7 ke y) ++ ([(ad 8, .inr (5, [.ref (ad 9)]))] ++ (WE K (ad 9) (ad 10) (ad 11) (ad 12) r2 M2 pv2 ip2 sv2 ++ (WH K (ad 1) (ad 2) f (nI s0) ++ (WD K q1 d1 ++ (WD K q2 d2)))))))))) := hD
    refine lv_iload_n hx hb dX6_setCapacity_61 rfl (lv_at hl 0 rfl) ?_
    refine vx_ret ?_
    exact W.widen (k := 1) (n := 6) (Nat.le_of_ble_eq_true rfl) (Nat.le_of_ble_eq_true rfl) (W.iret (v := d 7 ke) hx hb hr (fun t9 ht9 hW => ⟨⟨d 7 ke, (((dU d 7 ke y), d1, d2, f1, f2, f, s0), (M, pv, ip, sv, M2, pv2, ip2, sv2, ma, nu, de, ne, di, n, fr)), rfl, ⟨by rw [hkn], (by rw [nIt (x := y) (by omega)]; exact ⟨DV_cap hd hke (by omega) (by omega), hd1, hd2, hf1, hf2, hs20, hhf⟩), II_cap hJ, ((cI_f (fun z => z hel)).trans ((cI_f (by omega)).trans (r0 (by rw [hkn]))))⟩, by rw [ht9]; exact hP, va_K.moved hW.alike hK, hD⟩, hS.F ht9⟩) hS.2.2 dX6_setCapacity_62)
  refine thr_61 hx hb hlf hown hts hTX (is := 104) (text := "the capacity is out of range") (by decide +kernel) hS (by rw [hml]; exact hl.1) dX6_setCapacity_33 dX6_setCapacity_36 dX6_setCapacity_37 dX6_setCapacity_39 dX6_setCapacity_42 hxt (Nat.le_of_ble_eq_true rfl) (Nat.le_of_ble_eq_true rfl) (Nat.le_of_ble_eq_true rfl) (Nat.le_of_ble_eq_true rfl) hlocks (Nat.le_of_ble_eq_true rfl) (Nat.le_of_ble_eq_true rfl) (fun t9 hal hsz9 hkk => ?_)
  exact ⟨((d, d1, d2, f1, f2, f, s0), (M, pv, ip, sv, M2, pv2, ip2, sv2, ma, nu, de, ne, di, n, fr)), ⟨rfl, hJ⟩, ⟨by rw [show rs_setCapacity d (nI ke) y = _ from ((cI_f (fun z => z hel)).trans (cI_t (by omega)))]; exact ⟨by decide, rfl⟩, hP.kept (fun k q h => hkk q.1 ((hP k q h).lt)), va_K.moved hal hK, hD⟩, Nat.le_trans hS.1 hsz9, fun q h1 h2 => (hkk q (Nat.lt_of_lt_of_le h1 hS.1)).trans (hS.2.1 q h1 h2)⟩
