/-! PlanetaryGearbox: construction, elements -/
theorem r0 {a b : Int} (h : a = b) : ((0 : Nat), a) = (0, b) := by rw [h]
set_option maxHeartbeats 4000000 in
set_option maxRecDepth 100000 in
theorem c_X6_changeEngaged (l : Launch) (D : va_G) (K : Nat → ClassId) (ad q q1 q2 g r r2 : Nat → Nat) (v : CV) (i : CI) (x : Int32) (sz : Nat) (hI : IV v) (hJ : II v.1 i)  : Met l yX6_changeEngaged (.code yX6_changeEngaged cX6_changeEngaged 3 (some .boolean) :: TB) ({ frames := 1, cells := 0, slots := 0, locals := 22 } : Room) (va_Pc [.ref (ad 0), .int x] (cP D K (WX K ad q q1 q2 g r r2 v i) sz)) (va_Qi (fun (z : Int32) (u : CV × CI) => II u.1.1 u.2 ∧ CHG v x z u.1) (fun (u : CV × CI) t => cB D K (va_A (WX K ad q q1 q2 g r r2 v i) sz) (WX K ad q q1 q2 g r r2 u.1 u.2) t) (va_A (WX K ad q q1 q2 g r r2 v i) sz)) 0 0 (va_A (WX K ad q q1 q2 g r r2 v i) sz) := by
  refine Met.ofW (cc := cX6_changeEngaged) (maxL := 3) (ret := (some .boolean)) (by decide) rfl ?_
  intro p e s m args below meth c s₁ B hml hv
  obtain ⟨rfl, hsz, hP, hK, hD0⟩ := hv
  have hx := B.exec
  have hb := B.bytes
  have hr := B.returns
  have hts := hts_tl (atoms_spec (ws := (.code yX6_changeEngaged cX6_changeEngaged 3 (some .boolean) :: TB)) B.pre)
  have hown : s.vm.findClass RX6 = some m.cls := findClass_of_methodNamed B.named
  have hlocks := B.notSynchronized
  subst hsz
  have hD := hD0.self (sz := s.heap.size)
  generalize hAe : (va_A (WX K ad q q1 q2 g r r2 v i) s.heap.size) = A at hD ⊢
  have hA : ∀ q : Nat, s.heap.size ≤ q → A q := fun q h => by rw [← hAe]; exact Or.inr h
  have hS : va_S A s.heap s.heap [] := va_S.rf
  clear hAe hD0
  obtain ⟨d, d1, d2, f1, f2, f, s0⟩ := v
  obtain ⟨M, pv, ip, sv, M2, pv2, ip2, sv2, ma, nu, de, ne, di, n, fr⟩ := i
  obtain ⟨hd, hd1, hd2, hf1, hf2, hs20, hhf⟩ := id hI
  obtain ⟨hn64, hfr, hT⟩ := id hJ
  dsimp only at hd hd1 hd2 hf1 hf2 hs20 hhf hn64 hfr hT
  obtain ⟨ns, m1, ge, hns, hm, hge, h0, h1, h2, hs9, he9⟩ := id hd
  have hm1 : dn d 8 1 = m1 := dn_of h1 (by omega)
  have hn1 : dn d 8 0 = ns := dn_of h0 (by omega)
  have hp6 : 2 ^ m1 ≤ 64 := Nat.pow_le_pow_right (show 0 < 2 by decide) hm
  have hg1 : dn d 8 2 = ge := dn_of h2 (by omega)
  have hP : va_P D vwCl ([(ad 0, .inr (6, [.ref (q 0), .ref (q1 0), .ref (q2 0), .int f1, .int f2, .ref (ad 1), .ref (ad 3), .ref (ad 8), .ref (g 0)]))] ++ (WG K g ma nu de ne di (nI n) fr ++ ([(ad 3, .inr (4, [.ref (ad 4)]))] ++ (WE K (ad 4) (ad 5) (ad 6) (ad 7) r M pv ip sv ++ (WD K q d ++ ([(ad 8, .inr (5, [.ref (ad 9)]))] ++ (WE K (ad 9) (ad 10) (ad 11) (ad 12) r2 M2 pv2 ip2 sv2 ++ (WH K (ad 1) (ad 2) f (nI s0) ++ (WD K q1 d1 ++ (WD K q2 d2)))))))))) s.heap := hP
  have hD : va_D A ([(ad 0, .inr (6, [.ref (q 0), .ref (q1 0), .ref (q2 0), .int f1, .int f2, .ref (ad 1), .ref (ad 3), .ref (ad 8), .ref (g 0)]))] ++ (WG K g ma nu de ne di (nI n) fr ++ ([(ad 3, .inr (4, [.ref (ad 4)]))] ++ (WE K (ad 4) (ad 5) (ad 6) (ad 7) r M pv ip sv ++ (WD K q d ++ ([(ad 8, .inr (5, [.ref (ad 9)]))] ++ (WE K (ad 9) (ad 10) (ad 11) (ad 12) r2 M2 pv2 ip2 sv2 ++ (WH K (ad 1) (ad 2) f (nI s0) ++ (WD K q1 d1 ++ (WD K q2 d2)))))))))) := hD
  have hl := lv_entry ([.ref (ad 0), .int x]) (n := 3) (Nat.le_of_ble_eq_true rfl)
  rw [lg_entry_eq]
  generalize (lg_sl ([.ref (ad 0), .int x]) ++ List.replicate (3 - (lg_sl ([.ref (ad 0), .int x])).length) Slot.unset).toArray = ls at hl ⊢
  have hl : lv_has ls 3 [(0, .ref (ad 0)), (1, .int x)] := hl
  refine lv_aload_n hx hb dX6_changeEngaged_0 rfl (lv_at hl 0 rfl) ?_
  refine va_get (D := D) (ci := 6) (C := RX6) (T := TX6) (N := 9) hx hb hts iX6 hown hK hP 0 rfl rfl 0 (by decide) (hts _ k_f_X6_12) (fun _ h9 => h9) rfl dX6_changeEngaged_1 ?_
  have hPq := P_perm pm_4 hP
  have hDq := D_perm pm_4 hD
  have hPc := bP0 hPq
  have hDc := bD0 hDq
  refine va_calli (va_runV (As := []) (rest := []) ⟨hx, hb, hml, hown, hts⟩ (c_X0_engagedMask l D K q d s.heap.size ) (cwV 0 hts (TB_V k_m_X6_123 k_im_X0_engagedMask k_se_X0_engagedMask k_in_X0 k_co_X0_engagedMask (fun _ h => h)) rfl rfl rfl (by decide +kernel) ⟨Nat.le_of_ble_eq_true rfl, Nat.le_of_ble_eq_true rfl⟩) ⟨cP_blind, va_recv hK hPc (ci := 0) (q0 := 0) rfl rfl, cP_of hPc hK hDc⟩ rfl rfl hl.1 rfl (lv_room (Nat.le_of_ble_eq_true rfl)) dX6_changeEngaged_4 ⟨Nat.le_of_ble_eq_true rfl, Nat.le_of_ble_eq_true rfl⟩) hS (fun q _ h => absurd h id) (fun q h => absurd h id) (fun em u9 t9 H locs ht9 hvm hw hB hz1 hk1 hS => ?_)
  have hP := P_same hP hk1
  refine t_i hw ?_
  refine lv_istore_n (lv' := [(2, .int (d 8 2)), (0, .ref (ad 0)), (1, .int x)]) hx hb dX6_changeEngaged_7 rfl hl (by decide) rfl (fun ls hl => ?_)
  refine lv_iload_n hx hb dX6_changeEngaged_8 rfl (lv_at hl 2 rfl) ?_
  refine lv_iload_n hx hb dX6_changeEngaged_9 rfl (lv_at hl 0 rfl) ?_
  refine b_icmp_ne hx hb rfl rfl dX6_changeEngaged_10 (tgt := 15) (by decide) (fun c10 => ?_) (fun c10 => ?_)
  · refine lv_aload_n hx hb dX6_changeEngaged_15 rfl (lv_at hl 1 rfl) ?_
    refine va_get (D := D) (ci := 6) (C := RX6) (T := TX6) (N := 9) hx hb hts iX6 hown hK hP 0 rfl rfl 5 (by decide) (hts _ k_f_X6_25) (fun _ h9 => h9) rfl dX6_changeEngaged_16 ?_
    refine lv_iload_n hx hb dX6_changeEngaged_19 rfl (lv_at hl 0 rfl) ?_
    have hPq := P_perm pm_7 hP
    have hDq := D_perm pm_7 hD
    have hPc := bP0 hPq
    have hDc := bD0 hDq
    have hFc := bF0 hDq hS hA
    refine va_callv (va_runV (As := [.int (d 8 2)]) (rest := []) ⟨hx, hb, hml, hown, hts⟩ (c_X3_add l D K (ad 1) (ad 2) f s0 (d 8 2) H.size hs20) (cwV 1 hts (TB_V k_m_X6_255 k_im_X3_add k_se_X3_add k_in_X3 k_co_X3_add (fun _ h => h)) rfl rfl rfl (by decide +kernel) ⟨Nat.le_of_ble_eq_true rfl, Nat.le_of_ble_eq_true rfl⟩) ⟨cP_blind, va_recv hK hPc (ci := 3) (q0 := 0) rfl rfl, cP_of hPc hK hDc⟩ rfl rfl hl.1 rfl (lv_room (Nat.le_of_ble_eq_true rfl)) dX6_changeEngaged_20 ⟨Nat.le_of_ble_eq_true rfl, Nat.le_of_ble_eq_true rfl⟩) hS (fun q _ h => hFc q h) hFc (fun u9 t9 H locs ht9 hvm hw hB hz1 hk1 hS => ?_)
    obtain ⟨hP1, hK1, hD1⟩ := hB
    rw [ht9] at hP1
    obtain ⟨hPq1, hDq1⟩ := bJ0 hPq hDq hk1 hFc hP1 hD1
    obtain ⟨hs1, hs2⟩ := hw
    have hP := P_perm (pm_7 (X0 := _)).symm hPq1
    have hD := D_perm (pm_7 (X0 := _)).symm hDq1
    have hP : va_P D vwCl ([(ad 0, .inr (6, [.ref (q 0), .ref (q1 0), .ref (q2 0), .int f1, .int f2, .ref (ad 1), .ref (ad 3), .ref (ad 8), .ref (g 0)]))] ++ (WG K g ma nu de ne di (nI n) fr ++ ([(ad 3, .inr (4, [.ref (ad 4)]))] ++ (WE K (ad 4) (ad 5) (ad 6) (ad 7) r M pv ip sv ++ (WD K q d ++ ([(ad 8, .inr (5, [.ref (ad 9)]))] ++ (WE K (ad 9) (ad 10) (ad 11) (ad 12) r2 M2 pv2 ip2 sv2 ++ (WH K (ad 1) (ad 2) u9.1 (nI u9.2) ++ (WD K q1 d1 ++ (WD K q2 d2)))))))))) H := hP
    have hD : va_D A ([(ad 0, .inr (6, [.ref (q 0), .ref (q1 0), .ref (q2 0), .int f1, .int f2, .ref (ad 1), .ref (ad 3), .ref (ad 8), .ref (g 0)]))] ++ (WG K g ma nu de ne di (nI n) fr ++ ([(ad 3, .inr (4, [.ref (ad 4)]))] ++ (WE K (ad 4) (ad 5) (ad 6) (ad 7) r M pv ip sv ++ (WD K q d ++ ([(ad 8, .inr (5, [.ref (ad 9)]))] ++ (WE K (ad 9) (ad 10) (ad 11) (ad 12) r2 M2 pv2 ip2 sv2 ++ (WH K (ad 1) (ad 2) u9.1 (nI u9.2) ++ (WD K q1 d1 ++ (WD K q2 d2)))))))))) := hD
    refine lv_aload_n hx hb dX6_changeEngaged_23 rfl (lv_at hl 1 rfl) ?_
    refine va_get (D := D) (ci := 6) (C := RX6) (T := TX6) (N := 9) hx hb hts iX6 hown hK hP 0 rfl rfl 0 (by decide) (hts _ k_f_X6_12) (fun _ h9 => h9) rfl dX6_changeEngaged_24 ?_
    refine lv_iload_n hx hb dX6_changeEngaged_27 rfl (lv_at hl 2 rfl) ?_
    have hPq := P_perm pm_4 hP
    have hDq := D_perm pm_4 hD
    have hPc := bP0 hPq
    have hDc := bD0 hDq
    have hFc := bF0 hDq hS hA
    refine va_callv (va_runV (As := [.int x]) (rest := []) ⟨hx, hb, hml, hown, hts⟩ (c_X0_changeEngagedMask l D K q d x H.size ) (cwV 1 hts (TB_V k_m_X6_141 k_im_X0_changeEngagedMask k_se_X0_changeEngagedMask k_in_X0 k_co_X0_changeEngagedMask (fun _ h => h)) rfl rfl rfl (by decide +kernel) ⟨Nat.le_of_ble_eq_true rfl, Nat.le_of_ble_eq_true rfl⟩) ⟨cP_blind, va_recv hK hPc (ci := 0) (q0 := 0) rfl rfl, cP_of hPc hK hDc⟩ rfl rfl hl.1 rfl (lv_room (Nat.le_of_ble_eq_true rfl)) dX6_changeEngaged_28 ⟨Nat.le_of_ble_eq_true rfl, Nat.le_of_ble_eq_true rfl⟩) hS (fun q _ h => hFc q h) hFc (fun u8 t9 H locs ht9 hvm hw hB hz1 hk1 hS => ?_)
    obtain ⟨hP1, hK1, hD1⟩ := hB
    rw [ht9] at hP1
    obtain ⟨hPq1, hDq1⟩ := bJ0 hPq hDq hk1 hFc hP1 hD1
    have hP := P_perm (pm_4 (X0 := _)).symm hPq1
    have hD := D_perm (pm_4 (X0 := _)).symm hDq1
    have hP : va_P D vwCl ([(ad 0, .inr (6, [.ref (q 0), .ref (q1 0), .ref (q2 0), .int f1, .int f2, .ref (ad 1), .ref (ad 3), .ref (ad 8), .ref (g 0)]))] ++ (WG K g ma nu de ne di (nI n) fr ++ ([(ad 3, .inr (4, [.ref (ad 4)]))] ++ (WE K (ad 4) (ad 5) (ad 6) (ad 7) r M pv ip sv ++ (WD K q (dU d 8 2 x) ++ ([(ad 8, .inr (5, [.ref (ad 9)]))] ++ (WE K (ad 9) (ad 10) (ad 11) (ad 12) r2 M2 pv2 ip2 sv2 ++ (WH K (ad 1) (ad 2) u9.1 (nI u9.2) ++ (WD K q1 d1 ++ (WD K q2 d2)))))))))) H := hP
    have hD : va_D A ([(ad 0, .inr (6, [.ref (q 0), .ref (q1 0), .ref (q2 0), .int f1, .int f2, .ref (ad 1), .ref (ad 3), .ref (ad 8), .ref (g 0)]))] ++ (WG K g ma nu de ne di (nI n) fr ++ ([(ad 3, .inr (4, [.ref (ad 4)]))] ++ (WE K (ad 4) (ad 5) (ad 6) (ad 7) r M pv ip sv ++ (WD K q (dU d 8 2 x) ++ ([(ad 8, .inr (5, [.ref (ad 9)]))] ++ (WE K (ad 9) (ad 10) (ad 11) (ad 12) r2 M2 pv2 ip2 sv2 ++ (WH K (ad 1) (ad 2) u9.1 (nI u9.2) ++ (WD K q1 d1 ++ (WD K q2 d2)))))))))) := hD
    refine lv_iconst (v := nI 1) hx hb dX6_changeEngaged_31 (by decide) ?_
    exact W.zret (v := nI 1) hx hb hr (by decide) (fun t9 ht9 hW => ⟨⟨nI 1, (((dU d 8 2 x), d1, d2, f1, f2, u9.1, u9.2), (M, pv, ip, sv, M2, pv2, ip2, sv2, ma, nu, de, ne, di, n, fr)), rfl, ⟨II_eng hJ, Or.inr ⟨fun z => c10 (by rw [z]), rfl, rfl, rfl, rfl, rfl, rfl, hs1, hs2⟩⟩, by rw [ht9]; exact hP, va_K.moved hW.alike hK, hD⟩, hS.F ht9⟩) hS.2.2 dX6_changeEngaged_32
  refine lv_iconst (v := nI 0) hx hb dX6_changeEngaged_13 (by decide) ?_
  exact W.zret (v := nI 0) hx hb hr (by decide) (fun t9 ht9 hW => ⟨⟨nI 0, ((d, d1, d2, f1, f2, f, s0), (M, pv, ip, sv, M2, pv2, ip2, sv2, ma, nu, de, ne, di, n, fr)), rfl, ⟨hJ, Or.inl ⟨(i32_eq _ _).mpr (by omega), rfl, rfl⟩⟩, by rw [ht9]; exact hP, va_K.moved hW.alike hK, hD⟩, hS.F ht9⟩) hS.2.2 dX6_changeEngaged_14
set_option maxHeartbeats 4000000 in
set_option maxRecDepth 100000 in
theorem c_X6_count (l : Launch) (hlf : l.stackTraces = false) (D : va_G) (K : Nat → ClassId) (ad q q1 q2 g r r2 : Nat → Nat) (v : CV) (i : CI) (x : Int32) (sz : Nat) (hI : IV v) (hJ : II v.1 i)  : vx_Met l yX6_count (.code yX6_count cX6_count 2 (some .int) :: TB) ({ frames := 7, cells := 1, slots := 6, locals := 150 } : Room) (va_Pc [.ref (ad 0), .int x] (cPT D K (WX K ad q q1 q2 g r r2 v i) sz)) (va_Qi (fun (z : Int32) (u : CV × CI) => u.1 = v ∧ II u.1.1 u.2 ∧ rs_count v.1 x = (0, z.toInt)) (fun (u : CV × CI) t => cB D K (va_A (WX K ad q q1 q2 g r r2 v i) sz) (WX K ad q q1 q2 g r r2 u.1 u.2) t) (va_A (WX K ad q q1 q2 g r r2 v i) sz)) (vx_X (fun (u : CV × CI) => u.1 = v ∧ II u.1.1 u.2) (fun E (u : CV × CI) t => exc [eIA] (rs_count v.1 x).1 E ∧ cB D K (va_A (WX K ad q q1 q2 g r r2 v i) sz) (WX K ad q q1 q2 g r r2 u.1 u.2) t) (va_A (WX K ad q q1 q2 g r r2 v i) sz)) 1 6 (va_A (WX K ad q q1 q2 g r r2 v i) sz) := by
  refine vx_ofW (cc := cX6_count) (maxL := 2) (ret := (some .int)) (by decide) rfl ?_
  intro p e s m args below meth c s₁ B hml hxt hv
  obtain ⟨rfl, ⟨hsz, hP, hK, hD0⟩, hTX⟩ := hv
  have hx := B.exec
  have hb := B.bytes
  have hr := B.returns
  have hts := hts_tl (atoms_spec (ws := (.code yX6_count cX6_count 2 (some .int) :: TB)) B.pre)
  have hown : s.vm.findClass RX6 = some m.cls := findClass_of_methodNamed B.named
  have hlocks := B.notSynchronized
  subst hsz
  have hD := hD0.self (sz := s.heap.size)
  generalize hAe : (va_A (WX K ad q q1 q2 g r r2 v i) s.heap.size) = A at hD hTX ⊢
  have hA : ∀ q : Nat, s.heap.size ≤ q → A q := fun q h => by rw [← hAe]; exact Or.inr h
  have hS : va_S A s.heap s.heap [] := va_S.rf
  clear hAe hD0
  obtain ⟨d, d1, d2, f1, f2, f, s0⟩ := v
  obtain ⟨M, pv, ip, sv, M2, pv2, ip2, sv2, ma, nu, de, ne, di, n, fr⟩ := i
  obtain ⟨hd, hd1, hd2, hf1, hf2, hs20, hhf⟩ := id hI
  obtain ⟨hn64, hfr, hT⟩ := id hJ
  dsimp only at hd hd1 hd2 hf1 hf2 hs20 hhf hn64 hfr hT
  obtain ⟨ns, m1, ge, hns, hm, hge, h0, h1, h2, hs9, he9⟩ := id hd
  have hm1 : dn d 8 1 = m1 := dn_of h1 (by omega)
  have hn1 : dn d 8 0 = ns := dn_of h0 (by omega)
  have hp6 : 2 ^ m1 ≤ 64 := Nat.pow_le_pow_right (show 0 < 2 by decide) hm
  have hg1 : dn d 8 2 = ge := dn_of h2 (by omega)
  have hP : va_P D vwCl ([(ad 0, .inr (6, [.ref (q 0), .ref (q1 0), .ref (q2 0), .int f1, .int f2, .ref (ad 1), .ref (ad 3), .ref (ad 8), .ref (g 0)]))] ++ (WG K g ma nu de ne di (nI n) fr ++ ([(ad 3, .inr (4, [.ref (ad 4)]))] ++ (WE K (ad 4) (ad 5) (ad 6) (ad 7) r M pv ip sv ++ (WD K q d ++ ([(ad 8, .inr (5, [.ref (ad 9)]))] ++ (WE K (ad 9) (ad 10) (ad 11) (ad 12) r2 M2 pv2 ip2 sv2 ++ (WH K (ad 1) (ad 2) f (nI s0) ++ (WD K q1 d1 ++ (WD K q2 d2)))))))))) s.heap := hP
  have hD : va_D A ([(ad 0, .inr (6, [.ref (q 0), .ref (q1 0), .ref (q2 0), .int f1, .int f2, .ref (ad 1), .ref (ad 3), .ref (ad 8), .ref (g 0)]))] ++ (WG K g ma nu de ne di (nI n) fr ++ ([(ad 3, .inr (4, [.ref (ad 4)]))] ++ (WE K (ad 4) (ad 5) (ad 6) (ad 7) r M pv ip sv ++ (WD K q d ++ ([(ad 8, .inr (5, [.ref (ad 9)]))] ++ (WE K (ad 9) (ad 10) (ad 11) (ad 12) r2 M2 pv2 ip2 sv2 ++ (WH K (ad 1) (ad 2) f (nI s0) ++ (WD K q1 d1 ++ (WD K q2 d2)))))))))) := hD
  have hl := lv_entry ([.ref (ad 0), .int x]) (n := 2) (Nat.le_of_ble_eq_true rfl)
  rw [lg_entry_eq]
  generalize (lg_sl ([.ref (ad 0), .int x]) ++ List.replicate (2 - (lg_sl ([.ref (ad 0), .int x])).length) Slot.unset).toArray = ls at hl ⊢
  have hl : lv_has ls 2 [(0, .ref (ad 0)), (1, .int x)] := hl
  refine lv_iload_n hx hb dX6_count_0 rfl (lv_at hl 1 rfl) ?_
  refine b_if_lt hx hb rfl dX6_count_1 (tgt := 9) (by decide) (fun c1 => ?_) (fun c1 => ?_)
  · refine thr_61 hx hb hlf hown hts hTX (is := 114) (text := "what is not 0 to 2") (by decide +kernel) hS (by rw [hml]; exact hl.1) dX6_count_9 dX6_count_12 dX6_count_13 dX6_count_15 dX6_count_18 hxt (Nat.le_of_ble_eq_true rfl) (Nat.le_of_ble_eq_true rfl) (Nat.le_of_ble_eq_true rfl) (Nat.le_of_ble_eq_true rfl) hlocks (Nat.le_of_ble_eq_true rfl) (Nat.le_of_ble_eq_true rfl) (fun t9 hal hsz9 hkk => ?_)
    exact ⟨((d, d1, d2, f1, f2, f, s0), (M, pv, ip, sv, M2, pv2, ip2, sv2, ma, nu, de, ne, di, n, fr)), ⟨rfl, hJ⟩, ⟨by rw [show rs_count d x = _ from (cI_t (by omega))]; exact ⟨by decide, rfl⟩, hP.kept (fun k q h => hkk q.1 ((hP k q h).lt)), va_K.moved hal hK, hD⟩, Nat.le_trans hS.1 hsz9, fun q h1 h2 => (hkk q (Nat.lt_of_lt_of_le h1 hS.1)).trans (hS.2.1 q h1 h2)⟩
  refine lv_iload_n hx hb dX6_count_4 rfl (lv_at hl 1 rfl) ?_
  refine lv_iconst (v := nI 2) hx hb dX6_count_5 (by decide) ?_
  refine b_icmp_le hx hb rfl (nI_toIntI (by omega)) dX6_count_6 (tgt := 19) (by decide) (fun c6 => ?_) (fun c6 => ?_)
  · refine lv_iload_n hx hb dX6_count_19 rfl (lv_at hl 1 rfl) ?_
    refine b_if_ne hx hb rfl dX6_count_20 (tgt := 31) (by decide) (fun c20 => ?_) (fun c20 => ?_)
    · refine lv_iload_n hx hb dX6_count_31 rfl (lv_at hl 1 rfl) ?_
      refine lv_iconst (v := nI 1) hx hb dX6_count_32 (by decide) ?_
      refine b_icmp_ne hx hb rfl (nI_toIntI (by omega)) dX6_count_33 (tgt := 44) (by decide) (fun c33 => ?_) (fun c33 => ?_)
      · refine lv_aload_n hx hb dX6_count_44 rfl (lv_at hl 0 rfl) ?_
        refine va_get (D := D) (ci := 6) (C := RX6) (T := TX6) (N := 9) hx hb hts iX6 hown hK hP 0 rfl rfl 8 (by decide) (hts _ k_f_X6_46) (fun _ h9 => h9) rfl dX6_count_45 ?_
        refine lv_aload_n hx hb dX6_count_48 rfl (lv_at hl 0 rfl) ?_
        refine va_get (D := D) (ci := 6) (C := RX6) (T := TX6) (N := 9) hx hb hts iX6 hown hK hP 0 rfl rfl 0 (by decide) (hts _ k_f_X6_12) (fun _ h9 => h9) rfl dX6_count_49 ?_
        refine lv_aload_n hx hb dX6_count_52 rfl (lv_at hl 0 rfl) ?_
        refine va_get (D := D) (ci := 6) (C := RX6) (T := TX6) (N := 9) hx hb hts iX6 hown hK hP 0 rfl rfl 6 (by decide) (hts _ k_f_X6_32) (fun _ h9 => h9) rfl dX6_count_53 ?_
        have hPq := P_perm pm_1234 hP
        have hDq := D_perm pm_1234 hD
        have hPc := bP0 hPq
        have hDc := bD0 hDq
        have hFc := bF0 hDq hS hA
        refine va_callv (va_runV (As := [.ref (q 0), .ref (ad 3)]) (rest := []) ⟨hx, hb, hml, hown, hts⟩ (c_X2_refresh l D K g ma nu de ne di n fr (ad 3) (ad 4) (ad 5) (ad 6) (ad 7) r M pv ip sv q d s.heap.size hn64 hd hfr hT) (cwV 2 hts (TB_V k_m_X6_116 k_im_X2_refresh k_se_X2_refresh k_in_X2 k_co_X2_refresh (fun _ h => h)) rfl rfl rfl (by decide +kernel) ⟨Nat.le_of_ble_eq_true rfl, Nat.le_of_ble_eq_true rfl⟩) ⟨cP_blind, va_recv hK hPc (ci := 2) (q0 := 0) rfl rfl, cP_of hPc hK hDc⟩ rfl rfl hl.1 rfl (lv_room (Nat.le_of_ble_eq_true rfl)) dX6_count_56 ⟨Nat.le_of_ble_eq_true rfl, Nat.le_of_ble_eq_true rfl⟩) hS (fun q _ h => hFc q h) hFc (fun u9 t9 H locs ht9 hvm hw hB hz1 hk1 hS => ?_)
        obtain ⟨hP1, hK1, hD1⟩ := hB
        rw [ht9] at hP1
        obtain ⟨hPq1, hDq1⟩ := bJ0 hPq hDq hk1 hFc hP1 hD1
        have hP := P_perm (pm_1234 (X0 := _)).symm hPq1
        have hD := D_perm (pm_1234 (X0 := _)).symm hDq1
        have hP : va_P D vwCl ([(ad 0, .inr (6, [.ref (q 0), .ref (q1 0), .ref (q2 0), .int f1, .int f2, .ref (ad 1), .ref (ad 3), .ref (ad 8), .ref (g 0)]))] ++ (WG K g u9.2.1 u9.2.2.1 u9.2.2.2.1 u9.2.2.2.2.1 di (nI u9.1) (nI 1) ++ ([(ad 3, .inr (4, [.ref (ad 4)]))] ++ (WE K (ad 4) (ad 5) (ad 6) (ad 7) r u9.2.2.2.2.2.1 u9.2.2.2.2.2.2.1 u9.2.2.2.2.2.2.2.1 u9.2.2.2.2.2.2.2.2 ++ (WD K q d ++ ([(ad 8, .inr (5, [.ref (ad 9)]))] ++ (WE K (ad 9) (ad 10) (ad 11) (ad 12) r2 M2 pv2 ip2 sv2 ++ (WH K (ad 1) (ad 2) f (nI s0) ++ (WD K q1 d1 ++ (WD K q2 d2)))))))))) H := hP
        have hD : va_D A ([(ad 0, .inr (6, [.ref (q 0), .ref (q1 0), .ref (q2 0), .int f1, .int f2, .ref (ad 1), .ref (ad 3), .ref (ad 8), .ref (g 0)]))] ++ (WG K g u9.2.1 u9.2.2.1 u9.2.2.2.1 u9.2.2.2.2.1 di (nI u9.1) (nI 1) ++ ([(ad 3, .inr (4, [.ref (ad 4)]))] ++ (WE K (ad 4) (ad 5) (ad 6) (ad 7) r u9.2.2.2.2.2.1 u9.2.2.2.2.2.2.1 u9.2.2.2.2.2.2.2.1 u9.2.2.2.2.2.2.2.2 ++ (WD K q d ++ ([(ad 8, .inr (5, [.ref (ad 9)]))] ++ (WE K (ad 9) (ad 10) (ad 11) (ad 12) r2 M2 pv2 ip2 sv2 ++ (WH K (ad 1) (ad 2) f (nI s0) ++ (WD K q1 d1 ++ (WD K q2 d2)))))))))) := hD
        obtain ⟨u9a, u9b⟩ := u9
        obtain ⟨hgn, htab⟩ := hw
        dsimp only at hgn htab
        subst hgn
        have hn64b := gN_le d
        have hP : va_P D vwCl ([(ad 0, .inr (6, [.ref (q 0), .ref (q1 0), .ref (q2 0), .int f1, .int f2, .ref (ad 1), .ref (ad 3), .ref (ad 8), .ref (g 0)]))] ++ (WG K g u9b.1 u9b.2.1 u9b.2.2.1 u9b.2.2.2.1 di (nI (gN d)) (nI 1) ++ ([(ad 3, .inr (4, [.ref (ad 4)]))] ++ (WE K (ad 4) (ad 5) (ad 6) (ad 7) r u9b.2.2.2.2.1 u9b.2.2.2.2.2.1 u9b.2.2.2.2.2.2.1 u9b.2.2.2.2.2.2.2 ++ (WD K q d ++ ([(ad 8, .inr (5, [.ref (ad 9)]))] ++ (WE K (ad 9) (ad 10) (ad 11) (ad 12) r2 M2 pv2 ip2 sv2 ++ (WH K (ad 1) (ad 2) f (nI s0) ++ (WD K q1 d1 ++ (WD K q2 d2)))))))))) H := hP
        have hD : va_D A ([(ad 0, .inr (6, [.ref (q 0), .ref (q1 0), .ref (q2 0), .int f1, .int f2, .ref (ad 1), .ref (ad 3), .ref (ad 8), .ref (g 0)]))] ++ (WG K g u9b.1 u9b.2.1 u9b.2.2.1 u9b.2.2.2.1 di (nI (gN d)) (nI 1) ++ ([(ad 3, .inr (4, [.ref (ad 4)]))] ++ (WE K (ad 4) (ad 5) (ad 6) (ad 7) r u9b.2.2.2.2.1 u9b.2.2.2.2.2.1 u9b.2.2.2.2.2.2.1 u9b.2.2.2.2.2.2.2 ++ (WD K q d ++ ([(ad 8, .inr (5, [.ref (ad 9)]))] ++ (WE K (ad 9) (ad 10) (ad 11) (ad 12) r2 M2 pv2 ip2 sv2 ++ (WH K (ad 1) (ad 2) f (nI s0) ++ (WD K q1 d1 ++ (WD K q2 d2)))))))))) := hD
        have hJ2 : II d (u9b.2.2.2.2.1, u9b.2.2.2.2.2.1, u9b.2.2.2.2.2.2.1, u9b.2.2.2.2.2.2.2, M2, pv2, ip2, sv2, u9b.1, u9b.2.1, u9b.2.2.1, u9b.2.2.2.1, di, (gN d), (nI 1)) := ⟨hn64b, Or.inr rfl, fun _ => ⟨rfl, htab⟩⟩
        refine lv_aload_n hx hb dX6_count_59 rfl (lv_at hl 0 rfl) ?_
        refine va_get (D := D) (ci := 6) (C := RX6) (T := TX6) (N := 9) hx hb hts iX6 hown hK hP 0 rfl rfl 8 (by decide) (hts _ k_f_X6_46) (fun _ h9 => h9) rfl dX6_count_60 ?_
        have hPq := P_perm pm_1 hP
        have hDq := D_perm pm_1 hD
        have hPc := bP0 hPq
        have hDc := bD0 hDq
        refine va_calli (va_runV (As := []) (rest := []) ⟨hx, hb, hml, hown, hts⟩ (c_X2_size l D K g u9b.1 u9b.2.1 u9b.2.2.1 u9b.2.2.2.1 di (gN d) (nI 1) H.size ) (cwV 0 hts (TB_V k_m_X6_120 k_im_X2_size k_se_X2_size k_in_X2 k_co_X2_size (fun _ h => h)) rfl rfl rfl (by decide +kernel) ⟨Nat.le_of_ble_eq_true rfl, Nat.le_of_ble_eq_true rfl⟩) ⟨cP_blind, va_recv hK hPc (ci := 2) (q0 := 0) rfl rfl, cP_of hPc hK hDc⟩ rfl rfl hl.1 rfl (lv_room (Nat.le_of_ble_eq_true rfl)) dX6_count_63 ⟨Nat.le_of_ble_eq_true rfl, Nat.le_of_ble_eq_true rfl⟩) hS (fun q _ h => absurd h id) (fun q h => absurd h id) (fun rz u9 t9 H locs ht9 hvm hw hB hz1 hk1 hS => ?_)
        have hP := P_same hP hk1
        refine t_i hw ?_
        refine vx_ret ?_
        exact W.widen (k := 1) (n := 6) (Nat.le_of_ble_eq_true rfl) (Nat.le_of_ble_eq_true rfl) (W.iret (v := nI (gN d)) hx hb hr (fun t9 ht9 hW => ⟨⟨nI (gN d), ((d, d1, d2, f1, f2, f, s0), (u9b.2.2.2.2.1, u9b.2.2.2.2.2.1, u9b.2.2.2.2.2.2.1, u9b.2.2.2.2.2.2.2, M2, pv2, ip2, sv2, u9b.1, u9b.2.1, u9b.2.2.1, u9b.2.2.2.1, di, (gN d), (nI 1))), rfl, ⟨rfl, hJ2, ((cI_f (by omega)).trans ((cI_f (by omega)).trans ((cI_f (by omega)).trans (r0 (by rw [nI_toIntI (by omega)])))))⟩, by rw [ht9]; exact hP, va_K.moved hW.alike hK, hD⟩, hS.F ht9⟩) hS.2.2 dX6_count_66)
      refine lv_aload_n hx hb dX6_count_36 rfl (lv_at hl 0 rfl) ?_
      refine va_get (D := D) (ci := 6) (C := RX6) (T := TX6) (N := 9) hx hb hts iX6 hown hK hP 0 rfl rfl 0 (by decide) (hts _ k_f_X6_12) (fun _ h9 => h9) rfl dX6_count_37 ?_
      have hPq := P_perm pm_4 hP
      have hDq := D_perm pm_4 hD
      have hPc := bP0 hPq
      have hDc := bD0 hDq
      refine va_calli (va_runV (As := []) (rest := []) ⟨hx, hb, hml, hown, hts⟩ (c_X0_elementCount l D K q d s.heap.size ) (cwV 0 hts (TB_V k_m_X6_88 k_im_X0_elementCount k_se_X0_elementCount k_in_X0 k_co_X0_elementCount (fun _ h => h)) rfl rfl rfl (by decide +kernel) ⟨Nat.le_of_ble_eq_true rfl, Nat.le_of_ble_eq_true rfl⟩) ⟨cP_blind, va_recv hK hPc (ci := 0) (q0 := 0) rfl rfl, cP_of hPc hK hDc⟩ rfl rfl hl.1 rfl (lv_room (Nat.le_of_ble_eq_true rfl)) dX6_count_40 ⟨Nat.le_of_ble_eq_true rfl, Nat.le_of_ble_eq_true rfl⟩) hS (fun q _ h => absurd h id) (fun q h => absurd h id) (fun rc u9 t9 H locs ht9 hvm hw hB hz1 hk1 hS => ?_)
      have hP := P_same hP hk1
      refine t_i (hw.trans h1) ?_
      refine vx_ret ?_
      exact W.widen (k := 1) (n := 6) (Nat.le_of_ble_eq_true rfl) (Nat.le_of_ble_eq_true rfl) (W.iret (v := nI m1) hx hb hr (fun t9 ht9 hW => ⟨⟨nI m1, ((d, d1, d2, f1, f2, f, s0), (M, pv, ip, sv, M2, pv2, ip2, sv2, ma, nu, de, ne, di, n, fr)), rfl, ⟨rfl, hJ, ((cI_f (by omega)).trans ((cI_f (by omega)).trans (cI_t (by omega)))).trans (r0 (by rw [hm1, nI_toIntI (by omega)]))⟩, by rw [ht9]; exact hP, va_K.moved hW.alike hK, hD⟩, hS.F ht9⟩) hS.2.2 dX6_count_43)
    refine lv_aload_n hx hb dX6_count_23 rfl (lv_at hl 0 rfl) ?_
    refine va_get (D := D) (ci := 6) (C := RX6) (T := TX6) (N := 9) hx hb hts iX6 hown hK hP 0 rfl rfl 0 (by decide) (hts _ k_f_X6_12) (fun _ h9 => h9) rfl dX6_count_24 ?_
    have hPq := P_perm pm_4 hP
    have hDq := D_perm pm_4 hD
    have hPc := bP0 hPq
    have hDc := bD0 hDq
    refine va_calli (va_runV (As := []) (rest := []) ⟨hx, hb, hml, hown, hts⟩ (c_X0_setCount l D K q d s.heap.size ) (cwV 0 hts (TB_V k_m_X6_70 k_im_X0_setCount k_se_X0_setCount k_in_X0 k_co_X0_setCount (fun _ h => h)) rfl rfl rfl (by decide +kernel) ⟨Nat.le_of_ble_eq_true rfl, Nat.le_of_ble_eq_true rfl⟩) ⟨cP_blind, va_recv hK hPc (ci := 0) (q0 := 0) rfl rfl, cP_of hPc hK hDc⟩ rfl rfl hl.1 rfl (lv_room (Nat.le_of_ble_eq_true rfl)) dX6_count_27 ⟨Nat.le_of_ble_eq_true rfl, Nat.le_of_ble_eq_true rfl⟩) hS (fun q _ h => absurd h id) (fun q h => absurd h id) (fun rc u9 t9 H locs ht9 hvm hw hB hz1 hk1 hS => ?_)
    have hP := P_same hP hk1
    refine t_i (hw.trans h0) ?_
    refine vx_ret ?_
    exact W.widen (k := 1) (n := 6) (Nat.le_of_ble_eq_true rfl) (Nat.le_of_ble_eq_true rfl) (W.iret (v := nI ns) hx hb hr (fun t9 ht9 hW => ⟨⟨nI ns, ((d, d1, d2, f1, f2, f, s0), (M, pv, ip, sv, M2, pv2, ip2, sv2, ma, nu, de, ne, di, n, fr)), rfl, ⟨rfl, hJ, ((cI_f (by omega)).trans (cI_t (by omega))).trans (r0 (by rw [hn1, nI_toIntI (by omega)]))⟩, by rw [ht9]; exact hP, va_K.moved hW.alike hK, hD⟩, hS.F ht9⟩) hS.2.2 dX6_count_30)
  refine thr_61 hx hb hlf hown hts hTX (is := 114) (text := "what is not 0 to 2") (by decide +kernel) hS (by rw [hml]; exact hl.1) dX6_count_9 dX6_count_12 dX6_count_13 dX6_count_15 dX6_count_18 hxt (Nat.le_of_ble_eq_true rfl) (Nat.le_of_ble_eq_true rfl) (Nat.le_of_ble_eq_true rfl) (Nat.le_of_ble_eq_true rfl) hlocks (Nat.le_of_ble_eq_true rfl) (Nat.le_of_ble_eq_true rfl) (fun t9 hal hsz9 hkk => ?_)
  exact ⟨((d, d1, d2, f1, f2, f, s0), (M, pv, ip, sv, M2, pv2, ip2, sv2, ma, nu, de, ne, di, n, fr)), ⟨rfl, hJ⟩, ⟨by rw [show rs_count d x = _ from (cI_t (by omega))]; exact ⟨by decide, rfl⟩, hP.kept (fun k q h => hkk q.1 ((hP k q h).lt)), va_K.moved hal hK, hD⟩, Nat.le_trans hS.1 hsz9, fun q h1 h2 => (hkk q (Nat.lt_of_lt_of_le h1 hS.1)).trans (hS.2.1 q h1 h2)⟩
