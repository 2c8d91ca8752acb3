/-! PlanetaryGearbox: elements, state -/
theorem cl1_le (t e : Nat) : cl1 t e ≤ t := by
  unfold cl1
  have h : t ^^^ (t &&& 2 ^ e) = t &&& (t ^^^ 2 ^ e) := by
    apply Nat.eq_of_testBit_eq
    intro i
    simp only [Nat.testBit_xor, Nat.testBit_and]
    cases t.testBit i <;> cases (2 ^ e).testBit i <;> rfl
  rw [h]
  exact Nat.and_le_left
set_option maxHeartbeats 4000000 in
set_option maxRecDepth 100000 in
theorem c_X6_engage (l : Launch) (hlf : l.stackTraces = false) (D : va_G) (K : Nat → ClassId) (ad q q1 q2 g r r2 : Nat → Nat) (v : CV) (i : CI) (x : Int32) (sz : Nat) (hI : IV v) (hJ : II v.1 i)  : vx_Met l yX6_engage (.code yX6_engage cX6_engage 2 (some .boolean) :: TB) ({ frames := 7, cells := 1, slots := 6, locals := 150 } : Room) (va_Pc [.ref (ad 0), .int x] (cPT D K (WX K ad q q1 q2 g r r2 v i) sz)) (va_Qi (fun (z : Int32) (u : CV × CI) => CHG v (nI (dn v.1 8 2 ||| 2 ^ x.toInt.toNat)) z u.1 ∧ IV u.1 ∧ II u.1.1 u.2 ∧ rs_engage v.1 x = (0, z.toInt)) (fun (u : CV × CI) t => cB D K (va_A (WX K ad q q1 q2 g r r2 v i) sz) (WX K ad q q1 q2 g r r2 u.1 u.2) t) (va_A (WX K ad q q1 q2 g r r2 v i) sz)) (vx_X (fun (u : CV × CI) => u.1 = v ∧ II u.1.1 u.2) (fun E (u : CV × CI) t => exc [eIO] (rs_engage v.1 x).1 E ∧ cB D K (va_A (WX K ad q q1 q2 g r r2 v i) sz) (WX K ad q q1 q2 g r r2 u.1 u.2) t) (va_A (WX K ad q q1 q2 g r r2 v i) sz)) 1 6 (va_A (WX K ad q q1 q2 g r r2 v i) sz) := by
  refine vx_ofW (cc := cX6_engage) (maxL := 2) (ret := (some .boolean)) (by decide) rfl ?_
  intro p e s m args below meth c s₁ B hml hxt hv
  obtain ⟨rfl, ⟨hsz, hP, hK, hD0⟩, hTX⟩ := hv
  have hx := B.exec
  have hb := B.bytes
  have hr := B.returns
  have hts := hts_tl (atoms_spec (ws := (.code yX6_engage cX6_engage 2 (some .boolean) :: TB)) B.pre)
  have hown : s.vm.findClass RX6 = some m.cls := findClass_of_methodNamed B.named
  have hlocks := B.notSynchronized
  subst hsz
  have hD := hD0.self (sz := s.heap.size)
  generalize hAe : (va_A (WX K ad q q1 q2 g r r2 v i) s.heap.size) = A at hD hTX ⊢
  have hA : ∀ q : Nat, s.heap.size ≤ q → A q := fun q h => by rw [← hAe]; exact Or.inr h
  have hS : va_S A s.heap s.heap [] := va_S.rf
  clear hAe hD0
  obtain ⟨d, d1, d2, f1, f2, f, s0⟩ := v
  obtain ⟨M, pv, ip, sv, M2, pv2, ip2, sv2, ma, nu, de, ne, di, n, fr⟩ := i
  obtain ⟨hd, hd1, hd2, hf1, hf2, hs20, hhf⟩ := id hI
  obtain ⟨hn64, hfr, hT⟩ := id hJ
  dsimp only at hd hd1 hd2 hf1 hf2 hs20 hhf hn64 hfr hT
  obtain ⟨ns, m1, ge, hns, hm, hge, h0, h1, h2, hs9, he9⟩ := id hd
  have hm1 : dn d 8 1 = m1 := dn_of h1 (by omega)
  have hn1 : dn d 8 0 = ns := dn_of h0 (by omega)
  have hp6 : 2 ^ m1 ≤ 64 := Nat.pow_le_pow_right (show 0 < 2 by decide) hm
  have hg1 : dn d 8 2 = ge := dn_of h2 (by omega)
  have hP : va_P D vwCl ([(ad 0, .inr (6, [.ref (q 0), .ref (q1 0), .ref (q2 0), .int f1, .int f2, .ref (ad 1), .ref (ad 3), .ref (ad 8), .ref (g 0)]))] ++ (WG K g ma nu de ne di (nI n) fr ++ ([(ad 3, .inr (4, [.ref (ad 4)]))] ++ (WE K (ad 4) (ad 5) (ad 6) (ad 7) r M pv ip sv ++ (WD K q d ++ ([(ad 8, .inr (5, [.ref (ad 9)]))] ++ (WE K (ad 9) (ad 10) (ad 11) (ad 12) r2 M2 pv2 ip2 sv2 ++ (WH K (ad 1) (ad 2) f (nI s0) ++ (WD K q1 d1 ++ (WD K q2 d2)))))))))) s.heap := hP
  have hD : va_D A ([(ad 0, .inr (6, [.ref (q 0), .ref (q1 0), .ref (q2 0), .int f1, .int f2, .ref (ad 1), .ref (ad 3), .ref (ad 8), .ref (g 0)]))] ++ (WG K g ma nu de ne di (nI n) fr ++ ([(ad 3, .inr (4, [.ref (ad 4)]))] ++ (WE K (ad 4) (ad 5) (ad 6) (ad 7) r M pv ip sv ++ (WD K q d ++ ([(ad 8, .inr (5, [.ref (ad 9)]))] ++ (WE K (ad 9) (ad 10) (ad 11) (ad 12) r2 M2 pv2 ip2 sv2 ++ (WH K (ad 1) (ad 2) f (nI s0) ++ (WD K q1 d1 ++ (WD K q2 d2)))))))))) := hD
  have hl := lv_entry ([.ref (ad 0), .int x]) (n := 2) (Nat.le_of_ble_eq_true rfl)
  rw [lg_entry_eq]
  generalize (lg_sl ([.ref (ad 0), .int x]) ++ List.replicate (2 - (lg_sl ([.ref (ad 0), .int x])).length) Slot.unset).toArray = ls at hl ⊢
  have hl : lv_has ls 2 [(0, .ref (ad 0)), (1, .int x)] := hl
  refine lv_aload_n hx hb dX6_engage_0 rfl (lv_at hl 0 rfl) ?_
  refine va_get (D := D) (ci := 6) (C := RX6) (T := TX6) (N := 9) hx hb hts iX6 hown hK hP 0 rfl rfl 0 (by decide) (hts _ k_f_X6_12) (fun _ h9 => h9) rfl dX6_engage_1 ?_
  refine lv_iload_n hx hb dX6_engage_4 rfl (lv_at hl 1 rfl) ?_
  have hPq := P_perm pm_4 hP
  have hDq := D_perm pm_4 hD
  have hPc := bP0 hPq
  have hDc := bD0 hDq
  refine va_calli (va_runV (As := [.int x]) (rest := []) ⟨hx, hb, hml, hown, hts⟩ (c_X0_hasElement l D K q d m1 x s.heap.size hm h1) (cwV 1 hts (TB_V k_m_X6_99 k_im_X0_hasElement k_se_X0_hasElement k_in_X0 k_co_X0_hasElement (fun _ h => h)) rfl rfl rfl (by decide +kernel) ⟨Nat.le_of_ble_eq_true rfl, Nat.le_of_ble_eq_true rfl⟩) ⟨cP_blind, va_recv hK hPc (ci := 0) (q0 := 0) rfl rfl, cP_of hPc hK hDc⟩ rfl rfl hl.1 rfl (lv_room (Nat.le_of_ble_eq_true rfl)) dX6_engage_5 ⟨Nat.le_of_ble_eq_true rfl, Nat.le_of_ble_eq_true rfl⟩) hS (fun q _ h => absurd h id) (fun q h => absurd h id) (fun he u9 t9 H locs ht9 hvm hw hB hz1 hk1 hS => ?_)
  have hP := P_same hP hk1
  have hw := hw.trans (bI_iff (show _ ↔ elm d x by unfold elm; rw [hm1]))
  by_cases hel : elm d x
  rotate_left
  · refine t_i (hw.trans (bI_f hel).symm) ?_
    refine b_if_ne hx hb (nI_toIntI (by omega)) dX6_engage_8 (tgt := 21) (by decide) (fun c8 => absurd c8 (by omega)) (fun c8 => ?_)
    refine thr_54 hx hb hlf hown hts hTX (is := 102) (text := "there is no such element") (by decide +kernel) hS (by rw [hml]; exact hl.1) dX6_engage_11 dX6_engage_14 dX6_engage_15 dX6_engage_17 dX6_engage_20 hxt (Nat.le_of_ble_eq_true rfl) (Nat.le_of_ble_eq_true rfl) (Nat.le_of_ble_eq_true rfl) (Nat.le_of_ble_eq_true rfl) hlocks (Nat.le_of_ble_eq_true rfl) (Nat.le_of_ble_eq_true rfl) (fun t9 hal hsz9 hkk => ?_)
    exact ⟨((d, d1, d2, f1, f2, f, s0), (M, pv, ip, sv, M2, pv2, ip2, sv2, ma, nu, de, ne, di, n, fr)), ⟨rfl, hJ⟩, ⟨by rw [show rs_engage d x = _ from (cI_t (hel))]; exact ⟨by decide, rfl⟩, hP.kept (fun k q h => hkk q.1 ((hP k q h).lt)), va_K.moved hal hK, hD⟩, Nat.le_trans hS.1 hsz9, fun q h1 h2 => (hkk q (Nat.lt_of_lt_of_le h1 hS.1)).trans (hS.2.1 q h1 h2)⟩
  refine t_i (hw.trans (bI_t hel).symm) ?_
  obtain ⟨ke, hke, rfl⟩ := id hel
  have hke2 := hke
  rw [hm1] at hke2
  have hkn : (nI ke).toInt.toNat = ke := by rw [nI_toIntI (by omega)]; omega
  refine b_if_ne hx hb (nI_toIntI (by omega)) dX6_engage_8 (tgt := 21) (by decide) (fun c8 => ?_) (fun c8 => absurd c8 (by omega))
  refine lv_aload_n hx hb dX6_engage_21 rfl (lv_at hl 0 rfl) ?_
  refine lv_aload_n hx hb dX6_engage_22 rfl (lv_at hl 0 rfl) ?_
  refine va_get (D := D) (ci := 6) (C := RX6) (T := TX6) (N := 9) hx hb hts iX6 hown hK hP 0 rfl rfl 0 (by decide) (hts _ k_f_X6_12) (fun _ h9 => h9) rfl dX6_engage_23 ?_
  have hPq := P_perm pm_4 hP
  have hDq := D_perm pm_4 hD
  have hPc := bP0 hPq
  have hDc := bD0 hDq
  refine va_calli (va_runV (As := []) (rest := [.ref (ad 0)]) ⟨hx, hb, hml, hown, hts⟩ (c_X0_engagedMask l D K q d H.size ) (cwV 0 hts (TB_V k_m_X6_123 k_im_X0_engagedMask k_se_X0_engagedMask k_in_X0 k_co_X0_engagedMask (fun _ h => h)) rfl rfl rfl (by decide +kernel) ⟨Nat.le_of_ble_eq_true rfl, Nat.le_of_ble_eq_true rfl⟩) ⟨cP_blind, va_recv hK hPc (ci := 0) (q0 := 0) rfl rfl, cP_of hPc hK hDc⟩ rfl rfl hl.1 rfl (lv_room (Nat.le_of_ble_eq_true rfl)) dX6_engage_26 ⟨Nat.le_of_ble_eq_true rfl, Nat.le_of_ble_eq_true rfl⟩) hS (fun q _ h => absurd h id) (fun q h => absurd h id) (fun em u9 t9 H locs ht9 hvm hw hB hz1 hk1 hS => ?_)
  have hP := P_same hP hk1
  refine t_i (hw.trans h2) ?_
  refine lv_iconst (v := nI 1) hx hb dX6_engage_29 (by decide) ?_
  refine lv_iload_n hx hb dX6_engage_30 rfl (lv_at hl 1 rfl) ?_
  refine lv_ishl hx hb dX6_engage_31 ?_
  refine lv_ior hx hb dX6_engage_32 ?_
  refine t_i (w_or ge (by omega) ke (by omega)) ?_
  have hPc : va_P D vwCl (WX K ad q q1 q2 g r r2 (d, d1, d2, f1, f2, f, s0) (M, pv, ip, sv, M2, pv2, ip2, sv2, ma, nu, de, ne, di, n, fr)) H := hP
  have hDc : va_D A (WX K ad q q1 q2 g r r2 (d, d1, d2, f1, f2, f, s0) (M, pv, ip, sv, M2, pv2, ip2, sv2, ma, nu, de, ne, di, n, fr)) := hD
  have hFc := freeAll hDc hS hA
  refine va_calli (va_runV (As := [.int (nI (ge ||| 2 ^ ke))]) (rest := []) ⟨hx, hb, hml, hown, hts⟩ (c_X6_changeEngaged l D K ad q q1 q2 g r r2 (d, d1, d2, f1, f2, f, s0) (M, pv, ip, sv, M2, pv2, ip2, sv2, ma, nu, de, ne, di, n, fr) (nI (ge ||| 2 ^ ke)) H.size hI hJ ) (cwV 1 hts (TB_V k_m_X6_126 k_im_X6_changeEngaged k_se_X6_changeEngaged k_in_X6 k_co_X6_changeEngaged (fun _ h => h)) rfl rfl rfl (by decide +kernel) ⟨Nat.le_of_ble_eq_true rfl, Nat.le_of_ble_eq_true rfl⟩) ⟨cP_blind, va_recv hK hP (ci := 6) (q0 := 0) rfl rfl, cP_of hPc hK hDc⟩ rfl rfl hl.1 rfl (lv_room (Nat.le_of_ble_eq_true rfl)) dX6_engage_33 ⟨Nat.le_of_ble_eq_true rfl, Nat.le_of_ble_eq_true rfl⟩) hS (fun q _ h => hFc q h) hFc (fun ce u9 t9 H locs ht9 hvm hw hB hz1 hk1 hS => ?_)
  obtain ⟨hP, hK1, hD1⟩ := hB
  rw [ht9] at hP
  have hD := hD1.weaken (fun _ _ _ h => hFc _ h)
  obtain ⟨⟨d8, d18, d28, f18, f28, f8, s08⟩, ⟨M8, pv8, ip8, sv8, M28, pv28, ip28, sv28, ma8, nu8, de8, ne8, di8, n8, fr8⟩⟩ := u9
  have hP : va_P D vwCl ([(ad 0, .inr (6, [.ref (q 0), .ref (q1 0), .ref (q2 0), .int f18, .int f28, .ref (ad 1), .ref (ad 3), .ref (ad 8), .ref (g 0)]))] ++ (WG K g ma8 nu8 de8 ne8 di8 (nI n8) fr8 ++ ([(ad 3, .inr (4, [.ref (ad 4)]))] ++ (WE K (ad 4) (ad 5) (ad 6) (ad 7) r M8 pv8 ip8 sv8 ++ (WD K q d8 ++ ([(ad 8, .inr (5, [.ref (ad 9)]))] ++ (WE K (ad 9) (ad 10) (ad 11) (ad 12) r2 M28 pv28 ip28 sv28 ++ (WH K (ad 1) (ad 2) f8 (nI s08) ++ (WD K q1 d18 ++ (WD K q2 d28)))))))))) H := hP
  have hD : va_D A ([(ad 0, .inr (6, [.ref (q 0), .ref (q1 0), .ref (q2 0), .int f18, .int f28, .ref (ad 1), .ref (ad 3), .ref (ad 8), .ref (g 0)]))] ++ (WG K g ma8 nu8 de8 ne8 di8 (nI n8) fr8 ++ ([(ad 3, .inr (4, [.ref (ad 4)]))] ++ (WE K (ad 4) (ad 5) (ad 6) (ad 7) r M8 pv8 ip8 sv8 ++ (WD K q d8 ++ ([(ad 8, .inr (5, [.ref (ad 9)]))] ++ (WE K (ad 9) (ad 10) (ad 11) (ad 12) r2 M28 pv28 ip28 sv28 ++ (WH K (ad 1) (ad 2) f8 (nI s08) ++ (WD K q1 d18 ++ (WD K q2 d28)))))))))) := hD
  obtain ⟨hJ8, hch⟩ := hw
  have hnew : (ge ||| 2 ^ ke) < 2 ^ m1 := Nat.or_lt_two_pow hge (Nat.pow_lt_pow_right (by decide) hke2)
  have hI8 := IV_CHG hI ⟨(ge ||| 2 ^ ke), by show _ < 2 ^ dn d 8 1; rw [hm1]; exact hnew, rfl⟩ hch
  have hrs : ce = nI (if (ge ||| 2 ^ ke) = ge then 0 else 1) := by
    rcases hch with ⟨e1, e2, -⟩ | ⟨e1, e2, -⟩
    · have e1 : nI (ge ||| 2 ^ ke) = d 8 2 := e1
      rw [h2] at e1; rw [if_pos ((nI_eq (by omega) (by omega)).mp e1)]; exact e2
    · have e1 : ¬ nI (ge ||| 2 ^ ke) = d 8 2 := e1
      rw [h2] at e1; rw [if_neg (fun z => e1 (by rw [z]))]; exact e2
  have hz01 : ce = nI 0 ∨ ce = nI 1 := by rw [hrs]; split; exact Or.inl rfl; exact Or.inr rfl
  refine vx_ret ?_
  exact W.widen (k := 1) (n := 6) (Nat.le_of_ble_eq_true rfl) (Nat.le_of_ble_eq_true rfl) (W.zret (v := ce) hx hb hr (by rcases hz01 with z | z <;> rw [z] <;> decide) (fun t9 ht9 hW => ⟨⟨ce, ((d8, d18, d28, f18, f28, f8, s08), (M8, pv8, ip8, sv8, M28, pv28, ip28, sv28, ma8, nu8, de8, ne8, di8, n8, fr8)), rfl, ⟨by rw [hkn, hg1]; exact hch, hI8, hJ8, by
      refine (cI_f (fun z => z hel)).trans ?_
      rw [hkn, hg1, hrs]
      by_cases q : (ge ||| 2 ^ ke) = ge
      · rw [if_pos q]; exact cI_t q
      · rw [if_neg q]; exact cI_f q⟩, by rw [ht9]; exact hP, va_K.moved hW.alike hK, hD⟩, hS.F ht9⟩) hS.2.2 dX6_engage_36)
set_option maxHeartbeats 4000000 in
set_option maxRecDepth 100000 in
theorem c_X6_release (l : Launch) (hlf : l.stackTraces = false) (D : va_G) (K : Nat → ClassId) (ad q q1 q2 g r r2 : Nat → Nat) (v : CV) (i : CI) (x : Int32) (sz : Nat) (hI : IV v) (hJ : II v.1 i)  : vx_Met l yX6_release (.code yX6_release cX6_release 2 (some .boolean) :: TB) ({ frames := 7, cells := 1, slots := 6, locals := 150 } : Room) (va_Pc [.ref (ad 0), .int x] (cPT D K (WX K ad q q1 q2 g r r2 v i) sz)) (va_Qi (fun (z : Int32) (u : CV × CI) => CHG v (nI (cl1 (dn v.1 8 2) x.toInt.toNat)) z u.1 ∧ IV u.1 ∧ II u.1.1 u.2 ∧ rs_release v.1 x = (0, z.toInt)) (fun (u : CV × CI) t => cB D K (va_A (WX K ad q q1 q2 g r r2 v i) sz) (WX K ad q q1 q2 g r r2 u.1 u.2) t) (va_A (WX K ad q q1 q2 g r r2 v i) sz)) (vx_X (fun (u : CV × CI) => u.1 = v ∧ II u.1.1 u.2) (fun E (u : CV × CI) t => exc [eIO] (rs_release v.1 x).1 E ∧ cB D K (va_A (WX K ad q q1 q2 g r r2 v i) sz) (WX K ad q q1 q2 g r r2 u.1 u.2) t) (va_A (WX K ad q q1 q2 g r r2 v i) sz)) 1 6 (va_A (WX K ad q q1 q2 g r r2 v i) sz) := by
  refine vx_ofW (cc := cX6_release) (maxL := 2) (ret := (some .boolean)) (by decide) rfl ?_
  intro p e s m args below meth c s₁ B hml hxt hv
  obtain ⟨rfl, ⟨hsz, hP, hK, hD0⟩, hTX⟩ := hv
  have hx := B.exec
  have hb := B.bytes
  have hr := B.returns
  have hts := hts_tl (atoms_spec (ws := (.code yX6_release cX6_release 2 (some .boolean) :: TB)) B.pre)
  have hown : s.vm.findClass RX6 = some m.cls := findClass_of_methodNamed B.named
  have hlocks := B.notSynchronized
  subst hsz
  have hD := hD0.self (sz := s.heap.size)
  generalize hAe : (va_A (WX K ad q q1 q2 g r r2 v i) s.heap.size) = A at hD hTX ⊢
  have hA : ∀ q : Nat, s.heap.size ≤ q → A q := fun q h => by rw [← hAe]; exact Or.inr h
  have hS : va_S A s.heap s.heap [] := va_S.rf
  clear hAe hD0
  obtain ⟨d, d1, d2, f1, f2, f, s0⟩ := v
  obtain ⟨M, pv, ip, sv, M2, pv2, ip2, sv2, ma, nu, de, ne, di, n, fr⟩ := i
  obtain ⟨hd, hd1, hd2, hf1, hf2, hs20, hhf⟩ := id hI
  obtain ⟨hn64, hfr, hT⟩ := id hJ
  dsimp only at hd hd1 hd2 hf1 hf2 hs20 hhf hn64 hfr hT
  obtain ⟨ns, m1, ge, hns, hm, hge, h0, h1, h2, hs9, he9⟩ := id hd
  have hm1 : dn d 8 1 = m1 := dn_of h1 (by omega)
  have hn1 : dn d 8 0 = ns := dn_of h0 (by omega)
  have hp6 : 2 ^ m1 ≤ 64 := Nat.pow_le_pow_right (show 0 < 2 by decide) hm
  have hg1 : dn d 8 2 = ge := dn_of h2 (by omega)
  have hP : va_P D vwCl ([(ad 0, .inr (6, [.ref (q 0), .ref (q1 0), .ref (q2 0), .int f1, .int f2, .ref (ad 1), .ref (ad 3), .ref (ad 8), .ref (g 0)]))] ++ (WG K g ma nu de ne di (nI n) fr ++ ([(ad 3, .inr (4, [.ref (ad 4)]))] ++ (WE K (ad 4) (ad 5) (ad 6) (ad 7) r M pv ip sv ++ (WD K q d ++ ([(ad 8, .inr (5, [.ref (ad 9)]))] ++ (WE K (ad 9) (ad 10) (ad 11) (ad 12) r2 M2 pv2 ip2 sv2 ++ (WH K (ad 1) (ad 2) f (nI s0) ++ (WD K q1 d1 ++ (WD K q2 d2)))))))))) s.heap := hP
  have hD : va_D A ([(ad 0, .inr (6, [.ref (q 0), .ref (q1 0), .ref (q2 0), .int f1, .int f2, .ref (ad 1), .ref (ad 3), .ref (ad 8), .ref (g 0)]))] ++ (WG K g ma nu de ne di (nI n) fr ++ ([(ad 3, .inr (4, [.ref (ad 4)]))] ++ (WE K (ad 4) (ad 5) (ad 6) (ad 7) r M pv ip sv ++ (WD K q d ++ ([(ad 8, .inr (5, [.ref (ad 9)]))] ++ (WE K (ad 9) (ad 10) (ad 11) (ad 12) r2 M2 pv2 ip2 sv2 ++ (WH K (ad 1) (ad 2) f (nI s0) ++ (WD K q1 d1 ++ (WD K q2 d2)))))))))) := hD
  have hl := lv_entry ([.ref (ad 0), .int x]) (n := 2) (Nat.le_of_ble_eq_true rfl)
  rw [lg_entry_eq]
  generalize (lg_sl ([.ref (ad 0), .int x]) ++ List.replicate (2 - (lg_sl ([.ref (ad 0), .int x])).length) Slot.unset).toArray = ls at hl ⊢
  have hl : lv_has ls 2 [(0, .ref (ad 0)), (1, .int x)] := hl
  refine lv_aload_n hx hb dX6_release_0 rfl (lv_at hl 0 rfl) ?_
  refine va_get (D := D) (ci := 6) (C := RX6) (T := TX6) (N := 9) hx hb hts iX6 hown hK hP 0 rfl rfl 0 (by decide) (hts _ k_f_X6_12) (fun _ h9 => h9) rfl dX6_release_1 ?_
  refine lv_iload_n hx hb dX6_release_4 rfl (lv_at hl 1 rfl) ?_
  have hPq := P_perm pm_4 hP
  have hDq := D_perm pm_4 hD
  have hPc := bP0 hPq
  have hDc := bD0 hDq
  refine va_calli (va_runV (As := [.int x]) (rest := []) ⟨hx, hb, hml, hown, hts⟩ (c_X0_hasElement l D K q d m1 x s.heap.size hm h1) (cwV 1 hts (TB_V k_m_X6_99 k_im_X0_hasElement k_se_X0_hasElement k_in_X0 k_co_X0_hasElement (fun _ h => h)) rfl rfl rfl (by decide +kernel) ⟨Nat.le_of_ble_eq_true rfl, Nat.le_of_ble_eq_true rfl⟩) ⟨cP_blind, va_recv hK hPc (ci := 0) (q0 := 0) rfl rfl, cP_of hPc hK hDc⟩ rfl rfl hl.1 rfl (lv_room (Nat.le_of_ble_eq_true rfl)) dX6_release_5 ⟨Nat.le_of_ble_eq_true rfl, Nat.le_of_ble_eq_true rfl⟩) hS (fun q _ h => absurd h id) (fun q h => absurd h id) (fun he u9 t9 H locs ht9 hvm hw hB hz1 hk1 hS => ?_)
  have hP := P_same hP hk1
  have hw := hw.trans (bI_iff (show _ ↔ elm d x by unfold elm; rw [hm1]))
  by_cases hel : elm d x
  rotate_left
  · refine t_i (hw.trans (bI_f hel).symm) ?_
    refine b_if_ne hx hb (nI_toIntI (by omega)) dX6_release_8 (tgt := 21) (by decide) (fun c8 => absurd c8 (by omega)) (fun c8 => ?_)
    refine thr_54 hx hb hlf hown hts hTX (is := 102) (text := "there is no such element") (by decide +kernel) hS (by rw [hml]; exact hl.1) dX6_release_11 dX6_release_14 dX6_release_15 dX6_release_17 dX6_release_20 hxt (Nat.le_of_ble_eq_true rfl) (Nat.le_of_ble_eq_true rfl) (Nat.le_of_ble_eq_true rfl) (Nat.le_of_ble_eq_true rfl) hlocks (Nat.le_of_ble_eq_true rfl) (Nat.le_of_ble_eq_true rfl) (fun t9 hal hsz9 hkk => ?_)
    exact ⟨((d, d1, d2, f1, f2, f, s0), (M, pv, ip, sv, M2, pv2, ip2, sv2, ma, nu, de, ne, di, n, fr)), ⟨rfl, hJ⟩, ⟨by rw [show rs_release d x = _ from (cI_t (hel))]; exact ⟨by decide, rfl⟩, hP.kept (fun k q h => hkk q.1 ((hP k q h).lt)), va_K.moved hal hK, hD⟩, Nat.le_trans hS.1 hsz9, fun q h1 h2 => (hkk q (Nat.lt_of_lt_of_le h1 hS.1)).trans (hS.2.1 q h1 h2)⟩
  refine t_i (hw.trans (bI_t hel).symm) ?_
  obtain ⟨ke, hke, rfl⟩ := id hel
  have hke2 := hke
  rw [hm1] at hke2
  have hkn : (nI ke).toInt.toNat = ke := by rw [nI_toIntI (by omega)]; omega
  refine b_if_ne hx hb (nI_toIntI (by omega)) dX6_release_8 (tgt := 21) (by decide) (fun c8 => ?_) (fun c8 => absurd c8 (by omega))
  refine lv_aload_n hx hb dX6_release_21 rfl (lv_at hl 0 rfl) ?_
  refine lv_aload_n hx hb dX6_release_22 rfl (lv_at hl 0 rfl) ?_
  refine va_get (D := D) (ci := 6) (C := RX6) (T := TX6) (N := 9) hx hb hts iX6 hown hK hP 0 rfl rfl 0 (by decide) (hts _ k_f_X6_12) (fun _ h9 => h9) rfl dX6_release_23 ?_
  have hPq := P_perm pm_4 hP
  have hDq := D_perm pm_4 hD
  have hPc := bP0 hPq
  have hDc := bD0 hDq
  refine va_calli (va_runV (As := []) (rest := [.ref (ad 0)]) ⟨hx, hb, hml, hown, hts⟩ (c_X0_engagedMask l D K q d H.size ) (cwV 0 hts (TB_V k_m_X6_123 k_im_X0_engagedMask k_se_X0_engagedMask k_in_X0 k_co_X0_engagedMask (fun _ h => h)) rfl rfl rfl (by decide +kernel) ⟨Nat.le_of_ble_eq_true rfl, Nat.le_of_ble_eq_true rfl⟩) ⟨cP_blind, va_recv hK hPc (ci := 0) (q0 := 0) rfl rfl, cP_of hPc hK hDc⟩ rfl rfl hl.1 rfl (lv_room (Nat.le_of_ble_eq_true rfl)) dX6_release_26 ⟨Nat.le_of_ble_eq_true rfl, Nat.le_of_ble_eq_true rfl⟩) hS (fun q _ h => absurd h id) (fun q h => absurd h id) (fun em u9 t9 H locs ht9 hvm hw hB hz1 hk1 hS => ?_)
  have hP := P_same hP hk1
  refine t_i (hw.trans h2) ?_
  refine lv_iconst (v := nI 1) hx hb dX6_release_29 (by decide) ?_
  refine lv_iload_n hx hb dX6_release_30 rfl (lv_at hl 1 rfl) ?_
  refine lv_ishl hx hb dX6_release_31 ?_
  refine lv_iconst (v := (-1)) hx hb dX6_release_32 (by decide) ?_
  refine lv_ixor hx hb dX6_release_33 ?_
  refine lv_iand hx hb dX6_release_34 ?_
  refine t_i (w_clr ge (by omega) ke (by omega)) ?_
  have hPc : va_P D vwCl (WX K ad q q1 q2 g r r2 (d, d1, d2, f1, f2, f, s0) (M, pv, ip, sv, M2, pv2, ip2, sv2, ma, nu, de, ne, di, n, fr)) H := hP
  have hDc : va_D A (WX K ad q q1 q2 g r r2 (d, d1, d2, f1, f2, f, s0) (M, pv, ip, sv, M2, pv2, ip2, sv2, ma, nu, de, ne, di, n, fr)) := hD
  have hFc := freeAll hDc hS hA
  refine va_calli (va_runV (As := [.int (nI (cl1 ge ke))]) (rest := []) ⟨hx, hb, hml, hown, hts⟩ (c_X6_changeEngaged l D K ad q q1 q2 g r r2 (d, d1, d2, f1, f2, f, s0) (M, pv, ip, sv, M2, pv2, ip2, sv2, ma, nu, de, ne, di, n, fr) (nI (cl1 ge ke)) H.size hI hJ ) (cwV 1 hts (TB_V k_m_X6_126 k_im_X6_changeEngaged k_se_X6_changeEngaged k_in_X6 k_co_X6_changeEngaged (fun _ h => h)) rfl rfl rfl (by decide +kernel) ⟨Nat.le_of_ble_eq_true rfl, Nat.le_of_ble_eq_true rfl⟩) ⟨cP_blind, va_recv hK hP (ci := 6) (q0 := 0) rfl rfl, cP_of hPc hK hDc⟩ rfl rfl hl.1 rfl (lv_room (Nat.le_of_ble_eq_true rfl)) dX6_release_35 ⟨Nat.le_of_ble_eq_true rfl, Nat.le_of_ble_eq_true rfl⟩) hS (fun q _ h => hFc q h) hFc (fun ce u9 t9 H locs ht9 hvm hw hB hz1 hk1 hS => ?_)
  obtain ⟨hP, hK1, hD1⟩ := hB
  rw [ht9] at hP
  have hD := hD1.weaken (fun _ _ _ h => hFc _ h)
  obtain ⟨⟨d8, d18, d28, f18, f28, f8, s08⟩, ⟨M8, pv8, ip8, sv8, M28, pv28, ip28, sv28, ma8, nu8, de8, ne8, di8, n8, fr8⟩⟩ := u9
  have hP : va_P D vwCl ([(ad 0, .inr (6, [.ref (q 0), .ref (q1 0), .ref (q2 0), .int f18, .int f28, .ref (ad 1), .ref (ad 3), .ref (ad 8), .ref (g 0)]))] ++ (WG K g ma8 nu8 de8 ne8 di8 (nI n8) fr8 ++ ([(ad 3, .inr (4, [.ref (ad 4)]))] ++ (WE K (ad 4) (ad 5) (ad 6) (ad 7) r M8 pv8 ip8 sv8 ++ (WD K q d8 ++ ([(ad 8, .inr (5, [.ref (ad 9)]))] ++ (WE K (ad 9) (ad 10) (ad 11) (ad 12) r2 M28 pv28 ip28 sv28 ++ (WH K (ad 1) (ad 2) f8 (nI s08) ++ (WD K q1 d18 ++ (WD K q2 d28)))))))))) H := hP
  have hD : va_D A ([(ad 0, .inr (6, [.ref (q 0), .ref (q1 0), .ref (q2 0), .int f18, .int f28, .ref (ad 1), .ref (ad 3), .ref (ad 8), .ref (g 0)]))] ++ (WG K g ma8 nu8 de8 ne8 di8 (nI n8) fr8 ++ ([(ad 3, .inr (4, [.ref (ad 4)]))] ++ (WE K (ad 4) (ad 5) (ad 6) (ad 7) r M8 pv8 ip8 sv8 ++ (WD K q d8 ++ ([(ad 8, .inr (5, [.ref (ad 9)]))] ++ (WE K (ad 9) (ad 10) (ad 11) (ad 12) r2 M28 pv28 ip28 sv28 ++ (WH K (ad 1) (ad 2) f8 (nI s08) ++ (WD K q1 d18 ++ (WD K q2 d28)))))))))) := hD
  obtain ⟨hJ8, hch⟩ := hw
  have hnew : (cl1 ge ke) < 2 ^ m1 := Nat.lt_of_le_of_lt (cl1_le ge ke) hge
  have hI8 := IV_CHG hI ⟨(cl1 ge ke), by show _ < 2 ^ dn d 8 1; rw [hm1]; exact hnew, rfl⟩ hch
  have hrs : ce = nI (if (cl1 ge ke) = ge then 0 else 1) := by
    rcases hch with ⟨e1, e2, -⟩ | ⟨e1, e2, -⟩
    · have e1 : nI (cl1 ge ke) = d 8 2 := e1
      rw [h2] at e1; rw [if_pos ((nI_eq (by omega) (by omega)).mp e1)]; exact e2
    · have e1 : ¬ nI (cl1 ge ke) = d 8 2 := e1
      rw [h2] at e1; rw [if_neg (fun z => e1 (by rw [z]))]; exact e2
  have hz01 : ce = nI 0 ∨ ce = nI 1 := by rw [hrs]; split; exact Or.inl rfl; exact Or.inr rfl
  refine vx_ret ?_
  exact W.widen (k := 1) (n := 6) (Nat.le_of_ble_eq_true rfl) (Nat.le_of_ble_eq_true rfl) (W.zret (v := ce) hx hb hr (by rcases hz01 with z | z <;> rw [z] <;> decide) (fun t9 ht9 hW => ⟨⟨ce, ((d8, d18, d28, f18, f28, f8, s08), (M8, pv8, ip8, sv8, M28, pv28, ip28, sv28, ma8, nu8, de8, ne8, di8, n8, fr8)), rfl, ⟨by rw [hkn, hg1]; exact hch, hI8, hJ8, by
      refine (cI_f (fun z => z hel)).trans ?_
      rw [hkn, hg1, hrs]
      by_cases q : (cl1 ge ke) = ge
      · rw [if_pos q]; exact cI_t q
      · rw [if_neg q]; exact cI_f q⟩, by rw [ht9]; exact hP, va_K.moved hW.alike hK, hD⟩, hS.F ht9⟩) hS.2.2 dX6_release_38)
set_option maxHeartbeats 4000000 in
set_option maxRecDepth 100000 in
theorem c_X6_select (l : Launch) (hlf : l.stackTraces = false) (D : va_G) (K : Nat → ClassId) (ad q q1 q2 g r r2 : Nat → Nat) (v : CV) (i : CI) (x : Int32) (sz : Nat) (hI : IV v) (hJ : II v.1 i)  : vx_Met l yX6_select (.code yX6_select cX6_select 3 (some .int) :: TB) ({ frames := 7, cells := 1, slots := 6, locals := 150 } : Room) (va_Pc [.ref (ad 0), .int x] (cPT D K (WX K ad q q1 q2 g r r2 v i) sz)) (va_Qi (fun (z : Int32) (u : CV × CI) => (∃ z1, CHG v x z1 u.1) ∧ IV u.1 ∧ II u.1.1 u.2 ∧ rs_select v.1 x = (0, z.toInt)) (fun (u : CV × CI) t => cB D K (va_A (WX K ad q q1 q2 g r r2 v i) sz) (WX K ad q q1 q2 g r r2 u.1 u.2) t) (va_A (WX K ad q q1 q2 g r r2 v i) sz)) (vx_X (fun (u : CV × CI) => u.1 = v ∧ II u.1.1 u.2) (fun E (u : CV × CI) t => exc [eIA] (rs_select v.1 x).1 E ∧ cB D K (va_A (WX K ad q q1 q2 g r r2 v i) sz) (WX K ad q q1 q2 g r r2 u.1 u.2) t) (va_A (WX K ad q q1 q2 g r r2 v i) sz)) 1 6 (va_A (WX K ad q q1 q2 g r r2 v i) sz) := by
  refine vx_ofW (cc := cX6_select) (maxL := 3) (ret := (some .int)) (by decide) rfl ?_
  intro p e s m args below meth c s₁ B hml hxt hv
  obtain ⟨rfl, ⟨hsz, hP, hK, hD0⟩, hTX⟩ := hv
  have hx := B.exec
  have hb := B.bytes
  have hr := B.returns
  have hts := hts_tl (atoms_spec (ws := (.code yX6_select cX6_select 3 (some .int) :: TB)) B.pre)
  have hown : s.vm.findClass RX6 = some m.cls := findClass_of_methodNamed B.named
  have hlocks := B.notSynchronized
  subst hsz
  have hD := hD0.self (sz := s.heap.size)
  generalize hAe : (va_A (WX K ad q q1 q2 g r r2 v i) s.heap.size) = A at hD hTX ⊢
  have hA : ∀ q : Nat, s.heap.size ≤ q → A q := fun q h => by rw [← hAe]; exact Or.inr h
  have hS : va_S A s.heap s.heap [] := va_S.rf
  clear hAe hD0
  obtain ⟨d, d1, d2, f1, f2, f, s0⟩ := v
  obtain ⟨M, pv, ip, sv, M2, pv2, ip2, sv2, ma, nu, de, ne, di, n, fr⟩ := i
  obtain ⟨hd, hd1, hd2, hf1, hf2, hs20, hhf⟩ := id hI
  obtain ⟨hn64, hfr, hT⟩ := id hJ
  dsimp only at hd hd1 hd2 hf1 hf2 hs20 hhf hn64 hfr hT
  obtain ⟨ns, m1, ge, hns, hm, hge, h0, h1, h2, hs9, he9⟩ := id hd
  have hm1 : dn d 8 1 = m1 := dn_of h1 (by omega)
  have hn1 : dn d 8 0 = ns := dn_of h0 (by omega)
  have hp6 : 2 ^ m1 ≤ 64 := Nat.pow_le_pow_right (show 0 < 2 by decide) hm
  have hg1 : dn d 8 2 = ge := dn_of h2 (by omega)
  have hP : va_P D vwCl ([(ad 0, .inr (6, [.ref (q 0), .ref (q1 0), .ref (q2 0), .int f1, .int f2, .ref (ad 1), .ref (ad 3), .ref (ad 8), .ref (g 0)]))] ++ (WG K g ma nu de ne di (nI n) fr ++ ([(ad 3, .inr (4, [.ref (ad 4)]))] ++ (WE K (ad 4) (ad 5) (ad 6) (ad 7) r M pv ip sv ++ (WD K q d ++ ([(ad 8, .inr (5, [.ref (ad 9)]))] ++ (WE K (ad 9) (ad 10) (ad 11) (ad 12) r2 M2 pv2 ip2 sv2 ++ (WH K (ad 1) (ad 2) f (nI s0) ++ (WD K q1 d1 ++ (WD K q2 d2)))))))))) s.heap := hP
  have hD : va_D A ([(ad 0, .inr (6, [.ref (q 0), .ref (q1 0), .ref (q2 0), .int f1, .int f2, .ref (ad 1), .ref (ad 3), .ref (ad 8), .ref (g 0)]))] ++ (WG K g ma nu de ne di (nI n) fr ++ ([(ad 3, .inr (4, [.ref (ad 4)]))] ++ (WE K (ad 4) (ad 5) (ad 6) (ad 7) r M pv ip sv ++ (WD K q d ++ ([(ad 8, .inr (5, [.ref (ad 9)]))] ++ (WE K (ad 9) (ad 10) (ad 11) (ad 12) r2 M2 pv2 ip2 sv2 ++ (WH K (ad 1) (ad 2) f (nI s0) ++ (WD K q1 d1 ++ (WD K q2 d2)))))))))) := hD
  have hl := lv_entry ([.ref (ad 0), .int x]) (n := 3) (Nat.le_of_ble_eq_true rfl)
  rw [lg_entry_eq]
  generalize (lg_sl ([.ref (ad 0), .int x]) ++ List.replicate (3 - (lg_sl ([.ref (ad 0), .int x])).length) Slot.unset).toArray = ls at hl ⊢
  have hl : lv_has ls 3 [(0, .ref (ad 0)), (1, .int x)] := hl
  refine lv_aload_n hx hb dX6_select_0 rfl (lv_at hl 0 rfl) ?_
  refine va_get (D := D) (ci := 6) (C := RX6) (T := TX6) (N := 9) hx hb hts iX6 hown hK hP 0 rfl rfl 0 (by decide) (hts _ k_f_X6_12) (fun _ h9 => h9) rfl dX6_select_1 ?_
  refine lv_iload_n hx hb dX6_select_4 rfl (lv_at hl 1 rfl) ?_
  have hPq := P_perm pm_4 hP
  have hDq := D_perm pm_4 hD
  have hPc := bP0 hPq
  have hDc := bD0 hDq
  refine va_calli (va_runV (As := [.int x]) (rest := []) ⟨hx, hb, hml, hown, hts⟩ (c_X0_hasElements l D K q d m1 x s.heap.size hm h1) (cwV 1 hts (TB_V k_m_X6_129 k_im_X0_hasElements k_se_X0_hasElements k_in_X0 k_co_X0_hasElements (fun _ h => h)) rfl rfl rfl (by decide +kernel) ⟨Nat.le_of_ble_eq_true rfl, Nat.le_of_ble_eq_true rfl⟩) ⟨cP_blind, va_recv hK hPc (ci := 0) (q0 := 0) rfl rfl, cP_of hPc hK hDc⟩ rfl rfl hl.1 rfl (lv_room (Nat.le_of_ble_eq_true rfl)) dX6_select_5 ⟨Nat.le_of_ble_eq_true rfl, Nat.le_of_ble_eq_true rfl⟩) hS (fun q _ h => absurd h id) (fun q h => absurd h id) (fun he u9 t9 H locs ht9 hvm hw hB hz1 hk1 hS => ?_)
  have hP := P_same hP hk1
  have hw := hw.trans (bI_iff (show _ ↔ msk d x by unfold msk; rw [hm1]))
  by_cases hms : msk d x
  rotate_left
  · refine t_i (hw.trans (bI_f hms).symm) ?_
    refine b_if_ne hx hb (nI_toIntI (by omega)) dX6_select_8 (tgt := 21) (by decide) (fun c8 => absurd c8 (by omega)) (fun c8 => ?_)
    refine thr_61 hx hb hlf hown hts hTX (is := 132) (text := "the mask is negative or has an element too many") (by decide +kernel) hS (by rw [hml]; exact hl.1) dX6_select_11 dX6_select_14 dX6_select_15 dX6_select_17 dX6_select_20 hxt (Nat.le_of_ble_eq_true rfl) (Nat.le_of_ble_eq_true rfl) (Nat.le_of_ble_eq_true rfl) (Nat.le_of_ble_eq_true rfl) hlocks (Nat.le_of_ble_eq_true rfl) (Nat.le_of_ble_eq_true rfl) (fun t9 hal hsz9 hkk => ?_)
    exact ⟨((d, d1, d2, f1, f2, f, s0), (M, pv, ip, sv, M2, pv2, ip2, sv2, ma, nu, de, ne, di, n, fr)), ⟨rfl, hJ⟩, ⟨by rw [show rs_select d x = _ from (cI_t (hms))]; exact ⟨by decide, rfl⟩, hP.kept (fun k q h => hkk q.1 ((hP k q h).lt)), va_K.moved hal hK, hD⟩, Nat.le_trans hS.1 hsz9, fun q h1 h2 => (hkk q (Nat.lt_of_lt_of_le h1 hS.1)).trans (hS.2.1 q h1 h2)⟩
  refine t_i (hw.trans (bI_t hms).symm) ?_
  obtain ⟨kx, hkx, rfl⟩ := id hms
  have hkx2 := hkx
  rw [hm1] at hkx2
  refine b_if_ne hx hb (nI_toIntI (by omega)) dX6_select_8 (tgt := 21) (by decide) (fun c8 => ?_) (fun c8 => absurd c8 (by omega))
  refine lv_aload_n hx hb dX6_select_21 rfl (lv_at hl 0 rfl) ?_
  refine va_get (D := D) (ci := 6) (C := RX6) (T := TX6) (N := 9) hx hb hts iX6 hown hK hP 0 rfl rfl 0 (by decide) (hts _ k_f_X6_12) (fun _ h9 => h9) rfl dX6_select_22 ?_
  have hPq := P_perm pm_4 hP
  have hDq := D_perm pm_4 hD
  have hPc := bP0 hPq
  have hDc := bD0 hDq
  refine va_calli (va_runV (As := []) (rest := []) ⟨hx, hb, hml, hown, hts⟩ (c_X0_engagedMask l D K q d H.size ) (cwV 0 hts (TB_V k_m_X6_123 k_im_X0_engagedMask k_se_X0_engagedMask k_in_X0 k_co_X0_engagedMask (fun _ h => h)) rfl rfl rfl (by decide +kernel) ⟨Nat.le_of_ble_eq_true rfl, Nat.le_of_ble_eq_true rfl⟩) ⟨cP_blind, va_recv hK hPc (ci := 0) (q0 := 0) rfl rfl, cP_of hPc hK hDc⟩ rfl rfl hl.1 rfl (lv_room (Nat.le_of_ble_eq_true rfl)) dX6_select_25 ⟨Nat.le_of_ble_eq_true rfl, Nat.le_of_ble_eq_true rfl⟩) hS (fun q _ h => absurd h id) (fun q h => absurd h id) (fun em u9 t9 H locs ht9 hvm hw hB hz1 hk1 hS => ?_)
  have hP := P_same hP hk1
  refine t_i (hw.trans h2) ?_
  refine lv_istore_n (lv' := [(2, .int (nI ge)), (0, .ref (ad 0)), (1, .int (nI kx))]) hx hb dX6_select_28 rfl hl (by decide) rfl (fun ls hl => ?_)
  refine lv_aload_n hx hb dX6_select_29 rfl (lv_at hl 1 rfl) ?_
  refine lv_iload_n hx hb dX6_select_30 rfl (lv_at hl 2 rfl) ?_
  have hPc : va_P D vwCl (WX K ad q q1 q2 g r r2 (d, d1, d2, f1, f2, f, s0) (M, pv, ip, sv, M2, pv2, ip2, sv2, ma, nu, de, ne, di, n, fr)) H := hP
  have hDc : va_D A (WX K ad q q1 q2 g r r2 (d, d1, d2, f1, f2, f, s0) (M, pv, ip, sv, M2, pv2, ip2, sv2, ma, nu, de, ne, di, n, fr)) := hD
  have hFc := freeAll hDc hS hA
  refine va_calli (va_runV (As := [.int (nI kx)]) (rest := []) ⟨hx, hb, hml, hown, hts⟩ (c_X6_changeEngaged l D K ad q q1 q2 g r r2 (d, d1, d2, f1, f2, f, s0) (M, pv, ip, sv, M2, pv2, ip2, sv2, ma, nu, de, ne, di, n, fr) (nI kx) H.size hI hJ ) (cwV 1 hts (TB_V k_m_X6_126 k_im_X6_changeEngaged k_se_X6_changeEngaged k_in_X6 k_co_X6_changeEngaged (fun _ h => h)) rfl rfl rfl (by decide +kernel) ⟨Nat.le_of_ble_eq_true rfl, Nat.le_of_ble_eq_true rfl⟩) ⟨cP_blind, va_recv hK hP (ci := 6) (q0 := 0) rfl rfl, cP_of hPc hK hDc⟩ rfl rfl hl.1 rfl (lv_room (Nat.le_of_ble_eq_true rfl)) dX6_select_31 ⟨Nat.le_of_ble_eq_true rfl, Nat.le_of_ble_eq_true rfl⟩) hS (fun q _ h => hFc q h) hFc (fun ce u9 t9 H locs ht9 hvm hw hB hz1 hk1 hS => ?_)
  obtain ⟨hP, hK1, hD1⟩ := hB
  rw [ht9] at hP
  have hD := hD1.weaken (fun _ _ _ h => hFc _ h)
  obtain ⟨⟨d8, d18, d28, f18, f28, f8, s08⟩, ⟨M8, pv8, ip8, sv8, M28, pv28, ip28, sv28, ma8, nu8, de8, ne8, di8, n8, fr8⟩⟩ := u9
  have hP : va_P D vwCl ([(ad 0, .inr (6, [.ref (q 0), .ref (q1 0), .ref (q2 0), .int f18, .int f28, .ref (ad 1), .ref (ad 3), .ref (ad 8), .ref (g 0)]))] ++ (WG K g ma8 nu8 de8 ne8 di8 (nI n8) fr8 ++ ([(ad 3, .inr (4, [.ref (ad 4)]))] ++ (WE K (ad 4) (ad 5) (ad 6) (ad 7) r M8 pv8 ip8 sv8 ++ (WD K q d8 ++ ([(ad 8, .inr (5, [.ref (ad 9)]))] ++ (WE K (ad 9) (ad 10) (ad 11) (ad 12) r2 M28 pv28 ip28 sv28 ++ (WH K (ad 1) (ad 2) f8 (nI s08) ++ (WD K q1 d18 ++ (WD K q2 d28)))))))))) H := hP
  have hD : va_D A ([(ad 0, .inr (6, [.ref (q 0), .ref (q1 0), .ref (q2 0), .int f18, .int f28, .ref (ad 1), .ref (ad 3), .ref (ad 8), .ref (g 0)]))] ++ (WG K g ma8 nu8 de8 ne8 di8 (nI n8) fr8 ++ ([(ad 3, .inr (4, [.ref (ad 4)]))] ++ (WE K (ad 4) (ad 5) (ad 6) (ad 7) r M8 pv8 ip8 sv8 ++ (WD K q d8 ++ ([(ad 8, .inr (5, [.ref (ad 9)]))] ++ (WE K (ad 9) (ad 10) (ad 11) (ad 12) r2 M28 pv28 ip28 sv28 ++ (WH K (ad 1) (ad 2) f8 (nI s08) ++ (WD K q1 d18 ++ (WD K q2 d28)))))))))) := hD
  obtain ⟨hJ8, hch⟩ := hw
  have hI8 := IV_CHG hI ⟨kx, hkx, rfl⟩ hch
  refine lv_pop hx hb dX6_select_34 rfl ?_
  refine lv_iload_n hx hb dX6_select_35 rfl (lv_at hl 0 rfl) ?_
  refine vx_ret ?_
  exact W.widen (k := 1) (n := 6) (Nat.le_of_ble_eq_true rfl) (Nat.le_of_ble_eq_true rfl) (W.iret (v := nI ge) hx hb hr (fun t9 ht9 hW => ⟨⟨nI ge, ((d8, d18, d28, f18, f28, f8, s08), (M8, pv8, ip8, sv8, M28, pv28, ip28, sv28, ma8, nu8, de8, ne8, di8, n8, fr8)), rfl, ⟨⟨ce, hch⟩, hI8, hJ8, ((cI_f (fun z => z hms)).trans (r0 (by rw [hg1, nI_toIntI (by omega)])))⟩, by rw [ht9]; exact hP, va_K.moved hW.alike hK, hD⟩, hS.F ht9⟩) hS.2.2 dX6_select_36)
set_option maxHeartbeats 4000000 in
set_option maxRecDepth 100000 in
theorem c_X6_undo (l : Launch) (D : va_G) (K : Nat → ClassId) (ad q q1 q2 g r r2 : Nat → Nat) (v : CV) (i : CI)  (sz : Nat) (hI : IV v) (hJ : II v.1 i)  : Met l yX6_undo (.code yX6_undo cX6_undo 1 (some .boolean) :: TB) ({ frames := 1, cells := 0, slots := 0, locals := 21 } : Room) (va_Pc [.ref (ad 0)] (cP D K (WX K ad q q1 q2 g r r2 v i) sz)) (va_Qi (fun (z : Int32) (u : CV × CI) => IV u.1 ∧ II u.1.1 u.2 ∧ ((v.2.2.2.2.2.2 = 0 ∧ z = nI 0 ∧ u.1 = v) ∨ (0 < v.2.2.2.2.2.2 ∧ z = nI 1 ∧ u.1 = (dU v.1 8 2 (v.2.2.2.2.2.1 (v.2.2.2.2.2.2 - 1)), v.2.1, v.2.2.1, v.2.2.2.1, v.2.2.2.2.1, v.2.2.2.2.2.1, v.2.2.2.2.2.2 - 1)))) (fun (u : CV × CI) t => cB D K (va_A (WX K ad q q1 q2 g r r2 v i) sz) (WX K ad q q1 q2 g r r2 u.1 u.2) t) (va_A (WX K ad q q1 q2 g r r2 v i) sz)) 0 0 (va_A (WX K ad q q1 q2 g r r2 v i) sz) := by
  refine Met.ofW (cc := cX6_undo) (maxL := 1) (ret := (some .boolean)) (by decide) rfl ?_
  intro p e s m args below meth c s₁ B hml hv
  obtain ⟨rfl, hsz, hP, hK, hD0⟩ := hv
  have hx := B.exec
  have hb := B.bytes
  have hr := B.returns
  have hts := hts_tl (atoms_spec (ws := (.code yX6_undo cX6_undo 1 (some .boolean) :: TB)) B.pre)
  have hown : s.vm.findClass RX6 = some m.cls := findClass_of_methodNamed B.named
  have hlocks := B.notSynchronized
  subst hsz
  have hD := hD0.self (sz := s.heap.size)
  generalize hAe : (va_A (WX K ad q q1 q2 g r r2 v i) s.heap.size) = A at hD ⊢
  have hA : ∀ q : Nat, s.heap.size ≤ q → A q := fun q h => by rw [← hAe]; exact Or.inr h
  have hS : va_S A s.heap s.heap [] := va_S.rf
  clear hAe hD0
  obtain ⟨d, d1, d2, f1, f2, f, s0⟩ := v
  obtain ⟨M, pv, ip, sv, M2, pv2, ip2, sv2, ma, nu, de, ne, di, n, fr⟩ := i
  obtain ⟨hd, hd1, hd2, hf1, hf2, hs20, hhf⟩ := id hI
  obtain ⟨hn64, hfr, hT⟩ := id hJ
  dsimp only at hd hd1 hd2 hf1 hf2 hs20 hhf hn64 hfr hT
  obtain ⟨ns, m1, ge, hns, hm, hge, h0, h1, h2, hs9, he9⟩ := id hd
  have hm1 : dn d 8 1 = m1 := dn_of h1 (by omega)
  have hn1 : dn d 8 0 = ns := dn_of h0 (by omega)
  have hp6 : 2 ^ m1 ≤ 64 := Nat.pow_le_pow_right (show 0 < 2 by decide) hm
  have hg1 : dn d 8 2 = ge := dn_of h2 (by omega)
  have hP : va_P D vwCl ([(ad 0, .inr (6, [.ref (q 0), .ref (q1 0), .ref (q2 0), .int f1, .int f2, .ref (ad 1), .ref (ad 3), .ref (ad 8), .ref (g 0)]))] ++ (WG K g ma nu de ne di (nI n) fr ++ ([(ad 3, .inr (4, [.ref (ad 4)]))] ++ (WE K (ad 4) (ad 5) (ad 6) (ad 7) r M pv ip sv ++ (WD K q d ++ ([(ad 8, .inr (5, [.ref (ad 9)]))] ++ (WE K (ad 9) (ad 10) (ad 11) (ad 12) r2 M2 pv2 ip2 sv2 ++ (WH K (ad 1) (ad 2) f (nI s0) ++ (WD K q1 d1 ++ (WD K q2 d2)))))))))) s.heap := hP
  have hD : va_D A ([(ad 0, .inr (6, [.ref (q 0), .ref (q1 0), .ref (q2 0), .int f1, .int f2, .ref (ad 1), .ref (ad 3), .ref (ad 8), .ref (g 0)]))] ++ (WG K g ma nu de ne di (nI n) fr ++ ([(ad 3, .inr (4, [.ref (ad 4)]))] ++ (WE K (ad 4) (ad 5) (ad 6) (ad 7) r M pv ip sv ++ (WD K q d ++ ([(ad 8, .inr (5, [.ref (ad 9)]))] ++ (WE K (ad 9) (ad 10) (ad 11) (ad 12) r2 M2 pv2 ip2 sv2 ++ (WH K (ad 1) (ad 2) f (nI s0) ++ (WD K q1 d1 ++ (WD K q2 d2)))))))))) := hD
  have hl := lv_entry ([.ref (ad 0)]) (n := 1) (Nat.le_of_ble_eq_true rfl)
  rw [lg_entry_eq]
  generalize (lg_sl ([.ref (ad 0)]) ++ List.replicate (1 - (lg_sl ([.ref (ad 0)])).length) Slot.unset).toArray = ls at hl ⊢
  have hl : lv_has ls 1 [(0, .ref (ad 0))] := hl
  refine lv_aload_n hx hb dX6_undo_0 rfl (lv_at hl 0 rfl) ?_
  refine va_get (D := D) (ci := 6) (C := RX6) (T := TX6) (N := 9) hx hb hts iX6 hown hK hP 0 rfl rfl 5 (by decide) (hts _ k_f_X6_25) (fun _ h9 => h9) rfl dX6_undo_1 ?_
  have hPq := P_perm pm_7 hP
  have hDq := D_perm pm_7 hD
  have hPc := bP0 hPq
  have hDc := bD0 hDq
  refine va_calli (va_runV (As := []) (rest := []) ⟨hx, hb, hml, hown, hts⟩ (c_X3_isEmpty l D K (ad 1) (ad 2) f s0 s.heap.size hs20) (cwV 0 hts (TB_V k_m_X6_134 k_im_X3_isEmpty k_se_X3_isEmpty k_in_X3 k_co_X3_isEmpty (fun _ h => h)) rfl rfl rfl (by decide +kernel) ⟨Nat.le_of_ble_eq_true rfl, Nat.le_of_ble_eq_true rfl⟩) ⟨cP_blind, va_recv hK hPc (ci := 3) (q0 := 0) rfl rfl, cP_of hPc hK hDc⟩ rfl rfl hl.1 rfl (lv_room (Nat.le_of_ble_eq_true rfl)) dX6_undo_4 ⟨Nat.le_of_ble_eq_true rfl, Nat.le_of_ble_eq_true rfl⟩) hS (fun q _ h => absurd h id) (fun q h => absurd h id) (fun ie u9 t9 H locs ht9 hvm hw hB hz1 hk1 hS => ?_)
  have hP := P_same hP hk1
  have hwe := hw
  by_cases hs0 : s0 = 0
  · refine t_i (hwe.trans (bI_t hs0).symm) ?_
    refine b_if_eq hx hb (nI_toIntI (by omega)) dX6_undo_7 (tgt := 12) (by decide) (fun c7 => absurd c7 (by omega)) (fun c7 => ?_)
    refine lv_iconst (v := nI 0) hx hb dX6_undo_10 (by decide) ?_
    exact W.zret (v := nI 0) hx hb hr (by decide) (fun t9 ht9 hW => ⟨⟨nI 0, ((d, d1, d2, f1, f2, f, s0), (M, pv, ip, sv, M2, pv2, ip2, sv2, ma, nu, de, ne, di, n, fr)), rfl, ⟨hI, hJ, Or.inl ⟨hs0, rfl, rfl⟩⟩, by rw [ht9]; exact hP, va_K.moved hW.alike hK, hD⟩, hS.F ht9⟩) hS.2.2 dX6_undo_11
  refine t_i (hwe.trans (bI_f hs0).symm) ?_
  refine b_if_eq hx hb (nI_toIntI (by omega)) dX6_undo_7 (tgt := 12) (by decide) (fun c7 => ?_) (fun c7 => absurd c7 (by omega))
  refine lv_aload_n hx hb dX6_undo_12 rfl (lv_at hl 0 rfl) ?_
  refine va_get (D := D) (ci := 6) (C := RX6) (T := TX6) (N := 9) hx hb hts iX6 hown hK hP 0 rfl rfl 0 (by decide) (hts _ k_f_X6_12) (fun _ h9 => h9) rfl dX6_undo_13 ?_
  refine lv_aload_n hx hb dX6_undo_16 rfl (lv_at hl 0 rfl) ?_
  refine va_get (D := D) (ci := 6) (C := RX6) (T := TX6) (N := 9) hx hb hts iX6 hown hK hP 0 rfl rfl 5 (by decide) (hts _ k_f_X6_25) (fun _ h9 => h9) rfl dX6_undo_17 ?_
  have hPq := P_perm pm_7 hP
  have hDq := D_perm pm_7 hD
  have hPc := bP0 hPq
  have hDc := bD0 hDq
  have hFc := bF0 hDq hS hA
  refine va_calli (va_runV (As := []) (rest := [.ref (q 0)]) ⟨hx, hb, hml, hown, hts⟩ (c_X3_takeLatest l D K (ad 1) (ad 2) f s0 H.size hs20 (by omega)) (cwV 0 hts (TB_V k_m_X6_138 k_im_X3_takeLatest k_se_X3_takeLatest k_in_X3 k_co_X3_takeLatest (fun _ h => h)) rfl rfl rfl (by decide +kernel) ⟨Nat.le_of_ble_eq_true rfl, Nat.le_of_ble_eq_true rfl⟩) ⟨cP_blind, va_recv hK hPc (ci := 3) (q0 := 0) rfl rfl, cP_of hPc hK hDc⟩ rfl rfl hl.1 rfl (lv_room (Nat.le_of_ble_eq_true rfl)) dX6_undo_20 ⟨Nat.le_of_ble_eq_true rfl, Nat.le_of_ble_eq_true rfl⟩) hS (fun q _ h => hFc q h) hFc (fun tl u9 t9 H locs ht9 hvm hw hB hz1 hk1 hS => ?_)
  obtain ⟨hP1, hK1, hD1⟩ := hB
  rw [ht9] at hP1
  obtain ⟨hPq1, hDq1⟩ := bJ0 hPq hDq hk1 hFc hP1 hD1
  have hP := P_perm (pm_7 (X0 := _)).symm hPq1
  have hD := D_perm (pm_7 (X0 := _)).symm hDq1
  have hP : va_P D vwCl ([(ad 0, .inr (6, [.ref (q 0), .ref (q1 0), .ref (q2 0), .int f1, .int f2, .ref (ad 1), .ref (ad 3), .ref (ad 8), .ref (g 0)]))] ++ (WG K g ma nu de ne di (nI n) fr ++ ([(ad 3, .inr (4, [.ref (ad 4)]))] ++ (WE K (ad 4) (ad 5) (ad 6) (ad 7) r M pv ip sv ++ (WD K q d ++ ([(ad 8, .inr (5, [.ref (ad 9)]))] ++ (WE K (ad 9) (ad 10) (ad 11) (ad 12) r2 M2 pv2 ip2 sv2 ++ (WH K (ad 1) (ad 2) f (nI (s0 - 1)) ++ (WD K q1 d1 ++ (WD K q2 d2)))))))))) H := hP
  have hD : va_D A ([(ad 0, .inr (6, [.ref (q 0), .ref (q1 0), .ref (q2 0), .int f1, .int f2, .ref (ad 1), .ref (ad 3), .ref (ad 8), .ref (g 0)]))] ++ (WG K g ma nu de ne di (nI n) fr ++ ([(ad 3, .inr (4, [.ref (ad 4)]))] ++ (WE K (ad 4) (ad 5) (ad 6) (ad 7) r M pv ip sv ++ (WD K q d ++ ([(ad 8, .inr (5, [.ref (ad 9)]))] ++ (WE K (ad 9) (ad 10) (ad 11) (ad 12) r2 M2 pv2 ip2 sv2 ++ (WH K (ad 1) (ad 2) f (nI (s0 - 1)) ++ (WD K q1 d1 ++ (WD K q2 d2)))))))))) := hD
  obtain ⟨zl, hzl, hfl⟩ := hhf (s0 - 1) (by omega)
  refine t_i hw ?_
  have hPq := P_perm pm_4 hP
  have hDq := D_perm pm_4 hD
  have hPc := bP0 hPq
  have hDc := bD0 hDq
  have hFc := bF0 hDq hS hA
  refine va_callv (va_runV (As := [.int (f (s0 - 1))]) (rest := []) ⟨hx, hb, hml, hown, hts⟩ (c_X0_changeEngagedMask l D K q d (f (s0 - 1)) H.size ) (cwV 1 hts (TB_V k_m_X6_141 k_im_X0_changeEngagedMask k_se_X0_changeEngagedMask k_in_X0 k_co_X0_changeEngagedMask (fun _ h => h)) rfl rfl rfl (by decide +kernel) ⟨Nat.le_of_ble_eq_true rfl, Nat.le_of_ble_eq_true rfl⟩) ⟨cP_blind, va_recv hK hPc (ci := 0) (q0 := 0) rfl rfl, cP_of hPc hK hDc⟩ rfl rfl hl.1 rfl (lv_room (Nat.le_of_ble_eq_true rfl)) dX6_undo_23 ⟨Nat.le_of_ble_eq_true rfl, Nat.le_of_ble_eq_true rfl⟩) hS (fun q _ h => hFc q h) hFc (fun u8 t9 H locs ht9 hvm hw hB hz1 hk1 hS => ?_)
  obtain ⟨hP1, hK1, hD1⟩ := hB
  rw [ht9] at hP1
  obtain ⟨hPq1, hDq1⟩ := bJ0 hPq hDq hk1 hFc hP1 hD1
  have hP := P_perm (pm_4 (X0 := _)).symm hPq1
  have hD := D_perm (pm_4 (X0 := _)).symm hDq1
  have hP : va_P D vwCl ([(ad 0, .inr (6, [.ref (q 0), .ref (q1 0), .ref (q2 0), .int f1, .int f2, .ref (ad 1), .ref (ad 3), .ref (ad 8), .ref (g 0)]))] ++ (WG K g ma nu de ne di (nI n) fr ++ ([(ad 3, .inr (4, [.ref (ad 4)]))] ++ (WE K (ad 4) (ad 5) (ad 6) (ad 7) r M pv ip sv ++ (WD K q (dU d 8 2 (f (s0 - 1))) ++ ([(ad 8, .inr (5, [.ref (ad 9)]))] ++ (WE K (ad 9) (ad 10) (ad 11) (ad 12) r2 M2 pv2 ip2 sv2 ++ (WH K (ad 1) (ad 2) f (nI (s0 - 1)) ++ (WD K q1 d1 ++ (WD K q2 d2)))))))))) H := hP
  have hD : va_D A ([(ad 0, .inr (6, [.ref (q 0), .ref (q1 0), .ref (q2 0), .int f1, .int f2, .ref (ad 1), .ref (ad 3), .ref (ad 8), .ref (g 0)]))] ++ (WG K g ma nu de ne di (nI n) fr ++ ([(ad 3, .inr (4, [.ref (ad 4)]))] ++ (WE K (ad 4) (ad 5) (ad 6) (ad 7) r M pv ip sv ++ (WD K q (dU d 8 2 (f (s0 - 1))) ++ ([(ad 8, .inr (5, [.ref (ad 9)]))] ++ (WE K (ad 9) (ad 10) (ad 11) (ad 12) r2 M2 pv2 ip2 sv2 ++ (WH K (ad 1) (ad 2) f (nI (s0 - 1)) ++ (WD K q1 d1 ++ (WD K q2 d2)))))))))) := hD
  refine lv_iconst (v := nI 1) hx hb dX6_undo_26 (by decide) ?_
  exact W.zret (v := nI 1) hx hb hr (by decide) (fun t9 ht9 hW => ⟨⟨nI 1, (((dU d 8 2 (f (s0 - 1))), d1, d2, f1, f2, f, (s0 - 1)), (M, pv, ip, sv, M2, pv2, ip2, sv2, ma, nu, de, ne, di, n, fr)), rfl, ⟨⟨by show DV (dU d 8 2 (f (s0 - 1))); rw [hfl]; exact DV_eng hd hzl, hd1, hd2, hf1, hf2, by show s0 - 1 ≤ 20; omega, fun j hj => hhf j (by have hj : j < s0 - 1 := hj; omega)⟩, II_eng hJ, Or.inr ⟨by show 0 < s0; omega, rfl, rfl⟩⟩, by rw [ht9]; exact hP, va_K.moved hW.alike hK, hD⟩, hS.F ht9⟩) hS.2.2 dX6_undo_27
set_option maxHeartbeats 4000000 in
set_option maxRecDepth 100000 in
theorem c_X6_engaged (l : Launch) (D : va_G) (K : Nat → ClassId) (ad q q1 q2 g r r2 : Nat → Nat) (v : CV) (i : CI)  (sz : Nat) (hI : IV v) (hJ : II v.1 i)  : Met l yX6_engaged (.code yX6_engaged cX6_engaged 1 (some .int) :: TB) ({ frames := 1, cells := 0, slots := 0, locals := 20 } : Room) (va_Pc [.ref (ad 0)] (cP D K (WX K ad q q1 q2 g r r2 v i) sz)) (va_Qi (fun (z : Int32) (u : CV × CI) => u.1 = v ∧ II u.1.1 u.2 ∧ z = v.1 8 2) (fun (u : CV × CI) t => cB D K (va_A (WX K ad q q1 q2 g r r2 v i) sz) (WX K ad q q1 q2 g r r2 u.1 u.2) t) (va_A (WX K ad q q1 q2 g r r2 v i) sz)) 0 0 (va_A (WX K ad q q1 q2 g r r2 v i) sz) := by
  refine Met.ofW (cc := cX6_engaged) (maxL := 1) (ret := (some .int)) (by decide) rfl ?_
  intro p e s m args below meth c s₁ B hml hv
  obtain ⟨rfl, hsz, hP, hK, hD0⟩ := hv
  have hx := B.exec
  have hb := B.bytes
  have hr := B.returns
  have hts := hts_tl (atoms_spec (ws := (.code yX6_engaged cX6_engaged 1 (some .int) :: TB)) B.pre)
  have hown : s.vm.findClass RX6 = some m.cls := findClass_of_methodNamed B.named
  have hlocks := B.notSynchronized
  subst hsz
  have hD := hD0.self (sz := s.heap.size)
  generalize hAe : (va_A (WX K ad q q1 q2 g r r2 v i) s.heap.size) = A at hD ⊢
  have hA : ∀ q : Nat, s.heap.size ≤ q → A q := fun q h => by rw [← hAe]; exact Or.inr h
  have hS : va_S A s.heap s.heap [] := va_S.rf
  clear hAe hD0
  obtain ⟨d, d1, d2, f1, f2, f, s0⟩ := v
  obtain ⟨M, pv, ip, sv, M2, pv2, ip2, sv2, ma, nu, de, ne, di, n, fr⟩ := i
  obtain ⟨hd, hd1, hd2, hf1, hf2, hs20, hhf⟩ := id hI
  obtain ⟨hn64, hfr, hT⟩ := id hJ
  dsimp only at hd hd1 hd2 hf1 hf2 hs20 hhf hn64 hfr hT
  obtain ⟨ns, m1, ge, hns, hm, hge, h0, h1, h2, hs9, he9⟩ := id hd
  have hm1 : dn d 8 1 = m1 := dn_of h1 (by omega)
  have hn1 : dn d 8 0 = ns := dn_of h0 (by omega)
  have hp6 : 2 ^ m1 ≤ 64 := Nat.pow_le_pow_right (show 0 < 2 by decide) hm
  have hg1 : dn d 8 2 = ge := dn_of h2 (by omega)
  have hP : va_P D vwCl ([(ad 0, .inr (6, [.ref (q 0), .ref (q1 0), .ref (q2 0), .int f1, .int f2, .ref (ad 1), .ref (ad 3), .ref (ad 8), .ref (g 0)]))] ++ (WG K g ma nu de ne di (nI n) fr ++ ([(ad 3, .inr (4, [.ref (ad 4)]))] ++ (WE K (ad 4) (ad 5) (ad 6) (ad 7) r M pv ip sv ++ (WD K q d ++ ([(ad 8, .inr (5, [.ref (ad 9)]))] ++ (WE K (ad 9) (ad 10) (ad 11) (ad 12) r2 M2 pv2 ip2 sv2 ++ (WH K (ad 1) (ad 2) f (nI s0) ++ (WD K q1 d1 ++ (WD K q2 d2)))))))))) s.heap := hP
  have hD : va_D A ([(ad 0, .inr (6, [.ref (q 0), .ref (q1 0), .ref (q2 0), .int f1, .int f2, .ref (ad 1), .ref (ad 3), .ref (ad 8), .ref (g 0)]))] ++ (WG K g ma nu de ne di (nI n) fr ++ ([(ad 3, .inr (4, [.ref (ad 4)]))] ++ (WE K (ad 4) (ad 5) (ad 6) (ad 7) r M pv ip sv ++ (WD K q d ++ ([(ad 8, .inr (5, [.ref (ad 9)]))] ++ (WE K (ad 9) (ad 10) (ad 11) (ad 12) r2 M2 pv2 ip2 sv2 ++ (WH K (ad 1) (ad 2) f (nI s0) ++ (WD K q1 d1 ++ (WD K q2 d2)))))))))) := hD
  have hl := lv_entry ([.ref (ad 0)]) (n := 1) (Nat.le_of_ble_eq_true rfl)
  rw [lg_entry_eq]
  generalize (lg_sl ([.ref (ad 0)]) ++ List.replicate (1 - (lg_sl ([.ref (ad 0)])).length) Slot.unset).toArray = ls at hl ⊢
  have hl : lv_has ls 1 [(0, .ref (ad 0))] := hl
  refine lv_aload_n hx hb dX6_engaged_0 rfl (lv_at hl 0 rfl) ?_
  refine va_get (D := D) (ci := 6) (C := RX6) (T := TX6) (N := 9) hx hb hts iX6 hown hK hP 0 rfl rfl 0 (by decide) (hts _ k_f_X6_12) (fun _ h9 => h9) rfl dX6_engaged_1 ?_
  have hPq := P_perm pm_4 hP
  have hDq := D_perm pm_4 hD
  have hPc := bP0 hPq
  have hDc := bD0 hDq
  refine va_calli (va_runV (As := []) (rest := []) ⟨hx, hb, hml, hown, hts⟩ (c_X0_engagedMask l D K q d s.heap.size ) (cwV 0 hts (TB_V k_m_X6_123 k_im_X0_engagedMask k_se_X0_engagedMask k_in_X0 k_co_X0_engagedMask (fun _ h => h)) rfl rfl rfl (by decide +kernel) ⟨Nat.le_of_ble_eq_true rfl, Nat.le_of_ble_eq_true rfl⟩) ⟨cP_blind, va_recv hK hPc (ci := 0) (q0 := 0) rfl rfl, cP_of hPc hK hDc⟩ rfl rfl hl.1 rfl (lv_room (Nat.le_of_ble_eq_true rfl)) dX6_engaged_4 ⟨Nat.le_of_ble_eq_true rfl, Nat.le_of_ble_eq_true rfl⟩) hS (fun q _ h => absurd h id) (fun q h => absurd h id) (fun em u9 t9 H locs ht9 hvm hw hB hz1 hk1 hS => ?_)
  have hP := P_same hP hk1
  refine t_i (hw.trans h2) ?_
  exact W.iret (v := nI ge) hx hb hr (fun t9 ht9 hW => ⟨⟨nI ge, ((d, d1, d2, f1, f2, f, s0), (M, pv, ip, sv, M2, pv2, ip2, sv2, ma, nu, de, ne, di, n, fr)), rfl, ⟨rfl, hJ, h2.symm⟩, by rw [ht9]; exact hP, va_K.moved hW.alike hK, hD⟩, hS.F ht9⟩) hS.2.2 dX6_engaged_7
set_option maxHeartbeats 4000000 in
set_option maxRecDepth 100000 in
theorem c_X6_brakesOnly (l : Launch) (D : va_G) (K : Nat → ClassId) (ad q q1 q2 g r r2 : Nat → Nat) (v : CV) (i : CI)  (sz : Nat) (hI : IV v) (hJ : II v.1 i)  : Met l yX6_brakesOnly (.code yX6_brakesOnly cX6_brakesOnly 2 (some .boolean) :: TB) ({ frames := 2, cells := 0, slots := 0, locals := 42 } : Room) (va_Pc [.ref (ad 0)] (cP D K (WX K ad q q1 q2 g r r2 v i) sz)) (va_Qi (fun (z : Int32) (u : CV × CI) => u.1 = v ∧ II u.1.1 u.2 ∧ z.toInt = rs_brakesOnly v.1) (fun (u : CV × CI) t => cB D K (va_A (WX K ad q q1 q2 g r r2 v i) sz) (WX K ad q q1 q2 g r r2 u.1 u.2) t) (va_A (WX K ad q q1 q2 g r r2 v i) sz)) 0 0 (va_A (WX K ad q q1 q2 g r r2 v i) sz) := by
  refine Met.ofW (cc := cX6_brakesOnly) (maxL := 2) (ret := (some .boolean)) (by decide) rfl ?_
  intro p e s m args below meth c s₁ B hml hv
  obtain ⟨rfl, hsz, hP, hK, hD0⟩ := hv
  have hx := B.exec
  have hb := B.bytes
  have hr := B.returns
  have hts := hts_tl (atoms_spec (ws := (.code yX6_brakesOnly cX6_brakesOnly 2 (some .boolean) :: TB)) B.pre)
  have hown : s.vm.findClass RX6 = some m.cls := findClass_of_methodNamed B.named
  have hlocks := B.notSynchronized
  subst hsz
  have hD := hD0.self (sz := s.heap.size)
  generalize hAe : (va_A (WX K ad q q1 q2 g r r2 v i) s.heap.size) = A at hD ⊢
  have hA : ∀ q : Nat, s.heap.size ≤ q → A q := fun q h => by rw [← hAe]; exact Or.inr h
  have hS : va_S A s.heap s.heap [] := va_S.rf
  clear hAe hD0
  obtain ⟨d, d1, d2, f1, f2, f, s0⟩ := v
  obtain ⟨M, pv, ip, sv, M2, pv2, ip2, sv2, ma, nu, de, ne, di, n, fr⟩ := i
  obtain ⟨hd, hd1, hd2, hf1, hf2, hs20, hhf⟩ := id hI
  obtain ⟨hn64, hfr, hT⟩ := id hJ
  dsimp only at hd hd1 hd2 hf1 hf2 hs20 hhf hn64 hfr hT
  obtain ⟨ns, m1, ge, hns, hm, hge, h0, h1, h2, hs9, he9⟩ := id hd
  have hm1 : dn d 8 1 = m1 := dn_of h1 (by omega)
  have hn1 : dn d 8 0 = ns := dn_of h0 (by omega)
  have hp6 : 2 ^ m1 ≤ 64 := Nat.pow_le_pow_right (show 0 < 2 by decide) hm
  have hg1 : dn d 8 2 = ge := dn_of h2 (by omega)
  have hP : va_P D vwCl ([(ad 0, .inr (6, [.ref (q 0), .ref (q1 0), .ref (q2 0), .int f1, .int f2, .ref (ad 1), .ref (ad 3), .ref (ad 8), .ref (g 0)]))] ++ (WG K g ma nu de ne di (nI n) fr ++ ([(ad 3, .inr (4, [.ref (ad 4)]))] ++ (WE K (ad 4) (ad 5) (ad 6) (ad 7) r M pv ip sv ++ (WD K q d ++ ([(ad 8, .inr (5, [.ref (ad 9)]))] ++ (WE K (ad 9) (ad 10) (ad 11) (ad 12) r2 M2 pv2 ip2 sv2 ++ (WH K (ad 1) (ad 2) f (nI s0) ++ (WD K q1 d1 ++ (WD K q2 d2)))))))))) s.heap := hP
  have hD : va_D A ([(ad 0, .inr (6, [.ref (q 0), .ref (q1 0), .ref (q2 0), .int f1, .int f2, .ref (ad 1), .ref (ad 3), .ref (ad 8), .ref (g 0)]))] ++ (WG K g ma nu de ne di (nI n) fr ++ ([(ad 3, .inr (4, [.ref (ad 4)]))] ++ (WE K (ad 4) (ad 5) (ad 6) (ad 7) r M pv ip sv ++ (WD K q d ++ ([(ad 8, .inr (5, [.ref (ad 9)]))] ++ (WE K (ad 9) (ad 10) (ad 11) (ad 12) r2 M2 pv2 ip2 sv2 ++ (WH K (ad 1) (ad 2) f (nI s0) ++ (WD K q1 d1 ++ (WD K q2 d2)))))))))) := hD
  have hl := lv_entry ([.ref (ad 0)]) (n := 2) (Nat.le_of_ble_eq_true rfl)
  rw [lg_entry_eq]
  generalize (lg_sl ([.ref (ad 0)]) ++ List.replicate (2 - (lg_sl ([.ref (ad 0)])).length) Slot.unset).toArray = ls at hl ⊢
  have hl : lv_has ls 2 [(0, .ref (ad 0))] := hl
  refine lv_iconst (v := nI 0) hx hb dX6_brakesOnly_0 (by decide) ?_
  refine lv_istore_n (lv' := [(1, .int (nI 0)), (0, .ref (ad 0))]) hx hb dX6_brakesOnly_1 rfl hl (by decide) rfl (fun ls hl => ?_)
  have L2 : ∀ (fuel : Nat) (k : Nat) (H : Heap) (locs : List Loc) (ls : Array Slot), 6 - k < fuel → (k ≤ 6) → (∀ j, j < k → ¬ (j < m1 ∧ ge.testBit j = true ∧ ¬ d 6 j = -1)) → va_P D vwCl ([(ad 0, .inr (6, [.ref (q 0), .ref (q1 0), .ref (q2 0), .int f1, .int f2, .ref (ad 1), .ref (ad 3), .ref (ad 8), .ref (g 0)]))] ++ (WG K g ma nu de ne di (nI n) fr ++ ([(ad 3, .inr (4, [.ref (ad 4)]))] ++ (WE K (ad 4) (ad 5) (ad 6) (ad 7) r M pv ip sv ++ (WD K q d ++ ([(ad 8, .inr (5, [.ref (ad 9)]))] ++ (WE K (ad 9) (ad 10) (ad 11) (ad 12) r2 M2 pv2 ip2 sv2 ++ (WH K (ad 1) (ad 2) f (nI s0) ++ (WD K q1 d1 ++ (WD K q2 d2)))))))))) H → va_D A ([(ad 0, .inr (6, [.ref (q 0), .ref (q1 0), .ref (q2 0), .int f1, .int f2, .ref (ad 1), .ref (ad 3), .ref (ad 8), .ref (g 0)]))] ++ (WG K g ma nu de ne di (nI n) fr ++ ([(ad 3, .inr (4, [.ref (ad 4)]))] ++ (WE K (ad 4) (ad 5) (ad 6) (ad 7) r M pv ip sv ++ (WD K q d ++ ([(ad 8, .inr (5, [.ref (ad 9)]))] ++ (WE K (ad 9) (ad 10) (ad 11) (ad 12) r2 M2 pv2 ip2 sv2 ++ (WH K (ad 1) (ad 2) f (nI s0) ++ (WD K q1 d1 ++ (WD K q2 d2)))))))))) → va_S A s.heap H locs → lv_has ls 2 [(1, .int (nI k)), (0, .ref (ad 0))] → W p l e ({ frames := 2, cells := 0, slots := 0, locals := 42 } : Room) s m [.ref (ad 0)].toArray below meth c H locs 0 0 (MQ below (va_Qi (fun (z : Int32) (u : CV × CI) => u.1 = (d, d1, d2, f1, f2, f, s0) ∧ II u.1.1 u.2 ∧ z.toInt = rs_brakesOnly (d, d1, d2, f1, f2, f, s0).1) (fun (u : CV × CI) t => cB D K A (WX K ad q q1 q2 g r r2 u.1 u.2) t) A) [.ref (ad 0)].toArray s 0 0 A) (F0 m 2 ls []) := by
    intro fuel
    induction fuel with
    | zero =>
      intro k H locs ls hfu
      exact absurd hfu (Nat.not_lt_zero _)
    | succ fuel ih2 =>
      intro k H locs ls hfu hk hno hP hD hS hl
      refine lv_iload_n hx hb dX6_brakesOnly_2 rfl (lv_at hl 0 rfl) ?_
      refine lv_bipush (v := nI 6) hx hb dX6_brakesOnly_3 (by decide) ?_
      refine b_icmp_ge hx hb (nI_toIntI (by omega)) (nI_toIntI (by omega)) dX6_brakesOnly_5 (tgt := 38) (by decide) (fun c5 => ?_) (fun c5 => ?_)
      · refine lv_iconst (v := nI 1) hx hb dX6_brakesOnly_38 (by decide) ?_
        exact W.zret (v := nI 1) hx hb hr (by decide) (fun t9 ht9 hW => ⟨⟨nI 1, ((d, d1, d2, f1, f2, f, s0), (M, pv, ip, sv, M2, pv2, ip2, sv2, ma, nu, de, ne, di, n, fr)), rfl, ⟨rfl, hJ, (cI_f (fun ⟨j, z1, z2, z3⟩ => by
      rw [hm1] at z1
      rw [hg1] at z2
      exact hno j (by omega) ⟨z1, z2, z3⟩)).symm⟩, by rw [ht9]; exact hP, va_K.moved hW.alike hK, hD⟩, hS.F ht9⟩) hS.2.2 dX6_brakesOnly_39
      refine lv_aload_n hx hb dX6_brakesOnly_8 rfl (lv_at hl 1 rfl) ?_
      refine va_get (D := D) (ci := 6) (C := RX6) (T := TX6) (N := 9) hx hb hts iX6 hown hK hP 0 rfl rfl 0 (by decide) (hts _ k_f_X6_12) (fun _ h9 => h9) rfl dX6_brakesOnly_9 ?_
      refine lv_iload_n hx hb dX6_brakesOnly_12 rfl (lv_at hl 0 rfl) ?_
      have hPq := P_perm pm_4 hP
      have hDq := D_perm pm_4 hD
      have hPc := bP0 hPq
      have hDc := bD0 hDq
      refine va_calli (va_runV (As := [.int (nI k)]) (rest := []) ⟨hx, hb, hml, hown, hts⟩ (c_X0_isEngaged l D K q d m1 ge k H.size hm h1 h2 (by omega) (by omega)) (cwV 1 hts (TB_V k_m_X6_145 k_im_X0_isEngaged k_se_X0_isEngaged k_in_X0 k_co_X0_isEngaged (fun _ h => h)) rfl rfl rfl (by decide +kernel) ⟨Nat.le_of_ble_eq_true rfl, Nat.le_of_ble_eq_true rfl⟩) ⟨cP_blind, va_recv hK hPc (ci := 0) (q0 := 0) rfl rfl, cP_of hPc hK hDc⟩ rfl rfl hl.1 rfl (lv_room (Nat.le_of_ble_eq_true rfl)) dX6_brakesOnly_13 ⟨Nat.le_of_ble_eq_true rfl, Nat.le_of_ble_eq_true rfl⟩) hS (fun q _ h => absurd h id) (fun q h => absurd h id) (fun ise u9 t9 H locs ht9 hvm hw hB hz1 hk1 hS => ?_)
      have hP := P_same hP hk1
      by_cases hen : k < m1 ∧ ge.testBit k = true
      rotate_left
      · refine t_i (hw.trans (bI_f hen).symm) ?_
        refine b_if_eq hx hb (nI_toIntI (by omega)) dX6_brakesOnly_16 (tgt := 32) (by decide) (fun c16 => ?_) (fun c16 => absurd c16 (by omega))
        refine lv_iinc (v := nI (k + 1)) (lv' := [(1, .int (nI (k + 1))), (0, .ref (ad 0))]) hx hb dX6_brakesOnly_32 hl (k := 0) rfl (nI_add k 1) (by decide) rfl (fun ls hl => ?_)
        refine lv_goto (tgt := 2) hx hb dX6_brakesOnly_35 (by decide) ?_
        exact ih2 (k + 1) _ _ _ (by omega) (by omega) (fun j hj z => by
      by_cases e9 : j = k
      · subst e9
        first | exact hen ⟨z.1, z.2.1⟩ | exact hcl z.2.2
      · exact hno j (by omega) z) hP hD hS (lv_sub hl [0, 1] rfl)
      refine t_i (hw.trans (bI_t hen).symm) ?_
      refine b_if_eq hx hb (nI_toIntI (by omega)) dX6_brakesOnly_16 (tgt := 32) (by decide) (fun c16 => absurd c16 (by omega)) (fun c16 => ?_)
      refine lv_aload_n hx hb dX6_brakesOnly_19 rfl (lv_at hl 1 rfl) ?_
      refine va_get (D := D) (ci := 6) (C := RX6) (T := TX6) (N := 9) hx hb hts iX6 hown hK hP 0 rfl rfl 0 (by decide) (hts _ k_f_X6_12) (fun _ h9 => h9) rfl dX6_brakesOnly_20 ?_
      refine lv_iload_n hx hb dX6_brakesOnly_23 rfl (lv_at hl 0 rfl) ?_
      have hPq := P_perm pm_4 hP
      have hDq := D_perm pm_4 hD
      have hPc := bP0 hPq
      have hDc := bD0 hDq
      refine va_calli (va_runV (As := [.int (nI k)]) (rest := []) ⟨hx, hb, hml, hown, hts⟩ (c_X0_isClutch l D K q d m1 k H.size hm h1 hen.1) (cwV 1 hts (TB_V k_m_X6_148 k_im_X0_isClutch k_se_X0_isClutch k_in_X0 k_co_X0_isClutch (fun _ h => h)) rfl rfl rfl (by decide +kernel) ⟨Nat.le_of_ble_eq_true rfl, Nat.le_of_ble_eq_true rfl⟩) ⟨cP_blind, va_recv hK hPc (ci := 0) (q0 := 0) rfl rfl, cP_of hPc hK hDc⟩ rfl rfl hl.1 rfl (lv_room (Nat.le_of_ble_eq_true rfl)) dX6_brakesOnly_24 ⟨Nat.le_of_ble_eq_true rfl, Nat.le_of_ble_eq_true rfl⟩) hS (fun q _ h => absurd h id) (fun q h => absurd h id) (fun isc u9 t9 H locs ht9 hvm hw hB hz1 hk1 hS => ?_)
      have hP := P_same hP hk1
      by_cases hcl : ¬ d 6 k = -1
      rotate_left
      · refine t_i (hw.trans (bI_f hcl).symm) ?_
        refine b_if_eq hx hb (nI_toIntI (by omega)) dX6_brakesOnly_27 (tgt := 32) (by decide) (fun c27 => ?_) (fun c27 => absurd c27 (by omega))
        refine lv_iinc (v := nI (k + 1)) (lv' := [(1, .int (nI (k + 1))), (0, .ref (ad 0))]) hx hb dX6_brakesOnly_32 hl (k := 0) rfl (nI_add k 1) (by decide) rfl (fun ls hl => ?_)
        refine lv_goto (tgt := 2) hx hb dX6_brakesOnly_35 (by decide) ?_
        exact ih2 (k + 1) _ _ _ (by omega) (by omega) (fun j hj z => by
      by_cases e9 : j = k
      · subst e9
        first | exact hen ⟨z.1, z.2.1⟩ | exact hcl z.2.2
      · exact hno j (by omega) z) hP hD hS (lv_sub hl [0, 1] rfl)
      refine t_i (hw.trans (bI_t hcl).symm) ?_
      refine b_if_eq hx hb (nI_toIntI (by omega)) dX6_brakesOnly_27 (tgt := 32) (by decide) (fun c27 => absurd c27 (by omega)) (fun c27 => ?_)
      refine lv_iconst (v := nI 0) hx hb dX6_brakesOnly_30 (by decide) ?_
      exact W.zret (v := nI 0) hx hb hr (by decide) (fun t9 ht9 hW => ⟨⟨nI 0, ((d, d1, d2, f1, f2, f, s0), (M, pv, ip, sv, M2, pv2, ip2, sv2, ma, nu, de, ne, di, n, fr)), rfl, ⟨rfl, hJ, (cI_t ⟨k, by rw [hm1]; exact hen.1, by rw [hg1]; exact hen.2, hcl⟩).symm⟩, by rw [ht9]; exact hP, va_K.moved hW.alike hK, hD⟩, hS.F ht9⟩) hS.2.2 dX6_brakesOnly_31
  exact L2 _ 0 _ _ _ (Nat.lt_succ_self _) (by omega) (fun j hj => absurd hj (Nat.not_lt_zero j)) hP hD hS (lv_sub hl [0, 1] rfl)
set_option maxHeartbeats 4000000 in
set_option maxRecDepth 100000 in
theorem c_X6_state (l : Launch) (D : va_G) (K : Nat → ClassId) (ad q q1 q2 g r r2 : Nat → Nat) (v : CV) (i : CI)  (sz : Nat) (hI : IV v) (hJ : II v.1 i)  : Met l yX6_state (.code yX6_state cX6_state 1 (some .int) :: TB) ({ frames := 4, cells := 0, slots := 0, locals := 105 } : Room) (va_Pc [.ref (ad 0)] (cP D K (WX K ad q q1 q2 g r r2 v i) sz)) (va_Qi (fun (z : Int32) (u : CV × CI) => u.1 = v ∧ II u.1.1 u.2 ∧ z.toInt = (stM v.1 (dn v.1 8 2) : Int)) (fun (u : CV × CI) t => cB D K (va_A (WX K ad q q1 q2 g r r2 v i) sz) (WX K ad q q1 q2 g r r2 u.1 u.2) t) (va_A (WX K ad q q1 q2 g r r2 v i) sz)) 0 0 (va_A (WX K ad q q1 q2 g r r2 v i) sz) := by
  refine Met.ofW (cc := cX6_state) (maxL := 1) (ret := (some .int)) (by decide) rfl ?_
  intro p e s m args below meth c s₁ B hml hv
  obtain ⟨rfl, hsz, hP, hK, hD0⟩ := hv
  have hx := B.exec
  have hb := B.bytes
  have hr := B.returns
  have hts := hts_tl (atoms_spec (ws := (.code yX6_state cX6_state 1 (some .int) :: TB)) B.pre)
  have hown : s.vm.findClass RX6 = some m.cls := findClass_of_methodNamed B.named
  have hlocks := B.notSynchronized
  subst hsz
  have hD := hD0.self (sz := s.heap.size)
  generalize hAe : (va_A (WX K ad q q1 q2 g r r2 v i) s.heap.size) = A at hD ⊢
  have hA : ∀ q : Nat, s.heap.size ≤ q → A q := fun q h => by rw [← hAe]; exact Or.inr h
  have hS : va_S A s.heap s.heap [] := va_S.rf
  clear hAe hD0
  obtain ⟨d, d1, d2, f1, f2, f, s0⟩ := v
  obtain ⟨M, pv, ip, sv, M2, pv2, ip2, sv2, ma, nu, de, ne, di, n, fr⟩ := i
  obtain ⟨hd, hd1, hd2, hf1, hf2, hs20, hhf⟩ := id hI
  obtain ⟨hn64, hfr, hT⟩ := id hJ
  dsimp only at hd hd1 hd2 hf1 hf2 hs20 hhf hn64 hfr hT
  obtain ⟨ns, m1, ge, hns, hm, hge, h0, h1, h2, hs9, he9⟩ := id hd
  have hm1 : dn d 8 1 = m1 := dn_of h1 (by omega)
  have hn1 : dn d 8 0 = ns := dn_of h0 (by omega)
  have hp6 : 2 ^ m1 ≤ 64 := Nat.pow_le_pow_right (show 0 < 2 by decide) hm
  have hg1 : dn d 8 2 = ge := dn_of h2 (by omega)
  have hP : va_P D vwCl ([(ad 0, .inr (6, [.ref (q 0), .ref (q1 0), .ref (q2 0), .int f1, .int f2, .ref (ad 1), .ref (ad 3), .ref (ad 8), .ref (g 0)]))] ++ (WG K g ma nu de ne di (nI n) fr ++ ([(ad 3, .inr (4, [.ref (ad 4)]))] ++ (WE K (ad 4) (ad 5) (ad 6) (ad 7) r M pv ip sv ++ (WD K q d ++ ([(ad 8, .inr (5, [.ref (ad 9)]))] ++ (WE K (ad 9) (ad 10) (ad 11) (ad 12) r2 M2 pv2 ip2 sv2 ++ (WH K (ad 1) (ad 2) f (nI s0) ++ (WD K q1 d1 ++ (WD K q2 d2)))))))))) s.heap := hP
  have hD : va_D A ([(ad 0, .inr (6, [.ref (q 0), .ref (q1 0), .ref (q2 0), .int f1, .int f2, .ref (ad 1), .ref (ad 3), .ref (ad 8), .ref (g 0)]))] ++ (WG K g ma nu de ne di (nI n) fr ++ ([(ad 3, .inr (4, [.ref (ad 4)]))] ++ (WE K (ad 4) (ad 5) (ad 6) (ad 7) r M pv ip sv ++ (WD K q d ++ ([(ad 8, .inr (5, [.ref (ad 9)]))] ++ (WE K (ad 9) (ad 10) (ad 11) (ad 12) r2 M2 pv2 ip2 sv2 ++ (WH K (ad 1) (ad 2) f (nI s0) ++ (WD K q1 d1 ++ (WD K q2 d2)))))))))) := hD
  have hl := lv_entry ([.ref (ad 0)]) (n := 1) (Nat.le_of_ble_eq_true rfl)
  rw [lg_entry_eq]
  generalize (lg_sl ([.ref (ad 0)]) ++ List.replicate (1 - (lg_sl ([.ref (ad 0)])).length) Slot.unset).toArray = ls at hl ⊢
  have hl : lv_has ls 1 [(0, .ref (ad 0))] := hl
  refine lv_aload_n hx hb dX6_state_0 rfl (lv_at hl 0 rfl) ?_
  refine va_get (D := D) (ci := 6) (C := RX6) (T := TX6) (N := 9) hx hb hts iX6 hown hK hP 0 rfl rfl 6 (by decide) (hts _ k_f_X6_32) (fun _ h9 => h9) rfl dX6_state_1 ?_
  refine lv_aload_n hx hb dX6_state_4 rfl (lv_at hl 0 rfl) ?_
  refine va_get (D := D) (ci := 6) (C := RX6) (T := TX6) (N := 9) hx hb hts iX6 hown hK hP 0 rfl rfl 0 (by decide) (hts _ k_f_X6_12) (fun _ h9 => h9) rfl dX6_state_5 ?_
  refine lv_aload_n hx hb dX6_state_8 rfl (lv_at hl 0 rfl) ?_
  refine va_get (D := D) (ci := 6) (C := RX6) (T := TX6) (N := 9) hx hb hts iX6 hown hK hP 0 rfl rfl 0 (by decide) (hts _ k_f_X6_12) (fun _ h9 => h9) rfl dX6_state_9 ?_
  have hPq := P_perm pm_4 hP
  have hDq := D_perm pm_4 hD
  have hPc := bP0 hPq
  have hDc := bD0 hDq
  refine va_calli (va_runV (As := []) (rest := [.ref (q 0), .ref (ad 3)]) ⟨hx, hb, hml, hown, hts⟩ (c_X0_engagedMask l D K q d s.heap.size ) (cwV 0 hts (TB_V k_m_X6_123 k_im_X0_engagedMask k_se_X0_engagedMask k_in_X0 k_co_X0_engagedMask (fun _ h => h)) rfl rfl rfl (by decide +kernel) ⟨Nat.le_of_ble_eq_true rfl, Nat.le_of_ble_eq_true rfl⟩) ⟨cP_blind, va_recv hK hPc (ci := 0) (q0 := 0) rfl rfl, cP_of hPc hK hDc⟩ rfl rfl hl.1 rfl (lv_room (Nat.le_of_ble_eq_true rfl)) dX6_state_12 ⟨Nat.le_of_ble_eq_true rfl, Nat.le_of_ble_eq_true rfl⟩) hS (fun q _ h => absurd h id) (fun q h => absurd h id) (fun em u9 t9 H locs ht9 hvm hw hB hz1 hk1 hS => ?_)
  have hP := P_same hP hk1
  refine t_i (hw.trans h2) ?_
  have hPq := P_perm pm_234 hP
  have hDq := D_perm pm_234 hD
  have hPc := bP0 hPq
  have hDc := bD0 hDq
  have hFc := bF0 hDq hS hA
  refine va_callv (va_runV (As := [.ref (q 0), .int (nI ge)]) (rest := []) ⟨hx, hb, hml, hown, hts⟩ (c_X4_solve l D K (ad 3) (ad 4) (ad 5) (ad 6) (ad 7) r M pv ip sv q d ge H.size hd (by omega)) (cwV 2 hts (TB_V k_m_X6_151 k_im_X4_solve k_se_X4_solve k_in_X4 k_co_X4_solve (fun _ h => h)) rfl rfl rfl (by decide +kernel) ⟨Nat.le_of_ble_eq_true rfl, Nat.le_of_ble_eq_true rfl⟩) ⟨cP_blind, va_recv hK hPc (ci := 4) (q0 := 0) rfl rfl, cP_of hPc hK hDc⟩ rfl rfl hl.1 rfl (lv_room (Nat.le_of_ble_eq_true rfl)) dX6_state_15 ⟨Nat.le_of_ble_eq_true rfl, Nat.le_of_ble_eq_true rfl⟩) hS (fun q _ h => hFc q h) hFc (fun V t9 H locs ht9 hvm hw hB hz1 hk1 hS => ?_)
  obtain ⟨hP1, hK1, hD1⟩ := hB
  rw [ht9] at hP1
  obtain ⟨hPq1, hDq1⟩ := bJ0 hPq hDq hk1 hFc hP1 hD1
  have hP := P_perm (pm_234 (X0 := _)).symm hPq1
  have hD := D_perm (pm_234 (X0 := _)).symm hDq1
  have hP : va_P D vwCl ([(ad 0, .inr (6, [.ref (q 0), .ref (q1 0), .ref (q2 0), .int f1, .int f2, .ref (ad 1), .ref (ad 3), .ref (ad 8), .ref (g 0)]))] ++ (WG K g ma nu de ne di (nI n) fr ++ ([(ad 3, .inr (4, [.ref (ad 4)]))] ++ (WE K (ad 4) (ad 5) (ad 6) (ad 7) r V.1 V.2.1 V.2.2.1 V.2.2.2 ++ (WD K q d ++ ([(ad 8, .inr (5, [.ref (ad 9)]))] ++ (WE K (ad 9) (ad 10) (ad 11) (ad 12) r2 M2 pv2 ip2 sv2 ++ (WH K (ad 1) (ad 2) f (nI s0) ++ (WD K q1 d1 ++ (WD K q2 d2)))))))))) H := hP
  have hD : va_D A ([(ad 0, .inr (6, [.ref (q 0), .ref (q1 0), .ref (q2 0), .int f1, .int f2, .ref (ad 1), .ref (ad 3), .ref (ad 8), .ref (g 0)]))] ++ (WG K g ma nu de ne di (nI n) fr ++ ([(ad 3, .inr (4, [.ref (ad 4)]))] ++ (WE K (ad 4) (ad 5) (ad 6) (ad 7) r V.1 V.2.1 V.2.2.1 V.2.2.2 ++ (WD K q d ++ ([(ad 8, .inr (5, [.ref (ad 9)]))] ++ (WE K (ad 9) (ad 10) (ad 11) (ad 12) r2 M2 pv2 ip2 sv2 ++ (WH K (ad 1) (ad 2) f (nI s0) ++ (WD K q1 d1 ++ (WD K q2 d2)))))))))) := hD
  have hS0 := hw
  refine lv_aload_n hx hb dX6_state_18 rfl (lv_at hl 0 rfl) ?_
  refine va_get (D := D) (ci := 6) (C := RX6) (T := TX6) (N := 9) hx hb hts iX6 hown hK hP 0 rfl rfl 6 (by decide) (hts _ k_f_X6_32) (fun _ h9 => h9) rfl dX6_state_19 ?_
  have hPq := P_perm pm_23 hP
  have hDq := D_perm pm_23 hD
  have hPc := bP0 hPq
  have hDc := bD0 hDq
  refine va_calli (va_runV (As := []) (rest := []) ⟨hx, hb, hml, hown, hts⟩ (c_X4_stateFound l D K (ad 3) (ad 4) (ad 5) (ad 6) (ad 7) r V.1 V.2.1 V.2.2.1 V.2.2.2 (spM d ge) H.size hS0) (cwV 0 hts (TB_V k_m_X6_155 k_im_X4_stateFound k_se_X4_stateFound k_in_X4 k_co_X4_stateFound (fun _ h => h)) rfl rfl rfl (by decide +kernel) ⟨Nat.le_of_ble_eq_true rfl, Nat.le_of_ble_eq_true rfl⟩) ⟨cP_blind, va_recv hK hPc (ci := 4) (q0 := 0) rfl rfl, cP_of hPc hK hDc⟩ rfl rfl hl.1 rfl (lv_room (Nat.le_of_ble_eq_true rfl)) dX6_state_22 ⟨Nat.le_of_ble_eq_true rfl, Nat.le_of_ble_eq_true rfl⟩) hS (fun q _ h => absurd h id) (fun q h => absurd h id) (fun sf u9 t9 H locs ht9 hvm hw hB hz1 hk1 hS => ?_)
  have hP := P_same hP hk1
  refine t_i (show sf = nI (stM d ge) from hw) ?_
  have hs3 := stC_le (SP d ge)
  have hs3 : stM d ge ≤ 3 := hs3
  exact W.iret (v := nI (stM d ge)) hx hb hr (fun t9 ht9 hW => ⟨⟨nI (stM d ge), ((d, d1, d2, f1, f2, f, s0), (V.1, V.2.1, V.2.2.1, V.2.2.2, M2, pv2, ip2, sv2, ma, nu, de, ne, di, n, fr)), rfl, ⟨rfl, hJ, by rw [nI_toIntI (by omega), hg1]⟩, by rw [ht9]; exact hP, va_K.moved hW.alike hK, hD⟩, hS.F ht9⟩) hS.2.2 dX6_state_25
