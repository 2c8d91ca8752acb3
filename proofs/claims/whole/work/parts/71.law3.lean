/-! the law: cases 1 to 7 -/
set_option maxHeartbeats 4000000 in
set_option maxRecDepth 100000 in
theorem law_case_1 {p : Program} {l : Launch} {e : Env} {s : State} {m : MethodId} {below : List Frame} {meth : Method} {c : Code} {b L : Nat} {xs : Nat → Int32} {D : va_G} {K : Nat → ClassId} {A : Nat → Prop} (hlf : l.stackTraces = false) (hx : p.tables.exec = Jvm.exec) (hb : c.code = cL_law) (hml : c.maxLocals = 9) (hown : s.vm.findClass RL = some m.cls) (hts : ∀ w ∈ TB, w.before #[Value.ref b] s = true) (hX : va_X b L xs s s.heap) (hbl : b < s.heap.size) (hbA : ¬ A b) (hA : ∀ q, s.heap.size ≤ q → A q) (hK : va_K D vwCl (TY5 K) s) (hTX : TX A s.heap s) (hCL : CL s) (hL : L ≤ 3072) {ad q q1 q2 g r r2 mm : Nat → Nat} {oa ob k : Nat} {v : CV} {i : CI} {w0 : MS} {fo : Nat → Int64} {fd : Nat → UInt64} {H : Heap} {locs : List Loc} {ls : Array Slot} (hk : 6 * k + 6 ≤ L) (hI : IV v) (hJ : II v.1 i) (hR : RM v w0) (hP : va_P D vwCl (([(oa, .inl (K 1, 1, .inr (.inl fo)))] ++ ([(ob, .inl (K 4, 1, .inr (.inr (.inr (.inl fd)))))] ++ (WX K ad q q1 q2 g r r2 v i))) ++ (WMu K mm w0)) H) (hD : va_D A (([(oa, .inl (K 1, 1, .inr (.inl fo)))] ++ ([(ob, .inl (K 4, 1, .inr (.inr (.inr (.inl fd)))))] ++ (WX K ad q q1 q2 g r r2 v i))) ++ (WMu K mm w0))) (hS : va_S A s.heap H locs) (hl : lv_has ls 9 [(5, .int (nI (6 * k))), (0, .ref b), (1, .ref (ad 0)), (2, .ref (mm 0)), (3, .ref oa), (4, .ref ob)]) (N : LNX p l e s m below meth c b D K A ad q q1 q2 g r r2 mm oa ob k) : W p l e room_1 s m #[Value.ref b] below meth c H locs (100 + k) (2000 + 6 * k) (lw_Z below #[Value.ref b] s) (F0 m 272 ls []) := by
  have hK4 := hK.sub (tys' := TY K) [0, 1, 2, 3] rfl
  refine lv_aload_n hx hb dL_law_272 rfl (lv_at hl 2 rfl) ?_
  refine lv_aload_n hx hb dL_law_273 rfl (lv_at hl 1 rfl) ?_
  refine lv_iload hx hb dL_law_274 (lv_at hl 0 rfl) ?_
  refine lv_iconst (v := nI 1) hx hb dL_law_276 (by decide) ?_
  refine lv_iadd hx hb dL_law_277 ?_
  refine t_i (nI_add _ _) ?_
  refine n_sld hx hb hX hbl hbA hS (i := 6 * k + 1) (by omega) (by omega) dL_law_278 ?_
  refine lv_aload_n hx hb dL_law_279 rfl (lv_at hl 4 rfl) ?_
  have hPc := bP0 hP
  have hDc := bD0 hD
  have hFc := bF0 hD hS hA
  refine va_calli (vx_runSW (As := [.ref (ad 0), .int (xs (6 * k + 1)), .ref oa]) (rest := []) ⟨hx, hb, hml, hown, hts⟩ (c_L_addBrake l hlf D K oa ob fo fd ad q q1 q2 g r r2 v i (xs (6 * k + 1)) H.size hI hJ) (vx_cwSW 3 hts (TB_SW k_m_L_108 k_st_L_addBrake k_in_L k_co_L_addBrake (fun _ h => h)) rfl rfl rfl (by decide +kernel) ⟨Nat.le_of_ble_eq_true rfl, Nat.le_of_ble_eq_true rfl⟩) ⟨cPL_blind, cPL_of hPc hK hDc hTX hCL hS hFc⟩ rfl rfl hl.1 rfl (lv_room (Nat.le_of_ble_eq_true rfl)) dL_law_280 ⟨(show 100 + k + 1 ≤ 601024 by omega), (show 2000 + 6 * k + 6 ≤ 7293034 by omega)⟩) hS (fun q _ h => hFc q h) hFc (fun kz u9 t9 H locs ht9 hvm hw hB hz1 hk1 hS => ?_)
  obtain ⟨v1, i1, fo1, fd1⟩ := u9
  obtain ⟨hP1, hK1, hD1⟩ := hB
  rw [ht9] at hP1
  obtain ⟨hP, hD⟩ := bJ0 hP hD hk1 hFc hP1 hD1
  have hP : va_P D vwCl (([(oa, .inl (K 1, 1, .inr (.inl fo1)))] ++ ([(ob, .inl (K 4, 1, .inr (.inr (.inr (.inl fd1)))))] ++ (WX K ad q q1 q2 g r r2 v1 i1))) ++ (WMu K mm w0)) H := hP
  have hD : va_D A (([(oa, .inl (K 1, 1, .inr (.inl fo1)))] ++ ([(ob, .inl (K 4, 1, .inr (.inr (.inr (.inl fd1)))))] ++ (WX K ad q q1 q2 g r r2 v1 i1))) ++ (WMu K mm w0)) := hD
  obtain ⟨hkz, hr3, hI1, hJ1, hh0, hh1⟩ := hw
  dsimp only at hI1 hJ1 hh0 hh1
  refine t_i (show kz = nI (rs_addBrake v.1 (xs (6 * k + 1))).1 from hkz) ?_
  refine lv_istore (lv' := [(6, .int (nI ((rs_addBrake v.1 (xs (6 * k + 1))).1))), (5, .int (nI (6 * k))), (0, .ref b), (1, .ref (ad 0)), (2, .ref (mm 0)), (3, .ref oa), (4, .ref ob)]) hx hb dL_law_283 hl (by decide) rfl (fun ls hl => ?_)
  refine lv_aload_n hx hb dL_law_285 rfl (lv_at hl 4 rfl) ?_
  refine lv_aload_n hx hb dL_law_286 rfl (lv_at hl 2 rfl) ?_
  refine lv_iload hx hb dL_law_287 (lv_at hl 1 rfl) ?_
  refine lv_iconst (v := nI 1) hx hb dL_law_289 (by decide) ?_
  refine lv_iadd hx hb dL_law_290 ?_
  refine t_i (nI_add _ _) ?_
  refine n_sld hx hb hX hbl hbA hS (i := 6 * k + 1) (by omega) (by omega) dL_law_291 ?_
  have hPc := bP1e hP
  have hDc := bD1e hD
  have hFc := bF1e hD hS hA
  refine va_calli (va_runV (As := [.int (xs (6 * k + 1))]) (rest := []) ⟨hx, hb, hml, hown, hts⟩ (c_X7_addBrake l D K mm v w0 (xs (6 * k + 1)) H.size hI hR) (cwV 1 hts (TB_V k_m_L_111 k_im_X7_addBrake k_se_X7_addBrake k_in_X7 k_co_X7_addBrake (fun _ h => h)) rfl rfl rfl (by decide +kernel) ⟨Nat.le_of_ble_eq_true rfl, Nat.le_of_ble_eq_true rfl⟩) ⟨cP_blind, va_recv hK4 hPc (ci := 7) (q0 := 0) rfl rfl, cP_of hPc hK4 hDc⟩ rfl rfl hl.1 rfl (lv_room (Nat.le_of_ble_eq_true rfl)) dL_law_292 ⟨(show 100 + k + 1 + 0 ≤ 601024 by omega), (show 2000 + 6 * k + 6 + 0 ≤ 7293034 by omega)⟩) hS (fun q _ h => hFc q h) hFc (fun mz u t9 H locs ht9 hvm hw hB hz1 hk1 hS => ?_)
  obtain ⟨hP1, hK1, hD1⟩ := hB
  rw [ht9] at hP1
  obtain ⟨hP, hD⟩ := bJ1e hP hD hk1 hFc hP1 hD1
  have hP : va_P D vwCl (([(oa, .inl (K 1, 1, .inr (.inl fo1)))] ++ ([(ob, .inl (K 4, 1, .inr (.inr (.inr (.inl fd1)))))] ++ (WX K ad q q1 q2 g r r2 v1 i1))) ++ (WMu K mm u)) H := hP
  have hD : va_D A (([(oa, .inl (K 1, 1, .inr (.inl fo1)))] ++ ([(ob, .inl (K 4, 1, .inr (.inr (.inr (.inl fd1)))))] ++ (WX K ad q q1 q2 g r r2 v1 i1))) ++ (WMu K mm u)) := hD
  obtain ⟨hth, hw0, hw1⟩ := hw
  have hR1 : RM v1 u := by
    by_cases h9 : (rs_addBrake v.1 (xs (6 * k + 1))).1 = 0
    · rw [(hh0 h9).2]; exact (hw0 h9).2
    · rw [hh1 h9]; exact hw1 h9
  have hzz : (rs_addBrake v.1 (xs (6 * k + 1))).1 = 0 → mz.toInt = (rs_addBrake v.1 (xs (6 * k + 1))).2 := fun h9 => (hw0 h9).1
  refine lv_istore (lv' := [(7, .int mz), (6, .int (nI ((rs_addBrake v.1 (xs (6 * k + 1))).1))), (5, .int (nI (6 * k))), (0, .ref b), (1, .ref (ad 0)), (2, .ref (mm 0)), (3, .ref oa), (4, .ref ob)]) hx hb dL_law_295 hl (by decide) rfl (fun ls hl => ?_)
  refine lv_aload_n hx hb dL_law_297 rfl (lv_at hl 5 rfl) ?_
  have hPc := bP1e hP
  have hDc := bD1e hD
  refine va_calli (va_runV (As := []) (rest := []) ⟨hx, hb, hml, hown, hts⟩ (c_X7_thrown l D K mm u.1 u.2.1 u.2.2.1 u.2.2.2.1 u.2.2.2.2.1 u.2.2.2.2.2.1 u.2.2.2.2.2.2.1 u.2.2.2.2.2.2.2.1 u.2.2.2.2.2.2.2.2.1 u.2.2.2.2.2.2.2.2.2.1 u.2.2.2.2.2.2.2.2.2.2.1 u.2.2.2.2.2.2.2.2.2.2.2.1 u.2.2.2.2.2.2.2.2.2.2.2.2.1 u.2.2.2.2.2.2.2.2.2.2.2.2.2.1 u.2.2.2.2.2.2.2.2.2.2.2.2.2.2.1 u.2.2.2.2.2.2.2.2.2.2.2.2.2.2.2.1 u.2.2.2.2.2.2.2.2.2.2.2.2.2.2.2.2 H.size) (cwV 0 hts (TB_V k_m_L_105 k_im_X7_thrown k_se_X7_thrown k_in_X7 k_co_X7_thrown (fun _ h => h)) rfl rfl rfl (by decide +kernel) ⟨Nat.le_of_ble_eq_true rfl, Nat.le_of_ble_eq_true rfl⟩) ⟨cP_blind, va_recv hK4 hPc (ci := 7) (q0 := 0) rfl rfl, cP_of hPc hK4 hDc⟩ rfl rfl hl.1 rfl (lv_room (Nat.le_of_ble_eq_true rfl)) dL_law_298 ⟨(show 100 + k + 1 + 0 + 0 ≤ 601024 by omega), (show 2000 + 6 * k + 6 + 0 + 0 ≤ 7293034 by omega)⟩) hS (fun q _ h => absurd h id) (fun q h => absurd h id) (fun tz u9 t9 H locs ht9 hvm hw hB hz1 hk1 hS => ?_)
  have hP := P_same hP hk1
  have hth2 : tz = nI (rs_addBrake v.1 (xs (6 * k + 1))).1 := hw.trans hth
  refine t_i hth2 ?_
  refine lv_iload hx hb dL_law_301 (lv_at hl 1 rfl) ?_
  refine b_icmp_eq hx hb (nI_toIntI (by omega)) (nI_toIntI (by omega)) dL_law_303 (tgt := 308) (by decide) (fun c303 => ?_) (fun c303 => absurd c303 (fun q9 => q9 rfl))
  refine lv_iload hx hb dL_law_308 (lv_at hl 1 rfl) ?_
  refine b_if_ne hx hb (nI_toIntI (by omega)) dL_law_310 (tgt := 325) (by decide) (fun c310 => ?_) (fun c310 => ?_)
  · refine lv_goto (tgt := 1641) hx hb dL_law_325 (by decide) ?_
    exact N v1 i1 u fo1 fd1 _ _ _ hI1 hJ1 hR1 hP hD hS (lv_sub hl [2, 3, 4, 5, 6, 7] rfl)
  have h9 : (rs_addBrake v.1 (xs (6 * k + 1))).1 = 0 := by omega
  refine lv_aload_n hx hb dL_law_313 rfl (lv_at hl 6 rfl) ?_
  refine lv_iconst (v := nI 0) hx hb dL_law_314 (by decide) ?_
  refine n_lald hx hb hK hP 0 1 rfl rfl (i := 0) (n := 1) (by decide) (by decide) dL_law_315 ?_
  refine lv_iload hx hb dL_law_316 (lv_at hl 0 rfl) ?_
  refine lv_i2l (v := mz.toInt64) hx hb dL_law_318 rfl ?_
  refine b_lcmp_eq hx hb rfl rfl dL_law_319 dL_law_320 (tgt := 325) (by decide) (fun c319 => ?_) (fun c319 => absurd c319 (fun q9 => q9 (by rw [(hh0 h9).1]; exact ((Int32.toInt_toInt64 mz).trans (hzz h9)).symm)))
  refine lv_goto (tgt := 1641) hx hb dL_law_325 (by decide) ?_
  exact N v1 i1 u fo1 fd1 _ _ _ hI1 hJ1 hR1 hP hD hS (lv_sub hl [2, 3, 4, 5, 6, 7] rfl)
set_option maxHeartbeats 4000000 in
set_option maxRecDepth 100000 in
theorem law_case_2 {p : Program} {l : Launch} {e : Env} {s : State} {m : MethodId} {below : List Frame} {meth : Method} {c : Code} {b L : Nat} {xs : Nat → Int32} {D : va_G} {K : Nat → ClassId} {A : Nat → Prop} (hlf : l.stackTraces = false) (hx : p.tables.exec = Jvm.exec) (hb : c.code = cL_law) (hml : c.maxLocals = 9) (hown : s.vm.findClass RL = some m.cls) (hts : ∀ w ∈ TB, w.before #[Value.ref b] s = true) (hX : va_X b L xs s s.heap) (hbl : b < s.heap.size) (hbA : ¬ A b) (hA : ∀ q, s.heap.size ≤ q → A q) (hK : va_K D vwCl (TY5 K) s) (hTX : TX A s.heap s) (hCL : CL s) (hL : L ≤ 3072) {ad q q1 q2 g r r2 mm : Nat → Nat} {oa ob k : Nat} {v : CV} {i : CI} {w0 : MS} {fo : Nat → Int64} {fd : Nat → UInt64} {H : Heap} {locs : List Loc} {ls : Array Slot} (hk : 6 * k + 6 ≤ L) (hI : IV v) (hJ : II v.1 i) (hR : RM v w0) (hP : va_P D vwCl (([(oa, .inl (K 1, 1, .inr (.inl fo)))] ++ ([(ob, .inl (K 4, 1, .inr (.inr (.inr (.inl fd)))))] ++ (WX K ad q q1 q2 g r r2 v i))) ++ (WMu K mm w0)) H) (hD : va_D A (([(oa, .inl (K 1, 1, .inr (.inl fo)))] ++ ([(ob, .inl (K 4, 1, .inr (.inr (.inr (.inl fd)))))] ++ (WX K ad q q1 q2 g r r2 v i))) ++ (WMu K mm w0))) (hS : va_S A s.heap H locs) (hl : lv_has ls 9 [(5, .int (nI (6 * k))), (0, .ref b), (1, .ref (ad 0)), (2, .ref (mm 0)), (3, .ref oa), (4, .ref ob)]) (N : LNX p l e s m below meth c b D K A ad q q1 q2 g r r2 mm oa ob k) : W p l e room_1 s m #[Value.ref b] below meth c H locs (100 + k) (2000 + 6 * k) (lw_Z below #[Value.ref b] s) (F0 m 328 ls []) := by
  have hK4 := hK.sub (tys' := TY K) [0, 1, 2, 3] rfl
  refine lv_aload_n hx hb dL_law_328 rfl (lv_at hl 2 rfl) ?_
  refine lv_aload_n hx hb dL_law_329 rfl (lv_at hl 1 rfl) ?_
  refine lv_iload hx hb dL_law_330 (lv_at hl 0 rfl) ?_
  refine lv_iconst (v := nI 1) hx hb dL_law_332 (by decide) ?_
  refine lv_iadd hx hb dL_law_333 ?_
  refine t_i (nI_add _ _) ?_
  refine n_sld hx hb hX hbl hbA hS (i := 6 * k + 1) (by omega) (by omega) dL_law_334 ?_
  refine lv_aload_n hx hb dL_law_335 rfl (lv_at hl 1 rfl) ?_
  refine lv_iload hx hb dL_law_336 (lv_at hl 0 rfl) ?_
  refine lv_iconst (v := nI 2) hx hb dL_law_338 (by decide) ?_
  refine lv_iadd hx hb dL_law_339 ?_
  refine t_i (nI_add _ _) ?_
  refine n_sld hx hb hX hbl hbA hS (i := 6 * k + 2) (by omega) (by omega) dL_law_340 ?_
  refine lv_aload_n hx hb dL_law_341 rfl (lv_at hl 4 rfl) ?_
  have hPc := bP0 hP
  have hDc := bD0 hD
  have hFc := bF0 hD hS hA
  refine va_calli (vx_runSW (As := [.ref (ad 0), .int (xs (6 * k + 1)), .int (xs (6 * k + 2)), .ref oa]) (rest := []) ⟨hx, hb, hml, hown, hts⟩ (c_L_addClutch l hlf D K oa ob fo fd ad q q1 q2 g r r2 v i (xs (6 * k + 1)) (xs (6 * k + 2)) H.size hI hJ) (vx_cwSW 4 hts (TB_SW k_m_L_112 k_st_L_addClutch k_in_L k_co_L_addClutch (fun _ h => h)) rfl rfl rfl (by decide +kernel) ⟨Nat.le_of_ble_eq_true rfl, Nat.le_of_ble_eq_true rfl⟩) ⟨cPL_blind, cPL_of hPc hK hDc hTX hCL hS hFc⟩ rfl rfl hl.1 rfl (lv_room (Nat.le_of_ble_eq_true rfl)) dL_law_342 ⟨(show 100 + k + 1 ≤ 601024 by omega), (show 2000 + 6 * k + 6 ≤ 7293034 by omega)⟩) hS (fun q _ h => hFc q h) hFc (fun kz u9 t9 H locs ht9 hvm hw hB hz1 hk1 hS => ?_)
  obtain ⟨v1, i1, fo1, fd1⟩ := u9
  obtain ⟨hP1, hK1, hD1⟩ := hB
  rw [ht9] at hP1
  obtain ⟨hP, hD⟩ := bJ0 hP hD hk1 hFc hP1 hD1
  have hP : va_P D vwCl (([(oa, .inl (K 1, 1, .inr (.inl fo1)))] ++ ([(ob, .inl (K 4, 1, .inr (.inr (.inr (.inl fd1)))))] ++ (WX K ad q q1 q2 g r r2 v1 i1))) ++ (WMu K mm w0)) H := hP
  have hD : va_D A (([(oa, .inl (K 1, 1, .inr (.inl fo1)))] ++ ([(ob, .inl (K 4, 1, .inr (.inr (.inr (.inl fd1)))))] ++ (WX K ad q q1 q2 g r r2 v1 i1))) ++ (WMu K mm w0)) := hD
  obtain ⟨hkz, hr3, hI1, hJ1, hh0, hh1⟩ := hw
  dsimp only at hI1 hJ1 hh0 hh1
  refine t_i (show kz = nI (rs_addClutch v.1 (xs (6 * k + 1)) (xs (6 * k + 2))).1 from hkz) ?_
  refine lv_istore (lv' := [(6, .int (nI ((rs_addClutch v.1 (xs (6 * k + 1)) (xs (6 * k + 2))).1))), (5, .int (nI (6 * k))), (0, .ref b), (1, .ref (ad 0)), (2, .ref (mm 0)), (3, .ref oa), (4, .ref ob)]) hx hb dL_law_345 hl (by decide) rfl (fun ls hl => ?_)
  refine lv_aload_n hx hb dL_law_347 rfl (lv_at hl 4 rfl) ?_
  refine lv_aload_n hx hb dL_law_348 rfl (lv_at hl 2 rfl) ?_
  refine lv_iload hx hb dL_law_349 (lv_at hl 1 rfl) ?_
  refine lv_iconst (v := nI 1) hx hb dL_law_351 (by decide) ?_
  refine lv_iadd hx hb dL_law_352 ?_
  refine t_i (nI_add _ _) ?_
  refine n_sld hx hb hX hbl hbA hS (i := 6 * k + 1) (by omega) (by omega) dL_law_353 ?_
  refine lv_aload_n hx hb dL_law_354 rfl (lv_at hl 2 rfl) ?_
  refine lv_iload hx hb dL_law_355 (lv_at hl 1 rfl) ?_
  refine lv_iconst (v := nI 2) hx hb dL_law_357 (by decide) ?_
  refine lv_iadd hx hb dL_law_358 ?_
  refine t_i (nI_add _ _) ?_
  refine n_sld hx hb hX hbl hbA hS (i := 6 * k + 2) (by omega) (by omega) dL_law_359 ?_
  have hPc := bP1e hP
  have hDc := bD1e hD
  have hFc := bF1e hD hS hA
  refine va_calli (va_runV (As := [.int (xs (6 * k + 1)), .int (xs (6 * k + 2))]) (rest := []) ⟨hx, hb, hml, hown, hts⟩ (c_X7_addClutch l D K mm v w0 (xs (6 * k + 1)) (xs (6 * k + 2)) H.size hI hR) (cwV 2 hts (TB_V k_m_L_115 k_im_X7_addClutch k_se_X7_addClutch k_in_X7 k_co_X7_addClutch (fun _ h => h)) rfl rfl rfl (by decide +kernel) ⟨Nat.le_of_ble_eq_true rfl, Nat.le_of_ble_eq_true rfl⟩) ⟨cP_blind, va_recv hK4 hPc (ci := 7) (q0 := 0) rfl rfl, cP_of hPc hK4 hDc⟩ rfl rfl hl.1 rfl (lv_room (Nat.le_of_ble_eq_true rfl)) dL_law_360 ⟨(show 100 + k + 1 + 0 ≤ 601024 by omega), (show 2000 + 6 * k + 6 + 0 ≤ 7293034 by omega)⟩) hS (fun q _ h => hFc q h) hFc (fun mz u t9 H locs ht9 hvm hw hB hz1 hk1 hS => ?_)
  obtain ⟨hP1, hK1, hD1⟩ := hB
  rw [ht9] at hP1
  obtain ⟨hP, hD⟩ := bJ1e hP hD hk1 hFc hP1 hD1
  have hP : va_P D vwCl (([(oa, .inl (K 1, 1, .inr (.inl fo1)))] ++ ([(ob, .inl (K 4, 1, .inr (.inr (.inr (.inl fd1)))))] ++ (WX K ad q q1 q2 g r r2 v1 i1))) ++ (WMu K mm u)) H := hP
  have hD : va_D A (([(oa, .inl (K 1, 1, .inr (.inl fo1)))] ++ ([(ob, .inl (K 4, 1, .inr (.inr (.inr (.inl fd1)))))] ++ (WX K ad q q1 q2 g r r2 v1 i1))) ++ (WMu K mm u)) := hD
  obtain ⟨hth, hw0, hw1⟩ := hw
  have hR1 : RM v1 u := by
    by_cases h9 : (rs_addClutch v.1 (xs (6 * k + 1)) (xs (6 * k + 2))).1 = 0
    · rw [(hh0 h9).2]; exact (hw0 h9).2
    · rw [hh1 h9]; exact hw1 h9
  have hzz : (rs_addClutch v.1 (xs (6 * k + 1)) (xs (6 * k + 2))).1 = 0 → mz.toInt = (rs_addClutch v.1 (xs (6 * k + 1)) (xs (6 * k + 2))).2 := fun h9 => (hw0 h9).1
  refine lv_istore (lv' := [(7, .int mz), (6, .int (nI ((rs_addClutch v.1 (xs (6 * k + 1)) (xs (6 * k + 2))).1))), (5, .int (nI (6 * k))), (0, .ref b), (1, .ref (ad 0)), (2, .ref (mm 0)), (3, .ref oa), (4, .ref ob)]) hx hb dL_law_363 hl (by decide) rfl (fun ls hl => ?_)
  refine lv_aload_n hx hb dL_law_365 rfl (lv_at hl 5 rfl) ?_
  have hPc := bP1e hP
  have hDc := bD1e hD
  refine va_calli (va_runV (As := []) (rest := []) ⟨hx, hb, hml, hown, hts⟩ (c_X7_thrown l D K mm u.1 u.2.1 u.2.2.1 u.2.2.2.1 u.2.2.2.2.1 u.2.2.2.2.2.1 u.2.2.2.2.2.2.1 u.2.2.2.2.2.2.2.1 u.2.2.2.2.2.2.2.2.1 u.2.2.2.2.2.2.2.2.2.1 u.2.2.2.2.2.2.2.2.2.2.1 u.2.2.2.2.2.2.2.2.2.2.2.1 u.2.2.2.2.2.2.2.2.2.2.2.2.1 u.2.2.2.2.2.2.2.2.2.2.2.2.2.1 u.2.2.2.2.2.2.2.2.2.2.2.2.2.2.1 u.2.2.2.2.2.2.2.2.2.2.2.2.2.2.2.1 u.2.2.2.2.2.2.2.2.2.2.2.2.2.2.2.2 H.size) (cwV 0 hts (TB_V k_m_L_105 k_im_X7_thrown k_se_X7_thrown k_in_X7 k_co_X7_thrown (fun _ h => h)) rfl rfl rfl (by decide +kernel) ⟨Nat.le_of_ble_eq_true rfl, Nat.le_of_ble_eq_true rfl⟩) ⟨cP_blind, va_recv hK4 hPc (ci := 7) (q0 := 0) rfl rfl, cP_of hPc hK4 hDc⟩ rfl rfl hl.1 rfl (lv_room (Nat.le_of_ble_eq_true rfl)) dL_law_366 ⟨(show 100 + k + 1 + 0 + 0 ≤ 601024 by omega), (show 2000 + 6 * k + 6 + 0 + 0 ≤ 7293034 by omega)⟩) hS (fun q _ h => absurd h id) (fun q h => absurd h id) (fun tz u9 t9 H locs ht9 hvm hw hB hz1 hk1 hS => ?_)
  have hP := P_same hP hk1
  have hth2 : tz = nI (rs_addClutch v.1 (xs (6 * k + 1)) (xs (6 * k + 2))).1 := hw.trans hth
  refine t_i hth2 ?_
  refine lv_iload hx hb dL_law_369 (lv_at hl 1 rfl) ?_
  refine b_icmp_eq hx hb (nI_toIntI (by omega)) (nI_toIntI (by omega)) dL_law_371 (tgt := 376) (by decide) (fun c371 => ?_) (fun c371 => absurd c371 (fun q9 => q9 rfl))
  refine lv_iload hx hb dL_law_376 (lv_at hl 1 rfl) ?_
  refine b_if_ne hx hb (nI_toIntI (by omega)) dL_law_378 (tgt := 393) (by decide) (fun c378 => ?_) (fun c378 => ?_)
  · refine lv_goto (tgt := 1641) hx hb dL_law_393 (by decide) ?_
    exact N v1 i1 u fo1 fd1 _ _ _ hI1 hJ1 hR1 hP hD hS (lv_sub hl [2, 3, 4, 5, 6, 7] rfl)
  have h9 : (rs_addClutch v.1 (xs (6 * k + 1)) (xs (6 * k + 2))).1 = 0 := by omega
  refine lv_aload_n hx hb dL_law_381 rfl (lv_at hl 6 rfl) ?_
  refine lv_iconst (v := nI 0) hx hb dL_law_382 (by decide) ?_
  refine n_lald hx hb hK hP 0 1 rfl rfl (i := 0) (n := 1) (by decide) (by decide) dL_law_383 ?_
  refine lv_iload hx hb dL_law_384 (lv_at hl 0 rfl) ?_
  refine lv_i2l (v := mz.toInt64) hx hb dL_law_386 rfl ?_
  refine b_lcmp_eq hx hb rfl rfl dL_law_387 dL_law_388 (tgt := 393) (by decide) (fun c387 => ?_) (fun c387 => absurd c387 (fun q9 => q9 (by rw [(hh0 h9).1]; exact ((Int32.toInt_toInt64 mz).trans (hzz h9)).symm)))
  refine lv_goto (tgt := 1641) hx hb dL_law_393 (by decide) ?_
  exact N v1 i1 u fo1 fd1 _ _ _ hI1 hJ1 hR1 hP hD hS (lv_sub hl [2, 3, 4, 5, 6, 7] rfl)
set_option maxHeartbeats 4000000 in
set_option maxRecDepth 100000 in
theorem law_case_3 {p : Program} {l : Launch} {e : Env} {s : State} {m : MethodId} {below : List Frame} {meth : Method} {c : Code} {b L : Nat} {xs : Nat → Int32} {D : va_G} {K : Nat → ClassId} {A : Nat → Prop} (hlf : l.stackTraces = false) (hx : p.tables.exec = Jvm.exec) (hb : c.code = cL_law) (hml : c.maxLocals = 9) (hown : s.vm.findClass RL = some m.cls) (hts : ∀ w ∈ TB, w.before #[Value.ref b] s = true) (hX : va_X b L xs s s.heap) (hbl : b < s.heap.size) (hbA : ¬ A b) (hA : ∀ q, s.heap.size ≤ q → A q) (hK : va_K D vwCl (TY5 K) s) (hTX : TX A s.heap s) (hCL : CL s) (hL : L ≤ 3072) {ad q q1 q2 g r r2 mm : Nat → Nat} {oa ob k : Nat} {v : CV} {i : CI} {w0 : MS} {fo : Nat → Int64} {fd : Nat → UInt64} {H : Heap} {locs : List Loc} {ls : Array Slot} (hk : 6 * k + 6 ≤ L) (hI : IV v) (hJ : II v.1 i) (hR : RM v w0) (hP : va_P D vwCl (([(oa, .inl (K 1, 1, .inr (.inl fo)))] ++ ([(ob, .inl (K 4, 1, .inr (.inr (.inr (.inl fd)))))] ++ (WX K ad q q1 q2 g r r2 v i))) ++ (WMu K mm w0)) H) (hD : va_D A (([(oa, .inl (K 1, 1, .inr (.inl fo)))] ++ ([(ob, .inl (K 4, 1, .inr (.inr (.inr (.inl fd)))))] ++ (WX K ad q q1 q2 g r r2 v i))) ++ (WMu K mm w0))) (hS : va_S A s.heap H locs) (hl : lv_has ls 9 [(5, .int (nI (6 * k))), (0, .ref b), (1, .ref (ad 0)), (2, .ref (mm 0)), (3, .ref oa), (4, .ref ob)]) (N : LNX p l e s m below meth c b D K A ad q q1 q2 g r r2 mm oa ob k) : W p l e room_1 s m #[Value.ref b] below meth c H locs (100 + k) (2000 + 6 * k) (lw_Z below #[Value.ref b] s) (F0 m 396 ls []) := by
  have hK4 := hK.sub (tys' := TY K) [0, 1, 2, 3] rfl
  refine lv_aload_n hx hb dL_law_396 rfl (lv_at hl 2 rfl) ?_
  refine lv_aload_n hx hb dL_law_397 rfl (lv_at hl 1 rfl) ?_
  refine lv_iload hx hb dL_law_398 (lv_at hl 0 rfl) ?_
  refine lv_iconst (v := nI 1) hx hb dL_law_400 (by decide) ?_
  refine lv_iadd hx hb dL_law_401 ?_
  refine t_i (nI_add _ _) ?_
  refine n_sld hx hb hX hbl hbA hS (i := 6 * k + 1) (by omega) (by omega) dL_law_402 ?_
  refine lv_aload_n hx hb dL_law_403 rfl (lv_at hl 1 rfl) ?_
  refine lv_iload hx hb dL_law_404 (lv_at hl 0 rfl) ?_
  refine lv_iconst (v := nI 2) hx hb dL_law_406 (by decide) ?_
  refine lv_iadd hx hb dL_law_407 ?_
  refine t_i (nI_add _ _) ?_
  refine n_sld hx hb hX hbl hbA hS (i := 6 * k + 2) (by omega) (by omega) dL_law_408 ?_
  refine lv_aload_n hx hb dL_law_409 rfl (lv_at hl 4 rfl) ?_
  have hPc := bP0 hP
  have hDc := bD0 hD
  have hFc := bF0 hD hS hA
  refine va_calli (vx_runSW (As := [.ref (ad 0), .int (xs (6 * k + 1)), .int (xs (6 * k + 2)), .ref oa]) (rest := []) ⟨hx, hb, hml, hown, hts⟩ (c_L_setCapacity l hlf D K oa ob fo fd ad q q1 q2 g r r2 v i (xs (6 * k + 1)) (xs (6 * k + 2)) H.size hI hJ) (vx_cwSW 4 hts (TB_SW k_m_L_116 k_st_L_setCapacity k_in_L k_co_L_setCapacity (fun _ h => h)) rfl rfl rfl (by decide +kernel) ⟨Nat.le_of_ble_eq_true rfl, Nat.le_of_ble_eq_true rfl⟩) ⟨cPL_blind, cPL_of hPc hK hDc hTX hCL hS hFc⟩ rfl rfl hl.1 rfl (lv_room (Nat.le_of_ble_eq_true rfl)) dL_law_410 ⟨(show 100 + k + 1 ≤ 601024 by omega), (show 2000 + 6 * k + 6 ≤ 7293034 by omega)⟩) hS (fun q _ h => hFc q h) hFc (fun kz u9 t9 H locs ht9 hvm hw hB hz1 hk1 hS => ?_)
  obtain ⟨v1, i1, fo1, fd1⟩ := u9
  obtain ⟨hP1, hK1, hD1⟩ := hB
  rw [ht9] at hP1
  obtain ⟨hP, hD⟩ := bJ0 hP hD hk1 hFc hP1 hD1
  have hP : va_P D vwCl (([(oa, .inl (K 1, 1, .inr (.inl fo1)))] ++ ([(ob, .inl (K 4, 1, .inr (.inr (.inr (.inl fd1)))))] ++ (WX K ad q q1 q2 g r r2 v1 i1))) ++ (WMu K mm w0)) H := hP
  have hD : va_D A (([(oa, .inl (K 1, 1, .inr (.inl fo1)))] ++ ([(ob, .inl (K 4, 1, .inr (.inr (.inr (.inl fd1)))))] ++ (WX K ad q q1 q2 g r r2 v1 i1))) ++ (WMu K mm w0)) := hD
  obtain ⟨hkz, hr3, hI1, hJ1, hh0, hh1⟩ := hw
  dsimp only at hI1 hJ1 hh0 hh1
  refine t_i (show kz = nI (rs_setCapacity v.1 (xs (6 * k + 1)) (xs (6 * k + 2))).1 from hkz) ?_
  refine lv_istore (lv' := [(6, .int (nI ((rs_setCapacity v.1 (xs (6 * k + 1)) (xs (6 * k + 2))).1))), (5, .int (nI (6 * k))), (0, .ref b), (1, .ref (ad 0)), (2, .ref (mm 0)), (3, .ref oa), (4, .ref ob)]) hx hb dL_law_413 hl (by decide) rfl (fun ls hl => ?_)
  refine lv_aload_n hx hb dL_law_415 rfl (lv_at hl 4 rfl) ?_
  refine lv_aload_n hx hb dL_law_416 rfl (lv_at hl 2 rfl) ?_
  refine lv_iload hx hb dL_law_417 (lv_at hl 1 rfl) ?_
  refine lv_iconst (v := nI 1) hx hb dL_law_419 (by decide) ?_
  refine lv_iadd hx hb dL_law_420 ?_
  refine t_i (nI_add _ _) ?_
  refine n_sld hx hb hX hbl hbA hS (i := 6 * k + 1) (by omega) (by omega) dL_law_421 ?_
  refine lv_aload_n hx hb dL_law_422 rfl (lv_at hl 2 rfl) ?_
  refine lv_iload hx hb dL_law_423 (lv_at hl 1 rfl) ?_
  refine lv_iconst (v := nI 2) hx hb dL_law_425 (by decide) ?_
  refine lv_iadd hx hb dL_law_426 ?_
  refine t_i (nI_add _ _) ?_
  refine n_sld hx hb hX hbl hbA hS (i := 6 * k + 2) (by omega) (by omega) dL_law_427 ?_
  have hPc := bP1e hP
  have hDc := bD1e hD
  have hFc := bF1e hD hS hA
  refine va_calli (va_runV (As := [.int (xs (6 * k + 1)), .int (xs (6 * k + 2))]) (rest := []) ⟨hx, hb, hml, hown, hts⟩ (c_X7_setCapacity l D K mm v w0 (xs (6 * k + 1)) (xs (6 * k + 2)) H.size hI hR) (cwV 2 hts (TB_V k_m_L_118 k_im_X7_setCapacity k_se_X7_setCapacity k_in_X7 k_co_X7_setCapacity (fun _ h => h)) rfl rfl rfl (by decide +kernel) ⟨Nat.le_of_ble_eq_true rfl, Nat.le_of_ble_eq_true rfl⟩) ⟨cP_blind, va_recv hK4 hPc (ci := 7) (q0 := 0) rfl rfl, cP_of hPc hK4 hDc⟩ rfl rfl hl.1 rfl (lv_room (Nat.le_of_ble_eq_true rfl)) dL_law_428 ⟨(show 100 + k + 1 + 0 ≤ 601024 by omega), (show 2000 + 6 * k + 6 + 0 ≤ 7293034 by omega)⟩) hS (fun q _ h => hFc q h) hFc (fun mz u t9 H locs ht9 hvm hw hB hz1 hk1 hS => ?_)
  obtain ⟨hP1, hK1, hD1⟩ := hB
  rw [ht9] at hP1
  obtain ⟨hP, hD⟩ := bJ1e hP hD hk1 hFc hP1 hD1
  have hP : va_P D vwCl (([(oa, .inl (K 1, 1, .inr (.inl fo1)))] ++ ([(ob, .inl (K 4, 1, .inr (.inr (.inr (.inl fd1)))))] ++ (WX K ad q q1 q2 g r r2 v1 i1))) ++ (WMu K mm u)) H := hP
  have hD : va_D A (([(oa, .inl (K 1, 1, .inr (.inl fo1)))] ++ ([(ob, .inl (K 4, 1, .inr (.inr (.inr (.inl fd1)))))] ++ (WX K ad q q1 q2 g r r2 v1 i1))) ++ (WMu K mm u)) := hD
  obtain ⟨hth, hw0, hw1⟩ := hw
  have hR1 : RM v1 u := by
    by_cases h9 : (rs_setCapacity v.1 (xs (6 * k + 1)) (xs (6 * k + 2))).1 = 0
    · rw [(hh0 h9).2]; exact (hw0 h9).2
    · rw [hh1 h9]; exact hw1 h9
  have hzz : (rs_setCapacity v.1 (xs (6 * k + 1)) (xs (6 * k + 2))).1 = 0 → mz.toInt = (rs_setCapacity v.1 (xs (6 * k + 1)) (xs (6 * k + 2))).2 := fun h9 => (hw0 h9).1
  refine lv_istore (lv' := [(7, .int mz), (6, .int (nI ((rs_setCapacity v.1 (xs (6 * k + 1)) (xs (6 * k + 2))).1))), (5, .int (nI (6 * k))), (0, .ref b), (1, .ref (ad 0)), (2, .ref (mm 0)), (3, .ref oa), (4, .ref ob)]) hx hb dL_law_431 hl (by decide) rfl (fun ls hl => ?_)
  refine lv_aload_n hx hb dL_law_433 rfl (lv_at hl 5 rfl) ?_
  have hPc := bP1e hP
  have hDc := bD1e hD
  refine va_calli (va_runV (As := []) (rest := []) ⟨hx, hb, hml, hown, hts⟩ (c_X7_thrown l D K mm u.1 u.2.1 u.2.2.1 u.2.2.2.1 u.2.2.2.2.1 u.2.2.2.2.2.1 u.2.2.2.2.2.2.1 u.2.2.2.2.2.2.2.1 u.2.2.2.2.2.2.2.2.1 u.2.2.2.2.2.2.2.2.2.1 u.2.2.2.2.2.2.2.2.2.2.1 u.2.2.2.2.2.2.2.2.2.2.2.1 u.2.2.2.2.2.2.2.2.2.2.2.2.1 u.2.2.2.2.2.2.2.2.2.2.2.2.2.1 u.2.2.2.2.2.2.2.2.2.2.2.2.2.2.1 u.2.2.2.2.2.2.2.2.2.2.2.2.2.2.2.1 u.2.2.2.2.2.2.2.2.2.2.2.2.2.2.2.2 H.size) (cwV 0 hts (TB_V k_m_L_105 k_im_X7_thrown k_se_X7_thrown k_in_X7 k_co_X7_thrown (fun _ h => h)) rfl rfl rfl (by decide +kernel) ⟨Nat.le_of_ble_eq_true rfl, Nat.le_of_ble_eq_true rfl⟩) ⟨cP_blind, va_recv hK4 hPc (ci := 7) (q0 := 0) rfl rfl, cP_of hPc hK4 hDc⟩ rfl rfl hl.1 rfl (lv_room (Nat.le_of_ble_eq_true rfl)) dL_law_434 ⟨(show 100 + k + 1 + 0 + 0 ≤ 601024 by omega), (show 2000 + 6 * k + 6 + 0 + 0 ≤ 7293034 by omega)⟩) hS (fun q _ h => absurd h id) (fun q h => absurd h id) (fun tz u9 t9 H locs ht9 hvm hw hB hz1 hk1 hS => ?_)
  have hP := P_same hP hk1
  have hth2 : tz = nI (rs_setCapacity v.1 (xs (6 * k + 1)) (xs (6 * k + 2))).1 := hw.trans hth
  refine t_i hth2 ?_
  refine lv_iload hx hb dL_law_437 (lv_at hl 1 rfl) ?_
  refine b_icmp_eq hx hb (nI_toIntI (by omega)) (nI_toIntI (by omega)) dL_law_439 (tgt := 444) (by decide) (fun c439 => ?_) (fun c439 => absurd c439 (fun q9 => q9 rfl))
  refine lv_iload hx hb dL_law_444 (lv_at hl 1 rfl) ?_
  refine b_if_ne hx hb (nI_toIntI (by omega)) dL_law_446 (tgt := 461) (by decide) (fun c446 => ?_) (fun c446 => ?_)
  · refine lv_goto (tgt := 1641) hx hb dL_law_461 (by decide) ?_
    exact N v1 i1 u fo1 fd1 _ _ _ hI1 hJ1 hR1 hP hD hS (lv_sub hl [2, 3, 4, 5, 6, 7] rfl)
  have h9 : (rs_setCapacity v.1 (xs (6 * k + 1)) (xs (6 * k + 2))).1 = 0 := by omega
  refine lv_aload_n hx hb dL_law_449 rfl (lv_at hl 6 rfl) ?_
  refine lv_iconst (v := nI 0) hx hb dL_law_450 (by decide) ?_
  refine n_lald hx hb hK hP 0 1 rfl rfl (i := 0) (n := 1) (by decide) (by decide) dL_law_451 ?_
  refine lv_iload hx hb dL_law_452 (lv_at hl 0 rfl) ?_
  refine lv_i2l (v := mz.toInt64) hx hb dL_law_454 rfl ?_
  refine b_lcmp_eq hx hb rfl rfl dL_law_455 dL_law_456 (tgt := 461) (by decide) (fun c455 => ?_) (fun c455 => absurd c455 (fun q9 => q9 (by rw [(hh0 h9).1]; exact ((Int32.toInt_toInt64 mz).trans (hzz h9)).symm)))
  refine lv_goto (tgt := 1641) hx hb dL_law_461 (by decide) ?_
  exact N v1 i1 u fo1 fd1 _ _ _ hI1 hJ1 hR1 hP hD hS (lv_sub hl [2, 3, 4, 5, 6, 7] rfl)
set_option maxHeartbeats 4000000 in
set_option maxRecDepth 100000 in
theorem law_case_4 {p : Program} {l : Launch} {e : Env} {s : State} {m : MethodId} {below : List Frame} {meth : Method} {c : Code} {b L : Nat} {xs : Nat → Int32} {D : va_G} {K : Nat → ClassId} {A : Nat → Prop} (hlf : l.stackTraces = false) (hx : p.tables.exec = Jvm.exec) (hb : c.code = cL_law) (hml : c.maxLocals = 9) (hown : s.vm.findClass RL = some m.cls) (hts : ∀ w ∈ TB, w.before #[Value.ref b] s = true) (hX : va_X b L xs s s.heap) (hbl : b < s.heap.size) (hbA : ¬ A b) (hA : ∀ q, s.heap.size ≤ q → A q) (hK : va_K D vwCl (TY5 K) s) (hTX : TX A s.heap s) (hCL : CL s) (hL : L ≤ 3072) {ad q q1 q2 g r r2 mm : Nat → Nat} {oa ob k : Nat} {v : CV} {i : CI} {w0 : MS} {fo : Nat → Int64} {fd : Nat → UInt64} {H : Heap} {locs : List Loc} {ls : Array Slot} (hk : 6 * k + 6 ≤ L) (hI : IV v) (hJ : II v.1 i) (hR : RM v w0) (hP : va_P D vwCl (([(oa, .inl (K 1, 1, .inr (.inl fo)))] ++ ([(ob, .inl (K 4, 1, .inr (.inr (.inr (.inl fd)))))] ++ (WX K ad q q1 q2 g r r2 v i))) ++ (WMu K mm w0)) H) (hD : va_D A (([(oa, .inl (K 1, 1, .inr (.inl fo)))] ++ ([(ob, .inl (K 4, 1, .inr (.inr (.inr (.inl fd)))))] ++ (WX K ad q q1 q2 g r r2 v i))) ++ (WMu K mm w0))) (hS : va_S A s.heap H locs) (hl : lv_has ls 9 [(5, .int (nI (6 * k))), (0, .ref b), (1, .ref (ad 0)), (2, .ref (mm 0)), (3, .ref oa), (4, .ref ob)]) (N : LNX p l e s m below meth c b D K A ad q q1 q2 g r r2 mm oa ob k) : W p l e room_1 s m #[Value.ref b] below meth c H locs (100 + k) (2000 + 6 * k) (lw_Z below #[Value.ref b] s) (F0 m 464 ls []) := by
  have hK4 := hK.sub (tys' := TY K) [0, 1, 2, 3] rfl
  refine lv_aload_n hx hb dL_law_464 rfl (lv_at hl 2 rfl) ?_
  refine lv_aload_n hx hb dL_law_465 rfl (lv_at hl 1 rfl) ?_
  refine lv_iload hx hb dL_law_466 (lv_at hl 0 rfl) ?_
  refine lv_iconst (v := nI 1) hx hb dL_law_468 (by decide) ?_
  refine lv_iadd hx hb dL_law_469 ?_
  refine t_i (nI_add _ _) ?_
  refine n_sld hx hb hX hbl hbA hS (i := 6 * k + 1) (by omega) (by omega) dL_law_470 ?_
  refine lv_aload_n hx hb dL_law_471 rfl (lv_at hl 4 rfl) ?_
  have hPc := bP0 hP
  have hDc := bD0 hD
  have hFc := bF0 hD hS hA
  refine va_calli (vx_runSW (As := [.ref (ad 0), .int (xs (6 * k + 1)), .ref oa]) (rest := []) ⟨hx, hb, hml, hown, hts⟩ (c_L_count l hlf D K oa ob fo fd ad q q1 q2 g r r2 v i (xs (6 * k + 1)) H.size hI hJ) (vx_cwSW 3 hts (TB_SW k_m_L_119 k_st_L_count k_in_L k_co_L_count (fun _ h => h)) rfl rfl rfl (by decide +kernel) ⟨Nat.le_of_ble_eq_true rfl, Nat.le_of_ble_eq_true rfl⟩) ⟨cPL_blind, cPL_of hPc hK hDc hTX hCL hS hFc⟩ rfl rfl hl.1 rfl (lv_room (Nat.le_of_ble_eq_true rfl)) dL_law_472 ⟨(show 100 + k + 1 ≤ 601024 by omega), (show 2000 + 6 * k + 6 ≤ 7293034 by omega)⟩) hS (fun q _ h => hFc q h) hFc (fun kz u9 t9 H locs ht9 hvm hw hB hz1 hk1 hS => ?_)
  obtain ⟨v1, i1, fo1, fd1⟩ := u9
  obtain ⟨hP1, hK1, hD1⟩ := hB
  rw [ht9] at hP1
  obtain ⟨hP, hD⟩ := bJ0 hP hD hk1 hFc hP1 hD1
  have hP : va_P D vwCl (([(oa, .inl (K 1, 1, .inr (.inl fo1)))] ++ ([(ob, .inl (K 4, 1, .inr (.inr (.inr (.inl fd1)))))] ++ (WX K ad q q1 q2 g r r2 v1 i1))) ++ (WMu K mm w0)) H := hP
  have hD : va_D A (([(oa, .inl (K 1, 1, .inr (.inl fo1)))] ++ ([(ob, .inl (K 4, 1, .inr (.inr (.inr (.inl fd1)))))] ++ (WX K ad q q1 q2 g r r2 v1 i1))) ++ (WMu K mm w0)) := hD
  obtain ⟨hkz, hr3, hI1, hJ1, hh0, hh1⟩ := hw
  dsimp only at hI1 hJ1 hh0 hh1
  refine t_i (show kz = nI (rs_count v.1 (xs (6 * k + 1))).1 from hkz) ?_
  refine lv_istore (lv' := [(6, .int (nI ((rs_count v.1 (xs (6 * k + 1))).1))), (5, .int (nI (6 * k))), (0, .ref b), (1, .ref (ad 0)), (2, .ref (mm 0)), (3, .ref oa), (4, .ref ob)]) hx hb dL_law_475 hl (by decide) rfl (fun ls hl => ?_)
  refine lv_aload_n hx hb dL_law_477 rfl (lv_at hl 4 rfl) ?_
  refine lv_aload_n hx hb dL_law_478 rfl (lv_at hl 2 rfl) ?_
  refine lv_iload hx hb dL_law_479 (lv_at hl 1 rfl) ?_
  refine lv_iconst (v := nI 1) hx hb dL_law_481 (by decide) ?_
  refine lv_iadd hx hb dL_law_482 ?_
  refine t_i (nI_add _ _) ?_
  refine n_sld hx hb hX hbl hbA hS (i := 6 * k + 1) (by omega) (by omega) dL_law_483 ?_
  have hPc := bP1e hP
  have hDc := bD1e hD
  have hFc := bF1e hD hS hA
  refine va_calli (va_runV (As := [.int (xs (6 * k + 1))]) (rest := []) ⟨hx, hb, hml, hown, hts⟩ (c_X7_count l D K mm v w0 (xs (6 * k + 1)) H.size hI hR) (cwV 1 hts (TB_V k_m_L_121 k_im_X7_count k_se_X7_count k_in_X7 k_co_X7_count (fun _ h => h)) rfl rfl rfl (by decide +kernel) ⟨Nat.le_of_ble_eq_true rfl, Nat.le_of_ble_eq_true rfl⟩) ⟨cP_blind, va_recv hK4 hPc (ci := 7) (q0 := 0) rfl rfl, cP_of hPc hK4 hDc⟩ rfl rfl hl.1 rfl (lv_room (Nat.le_of_ble_eq_true rfl)) dL_law_484 ⟨(show 100 + k + 1 + 0 ≤ 601024 by omega), (show 2000 + 6 * k + 6 + 0 ≤ 7293034 by omega)⟩) hS (fun q _ h => hFc q h) hFc (fun mz u t9 H locs ht9 hvm hw hB hz1 hk1 hS => ?_)
  obtain ⟨hP1, hK1, hD1⟩ := hB
  rw [ht9] at hP1
  obtain ⟨hP, hD⟩ := bJ1e hP hD hk1 hFc hP1 hD1
  have hP : va_P D vwCl (([(oa, .inl (K 1, 1, .inr (.inl fo1)))] ++ ([(ob, .inl (K 4, 1, .inr (.inr (.inr (.inl fd1)))))] ++ (WX K ad q q1 q2 g r r2 v1 i1))) ++ (WMu K mm u)) H := hP
  have hD : va_D A (([(oa, .inl (K 1, 1, .inr (.inl fo1)))] ++ ([(ob, .inl (K 4, 1, .inr (.inr (.inr (.inl fd1)))))] ++ (WX K ad q q1 q2 g r r2 v1 i1))) ++ (WMu K mm u)) := hD
  obtain ⟨hRu, hth, hzz⟩ := hw
  have hR1 : RM v1 u := by
    by_cases h9 : (rs_count v.1 (xs (6 * k + 1))).1 = 0
    · rw [(hh0 h9).2]; exact hRu
    · rw [hh1 h9]; exact hRu
  refine lv_istore (lv' := [(7, .int mz), (6, .int (nI ((rs_count v.1 (xs (6 * k + 1))).1))), (5, .int (nI (6 * k))), (0, .ref b), (1, .ref (ad 0)), (2, .ref (mm 0)), (3, .ref oa), (4, .ref ob)]) hx hb dL_law_487 hl (by decide) rfl (fun ls hl => ?_)
  refine lv_aload_n hx hb dL_law_489 rfl (lv_at hl 5 rfl) ?_
  have hPc := bP1e hP
  have hDc := bD1e hD
  refine va_calli (va_runV (As := []) (rest := []) ⟨hx, hb, hml, hown, hts⟩ (c_X7_thrown l D K mm u.1 u.2.1 u.2.2.1 u.2.2.2.1 u.2.2.2.2.1 u.2.2.2.2.2.1 u.2.2.2.2.2.2.1 u.2.2.2.2.2.2.2.1 u.2.2.2.2.2.2.2.2.1 u.2.2.2.2.2.2.2.2.2.1 u.2.2.2.2.2.2.2.2.2.2.1 u.2.2.2.2.2.2.2.2.2.2.2.1 u.2.2.2.2.2.2.2.2.2.2.2.2.1 u.2.2.2.2.2.2.2.2.2.2.2.2.2.1 u.2.2.2.2.2.2.2.2.2.2.2.2.2.2.1 u.2.2.2.2.2.2.2.2.2.2.2.2.2.2.2.1 u.2.2.2.2.2.2.2.2.2.2.2.2.2.2.2.2 H.size) (cwV 0 hts (TB_V k_m_L_105 k_im_X7_thrown k_se_X7_thrown k_in_X7 k_co_X7_thrown (fun _ h => h)) rfl rfl rfl (by decide +kernel) ⟨Nat.le_of_ble_eq_true rfl, Nat.le_of_ble_eq_true rfl⟩) ⟨cP_blind, va_recv hK4 hPc (ci := 7) (q0 := 0) rfl rfl, cP_of hPc hK4 hDc⟩ rfl rfl hl.1 rfl (lv_room (Nat.le_of_ble_eq_true rfl)) dL_law_490 ⟨(show 100 + k + 1 + 0 + 0 ≤ 601024 by omega), (show 2000 + 6 * k + 6 + 0 + 0 ≤ 7293034 by omega)⟩) hS (fun q _ h => absurd h id) (fun q h => absurd h id) (fun tz u9 t9 H locs ht9 hvm hw hB hz1 hk1 hS => ?_)
  have hP := P_same hP hk1
  have hth2 : tz = nI (rs_count v.1 (xs (6 * k + 1))).1 := hw.trans hth
  refine t_i hth2 ?_
  refine lv_iload hx hb dL_law_493 (lv_at hl 1 rfl) ?_
  refine b_icmp_eq hx hb (nI_toIntI (by omega)) (nI_toIntI (by omega)) dL_law_495 (tgt := 500) (by decide) (fun c495 => ?_) (fun c495 => absurd c495 (fun q9 => q9 rfl))
  refine lv_iload hx hb dL_law_500 (lv_at hl 1 rfl) ?_
  refine b_if_ne hx hb (nI_toIntI (by omega)) dL_law_502 (tgt := 517) (by decide) (fun c502 => ?_) (fun c502 => ?_)
  · refine lv_goto (tgt := 1641) hx hb dL_law_517 (by decide) ?_
    exact N v1 i1 u fo1 fd1 _ _ _ hI1 hJ1 hR1 hP hD hS (lv_sub hl [2, 3, 4, 5, 6, 7] rfl)
  have h9 : (rs_count v.1 (xs (6 * k + 1))).1 = 0 := by omega
  refine lv_aload_n hx hb dL_law_505 rfl (lv_at hl 6 rfl) ?_
  refine lv_iconst (v := nI 0) hx hb dL_law_506 (by decide) ?_
  refine n_lald hx hb hK hP 0 1 rfl rfl (i := 0) (n := 1) (by decide) (by decide) dL_law_507 ?_
  refine lv_iload hx hb dL_law_508 (lv_at hl 0 rfl) ?_
  refine lv_i2l (v := mz.toInt64) hx hb dL_law_510 rfl ?_
  refine b_lcmp_eq hx hb rfl rfl dL_law_511 dL_law_512 (tgt := 517) (by decide) (fun c511 => ?_) (fun c511 => absurd c511 (fun q9 => q9 (by rw [(hh0 h9).1]; exact ((Int32.toInt_toInt64 mz).trans (hzz h9)).symm)))
  refine lv_goto (tgt := 1641) hx hb dL_law_517 (by decide) ?_
  exact N v1 i1 u fo1 fd1 _ _ _ hI1 hJ1 hR1 hP hD hS (lv_sub hl [2, 3, 4, 5, 6, 7] rfl)
set_option maxHeartbeats 4000000 in
set_option maxRecDepth 100000 in
theorem law_case_5 {p : Program} {l : Launch} {e : Env} {s : State} {m : MethodId} {below : List Frame} {meth : Method} {c : Code} {b L : Nat} {xs : Nat → Int32} {D : va_G} {K : Nat → ClassId} {A : Nat → Prop} (hlf : l.stackTraces = false) (hx : p.tables.exec = Jvm.exec) (hb : c.code = cL_law) (hml : c.maxLocals = 9) (hown : s.vm.findClass RL = some m.cls) (hts : ∀ w ∈ TB, w.before #[Value.ref b] s = true) (hX : va_X b L xs s s.heap) (hbl : b < s.heap.size) (hbA : ¬ A b) (hA : ∀ q, s.heap.size ≤ q → A q) (hK : va_K D vwCl (TY5 K) s) (hTX : TX A s.heap s) (hCL : CL s) (hL : L ≤ 3072) {ad q q1 q2 g r r2 mm : Nat → Nat} {oa ob k : Nat} {v : CV} {i : CI} {w0 : MS} {fo : Nat → Int64} {fd : Nat → UInt64} {H : Heap} {locs : List Loc} {ls : Array Slot} (hk : 6 * k + 6 ≤ L) (hI : IV v) (hJ : II v.1 i) (hR : RM v w0) (hP : va_P D vwCl (([(oa, .inl (K 1, 1, .inr (.inl fo)))] ++ ([(ob, .inl (K 4, 1, .inr (.inr (.inr (.inl fd)))))] ++ (WX K ad q q1 q2 g r r2 v i))) ++ (WMu K mm w0)) H) (hD : va_D A (([(oa, .inl (K 1, 1, .inr (.inl fo)))] ++ ([(ob, .inl (K 4, 1, .inr (.inr (.inr (.inl fd)))))] ++ (WX K ad q q1 q2 g r r2 v i))) ++ (WMu K mm w0))) (hS : va_S A s.heap H locs) (hl : lv_has ls 9 [(5, .int (nI (6 * k))), (0, .ref b), (1, .ref (ad 0)), (2, .ref (mm 0)), (3, .ref oa), (4, .ref ob)]) (N : LNX p l e s m below meth c b D K A ad q q1 q2 g r r2 mm oa ob k) : W p l e room_1 s m #[Value.ref b] below meth c H locs (100 + k) (2000 + 6 * k) (lw_Z below #[Value.ref b] s) (F0 m 520 ls []) := by
  have hK4 := hK.sub (tys' := TY K) [0, 1, 2, 3] rfl
  have h01 := (eng01 v.1 (xs (6 * k + 1))).1
  refine lv_aload_n hx hb dL_law_520 rfl (lv_at hl 2 rfl) ?_
  refine lv_aload_n hx hb dL_law_521 rfl (lv_at hl 1 rfl) ?_
  refine lv_iload hx hb dL_law_522 (lv_at hl 0 rfl) ?_
  refine lv_iconst (v := nI 1) hx hb dL_law_524 (by decide) ?_
  refine lv_iadd hx hb dL_law_525 ?_
  refine t_i (nI_add _ _) ?_
  refine n_sld hx hb hX hbl hbA hS (i := 6 * k + 1) (by omega) (by omega) dL_law_526 ?_
  refine lv_aload_n hx hb dL_law_527 rfl (lv_at hl 4 rfl) ?_
  have hPc := bP0 hP
  have hDc := bD0 hD
  have hFc := bF0 hD hS hA
  refine va_calli (vx_runSW (As := [.ref (ad 0), .int (xs (6 * k + 1)), .ref oa]) (rest := []) ⟨hx, hb, hml, hown, hts⟩ (c_L_engage l hlf D K oa ob fo fd ad q q1 q2 g r r2 v i (xs (6 * k + 1)) H.size hI hJ) (vx_cwSW 3 hts (TB_SW k_m_L_122 k_st_L_engage k_in_L k_co_L_engage (fun _ h => h)) rfl rfl rfl (by decide +kernel) ⟨Nat.le_of_ble_eq_true rfl, Nat.le_of_ble_eq_true rfl⟩) ⟨cPL_blind, cPL_of hPc hK hDc hTX hCL hS hFc⟩ rfl rfl hl.1 rfl (lv_room (Nat.le_of_ble_eq_true rfl)) dL_law_528 ⟨(show 100 + k + 1 ≤ 601024 by omega), (show 2000 + 6 * k + 6 ≤ 7293034 by omega)⟩) hS (fun q _ h => hFc q h) hFc (fun kz u9 t9 H locs ht9 hvm hw hB hz1 hk1 hS => ?_)
  obtain ⟨v1, i1, fo1, fd1⟩ := u9
  obtain ⟨hP1, hK1, hD1⟩ := hB
  rw [ht9] at hP1
  obtain ⟨hP, hD⟩ := bJ0 hP hD hk1 hFc hP1 hD1
  have hP : va_P D vwCl (([(oa, .inl (K 1, 1, .inr (.inl fo1)))] ++ ([(ob, .inl (K 4, 1, .inr (.inr (.inr (.inl fd1)))))] ++ (WX K ad q q1 q2 g r r2 v1 i1))) ++ (WMu K mm w0)) H := hP
  have hD : va_D A (([(oa, .inl (K 1, 1, .inr (.inl fo1)))] ++ ([(ob, .inl (K 4, 1, .inr (.inr (.inr (.inl fd1)))))] ++ (WX K ad q q1 q2 g r r2 v1 i1))) ++ (WMu K mm w0)) := hD
  obtain ⟨hkz, hr3, hI1, hJ1, hh0, hh1⟩ := hw
  dsimp only at hI1 hJ1 hh0 hh1
  refine t_i (show kz = nI (rs_engage v.1 (xs (6 * k + 1))).1 from hkz) ?_
  refine lv_istore (lv' := [(6, .int (nI ((rs_engage v.1 (xs (6 * k + 1))).1))), (5, .int (nI (6 * k))), (0, .ref b), (1, .ref (ad 0)), (2, .ref (mm 0)), (3, .ref oa), (4, .ref ob)]) hx hb dL_law_531 hl (by decide) rfl (fun ls hl => ?_)
  refine lv_aload_n hx hb dL_law_533 rfl (lv_at hl 4 rfl) ?_
  refine lv_aload_n hx hb dL_law_534 rfl (lv_at hl 2 rfl) ?_
  refine lv_iload hx hb dL_law_535 (lv_at hl 1 rfl) ?_
  refine lv_iconst (v := nI 1) hx hb dL_law_537 (by decide) ?_
  refine lv_iadd hx hb dL_law_538 ?_
  refine t_i (nI_add _ _) ?_
  refine n_sld hx hb hX hbl hbA hS (i := 6 * k + 1) (by omega) (by omega) dL_law_539 ?_
  have hPc := bP1e hP
  have hDc := bD1e hD
  have hFc := bF1e hD hS hA
  refine va_calli (va_runV (As := [.int (xs (6 * k + 1))]) (rest := []) ⟨hx, hb, hml, hown, hts⟩ (c_X7_engage l D K mm v w0 (xs (6 * k + 1)) H.size hI hR) (cwV 1 hts (TB_V k_m_L_124 k_im_X7_engage k_se_X7_engage k_in_X7 k_co_X7_engage (fun _ h => h)) rfl rfl rfl (by decide +kernel) ⟨Nat.le_of_ble_eq_true rfl, Nat.le_of_ble_eq_true rfl⟩) ⟨cP_blind, va_recv hK4 hPc (ci := 7) (q0 := 0) rfl rfl, cP_of hPc hK4 hDc⟩ rfl rfl hl.1 rfl (lv_room (Nat.le_of_ble_eq_true rfl)) dL_law_540 ⟨(show 100 + k + 1 + 0 ≤ 601024 by omega), (show 2000 + 6 * k + 6 + 0 ≤ 7293034 by omega)⟩) hS (fun q _ h => hFc q h) hFc (fun mz u t9 H locs ht9 hvm hw hB hz1 hk1 hS => ?_)
  obtain ⟨hP1, hK1, hD1⟩ := hB
  rw [ht9] at hP1
  obtain ⟨hP, hD⟩ := bJ1e hP hD hk1 hFc hP1 hD1
  have hP : va_P D vwCl (([(oa, .inl (K 1, 1, .inr (.inl fo1)))] ++ ([(ob, .inl (K 4, 1, .inr (.inr (.inr (.inl fd1)))))] ++ (WX K ad q q1 q2 g r r2 v1 i1))) ++ (WMu K mm u)) H := hP
  have hD : va_D A (([(oa, .inl (K 1, 1, .inr (.inl fo1)))] ++ ([(ob, .inl (K 4, 1, .inr (.inr (.inr (.inl fd1)))))] ++ (WX K ad q q1 q2 g r r2 v1 i1))) ++ (WMu K mm u)) := hD
  obtain ⟨hth, hw0, hw1⟩ := hw
  have hR1 : RM v1 u := by
    by_cases h9 : (rs_engage v.1 (xs (6 * k + 1))).1 = 0
    · obtain ⟨z1, hc⟩ := (hh0 h9).2
      exact (hw0 h9).2 z1 v1 hc
    · rw [hh1 h9]; exact hw1 h9
  have hzz : (rs_engage v.1 (xs (6 * k + 1))).1 = 0 → mz.toInt = (rs_engage v.1 (xs (6 * k + 1))).2 := fun h9 => (hw0 h9).1
  refine lv_istore (lv' := [(7, .int mz), (6, .int (nI ((rs_engage v.1 (xs (6 * k + 1))).1))), (5, .int (nI (6 * k))), (0, .ref b), (1, .ref (ad 0)), (2, .ref (mm 0)), (3, .ref oa), (4, .ref ob)]) hx hb dL_law_543 hl (by decide) rfl (fun ls hl => ?_)
  refine lv_aload_n hx hb dL_law_545 rfl (lv_at hl 5 rfl) ?_
  have hPc := bP1e hP
  have hDc := bD1e hD
  refine va_calli (va_runV (As := []) (rest := []) ⟨hx, hb, hml, hown, hts⟩ (c_X7_thrown l D K mm u.1 u.2.1 u.2.2.1 u.2.2.2.1 u.2.2.2.2.1 u.2.2.2.2.2.1 u.2.2.2.2.2.2.1 u.2.2.2.2.2.2.2.1 u.2.2.2.2.2.2.2.2.1 u.2.2.2.2.2.2.2.2.2.1 u.2.2.2.2.2.2.2.2.2.2.1 u.2.2.2.2.2.2.2.2.2.2.2.1 u.2.2.2.2.2.2.2.2.2.2.2.2.1 u.2.2.2.2.2.2.2.2.2.2.2.2.2.1 u.2.2.2.2.2.2.2.2.2.2.2.2.2.2.1 u.2.2.2.2.2.2.2.2.2.2.2.2.2.2.2.1 u.2.2.2.2.2.2.2.2.2.2.2.2.2.2.2.2 H.size) (cwV 0 hts (TB_V k_m_L_105 k_im_X7_thrown k_se_X7_thrown k_in_X7 k_co_X7_thrown (fun _ h => h)) rfl rfl rfl (by decide +kernel) ⟨Nat.le_of_ble_eq_true rfl, Nat.le_of_ble_eq_true rfl⟩) ⟨cP_blind, va_recv hK4 hPc (ci := 7) (q0 := 0) rfl rfl, cP_of hPc hK4 hDc⟩ rfl rfl hl.1 rfl (lv_room (Nat.le_of_ble_eq_true rfl)) dL_law_546 ⟨(show 100 + k + 1 + 0 + 0 ≤ 601024 by omega), (show 2000 + 6 * k + 6 + 0 + 0 ≤ 7293034 by omega)⟩) hS (fun q _ h => absurd h id) (fun q h => absurd h id) (fun tz u9 t9 H locs ht9 hvm hw hB hz1 hk1 hS => ?_)
  have hP := P_same hP hk1
  have hth2 : tz = nI (rs_engage v.1 (xs (6 * k + 1))).1 := hw.trans hth
  refine t_i hth2 ?_
  refine lv_iload hx hb dL_law_549 (lv_at hl 1 rfl) ?_
  refine b_icmp_eq hx hb (nI_toIntI (by omega)) (nI_toIntI (by omega)) dL_law_551 (tgt := 556) (by decide) (fun c551 => ?_) (fun c551 => absurd c551 (fun q9 => q9 rfl))
  refine lv_iload hx hb dL_law_556 (lv_at hl 1 rfl) ?_
  refine b_if_ne hx hb (nI_toIntI (by omega)) dL_law_558 (tgt := 580) (by decide) (fun c558 => ?_) (fun c558 => ?_)
  · refine lv_goto (tgt := 1641) hx hb dL_law_580 (by decide) ?_
    exact N v1 i1 u fo1 fd1 _ _ _ hI1 hJ1 hR1 hP hD hS (lv_sub hl [2, 3, 4, 5, 6, 7] rfl)
  have h9 : (rs_engage v.1 (xs (6 * k + 1))).1 = 0 := by omega
  refine lv_aload_n hx hb dL_law_561 rfl (lv_at hl 6 rfl) ?_
  refine lv_iconst (v := nI 0) hx hb dL_law_562 (by decide) ?_
  refine n_lald hx hb hK hP 0 1 rfl rfl (i := 0) (n := 1) (by decide) (by decide) dL_law_563 ?_
  refine lv_iload hx hb dL_law_564 (lv_at hl 0 rfl) ?_
  refine b_if_eq hx hb rfl dL_law_566 (tgt := 573) (by decide) (fun c566 => ?_) (fun c566 => ?_)
  · refine lv_lconst (v := 0) hx hb dL_law_573 (by decide) ?_
    refine b_lcmp_eq hx hb rfl (show (0 : Int64).toInt = 0 by decide) dL_law_574 dL_law_575 (tgt := 580) (by decide) (fun c574 => ?_) (fun c574 => absurd c574 (fun q9 => q9 (by rw [(hh0 h9).1]; have hz9 := hzz h9; omega)))
    refine lv_goto (tgt := 1641) hx hb dL_law_580 (by decide) ?_
    exact N v1 i1 u fo1 fd1 _ _ _ hI1 hJ1 hR1 hP hD hS (lv_sub hl [2, 3, 4, 5, 6, 7] rfl)
  refine lv_lconst (v := 1) hx hb dL_law_569 (by decide) ?_
  refine lv_goto (tgt := 574) hx hb dL_law_570 (by decide) ?_
  refine b_lcmp_eq hx hb rfl (show (1 : Int64).toInt = 1 by decide) dL_law_574 dL_law_575 (tgt := 580) (by decide) (fun c574 => ?_) (fun c574 => absurd c574 (fun q9 => q9 (by rw [(hh0 h9).1]; have hz9 := hzz h9; omega)))
  refine lv_goto (tgt := 1641) hx hb dL_law_580 (by decide) ?_
  exact N v1 i1 u fo1 fd1 _ _ _ hI1 hJ1 hR1 hP hD hS (lv_sub hl [2, 3, 4, 5, 6, 7] rfl)
set_option maxHeartbeats 4000000 in
set_option maxRecDepth 100000 in
theorem law_case_6 {p : Program} {l : Launch} {e : Env} {s : State} {m : MethodId} {below : List Frame} {meth : Method} {c : Code} {b L : Nat} {xs : Nat → Int32} {D : va_G} {K : Nat → ClassId} {A : Nat → Prop} (hlf : l.stackTraces = false) (hx : p.tables.exec = Jvm.exec) (hb : c.code = cL_law) (hml : c.maxLocals = 9) (hown : s.vm.findClass RL = some m.cls) (hts : ∀ w ∈ TB, w.before #[Value.ref b] s = true) (hX : va_X b L xs s s.heap) (hbl : b < s.heap.size) (hbA : ¬ A b) (hA : ∀ q, s.heap.size ≤ q → A q) (hK : va_K D vwCl (TY5 K) s) (hTX : TX A s.heap s) (hCL : CL s) (hL : L ≤ 3072) {ad q q1 q2 g r r2 mm : Nat → Nat} {oa ob k : Nat} {v : CV} {i : CI} {w0 : MS} {fo : Nat → Int64} {fd : Nat → UInt64} {H : Heap} {locs : List Loc} {ls : Array Slot} (hk : 6 * k + 6 ≤ L) (hI : IV v) (hJ : II v.1 i) (hR : RM v w0) (hP : va_P D vwCl (([(oa, .inl (K 1, 1, .inr (.inl fo)))] ++ ([(ob, .inl (K 4, 1, .inr (.inr (.inr (.inl fd)))))] ++ (WX K ad q q1 q2 g r r2 v i))) ++ (WMu K mm w0)) H) (hD : va_D A (([(oa, .inl (K 1, 1, .inr (.inl fo)))] ++ ([(ob, .inl (K 4, 1, .inr (.inr (.inr (.inl fd)))))] ++ (WX K ad q q1 q2 g r r2 v i))) ++ (WMu K mm w0))) (hS : va_S A s.heap H locs) (hl : lv_has ls 9 [(5, .int (nI (6 * k))), (0, .ref b), (1, .ref (ad 0)), (2, .ref (mm 0)), (3, .ref oa), (4, .ref ob)]) (N : LNX p l e s m below meth c b D K A ad q q1 q2 g r r2 mm oa ob k) : W p l e room_1 s m #[Value.ref b] below meth c H locs (100 + k) (2000 + 6 * k) (lw_Z below #[Value.ref b] s) (F0 m 583 ls []) := by
  have hK4 := hK.sub (tys' := TY K) [0, 1, 2, 3] rfl
  have h01 := (eng01 v.1 (xs (6 * k + 1))).2
  refine lv_aload_n hx hb dL_law_583 rfl (lv_at hl 2 rfl) ?_
  refine lv_aload_n hx hb dL_law_584 rfl (lv_at hl 1 rfl) ?_
  refine lv_iload hx hb dL_law_585 (lv_at hl 0 rfl) ?_
  refine lv_iconst (v := nI 1) hx hb dL_law_587 (by decide) ?_
  refine lv_iadd hx hb dL_law_588 ?_
  refine t_i (nI_add _ _) ?_
  refine n_sld hx hb hX hbl hbA hS (i := 6 * k + 1) (by omega) (by omega) dL_law_589 ?_
  refine lv_aload_n hx hb dL_law_590 rfl (lv_at hl 4 rfl) ?_
  have hPc := bP0 hP
  have hDc := bD0 hD
  have hFc := bF0 hD hS hA
  refine va_calli (vx_runSW (As := [.ref (ad 0), .int (xs (6 * k + 1)), .ref oa]) (rest := []) ⟨hx, hb, hml, hown, hts⟩ (c_L_release l hlf D K oa ob fo fd ad q q1 q2 g r r2 v i (xs (6 * k + 1)) H.size hI hJ) (vx_cwSW 3 hts (TB_SW k_m_L_125 k_st_L_release k_in_L k_co_L_release (fun _ h => h)) rfl rfl rfl (by decide +kernel) ⟨Nat.le_of_ble_eq_true rfl, Nat.le_of_ble_eq_true rfl⟩) ⟨cPL_blind, cPL_of hPc hK hDc hTX hCL hS hFc⟩ rfl rfl hl.1 rfl (lv_room (Nat.le_of_ble_eq_true rfl)) dL_law_591 ⟨(show 100 + k + 1 ≤ 601024 by omega), (show 2000 + 6 * k + 6 ≤ 7293034 by omega)⟩) hS (fun q _ h => hFc q h) hFc (fun kz u9 t9 H locs ht9 hvm hw hB hz1 hk1 hS => ?_)
  obtain ⟨v1, i1, fo1, fd1⟩ := u9
  obtain ⟨hP1, hK1, hD1⟩ := hB
  rw [ht9] at hP1
  obtain ⟨hP, hD⟩ := bJ0 hP hD hk1 hFc hP1 hD1
  have hP : va_P D vwCl (([(oa, .inl (K 1, 1, .inr (.inl fo1)))] ++ ([(ob, .inl (K 4, 1, .inr (.inr (.inr (.inl fd1)))))] ++ (WX K ad q q1 q2 g r r2 v1 i1))) ++ (WMu K mm w0)) H := hP
  have hD : va_D A (([(oa, .inl (K 1, 1, .inr (.inl fo1)))] ++ ([(ob, .inl (K 4, 1, .inr (.inr (.inr (.inl fd1)))))] ++ (WX K ad q q1 q2 g r r2 v1 i1))) ++ (WMu K mm w0)) := hD
  obtain ⟨hkz, hr3, hI1, hJ1, hh0, hh1⟩ := hw
  dsimp only at hI1 hJ1 hh0 hh1
  refine t_i (show kz = nI (rs_release v.1 (xs (6 * k + 1))).1 from hkz) ?_
  refine lv_istore (lv' := [(6, .int (nI ((rs_release v.1 (xs (6 * k + 1))).1))), (5, .int (nI (6 * k))), (0, .ref b), (1, .ref (ad 0)), (2, .ref (mm 0)), (3, .ref oa), (4, .ref ob)]) hx hb dL_law_594 hl (by decide) rfl (fun ls hl => ?_)
  refine lv_aload_n hx hb dL_law_596 rfl (lv_at hl 4 rfl) ?_
  refine lv_aload_n hx hb dL_law_597 rfl (lv_at hl 2 rfl) ?_
  refine lv_iload hx hb dL_law_598 (lv_at hl 1 rfl) ?_
  refine lv_iconst (v := nI 1) hx hb dL_law_600 (by decide) ?_
  refine lv_iadd hx hb dL_law_601 ?_
  refine t_i (nI_add _ _) ?_
  refine n_sld hx hb hX hbl hbA hS (i := 6 * k + 1) (by omega) (by omega) dL_law_602 ?_
  have hPc := bP1e hP
  have hDc := bD1e hD
  have hFc := bF1e hD hS hA
  refine va_calli (va_runV (As := [.int (xs (6 * k + 1))]) (rest := []) ⟨hx, hb, hml, hown, hts⟩ (c_X7_release l D K mm v w0 (xs (6 * k + 1)) H.size hI hR) (cwV 1 hts (TB_V k_m_L_127 k_im_X7_release k_se_X7_release k_in_X7 k_co_X7_release (fun _ h => h)) rfl rfl rfl (by decide +kernel) ⟨Nat.le_of_ble_eq_true rfl, Nat.le_of_ble_eq_true rfl⟩) ⟨cP_blind, va_recv hK4 hPc (ci := 7) (q0 := 0) rfl rfl, cP_of hPc hK4 hDc⟩ rfl rfl hl.1 rfl (lv_room (Nat.le_of_ble_eq_true rfl)) dL_law_603 ⟨(show 100 + k + 1 + 0 ≤ 601024 by omega), (show 2000 + 6 * k + 6 + 0 ≤ 7293034 by omega)⟩) hS (fun q _ h => hFc q h) hFc (fun mz u t9 H locs ht9 hvm hw hB hz1 hk1 hS => ?_)
  obtain ⟨hP1, hK1, hD1⟩ := hB
  rw [ht9] at hP1
  obtain ⟨hP, hD⟩ := bJ1e hP hD hk1 hFc hP1 hD1
  have hP : va_P D vwCl (([(oa, .inl (K 1, 1, .inr (.inl fo1)))] ++ ([(ob, .inl (K 4, 1, .inr (.inr (.inr (.inl fd1)))))] ++ (WX K ad q q1 q2 g r r2 v1 i1))) ++ (WMu K mm u)) H := hP
  have hD : va_D A (([(oa, .inl (K 1, 1, .inr (.inl fo1)))] ++ ([(ob, .inl (K 4, 1, .inr (.inr (.inr (.inl fd1)))))] ++ (WX K ad q q1 q2 g r r2 v1 i1))) ++ (WMu K mm u)) := hD
  obtain ⟨hth, hw0, hw1⟩ := hw
  have hR1 : RM v1 u := by
    by_cases h9 : (rs_release v.1 (xs (6 * k + 1))).1 = 0
    · obtain ⟨z1, hc⟩ := (hh0 h9).2
      exact (hw0 h9).2 z1 v1 hc
    · rw [hh1 h9]; exact hw1 h9
  have hzz : (rs_release v.1 (xs (6 * k + 1))).1 = 0 → mz.toInt = (rs_release v.1 (xs (6 * k + 1))).2 := fun h9 => (hw0 h9).1
  refine lv_istore (lv' := [(7, .int mz), (6, .int (nI ((rs_release v.1 (xs (6 * k + 1))).1))), (5, .int (nI (6 * k))), (0, .ref b), (1, .ref (ad 0)), (2, .ref (mm 0)), (3, .ref oa), (4, .ref ob)]) hx hb dL_law_606 hl (by decide) rfl (fun ls hl => ?_)
  refine lv_aload_n hx hb dL_law_608 rfl (lv_at hl 5 rfl) ?_
  have hPc := bP1e hP
  have hDc := bD1e hD
  refine va_calli (va_runV (As := []) (rest := []) ⟨hx, hb, hml, hown, hts⟩ (c_X7_thrown l D K mm u.1 u.2.1 u.2.2.1 u.2.2.2.1 u.2.2.2.2.1 u.2.2.2.2.2.1 u.2.2.2.2.2.2.1 u.2.2.2.2.2.2.2.1 u.2.2.2.2.2.2.2.2.1 u.2.2.2.2.2.2.2.2.2.1 u.2.2.2.2.2.2.2.2.2.2.1 u.2.2.2.2.2.2.2.2.2.2.2.1 u.2.2.2.2.2.2.2.2.2.2.2.2.1 u.2.2.2.2.2.2.2.2.2.2.2.2.2.1 u.2.2.2.2.2.2.2.2.2.2.2.2.2.2.1 u.2.2.2.2.2.2.2.2.2.2.2.2.2.2.2.1 u.2.2.2.2.2.2.2.2.2.2.2.2.2.2.2.2 H.size) (cwV 0 hts (TB_V k_m_L_105 k_im_X7_thrown k_se_X7_thrown k_in_X7 k_co_X7_thrown (fun _ h => h)) rfl rfl rfl (by decide +kernel) ⟨Nat.le_of_ble_eq_true rfl, Nat.le_of_ble_eq_true rfl⟩) ⟨cP_blind, va_recv hK4 hPc (ci := 7) (q0 := 0) rfl rfl, cP_of hPc hK4 hDc⟩ rfl rfl hl.1 rfl (lv_room (Nat.le_of_ble_eq_true rfl)) dL_law_609 ⟨(show 100 + k + 1 + 0 + 0 ≤ 601024 by omega), (show 2000 + 6 * k + 6 + 0 + 0 ≤ 7293034 by omega)⟩) hS (fun q _ h => absurd h id) (fun q h => absurd h id) (fun tz u9 t9 H locs ht9 hvm hw hB hz1 hk1 hS => ?_)
  have hP := P_same hP hk1
  have hth2 : tz = nI (rs_release v.1 (xs (6 * k + 1))).1 := hw.trans hth
  refine t_i hth2 ?_
  refine lv_iload hx hb dL_law_612 (lv_at hl 1 rfl) ?_
  refine b_icmp_eq hx hb (nI_toIntI (by omega)) (nI_toIntI (by omega)) dL_law_614 (tgt := 619) (by decide) (fun c614 => ?_) (fun c614 => absurd c614 (fun q9 => q9 rfl))
  refine lv_iload hx hb dL_law_619 (lv_at hl 1 rfl) ?_
  refine b_if_ne hx hb (nI_toIntI (by omega)) dL_law_621 (tgt := 643) (by decide) (fun c621 => ?_) (fun c621 => ?_)
  · refine lv_goto (tgt := 1641) hx hb dL_law_643 (by decide) ?_
    exact N v1 i1 u fo1 fd1 _ _ _ hI1 hJ1 hR1 hP hD hS (lv_sub hl [2, 3, 4, 5, 6, 7] rfl)
  have h9 : (rs_release v.1 (xs (6 * k + 1))).1 = 0 := by omega
  refine lv_aload_n hx hb dL_law_624 rfl (lv_at hl 6 rfl) ?_
  refine lv_iconst (v := nI 0) hx hb dL_law_625 (by decide) ?_
  refine n_lald hx hb hK hP 0 1 rfl rfl (i := 0) (n := 1) (by decide) (by decide) dL_law_626 ?_
  refine lv_iload hx hb dL_law_627 (lv_at hl 0 rfl) ?_
  refine b_if_eq hx hb rfl dL_law_629 (tgt := 636) (by decide) (fun c629 => ?_) (fun c629 => ?_)
  · refine lv_lconst (v := 0) hx hb dL_law_636 (by decide) ?_
    refine b_lcmp_eq hx hb rfl (show (0 : Int64).toInt = 0 by decide) dL_law_637 dL_law_638 (tgt := 643) (by decide) (fun c637 => ?_) (fun c637 => absurd c637 (fun q9 => q9 (by rw [(hh0 h9).1]; have hz9 := hzz h9; omega)))
    refine lv_goto (tgt := 1641) hx hb dL_law_643 (by decide) ?_
    exact N v1 i1 u fo1 fd1 _ _ _ hI1 hJ1 hR1 hP hD hS (lv_sub hl [2, 3, 4, 5, 6, 7] rfl)
  refine lv_lconst (v := 1) hx hb dL_law_632 (by decide) ?_
  refine lv_goto (tgt := 637) hx hb dL_law_633 (by decide) ?_
  refine b_lcmp_eq hx hb rfl (show (1 : Int64).toInt = 1 by decide) dL_law_637 dL_law_638 (tgt := 643) (by decide) (fun c637 => ?_) (fun c637 => absurd c637 (fun q9 => q9 (by rw [(hh0 h9).1]; have hz9 := hzz h9; omega)))
  refine lv_goto (tgt := 1641) hx hb dL_law_643 (by decide) ?_
  exact N v1 i1 u fo1 fd1 _ _ _ hI1 hJ1 hR1 hP hD hS (lv_sub hl [2, 3, 4, 5, 6, 7] rfl)
set_option maxHeartbeats 4000000 in
set_option maxRecDepth 100000 in
theorem law_case_7 {p : Program} {l : Launch} {e : Env} {s : State} {m : MethodId} {below : List Frame} {meth : Method} {c : Code} {b L : Nat} {xs : Nat → Int32} {D : va_G} {K : Nat → ClassId} {A : Nat → Prop} (hlf : l.stackTraces = false) (hx : p.tables.exec = Jvm.exec) (hb : c.code = cL_law) (hml : c.maxLocals = 9) (hown : s.vm.findClass RL = some m.cls) (hts : ∀ w ∈ TB, w.before #[Value.ref b] s = true) (hX : va_X b L xs s s.heap) (hbl : b < s.heap.size) (hbA : ¬ A b) (hA : ∀ q, s.heap.size ≤ q → A q) (hK : va_K D vwCl (TY5 K) s) (hTX : TX A s.heap s) (hCL : CL s) (hL : L ≤ 3072) {ad q q1 q2 g r r2 mm : Nat → Nat} {oa ob k : Nat} {v : CV} {i : CI} {w0 : MS} {fo : Nat → Int64} {fd : Nat → UInt64} {H : Heap} {locs : List Loc} {ls : Array Slot} (hk : 6 * k + 6 ≤ L) (hI : IV v) (hJ : II v.1 i) (hR : RM v w0) (hP : va_P D vwCl (([(oa, .inl (K 1, 1, .inr (.inl fo)))] ++ ([(ob, .inl (K 4, 1, .inr (.inr (.inr (.inl fd)))))] ++ (WX K ad q q1 q2 g r r2 v i))) ++ (WMu K mm w0)) H) (hD : va_D A (([(oa, .inl (K 1, 1, .inr (.inl fo)))] ++ ([(ob, .inl (K 4, 1, .inr (.inr (.inr (.inl fd)))))] ++ (WX K ad q q1 q2 g r r2 v i))) ++ (WMu K mm w0))) (hS : va_S A s.heap H locs) (hl : lv_has ls 9 [(5, .int (nI (6 * k))), (0, .ref b), (1, .ref (ad 0)), (2, .ref (mm 0)), (3, .ref oa), (4, .ref ob)]) (N : LNX p l e s m below meth c b D K A ad q q1 q2 g r r2 mm oa ob k) : W p l e room_1 s m #[Value.ref b] below meth c H locs (100 + k) (2000 + 6 * k) (lw_Z below #[Value.ref b] s) (F0 m 646 ls []) := by
  have hK4 := hK.sub (tys' := TY K) [0, 1, 2, 3] rfl
  refine lv_aload_n hx hb dL_law_646 rfl (lv_at hl 2 rfl) ?_
  refine lv_aload_n hx hb dL_law_647 rfl (lv_at hl 1 rfl) ?_
  refine lv_iload hx hb dL_law_648 (lv_at hl 0 rfl) ?_
  refine lv_iconst (v := nI 1) hx hb dL_law_650 (by decide) ?_
  refine lv_iadd hx hb dL_law_651 ?_
  refine t_i (nI_add _ _) ?_
  refine n_sld hx hb hX hbl hbA hS (i := 6 * k + 1) (by omega) (by omega) dL_law_652 ?_
  refine lv_aload_n hx hb dL_law_653 rfl (lv_at hl 4 rfl) ?_
  have hPc := bP0 hP
  have hDc := bD0 hD
  have hFc := bF0 hD hS hA
  refine va_calli (vx_runSW (As := [.ref (ad 0), .int (xs (6 * k + 1)), .ref oa]) (rest := []) ⟨hx, hb, hml, hown, hts⟩ (c_L_select l hlf D K oa ob fo fd ad q q1 q2 g r r2 v i (xs (6 * k + 1)) H.size hI hJ) (vx_cwSW 3 hts (TB_SW k_m_L_128 k_st_L_select k_in_L k_co_L_select (fun _ h => h)) rfl rfl rfl (by decide +kernel) ⟨Nat.le_of_ble_eq_true rfl, Nat.le_of_ble_eq_true rfl⟩) ⟨cPL_blind, cPL_of hPc hK hDc hTX hCL hS hFc⟩ rfl rfl hl.1 rfl (lv_room (Nat.le_of_ble_eq_true rfl)) dL_law_654 ⟨(show 100 + k + 1 ≤ 601024 by omega), (show 2000 + 6 * k + 6 ≤ 7293034 by omega)⟩) hS (fun q _ h => hFc q h) hFc (fun kz u9 t9 H locs ht9 hvm hw hB hz1 hk1 hS => ?_)
  obtain ⟨v1, i1, fo1, fd1⟩ := u9
  obtain ⟨hP1, hK1, hD1⟩ := hB
  rw [ht9] at hP1
  obtain ⟨hP, hD⟩ := bJ0 hP hD hk1 hFc hP1 hD1
  have hP : va_P D vwCl (([(oa, .inl (K 1, 1, .inr (.inl fo1)))] ++ ([(ob, .inl (K 4, 1, .inr (.inr (.inr (.inl fd1)))))] ++ (WX K ad q q1 q2 g r r2 v1 i1))) ++ (WMu K mm w0)) H := hP
  have hD : va_D A (([(oa, .inl (K 1, 1, .inr (.inl fo1)))] ++ ([(ob, .inl (K 4, 1, .inr (.inr (.inr (.inl fd1)))))] ++ (WX K ad q q1 q2 g r r2 v1 i1))) ++ (WMu K mm w0)) := hD
  obtain ⟨hkz, hr3, hI1, hJ1, hh0, hh1⟩ := hw
  dsimp only at hI1 hJ1 hh0 hh1
  refine t_i (show kz = nI (rs_select v.1 (xs (6 * k + 1))).1 from hkz) ?_
  refine lv_istore (lv' := [(6, .int (nI ((rs_select v.1 (xs (6 * k + 1))).1))), (5, .int (nI (6 * k))), (0, .ref b), (1, .ref (ad 0)), (2, .ref (mm 0)), (3, .ref oa), (4, .ref ob)]) hx hb dL_law_657 hl (by decide) rfl (fun ls hl => ?_)
  refine lv_aload_n hx hb dL_law_659 rfl (lv_at hl 4 rfl) ?_
  refine lv_aload_n hx hb dL_law_660 rfl (lv_at hl 2 rfl) ?_
  refine lv_iload hx hb dL_law_661 (lv_at hl 1 rfl) ?_
  refine lv_iconst (v := nI 1) hx hb dL_law_663 (by decide) ?_
  refine lv_iadd hx hb dL_law_664 ?_
  refine t_i (nI_add _ _) ?_
  refine n_sld hx hb hX hbl hbA hS (i := 6 * k + 1) (by omega) (by omega) dL_law_665 ?_
  have hPc := bP1e hP
  have hDc := bD1e hD
  have hFc := bF1e hD hS hA
  refine va_calli (va_runV (As := [.int (xs (6 * k + 1))]) (rest := []) ⟨hx, hb, hml, hown, hts⟩ (c_X7_select l D K mm v w0 (xs (6 * k + 1)) H.size hI hR) (cwV 1 hts (TB_V k_m_L_130 k_im_X7_select k_se_X7_select k_in_X7 k_co_X7_select (fun _ h => h)) rfl rfl rfl (by decide +kernel) ⟨Nat.le_of_ble_eq_true rfl, Nat.le_of_ble_eq_true rfl⟩) ⟨cP_blind, va_recv hK4 hPc (ci := 7) (q0 := 0) rfl rfl, cP_of hPc hK4 hDc⟩ rfl rfl hl.1 rfl (lv_room (Nat.le_of_ble_eq_true rfl)) dL_law_666 ⟨(show 100 + k + 1 + 0 ≤ 601024 by omega), (show 2000 + 6 * k + 6 + 0 ≤ 7293034 by omega)⟩) hS (fun q _ h => hFc q h) hFc (fun mz u t9 H locs ht9 hvm hw hB hz1 hk1 hS => ?_)
  obtain ⟨hP1, hK1, hD1⟩ := hB
  rw [ht9] at hP1
  obtain ⟨hP, hD⟩ := bJ1e hP hD hk1 hFc hP1 hD1
  have hP : va_P D vwCl (([(oa, .inl (K 1, 1, .inr (.inl fo1)))] ++ ([(ob, .inl (K 4, 1, .inr (.inr (.inr (.inl fd1)))))] ++ (WX K ad q q1 q2 g r r2 v1 i1))) ++ (WMu K mm u)) H := hP
  have hD : va_D A (([(oa, .inl (K 1, 1, .inr (.inl fo1)))] ++ ([(ob, .inl (K 4, 1, .inr (.inr (.inr (.inl fd1)))))] ++ (WX K ad q q1 q2 g r r2 v1 i1))) ++ (WMu K mm u)) := hD
  obtain ⟨hth, hw0, hw1⟩ := hw
  have hR1 : RM v1 u := by
    by_cases h9 : (rs_select v.1 (xs (6 * k + 1))).1 = 0
    · obtain ⟨z1, hc⟩ := (hh0 h9).2
      exact (hw0 h9).2 z1 v1 hc
    · rw [hh1 h9]; exact hw1 h9
  have hzz : (rs_select v.1 (xs (6 * k + 1))).1 = 0 → mz.toInt = (rs_select v.1 (xs (6 * k + 1))).2 := fun h9 => (hw0 h9).1
  refine lv_istore (lv' := [(7, .int mz), (6, .int (nI ((rs_select v.1 (xs (6 * k + 1))).1))), (5, .int (nI (6 * k))), (0, .ref b), (1, .ref (ad 0)), (2, .ref (mm 0)), (3, .ref oa), (4, .ref ob)]) hx hb dL_law_669 hl (by decide) rfl (fun ls hl => ?_)
  refine lv_aload_n hx hb dL_law_671 rfl (lv_at hl 5 rfl) ?_
  have hPc := bP1e hP
  have hDc := bD1e hD
  refine va_calli (va_runV (As := []) (rest := []) ⟨hx, hb, hml, hown, hts⟩ (c_X7_thrown l D K mm u.1 u.2.1 u.2.2.1 u.2.2.2.1 u.2.2.2.2.1 u.2.2.2.2.2.1 u.2.2.2.2.2.2.1 u.2.2.2.2.2.2.2.1 u.2.2.2.2.2.2.2.2.1 u.2.2.2.2.2.2.2.2.2.1 u.2.2.2.2.2.2.2.2.2.2.1 u.2.2.2.2.2.2.2.2.2.2.2.1 u.2.2.2.2.2.2.2.2.2.2.2.2.1 u.2.2.2.2.2.2.2.2.2.2.2.2.2.1 u.2.2.2.2.2.2.2.2.2.2.2.2.2.2.1 u.2.2.2.2.2.2.2.2.2.2.2.2.2.2.2.1 u.2.2.2.2.2.2.2.2.2.2.2.2.2.2.2.2 H.size) (cwV 0 hts (TB_V k_m_L_105 k_im_X7_thrown k_se_X7_thrown k_in_X7 k_co_X7_thrown (fun _ h => h)) rfl rfl rfl (by decide +kernel) ⟨Nat.le_of_ble_eq_true rfl, Nat.le_of_ble_eq_true rfl⟩) ⟨cP_blind, va_recv hK4 hPc (ci := 7) (q0 := 0) rfl rfl, cP_of hPc hK4 hDc⟩ rfl rfl hl.1 rfl (lv_room (Nat.le_of_ble_eq_true rfl)) dL_law_672 ⟨(show 100 + k + 1 + 0 + 0 ≤ 601024 by omega), (show 2000 + 6 * k + 6 + 0 + 0 ≤ 7293034 by omega)⟩) hS (fun q _ h => absurd h id) (fun q h => absurd h id) (fun tz u9 t9 H locs ht9 hvm hw hB hz1 hk1 hS => ?_)
  have hP := P_same hP hk1
  have hth2 : tz = nI (rs_select v.1 (xs (6 * k + 1))).1 := hw.trans hth
  refine t_i hth2 ?_
  refine lv_iload hx hb dL_law_675 (lv_at hl 1 rfl) ?_
  refine b_icmp_eq hx hb (nI_toIntI (by omega)) (nI_toIntI (by omega)) dL_law_677 (tgt := 682) (by decide) (fun c677 => ?_) (fun c677 => absurd c677 (fun q9 => q9 rfl))
  refine lv_iload hx hb dL_law_682 (lv_at hl 1 rfl) ?_
  refine b_if_ne hx hb (nI_toIntI (by omega)) dL_law_684 (tgt := 699) (by decide) (fun c684 => ?_) (fun c684 => ?_)
  · refine lv_goto (tgt := 1641) hx hb dL_law_699 (by decide) ?_
    exact N v1 i1 u fo1 fd1 _ _ _ hI1 hJ1 hR1 hP hD hS (lv_sub hl [2, 3, 4, 5, 6, 7] rfl)
  have h9 : (rs_select v.1 (xs (6 * k + 1))).1 = 0 := by omega
  refine lv_aload_n hx hb dL_law_687 rfl (lv_at hl 6 rfl) ?_
  refine lv_iconst (v := nI 0) hx hb dL_law_688 (by decide) ?_
  refine n_lald hx hb hK hP 0 1 rfl rfl (i := 0) (n := 1) (by decide) (by decide) dL_law_689 ?_
  refine lv_iload hx hb dL_law_690 (lv_at hl 0 rfl) ?_
  refine lv_i2l (v := mz.toInt64) hx hb dL_law_692 rfl ?_
  refine b_lcmp_eq hx hb rfl rfl dL_law_693 dL_law_694 (tgt := 699) (by decide) (fun c693 => ?_) (fun c693 => absurd c693 (fun q9 => q9 (by rw [(hh0 h9).1]; exact ((Int32.toInt_toInt64 mz).trans (hzz h9)).symm)))
  refine lv_goto (tgt := 1641) hx hb dL_law_699 (by decide) ?_
  exact N v1 i1 u fo1 fd1 _ _ _ hI1 hJ1 hR1 hP hD hS (lv_sub hl [2, 3, 4, 5, 6, 7] rfl)
