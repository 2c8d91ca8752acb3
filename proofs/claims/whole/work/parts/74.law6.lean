/-! the law: cases 20 to 26 -/
set_option maxHeartbeats 4000000 in
set_option maxRecDepth 100000 in
theorem law_case_20 {p : Program} {l : Launch} {e : Env} {s : State} {m : MethodId} {below : List Frame} {meth : Method} {c : Code} {b L : Nat} {xs : Nat → Int32} {D : va_G} {K : Nat → ClassId} {A : Nat → Prop} (hlf : l.stackTraces = false) (hx : p.tables.exec = Jvm.exec) (hb : c.code = cL_law) (hml : c.maxLocals = 9) (hown : s.vm.findClass RL = some m.cls) (hts : ∀ w ∈ TB, w.before #[Value.ref b] s = true) (hX : va_X b L xs s s.heap) (hbl : b < s.heap.size) (hbA : ¬ A b) (hA : ∀ q, s.heap.size ≤ q → A q) (hK : va_K D vwCl (TY5 K) s) (hTX : TX A s.heap s) (hCL : CL s) (hL : L ≤ 3072) {ad q q1 q2 g r r2 mm : Nat → Nat} {oa ob k : Nat} {v : CV} {i : CI} {w0 : MS} {fo : Nat → Int64} {fd : Nat → UInt64} {H : Heap} {locs : List Loc} {ls : Array Slot} (hk : 6 * k + 6 ≤ L) (hI : IV v) (hJ : II v.1 i) (hR : RM v w0) (hP : va_P D vwCl (([(oa, .inl (K 1, 1, .inr (.inl fo)))] ++ ([(ob, .inl (K 4, 1, .inr (.inr (.inr (.inl fd)))))] ++ (WX K ad q q1 q2 g r r2 v i))) ++ (WMu K mm w0)) H) (hD : va_D A (([(oa, .inl (K 1, 1, .inr (.inl fo)))] ++ ([(ob, .inl (K 4, 1, .inr (.inr (.inr (.inl fd)))))] ++ (WX K ad q q1 q2 g r r2 v i))) ++ (WMu K mm w0))) (hS : va_S A s.heap H locs) (hl : lv_has ls 9 [(5, .int (nI (6 * k))), (0, .ref b), (1, .ref (ad 0)), (2, .ref (mm 0)), (3, .ref oa), (4, .ref ob)]) (N : LNX p l e s m below meth c b D K A ad q q1 q2 g r r2 mm oa ob k) : W p l e room_1 s m #[Value.ref b] below meth c H locs (100 + k) (2000 + 6 * k) (lw_Z below #[Value.ref b] s) (F0 m 1220 ls []) := by
  have hK4 := hK.sub (tys' := TY K) [0, 1, 2, 3] rfl
  refine lv_aload_n hx hb dL_law_1220 rfl (lv_at hl 2 rfl) ?_
  refine lv_aload_n hx hb dL_law_1221 rfl (lv_at hl 1 rfl) ?_
  refine lv_iload hx hb dL_law_1222 (lv_at hl 0 rfl) ?_
  refine lv_iconst (v := nI 1) hx hb dL_law_1224 (by decide) ?_
  refine lv_iadd hx hb dL_law_1225 ?_
  refine t_i (nI_add _ _) ?_
  refine n_sld hx hb hX hbl hbA hS (i := 6 * k + 1) (by omega) (by omega) dL_law_1226 ?_
  refine lv_aload_n hx hb dL_law_1227 rfl (lv_at hl 4 rfl) ?_
  have hPc := bP0 hP
  have hDc := bD0 hD
  have hFc := bF0 hD hS hA
  refine va_calli (vx_runSW (As := [.ref (ad 0), .int (xs (6 * k + 1)), .ref oa]) (rest := []) ⟨hx, hb, hml, hown, hts⟩ (c_L_indexOf l hlf D K oa ob fo fd ad q q1 q2 g r r2 v i (xs (6 * k + 1)) H.size hI hJ) (vx_cwSW 3 hts (TB_SW k_m_L_174 k_st_L_indexOf k_in_L k_co_L_indexOf (fun _ h => h)) rfl rfl rfl (by decide +kernel) ⟨Nat.le_of_ble_eq_true rfl, Nat.le_of_ble_eq_true rfl⟩) ⟨cPL_blind, cPL_of hPc hK hDc hTX hCL hS hFc⟩ rfl rfl hl.1 rfl (lv_room (Nat.le_of_ble_eq_true rfl)) dL_law_1228 ⟨(show 100 + k + 1 ≤ 601024 by omega), (show 2000 + 6 * k + 6 ≤ 7293034 by omega)⟩) hS (fun q _ h => hFc q h) hFc (fun kz u9 t9 H locs ht9 hvm hw hB hz1 hk1 hS => ?_)
  obtain ⟨v1, i1, fo1, fd1⟩ := u9
  obtain ⟨hP1, hK1, hD1⟩ := hB
  rw [ht9] at hP1
  obtain ⟨hP, hD⟩ := bJ0 hP hD hk1 hFc hP1 hD1
  have hP : va_P D vwCl (([(oa, .inl (K 1, 1, .inr (.inl fo1)))] ++ ([(ob, .inl (K 4, 1, .inr (.inr (.inr (.inl fd1)))))] ++ (WX K ad q q1 q2 g r r2 v1 i1))) ++ (WMu K mm w0)) H := hP
  have hD : va_D A (([(oa, .inl (K 1, 1, .inr (.inl fo1)))] ++ ([(ob, .inl (K 4, 1, .inr (.inr (.inr (.inl fd1)))))] ++ (WX K ad q q1 q2 g r r2 v1 i1))) ++ (WMu K mm w0)) := hD
  obtain ⟨hkz, hr3, hI1, hJ1, hh0, hh1⟩ := hw
  dsimp only at hI1 hJ1 hh0 hh1
  refine t_i (show kz = nI (rs_indexOf v.1 (xs (6 * k + 1))).1 from hkz) ?_
  refine lv_istore (lv' := [(6, .int (nI ((rs_indexOf v.1 (xs (6 * k + 1))).1))), (5, .int (nI (6 * k))), (0, .ref b), (1, .ref (ad 0)), (2, .ref (mm 0)), (3, .ref oa), (4, .ref ob)]) hx hb dL_law_1231 hl (by decide) rfl (fun ls hl => ?_)
  refine lv_aload_n hx hb dL_law_1233 rfl (lv_at hl 4 rfl) ?_
  refine lv_aload_n hx hb dL_law_1234 rfl (lv_at hl 2 rfl) ?_
  refine lv_iload hx hb dL_law_1235 (lv_at hl 1 rfl) ?_
  refine lv_iconst (v := nI 1) hx hb dL_law_1237 (by decide) ?_
  refine lv_iadd hx hb dL_law_1238 ?_
  refine t_i (nI_add _ _) ?_
  refine n_sld hx hb hX hbl hbA hS (i := 6 * k + 1) (by omega) (by omega) dL_law_1239 ?_
  have hPc := bP1e hP
  have hDc := bD1e hD
  have hFc := bF1e hD hS hA
  refine va_calli (va_runV (As := [.int (xs (6 * k + 1))]) (rest := []) ⟨hx, hb, hml, hown, hts⟩ (c_X7_indexOf l D K mm v w0 (xs (6 * k + 1)) H.size hI hR) (cwV 1 hts (TB_V k_m_L_176 k_im_X7_indexOf k_se_X7_indexOf k_in_X7 k_co_X7_indexOf (fun _ h => h)) rfl rfl rfl (by decide +kernel) ⟨Nat.le_of_ble_eq_true rfl, Nat.le_of_ble_eq_true rfl⟩) ⟨cP_blind, va_recv hK4 hPc (ci := 7) (q0 := 0) rfl rfl, cP_of hPc hK4 hDc⟩ rfl rfl hl.1 rfl (lv_room (Nat.le_of_ble_eq_true rfl)) dL_law_1240 ⟨(show 100 + k + 1 + 0 ≤ 601024 by omega), (show 2000 + 6 * k + 6 + 0 ≤ 7293034 by omega)⟩) hS (fun q _ h => hFc q h) hFc (fun mz u t9 H locs ht9 hvm hw hB hz1 hk1 hS => ?_)
  obtain ⟨hP1, hK1, hD1⟩ := hB
  rw [ht9] at hP1
  obtain ⟨hP, hD⟩ := bJ1e hP hD hk1 hFc hP1 hD1
  have hP : va_P D vwCl (([(oa, .inl (K 1, 1, .inr (.inl fo1)))] ++ ([(ob, .inl (K 4, 1, .inr (.inr (.inr (.inl fd1)))))] ++ (WX K ad q q1 q2 g r r2 v1 i1))) ++ (WMu K mm u)) H := hP
  have hD : va_D A (([(oa, .inl (K 1, 1, .inr (.inl fo1)))] ++ ([(ob, .inl (K 4, 1, .inr (.inr (.inr (.inl fd1)))))] ++ (WX K ad q q1 q2 g r r2 v1 i1))) ++ (WMu K mm u)) := hD
  obtain ⟨hRu, hth, hzz⟩ := hw
  have hR1 : RM v1 u := by
    by_cases h9 : (rs_indexOf v.1 (xs (6 * k + 1))).1 = 0
    · rw [(hh0 h9).2]; exact hRu
    · rw [hh1 h9]; exact hRu
  refine lv_istore (lv' := [(7, .int mz), (6, .int (nI ((rs_indexOf v.1 (xs (6 * k + 1))).1))), (5, .int (nI (6 * k))), (0, .ref b), (1, .ref (ad 0)), (2, .ref (mm 0)), (3, .ref oa), (4, .ref ob)]) hx hb dL_law_1243 hl (by decide) rfl (fun ls hl => ?_)
  refine lv_aload_n hx hb dL_law_1245 rfl (lv_at hl 5 rfl) ?_
  have hPc := bP1e hP
  have hDc := bD1e hD
  refine va_calli (va_runV (As := []) (rest := []) ⟨hx, hb, hml, hown, hts⟩ (c_X7_thrown l D K mm u.1 u.2.1 u.2.2.1 u.2.2.2.1 u.2.2.2.2.1 u.2.2.2.2.2.1 u.2.2.2.2.2.2.1 u.2.2.2.2.2.2.2.1 u.2.2.2.2.2.2.2.2.1 u.2.2.2.2.2.2.2.2.2.1 u.2.2.2.2.2.2.2.2.2.2.1 u.2.2.2.2.2.2.2.2.2.2.2.1 u.2.2.2.2.2.2.2.2.2.2.2.2.1 u.2.2.2.2.2.2.2.2.2.2.2.2.2.1 u.2.2.2.2.2.2.2.2.2.2.2.2.2.2.1 u.2.2.2.2.2.2.2.2.2.2.2.2.2.2.2.1 u.2.2.2.2.2.2.2.2.2.2.2.2.2.2.2.2 H.size) (cwV 0 hts (TB_V k_m_L_105 k_im_X7_thrown k_se_X7_thrown k_in_X7 k_co_X7_thrown (fun _ h => h)) rfl rfl rfl (by decide +kernel) ⟨Nat.le_of_ble_eq_true rfl, Nat.le_of_ble_eq_true rfl⟩) ⟨cP_blind, va_recv hK4 hPc (ci := 7) (q0 := 0) rfl rfl, cP_of hPc hK4 hDc⟩ rfl rfl hl.1 rfl (lv_room (Nat.le_of_ble_eq_true rfl)) dL_law_1246 ⟨(show 100 + k + 1 + 0 + 0 ≤ 601024 by omega), (show 2000 + 6 * k + 6 + 0 + 0 ≤ 7293034 by omega)⟩) hS (fun q _ h => absurd h id) (fun q h => absurd h id) (fun tz u9 t9 H locs ht9 hvm hw hB hz1 hk1 hS => ?_)
  have hP := P_same hP hk1
  have hth2 : tz = nI (rs_indexOf v.1 (xs (6 * k + 1))).1 := hw.trans hth
  refine t_i hth2 ?_
  refine lv_iload hx hb dL_law_1249 (lv_at hl 1 rfl) ?_
  refine b_icmp_eq hx hb (nI_toIntI (by omega)) (nI_toIntI (by omega)) dL_law_1251 (tgt := 1256) (by decide) (fun c1251 => ?_) (fun c1251 => absurd c1251 (fun q9 => q9 rfl))
  refine lv_iload hx hb dL_law_1256 (lv_at hl 1 rfl) ?_
  refine b_if_ne hx hb (nI_toIntI (by omega)) dL_law_1258 (tgt := 1273) (by decide) (fun c1258 => ?_) (fun c1258 => ?_)
  · refine lv_goto (tgt := 1641) hx hb dL_law_1273 (by decide) ?_
    exact N v1 i1 u fo1 fd1 _ _ _ hI1 hJ1 hR1 hP hD hS (lv_sub hl [2, 3, 4, 5, 6, 7] rfl)
  have h9 : (rs_indexOf v.1 (xs (6 * k + 1))).1 = 0 := by omega
  refine lv_aload_n hx hb dL_law_1261 rfl (lv_at hl 6 rfl) ?_
  refine lv_iconst (v := nI 0) hx hb dL_law_1262 (by decide) ?_
  refine n_lald hx hb hK hP 0 1 rfl rfl (i := 0) (n := 1) (by decide) (by decide) dL_law_1263 ?_
  refine lv_iload hx hb dL_law_1264 (lv_at hl 0 rfl) ?_
  refine lv_i2l (v := mz.toInt64) hx hb dL_law_1266 rfl ?_
  refine b_lcmp_eq hx hb rfl rfl dL_law_1267 dL_law_1268 (tgt := 1273) (by decide) (fun c1267 => ?_) (fun c1267 => absurd c1267 (fun q9 => q9 (by rw [(hh0 h9).1]; exact ((Int32.toInt_toInt64 mz).trans (hzz h9)).symm)))
  refine lv_goto (tgt := 1641) hx hb dL_law_1273 (by decide) ?_
  exact N v1 i1 u fo1 fd1 _ _ _ hI1 hJ1 hR1 hP hD hS (lv_sub hl [2, 3, 4, 5, 6, 7] rfl)
set_option maxHeartbeats 4000000 in
set_option maxRecDepth 100000 in
theorem law_case_21 {p : Program} {l : Launch} {e : Env} {s : State} {m : MethodId} {below : List Frame} {meth : Method} {c : Code} {b L : Nat} {xs : Nat → Int32} {D : va_G} {K : Nat → ClassId} {A : Nat → Prop} (hlf : l.stackTraces = false) (hx : p.tables.exec = Jvm.exec) (hb : c.code = cL_law) (hml : c.maxLocals = 9) (hown : s.vm.findClass RL = some m.cls) (hts : ∀ w ∈ TB, w.before #[Value.ref b] s = true) (hX : va_X b L xs s s.heap) (hbl : b < s.heap.size) (hbA : ¬ A b) (hA : ∀ q, s.heap.size ≤ q → A q) (hK : va_K D vwCl (TY5 K) s) (hTX : TX A s.heap s) (hCL : CL s) (hL : L ≤ 3072) {ad q q1 q2 g r r2 mm : Nat → Nat} {oa ob k : Nat} {v : CV} {i : CI} {w0 : MS} {fo : Nat → Int64} {fd : Nat → UInt64} {H : Heap} {locs : List Loc} {ls : Array Slot} (hk : 6 * k + 6 ≤ L) (hI : IV v) (hJ : II v.1 i) (hR : RM v w0) (hP : va_P D vwCl (([(oa, .inl (K 1, 1, .inr (.inl fo)))] ++ ([(ob, .inl (K 4, 1, .inr (.inr (.inr (.inl fd)))))] ++ (WX K ad q q1 q2 g r r2 v i))) ++ (WMu K mm w0)) H) (hD : va_D A (([(oa, .inl (K 1, 1, .inr (.inl fo)))] ++ ([(ob, .inl (K 4, 1, .inr (.inr (.inr (.inl fd)))))] ++ (WX K ad q q1 q2 g r r2 v i))) ++ (WMu K mm w0))) (hS : va_S A s.heap H locs) (hl : lv_has ls 9 [(5, .int (nI (6 * k))), (0, .ref b), (1, .ref (ad 0)), (2, .ref (mm 0)), (3, .ref oa), (4, .ref ob)]) (N : LNX p l e s m below meth c b D K A ad q q1 q2 g r r2 mm oa ob k) : W p l e room_1 s m #[Value.ref b] below meth c H locs (100 + k) (2000 + 6 * k) (lw_Z below #[Value.ref b] s) (F0 m 1276 ls []) := by
  have hK4 := hK.sub (tys' := TY K) [0, 1, 2, 3] rfl
  refine lv_aload_n hx hb dL_law_1276 rfl (lv_at hl 2 rfl) ?_
  refine lv_aload_n hx hb dL_law_1277 rfl (lv_at hl 1 rfl) ?_
  refine lv_iload hx hb dL_law_1278 (lv_at hl 0 rfl) ?_
  refine lv_iconst (v := nI 1) hx hb dL_law_1280 (by decide) ?_
  refine lv_iadd hx hb dL_law_1281 ?_
  refine t_i (nI_add _ _) ?_
  refine n_sld hx hb hX hbl hbA hS (i := 6 * k + 1) (by omega) (by omega) dL_law_1282 ?_
  refine lv_aload_n hx hb dL_law_1283 rfl (lv_at hl 1 rfl) ?_
  refine lv_iload hx hb dL_law_1284 (lv_at hl 0 rfl) ?_
  refine lv_iconst (v := nI 2) hx hb dL_law_1286 (by decide) ?_
  refine lv_iadd hx hb dL_law_1287 ?_
  refine t_i (nI_add _ _) ?_
  refine n_sld hx hb hX hbl hbA hS (i := 6 * k + 2) (by omega) (by omega) dL_law_1288 ?_
  refine lv_aload_n hx hb dL_law_1289 rfl (lv_at hl 4 rfl) ?_
  have hPc := bP0 hP
  have hDc := bD0 hD
  have hFc := bF0 hD hS hA
  refine va_calli (vx_runSW (As := [.ref (ad 0), .int (xs (6 * k + 1)), .int (xs (6 * k + 2)), .ref oa]) (rest := []) ⟨hx, hb, hml, hown, hts⟩ (c_L_gearRatio l hlf D K oa ob fo fd ad q q1 q2 g r r2 v i (xs (6 * k + 1)) (xs (6 * k + 2)) H.size hI hJ) (vx_cwSW 4 hts (TB_SW k_m_L_177 k_st_L_gearRatio k_in_L k_co_L_gearRatio (fun _ h => h)) rfl rfl rfl (by decide +kernel) ⟨Nat.le_of_ble_eq_true rfl, Nat.le_of_ble_eq_true rfl⟩) ⟨cPL_blind, cPL_of hPc hK hDc hTX hCL hS hFc⟩ rfl rfl hl.1 rfl (lv_room (Nat.le_of_ble_eq_true rfl)) dL_law_1290 ⟨(show 100 + k + 1 ≤ 601024 by omega), (show 2000 + 6 * k + 6 ≤ 7293034 by omega)⟩) hS (fun q _ h => hFc q h) hFc (fun kz u9 t9 H locs ht9 hvm hw hB hz1 hk1 hS => ?_)
  obtain ⟨v1, i1, fo1, fd1⟩ := u9
  obtain ⟨hP1, hK1, hD1⟩ := hB
  rw [ht9] at hP1
  obtain ⟨hP, hD⟩ := bJ0 hP hD hk1 hFc hP1 hD1
  have hP : va_P D vwCl (([(oa, .inl (K 1, 1, .inr (.inl fo1)))] ++ ([(ob, .inl (K 4, 1, .inr (.inr (.inr (.inl fd1)))))] ++ (WX K ad q q1 q2 g r r2 v1 i1))) ++ (WMu K mm w0)) H := hP
  have hD : va_D A (([(oa, .inl (K 1, 1, .inr (.inl fo1)))] ++ ([(ob, .inl (K 4, 1, .inr (.inr (.inr (.inl fd1)))))] ++ (WX K ad q q1 q2 g r r2 v1 i1))) ++ (WMu K mm w0)) := hD
  obtain ⟨hkz, hr3, hI1, hJ1, hh0, hh1⟩ := hw
  dsimp only at hI1 hJ1 hh0 hh1
  refine t_i (show kz = nI (rs_gearRatio v.1 (xs (6 * k + 1)) (xs (6 * k + 2))).1 from hkz) ?_
  refine lv_istore (lv' := [(6, .int (nI ((rs_gearRatio v.1 (xs (6 * k + 1)) (xs (6 * k + 2))).1))), (5, .int (nI (6 * k))), (0, .ref b), (1, .ref (ad 0)), (2, .ref (mm 0)), (3, .ref oa), (4, .ref ob)]) hx hb dL_law_1293 hl (by decide) rfl (fun ls hl => ?_)
  refine lv_aload_n hx hb dL_law_1295 rfl (lv_at hl 4 rfl) ?_
  refine lv_aload_n hx hb dL_law_1296 rfl (lv_at hl 2 rfl) ?_
  refine lv_iload hx hb dL_law_1297 (lv_at hl 1 rfl) ?_
  refine lv_iconst (v := nI 1) hx hb dL_law_1299 (by decide) ?_
  refine lv_iadd hx hb dL_law_1300 ?_
  refine t_i (nI_add _ _) ?_
  refine n_sld hx hb hX hbl hbA hS (i := 6 * k + 1) (by omega) (by omega) dL_law_1301 ?_
  refine lv_aload_n hx hb dL_law_1302 rfl (lv_at hl 2 rfl) ?_
  refine lv_iload hx hb dL_law_1303 (lv_at hl 1 rfl) ?_
  refine lv_iconst (v := nI 2) hx hb dL_law_1305 (by decide) ?_
  refine lv_iadd hx hb dL_law_1306 ?_
  refine t_i (nI_add _ _) ?_
  refine n_sld hx hb hX hbl hbA hS (i := 6 * k + 2) (by omega) (by omega) dL_law_1307 ?_
  have hPc := bP1e hP
  have hDc := bD1e hD
  have hFc := bF1e hD hS hA
  refine va_calll (va_runV (As := [.int (xs (6 * k + 1)), .int (xs (6 * k + 2))]) (rest := []) ⟨hx, hb, hml, hown, hts⟩ (c_X7_gearRatio l D K mm v w0 (xs (6 * k + 1)) (xs (6 * k + 2)) H.size hI hR) (cwV 2 hts (TB_V k_m_L_179 k_im_X7_gearRatio k_se_X7_gearRatio k_in_X7 k_co_X7_gearRatio (fun _ h => h)) rfl rfl rfl (by decide +kernel) ⟨Nat.le_of_ble_eq_true rfl, Nat.le_of_ble_eq_true rfl⟩) ⟨cP_blind, va_recv hK4 hPc (ci := 7) (q0 := 0) rfl rfl, cP_of hPc hK4 hDc⟩ rfl rfl hl.1 rfl (lv_room (Nat.le_of_ble_eq_true rfl)) dL_law_1308 ⟨(show 100 + k + 1 + 0 ≤ 601024 by omega), (show 2000 + 6 * k + 6 + 0 ≤ 7293034 by omega)⟩) hS (fun q _ h => hFc q h) hFc (fun mz u t9 H locs ht9 hvm hw hB hz1 hk1 hS => ?_)
  obtain ⟨hP1, hK1, hD1⟩ := hB
  rw [ht9] at hP1
  obtain ⟨hP, hD⟩ := bJ1e hP hD hk1 hFc hP1 hD1
  have hP : va_P D vwCl (([(oa, .inl (K 1, 1, .inr (.inl fo1)))] ++ ([(ob, .inl (K 4, 1, .inr (.inr (.inr (.inl fd1)))))] ++ (WX K ad q q1 q2 g r r2 v1 i1))) ++ (WMu K mm u)) H := hP
  have hD : va_D A (([(oa, .inl (K 1, 1, .inr (.inl fo1)))] ++ ([(ob, .inl (K 4, 1, .inr (.inr (.inr (.inl fd1)))))] ++ (WX K ad q q1 q2 g r r2 v1 i1))) ++ (WMu K mm u)) := hD
  obtain ⟨hRu, hth, hzz⟩ := hw
  have hR1 : RM v1 u := by
    by_cases h9 : (rs_gearRatio v.1 (xs (6 * k + 1)) (xs (6 * k + 2))).1 = 0
    · rw [(hh0 h9).2]; exact hRu
    · rw [hh1 h9]; exact hRu
  refine lv_lstore (lv' := [(7, .long mz), (6, .int (nI ((rs_gearRatio v.1 (xs (6 * k + 1)) (xs (6 * k + 2))).1))), (5, .int (nI (6 * k))), (0, .ref b), (1, .ref (ad 0)), (2, .ref (mm 0)), (3, .ref oa), (4, .ref ob)]) hx hb dL_law_1311 hl (by decide) rfl (fun ls hl => ?_)
  refine lv_aload_n hx hb dL_law_1313 rfl (lv_at hl 5 rfl) ?_
  have hPc := bP1e hP
  have hDc := bD1e hD
  refine va_calli (va_runV (As := []) (rest := []) ⟨hx, hb, hml, hown, hts⟩ (c_X7_thrown l D K mm u.1 u.2.1 u.2.2.1 u.2.2.2.1 u.2.2.2.2.1 u.2.2.2.2.2.1 u.2.2.2.2.2.2.1 u.2.2.2.2.2.2.2.1 u.2.2.2.2.2.2.2.2.1 u.2.2.2.2.2.2.2.2.2.1 u.2.2.2.2.2.2.2.2.2.2.1 u.2.2.2.2.2.2.2.2.2.2.2.1 u.2.2.2.2.2.2.2.2.2.2.2.2.1 u.2.2.2.2.2.2.2.2.2.2.2.2.2.1 u.2.2.2.2.2.2.2.2.2.2.2.2.2.2.1 u.2.2.2.2.2.2.2.2.2.2.2.2.2.2.2.1 u.2.2.2.2.2.2.2.2.2.2.2.2.2.2.2.2 H.size) (cwV 0 hts (TB_V k_m_L_105 k_im_X7_thrown k_se_X7_thrown k_in_X7 k_co_X7_thrown (fun _ h => h)) rfl rfl rfl (by decide +kernel) ⟨Nat.le_of_ble_eq_true rfl, Nat.le_of_ble_eq_true rfl⟩) ⟨cP_blind, va_recv hK4 hPc (ci := 7) (q0 := 0) rfl rfl, cP_of hPc hK4 hDc⟩ rfl rfl hl.1 rfl (lv_room (Nat.le_of_ble_eq_true rfl)) dL_law_1314 ⟨(show 100 + k + 1 + 0 + 0 ≤ 601024 by omega), (show 2000 + 6 * k + 6 + 0 + 0 ≤ 7293034 by omega)⟩) hS (fun q _ h => absurd h id) (fun q h => absurd h id) (fun tz u9 t9 H locs ht9 hvm hw hB hz1 hk1 hS => ?_)
  have hP := P_same hP hk1
  have hth2 : tz = nI (rs_gearRatio v.1 (xs (6 * k + 1)) (xs (6 * k + 2))).1 := hw.trans hth
  refine t_i hth2 ?_
  refine lv_iload hx hb dL_law_1317 (lv_at hl 1 rfl) ?_
  refine b_icmp_eq hx hb (nI_toIntI (by omega)) (nI_toIntI (by omega)) dL_law_1319 (tgt := 1324) (by decide) (fun c1319 => ?_) (fun c1319 => absurd c1319 (fun q9 => q9 rfl))
  refine lv_iload hx hb dL_law_1324 (lv_at hl 1 rfl) ?_
  refine b_if_ne hx hb (nI_toIntI (by omega)) dL_law_1326 (tgt := 1340) (by decide) (fun c1326 => ?_) (fun c1326 => ?_)
  · refine lv_goto (tgt := 1641) hx hb dL_law_1340 (by decide) ?_
    exact N v1 i1 u fo1 fd1 _ _ _ hI1 hJ1 hR1 hP hD hS (lv_sub hl [2, 3, 4, 5, 6, 7] rfl)
  have h9 : (rs_gearRatio v.1 (xs (6 * k + 1)) (xs (6 * k + 2))).1 = 0 := by omega
  refine lv_aload_n hx hb dL_law_1329 rfl (lv_at hl 6 rfl) ?_
  refine lv_iconst (v := nI 0) hx hb dL_law_1330 (by decide) ?_
  refine n_lald hx hb hK hP 0 1 rfl rfl (i := 0) (n := 1) (by decide) (by decide) dL_law_1331 ?_
  refine lv_lload hx hb dL_law_1332 (lv_at hl 0 rfl) ?_
  refine b_lcmp_eq hx hb rfl rfl dL_law_1334 dL_law_1335 (tgt := 1340) (by decide) (fun c1334 => ?_) (fun c1334 => absurd c1334 (fun q9 => q9 (by rw [(hh0 h9).1]; exact (hzz h9).symm)))
  refine lv_goto (tgt := 1641) hx hb dL_law_1340 (by decide) ?_
  exact N v1 i1 u fo1 fd1 _ _ _ hI1 hJ1 hR1 hP hD hS (lv_sub hl [2, 3, 4, 5, 6, 7] rfl)
set_option maxHeartbeats 4000000 in
set_option maxRecDepth 100000 in
theorem law_case_22 {p : Program} {l : Launch} {e : Env} {s : State} {m : MethodId} {below : List Frame} {meth : Method} {c : Code} {b L : Nat} {xs : Nat → Int32} {D : va_G} {K : Nat → ClassId} {A : Nat → Prop} (hlf : l.stackTraces = false) (hx : p.tables.exec = Jvm.exec) (hb : c.code = cL_law) (hml : c.maxLocals = 9) (hown : s.vm.findClass RL = some m.cls) (hts : ∀ w ∈ TB, w.before #[Value.ref b] s = true) (hX : va_X b L xs s s.heap) (hbl : b < s.heap.size) (hbA : ¬ A b) (hA : ∀ q, s.heap.size ≤ q → A q) (hK : va_K D vwCl (TY5 K) s) (hTX : TX A s.heap s) (hCL : CL s) (hL : L ≤ 3072) {ad q q1 q2 g r r2 mm : Nat → Nat} {oa ob k : Nat} {v : CV} {i : CI} {w0 : MS} {fo : Nat → Int64} {fd : Nat → UInt64} {H : Heap} {locs : List Loc} {ls : Array Slot} (hk : 6 * k + 6 ≤ L) (hI : IV v) (hJ : II v.1 i) (hR : RM v w0) (hP : va_P D vwCl (([(oa, .inl (K 1, 1, .inr (.inl fo)))] ++ ([(ob, .inl (K 4, 1, .inr (.inr (.inr (.inl fd)))))] ++ (WX K ad q q1 q2 g r r2 v i))) ++ (WMu K mm w0)) H) (hD : va_D A (([(oa, .inl (K 1, 1, .inr (.inl fo)))] ++ ([(ob, .inl (K 4, 1, .inr (.inr (.inr (.inl fd)))))] ++ (WX K ad q q1 q2 g r r2 v i))) ++ (WMu K mm w0))) (hS : va_S A s.heap H locs) (hl : lv_has ls 9 [(5, .int (nI (6 * k))), (0, .ref b), (1, .ref (ad 0)), (2, .ref (mm 0)), (3, .ref oa), (4, .ref ob)]) (N : LNX p l e s m below meth c b D K A ad q q1 q2 g r r2 mm oa ob k) : W p l e room_1 s m #[Value.ref b] below meth c H locs (100 + k) (2000 + 6 * k) (lw_Z below #[Value.ref b] s) (F0 m 1343 ls []) := by
  have hK4 := hK.sub (tys' := TY K) [0, 1, 2, 3] rfl
  refine lv_aload_n hx hb dL_law_1343 rfl (lv_at hl 2 rfl) ?_
  refine lv_aload_n hx hb dL_law_1344 rfl (lv_at hl 1 rfl) ?_
  refine lv_iload hx hb dL_law_1345 (lv_at hl 0 rfl) ?_
  refine lv_iconst (v := nI 1) hx hb dL_law_1347 (by decide) ?_
  refine lv_iadd hx hb dL_law_1348 ?_
  refine t_i (nI_add _ _) ?_
  refine n_sld hx hb hX hbl hbA hS (i := 6 * k + 1) (by omega) (by omega) dL_law_1349 ?_
  refine lv_aload hx hb dL_law_1350 (lv_at hl 5 rfl) ?_
  have hPc := bP0 hP
  have hDc := bD0 hD
  have hFc := bF0 hD hS hA
  refine va_calli (vx_runSW (As := [.ref (ad 0), .int (xs (6 * k + 1)), .ref ob]) (rest := []) ⟨hx, hb, hml, hown, hts⟩ (c_L_step l hlf D K oa ob fo fd ad q q1 q2 g r r2 v i (xs (6 * k + 1)) H.size hI hJ) (vx_cwSW 3 hts (TB_SW k_m_L_180 k_st_L_step k_in_L k_co_L_step (fun _ h => h)) rfl rfl rfl (by decide +kernel) ⟨Nat.le_of_ble_eq_true rfl, Nat.le_of_ble_eq_true rfl⟩) ⟨cPL_blind, cPL_of hPc hK hDc hTX hCL hS hFc⟩ rfl rfl hl.1 rfl (lv_room (Nat.le_of_ble_eq_true rfl)) dL_law_1352 ⟨(show 100 + k + 1 ≤ 601024 by omega), (show 2000 + 6 * k + 6 ≤ 7293034 by omega)⟩) hS (fun q _ h => hFc q h) hFc (fun kz u9 t9 H locs ht9 hvm hw hB hz1 hk1 hS => ?_)
  obtain ⟨v1, i1, fo1, fd1⟩ := u9
  obtain ⟨hP1, hK1, hD1⟩ := hB
  rw [ht9] at hP1
  obtain ⟨hP, hD⟩ := bJ0 hP hD hk1 hFc hP1 hD1
  have hP : va_P D vwCl (([(oa, .inl (K 1, 1, .inr (.inl fo1)))] ++ ([(ob, .inl (K 4, 1, .inr (.inr (.inr (.inl fd1)))))] ++ (WX K ad q q1 q2 g r r2 v1 i1))) ++ (WMu K mm w0)) H := hP
  have hD : va_D A (([(oa, .inl (K 1, 1, .inr (.inl fo1)))] ++ ([(ob, .inl (K 4, 1, .inr (.inr (.inr (.inl fd1)))))] ++ (WX K ad q q1 q2 g r r2 v1 i1))) ++ (WMu K mm w0)) := hD
  obtain ⟨hkz, hr3, hI1, hJ1, hh0, hh1⟩ := hw
  dsimp only at hI1 hJ1 hh0 hh1
  refine t_i (show kz = nI (rs_step v.1 (xs (6 * k + 1))).1 from hkz) ?_
  refine lv_istore (lv' := [(6, .int (nI ((rs_step v.1 (xs (6 * k + 1))).1))), (5, .int (nI (6 * k))), (0, .ref b), (1, .ref (ad 0)), (2, .ref (mm 0)), (3, .ref oa), (4, .ref ob)]) hx hb dL_law_1355 hl (by decide) rfl (fun ls hl => ?_)
  refine lv_aload_n hx hb dL_law_1357 rfl (lv_at hl 4 rfl) ?_
  refine lv_aload_n hx hb dL_law_1358 rfl (lv_at hl 2 rfl) ?_
  refine lv_iload hx hb dL_law_1359 (lv_at hl 1 rfl) ?_
  refine lv_iconst (v := nI 1) hx hb dL_law_1361 (by decide) ?_
  refine lv_iadd hx hb dL_law_1362 ?_
  refine t_i (nI_add _ _) ?_
  refine n_sld hx hb hX hbl hbA hS (i := 6 * k + 1) (by omega) (by omega) dL_law_1363 ?_
  have hPc := bP1e hP
  have hDc := bD1e hD
  have hFc := bF1e hD hS hA
  refine va_callf (va_runV (As := [.int (xs (6 * k + 1))]) (rest := []) ⟨hx, hb, hml, hown, hts⟩ (c_X7_step l D K mm v w0 (xs (6 * k + 1)) H.size hI hR) (cwV 1 hts (TB_V k_m_L_183 k_im_X7_step k_se_X7_step k_in_X7 k_co_X7_step (fun _ h => h)) rfl rfl rfl (by decide +kernel) ⟨Nat.le_of_ble_eq_true rfl, Nat.le_of_ble_eq_true rfl⟩) ⟨cP_blind, va_recv hK4 hPc (ci := 7) (q0 := 0) rfl rfl, cP_of hPc hK4 hDc⟩ rfl rfl hl.1 rfl (lv_room (Nat.le_of_ble_eq_true rfl)) dL_law_1364 ⟨(show 100 + k + 1 + 0 ≤ 601024 by omega), (show 2000 + 6 * k + 6 + 0 ≤ 7293034 by omega)⟩) hS (fun q _ h => hFc q h) hFc (fun mz u t9 H locs ht9 hvm hw hB hz1 hk1 hS => ?_)
  obtain ⟨hP1, hK1, hD1⟩ := hB
  rw [ht9] at hP1
  obtain ⟨hP, hD⟩ := bJ1e hP hD hk1 hFc hP1 hD1
  have hP : va_P D vwCl (([(oa, .inl (K 1, 1, .inr (.inl fo1)))] ++ ([(ob, .inl (K 4, 1, .inr (.inr (.inr (.inl fd1)))))] ++ (WX K ad q q1 q2 g r r2 v1 i1))) ++ (WMu K mm u)) H := hP
  have hD : va_D A (([(oa, .inl (K 1, 1, .inr (.inl fo1)))] ++ ([(ob, .inl (K 4, 1, .inr (.inr (.inr (.inl fd1)))))] ++ (WX K ad q q1 q2 g r r2 v1 i1))) ++ (WMu K mm u)) := hD
  obtain ⟨hRu, hth, hzz⟩ := hw
  have hR1 : RM v1 u := by
    by_cases h9 : (rs_step v.1 (xs (6 * k + 1))).1 = 0
    · rw [(hh0 h9).2]; exact hRu
    · rw [hh1 h9]; exact hRu
  refine lv_fstore (lv' := [(7, .float mz), (6, .int (nI ((rs_step v.1 (xs (6 * k + 1))).1))), (5, .int (nI (6 * k))), (0, .ref b), (1, .ref (ad 0)), (2, .ref (mm 0)), (3, .ref oa), (4, .ref ob)]) hx hb dL_law_1367 hl (by decide) rfl (fun ls hl => ?_)
  refine lv_aload_n hx hb dL_law_1369 rfl (lv_at hl 5 rfl) ?_
  have hPc := bP1e hP
  have hDc := bD1e hD
  refine va_calli (va_runV (As := []) (rest := []) ⟨hx, hb, hml, hown, hts⟩ (c_X7_thrown l D K mm u.1 u.2.1 u.2.2.1 u.2.2.2.1 u.2.2.2.2.1 u.2.2.2.2.2.1 u.2.2.2.2.2.2.1 u.2.2.2.2.2.2.2.1 u.2.2.2.2.2.2.2.2.1 u.2.2.2.2.2.2.2.2.2.1 u.2.2.2.2.2.2.2.2.2.2.1 u.2.2.2.2.2.2.2.2.2.2.2.1 u.2.2.2.2.2.2.2.2.2.2.2.2.1 u.2.2.2.2.2.2.2.2.2.2.2.2.2.1 u.2.2.2.2.2.2.2.2.2.2.2.2.2.2.1 u.2.2.2.2.2.2.2.2.2.2.2.2.2.2.2.1 u.2.2.2.2.2.2.2.2.2.2.2.2.2.2.2.2 H.size) (cwV 0 hts (TB_V k_m_L_105 k_im_X7_thrown k_se_X7_thrown k_in_X7 k_co_X7_thrown (fun _ h => h)) rfl rfl rfl (by decide +kernel) ⟨Nat.le_of_ble_eq_true rfl, Nat.le_of_ble_eq_true rfl⟩) ⟨cP_blind, va_recv hK4 hPc (ci := 7) (q0 := 0) rfl rfl, cP_of hPc hK4 hDc⟩ rfl rfl hl.1 rfl (lv_room (Nat.le_of_ble_eq_true rfl)) dL_law_1370 ⟨(show 100 + k + 1 + 0 + 0 ≤ 601024 by omega), (show 2000 + 6 * k + 6 + 0 + 0 ≤ 7293034 by omega)⟩) hS (fun q _ h => absurd h id) (fun q h => absurd h id) (fun tz u9 t9 H locs ht9 hvm hw hB hz1 hk1 hS => ?_)
  have hP := P_same hP hk1
  have hth2 : tz = nI (rs_step v.1 (xs (6 * k + 1))).1 := hw.trans hth
  refine t_i hth2 ?_
  refine lv_iload hx hb dL_law_1373 (lv_at hl 1 rfl) ?_
  refine b_icmp_eq hx hb (nI_toIntI (by omega)) (nI_toIntI (by omega)) dL_law_1375 (tgt := 1380) (by decide) (fun c1375 => ?_) (fun c1375 => absurd c1375 (fun q9 => q9 rfl))
  refine lv_iload hx hb dL_law_1380 (lv_at hl 1 rfl) ?_
  refine b_if_ne hx hb (nI_toIntI (by omega)) dL_law_1382 (tgt := 1418) (by decide) (fun c1382 => ?_) (fun c1382 => ?_)
  · refine lv_goto (tgt := 1641) hx hb dL_law_1418 (by decide) ?_
    exact N v1 i1 u fo1 fd1 _ _ _ hI1 hJ1 hR1 hP hD hS (lv_sub hl [2, 3, 4, 5, 6, 7] rfl)
  have h9 : (rs_step v.1 (xs (6 * k + 1))).1 = 0 := by omega
  refine lv_aload hx hb dL_law_1385 (lv_at hl 7 rfl) ?_
  refine lv_iconst (v := nI 0) hx hb dL_law_1387 (by decide) ?_
  refine n_dald hx hb hK hP 1 4 rfl rfl (i := 0) (n := 1) (by decide) (by decide) dL_law_1388 ?_
  refine lv_fload hx hb dL_law_1389 (lv_at hl 0 rfl) ?_
  refine lv_f2d hx hb dL_law_1391 (f2d_n64 (hzz h9).1) ?_
  refine lv_dcmp hx hb dL_law_1392 ?_
  have hfl : Op.cmpValue (FP.dcmp (fd1 0) (FP.f2d mz)) .l = nI 0 := by rw [(hh0 h9).1.2, ← (hzz h9).2, f2d_self (hzz h9).1]; rfl
  refine t_i hfl ?_
  refine b_if_eq hx hb (nI_toIntI (by omega)) dL_law_1393 (tgt := 1418) (by decide) (fun c1393 => ?_) (fun c1393 => absurd c1393 (by omega))
  refine lv_goto (tgt := 1641) hx hb dL_law_1418 (by decide) ?_
  exact N v1 i1 u fo1 fd1 _ _ _ hI1 hJ1 hR1 hP hD hS (lv_sub hl [2, 3, 4, 5, 6, 7] rfl)
set_option maxHeartbeats 4000000 in
set_option maxRecDepth 100000 in
theorem law_case_23 {p : Program} {l : Launch} {e : Env} {s : State} {m : MethodId} {below : List Frame} {meth : Method} {c : Code} {b L : Nat} {xs : Nat → Int32} {D : va_G} {K : Nat → ClassId} {A : Nat → Prop} (hlf : l.stackTraces = false) (hx : p.tables.exec = Jvm.exec) (hb : c.code = cL_law) (hml : c.maxLocals = 9) (hown : s.vm.findClass RL = some m.cls) (hts : ∀ w ∈ TB, w.before #[Value.ref b] s = true) (hX : va_X b L xs s s.heap) (hbl : b < s.heap.size) (hbA : ¬ A b) (hA : ∀ q, s.heap.size ≤ q → A q) (hK : va_K D vwCl (TY5 K) s) (hTX : TX A s.heap s) (hCL : CL s) (hL : L ≤ 3072) {ad q q1 q2 g r r2 mm : Nat → Nat} {oa ob k : Nat} {v : CV} {i : CI} {w0 : MS} {fo : Nat → Int64} {fd : Nat → UInt64} {H : Heap} {locs : List Loc} {ls : Array Slot} (hk : 6 * k + 6 ≤ L) (hI : IV v) (hJ : II v.1 i) (hR : RM v w0) (hP : va_P D vwCl (([(oa, .inl (K 1, 1, .inr (.inl fo)))] ++ ([(ob, .inl (K 4, 1, .inr (.inr (.inr (.inl fd)))))] ++ (WX K ad q q1 q2 g r r2 v i))) ++ (WMu K mm w0)) H) (hD : va_D A (([(oa, .inl (K 1, 1, .inr (.inl fo)))] ++ ([(ob, .inl (K 4, 1, .inr (.inr (.inr (.inl fd)))))] ++ (WX K ad q q1 q2 g r r2 v i))) ++ (WMu K mm w0))) (hS : va_S A s.heap H locs) (hl : lv_has ls 9 [(5, .int (nI (6 * k))), (0, .ref b), (1, .ref (ad 0)), (2, .ref (mm 0)), (3, .ref oa), (4, .ref ob)]) (N : LNX p l e s m below meth c b D K A ad q q1 q2 g r r2 mm oa ob k) : W p l e room_1 s m #[Value.ref b] below meth c H locs (100 + k) (2000 + 6 * k) (lw_Z below #[Value.ref b] s) (F0 m 1421 ls []) := by
  have hK4 := hK.sub (tys' := TY K) [0, 1, 2, 3] rfl
  refine lv_aload_n hx hb dL_law_1421 rfl (lv_at hl 2 rfl) ?_
  refine lv_aload_n hx hb dL_law_1422 rfl (lv_at hl 1 rfl) ?_
  refine lv_iload hx hb dL_law_1423 (lv_at hl 0 rfl) ?_
  refine lv_iconst (v := nI 1) hx hb dL_law_1425 (by decide) ?_
  refine lv_iadd hx hb dL_law_1426 ?_
  refine t_i (nI_add _ _) ?_
  refine n_sld hx hb hX hbl hbA hS (i := 6 * k + 1) (by omega) (by omega) dL_law_1427 ?_
  refine lv_aload_n hx hb dL_law_1428 rfl (lv_at hl 1 rfl) ?_
  refine lv_iload hx hb dL_law_1429 (lv_at hl 0 rfl) ?_
  refine lv_iconst (v := nI 2) hx hb dL_law_1431 (by decide) ?_
  refine lv_iadd hx hb dL_law_1432 ?_
  refine t_i (nI_add _ _) ?_
  refine n_sld hx hb hX hbl hbA hS (i := 6 * k + 2) (by omega) (by omega) dL_law_1433 ?_
  refine lv_aload_n hx hb dL_law_1434 rfl (lv_at hl 4 rfl) ?_
  have hPc := bP0 hP
  have hDc := bD0 hD
  have hFc := bF0 hD hS hA
  refine va_calli (vx_runSW (As := [.ref (ad 0), .int (xs (6 * k + 1)), .int (xs (6 * k + 2)), .ref oa]) (rest := []) ⟨hx, hb, hml, hown, hts⟩ (c_L_fewestShifts l hlf D K oa ob fo fd ad q q1 q2 g r r2 v i (xs (6 * k + 1)) (xs (6 * k + 2)) H.size hI hJ) (vx_cwSW 4 hts (TB_SW k_m_L_184 k_st_L_fewestShifts k_in_L k_co_L_fewestShifts (fun _ h => h)) rfl rfl rfl (by decide +kernel) ⟨Nat.le_of_ble_eq_true rfl, Nat.le_of_ble_eq_true rfl⟩) ⟨cPL_blind, cPL_of hPc hK hDc hTX hCL hS hFc⟩ rfl rfl hl.1 rfl (lv_room (Nat.le_of_ble_eq_true rfl)) dL_law_1435 ⟨(show 100 + k + 1 ≤ 601024 by omega), (show 2000 + 6 * k + 6 ≤ 7293034 by omega)⟩) hS (fun q _ h => hFc q h) hFc (fun kz u9 t9 H locs ht9 hvm hw hB hz1 hk1 hS => ?_)
  obtain ⟨v1, i1, fo1, fd1⟩ := u9
  obtain ⟨hP1, hK1, hD1⟩ := hB
  rw [ht9] at hP1
  obtain ⟨hP, hD⟩ := bJ0 hP hD hk1 hFc hP1 hD1
  have hP : va_P D vwCl (([(oa, .inl (K 1, 1, .inr (.inl fo1)))] ++ ([(ob, .inl (K 4, 1, .inr (.inr (.inr (.inl fd1)))))] ++ (WX K ad q q1 q2 g r r2 v1 i1))) ++ (WMu K mm w0)) H := hP
  have hD : va_D A (([(oa, .inl (K 1, 1, .inr (.inl fo1)))] ++ ([(ob, .inl (K 4, 1, .inr (.inr (.inr (.inl fd1)))))] ++ (WX K ad q q1 q2 g r r2 v1 i1))) ++ (WMu K mm w0)) := hD
  obtain ⟨hkz, hr3, hI1, hJ1, hh0, hh1⟩ := hw
  dsimp only at hI1 hJ1 hh0 hh1
  refine t_i (show kz = nI (rs_fewest v.1 (xs (6 * k + 1)) (xs (6 * k + 2))).1 from hkz) ?_
  refine lv_istore (lv' := [(6, .int (nI ((rs_fewest v.1 (xs (6 * k + 1)) (xs (6 * k + 2))).1))), (5, .int (nI (6 * k))), (0, .ref b), (1, .ref (ad 0)), (2, .ref (mm 0)), (3, .ref oa), (4, .ref ob)]) hx hb dL_law_1438 hl (by decide) rfl (fun ls hl => ?_)
  refine lv_aload_n hx hb dL_law_1440 rfl (lv_at hl 4 rfl) ?_
  refine lv_aload_n hx hb dL_law_1441 rfl (lv_at hl 2 rfl) ?_
  refine lv_iload hx hb dL_law_1442 (lv_at hl 1 rfl) ?_
  refine lv_iconst (v := nI 1) hx hb dL_law_1444 (by decide) ?_
  refine lv_iadd hx hb dL_law_1445 ?_
  refine t_i (nI_add _ _) ?_
  refine n_sld hx hb hX hbl hbA hS (i := 6 * k + 1) (by omega) (by omega) dL_law_1446 ?_
  refine lv_aload_n hx hb dL_law_1447 rfl (lv_at hl 2 rfl) ?_
  refine lv_iload hx hb dL_law_1448 (lv_at hl 1 rfl) ?_
  refine lv_iconst (v := nI 2) hx hb dL_law_1450 (by decide) ?_
  refine lv_iadd hx hb dL_law_1451 ?_
  refine t_i (nI_add _ _) ?_
  refine n_sld hx hb hX hbl hbA hS (i := 6 * k + 2) (by omega) (by omega) dL_law_1452 ?_
  have hPc := bP1e hP
  have hDc := bD1e hD
  have hFc := bF1e hD hS hA
  refine va_calli (va_runV (As := [.int (xs (6 * k + 1)), .int (xs (6 * k + 2))]) (rest := []) ⟨hx, hb, hml, hown, hts⟩ (c_X7_fewestShifts l D K mm v w0 (xs (6 * k + 1)) (xs (6 * k + 2)) H.size hI hR) (cwV 2 hts (TB_V k_m_L_186 k_im_X7_fewestShifts k_se_X7_fewestShifts k_in_X7 k_co_X7_fewestShifts (fun _ h => h)) rfl rfl rfl (by decide +kernel) ⟨Nat.le_of_ble_eq_true rfl, Nat.le_of_ble_eq_true rfl⟩) ⟨cP_blind, va_recv hK4 hPc (ci := 7) (q0 := 0) rfl rfl, cP_of hPc hK4 hDc⟩ rfl rfl hl.1 rfl (lv_room (Nat.le_of_ble_eq_true rfl)) dL_law_1453 ⟨(show 100 + k + 1 + 0 ≤ 601024 by omega), (show 2000 + 6 * k + 6 + 0 ≤ 7293034 by omega)⟩) hS (fun q _ h => hFc q h) hFc (fun mz u t9 H locs ht9 hvm hw hB hz1 hk1 hS => ?_)
  obtain ⟨hP1, hK1, hD1⟩ := hB
  rw [ht9] at hP1
  obtain ⟨hP, hD⟩ := bJ1e hP hD hk1 hFc hP1 hD1
  have hP : va_P D vwCl (([(oa, .inl (K 1, 1, .inr (.inl fo1)))] ++ ([(ob, .inl (K 4, 1, .inr (.inr (.inr (.inl fd1)))))] ++ (WX K ad q q1 q2 g r r2 v1 i1))) ++ (WMu K mm u)) H := hP
  have hD : va_D A (([(oa, .inl (K 1, 1, .inr (.inl fo1)))] ++ ([(ob, .inl (K 4, 1, .inr (.inr (.inr (.inl fd1)))))] ++ (WX K ad q q1 q2 g r r2 v1 i1))) ++ (WMu K mm u)) := hD
  obtain ⟨hRu, hth, hzz⟩ := hw
  have hR1 : RM v1 u := by
    by_cases h9 : (rs_fewest v.1 (xs (6 * k + 1)) (xs (6 * k + 2))).1 = 0
    · rw [(hh0 h9).2]; exact hRu
    · rw [hh1 h9]; exact hRu
  refine lv_istore (lv' := [(7, .int mz), (6, .int (nI ((rs_fewest v.1 (xs (6 * k + 1)) (xs (6 * k + 2))).1))), (5, .int (nI (6 * k))), (0, .ref b), (1, .ref (ad 0)), (2, .ref (mm 0)), (3, .ref oa), (4, .ref ob)]) hx hb dL_law_1456 hl (by decide) rfl (fun ls hl => ?_)
  refine lv_aload_n hx hb dL_law_1458 rfl (lv_at hl 5 rfl) ?_
  have hPc := bP1e hP
  have hDc := bD1e hD
  refine va_calli (va_runV (As := []) (rest := []) ⟨hx, hb, hml, hown, hts⟩ (c_X7_thrown l D K mm u.1 u.2.1 u.2.2.1 u.2.2.2.1 u.2.2.2.2.1 u.2.2.2.2.2.1 u.2.2.2.2.2.2.1 u.2.2.2.2.2.2.2.1 u.2.2.2.2.2.2.2.2.1 u.2.2.2.2.2.2.2.2.2.1 u.2.2.2.2.2.2.2.2.2.2.1 u.2.2.2.2.2.2.2.2.2.2.2.1 u.2.2.2.2.2.2.2.2.2.2.2.2.1 u.2.2.2.2.2.2.2.2.2.2.2.2.2.1 u.2.2.2.2.2.2.2.2.2.2.2.2.2.2.1 u.2.2.2.2.2.2.2.2.2.2.2.2.2.2.2.1 u.2.2.2.2.2.2.2.2.2.2.2.2.2.2.2.2 H.size) (cwV 0 hts (TB_V k_m_L_105 k_im_X7_thrown k_se_X7_thrown k_in_X7 k_co_X7_thrown (fun _ h => h)) rfl rfl rfl (by decide +kernel) ⟨Nat.le_of_ble_eq_true rfl, Nat.le_of_ble_eq_true rfl⟩) ⟨cP_blind, va_recv hK4 hPc (ci := 7) (q0 := 0) rfl rfl, cP_of hPc hK4 hDc⟩ rfl rfl hl.1 rfl (lv_room (Nat.le_of_ble_eq_true rfl)) dL_law_1459 ⟨(show 100 + k + 1 + 0 + 0 ≤ 601024 by omega), (show 2000 + 6 * k + 6 + 0 + 0 ≤ 7293034 by omega)⟩) hS (fun q _ h => absurd h id) (fun q h => absurd h id) (fun tz u9 t9 H locs ht9 hvm hw hB hz1 hk1 hS => ?_)
  have hP := P_same hP hk1
  have hth2 : tz = nI (rs_fewest v.1 (xs (6 * k + 1)) (xs (6 * k + 2))).1 := hw.trans hth
  refine t_i hth2 ?_
  refine lv_iload hx hb dL_law_1462 (lv_at hl 1 rfl) ?_
  refine b_icmp_eq hx hb (nI_toIntI (by omega)) (nI_toIntI (by omega)) dL_law_1464 (tgt := 1469) (by decide) (fun c1464 => ?_) (fun c1464 => absurd c1464 (fun q9 => q9 rfl))
  refine lv_iload hx hb dL_law_1469 (lv_at hl 1 rfl) ?_
  refine b_if_ne hx hb (nI_toIntI (by omega)) dL_law_1471 (tgt := 1486) (by decide) (fun c1471 => ?_) (fun c1471 => ?_)
  · refine lv_goto (tgt := 1641) hx hb dL_law_1486 (by decide) ?_
    exact N v1 i1 u fo1 fd1 _ _ _ hI1 hJ1 hR1 hP hD hS (lv_sub hl [2, 3, 4, 5, 6, 7] rfl)
  have h9 : (rs_fewest v.1 (xs (6 * k + 1)) (xs (6 * k + 2))).1 = 0 := by omega
  refine lv_aload_n hx hb dL_law_1474 rfl (lv_at hl 6 rfl) ?_
  refine lv_iconst (v := nI 0) hx hb dL_law_1475 (by decide) ?_
  refine n_lald hx hb hK hP 0 1 rfl rfl (i := 0) (n := 1) (by decide) (by decide) dL_law_1476 ?_
  refine lv_iload hx hb dL_law_1477 (lv_at hl 0 rfl) ?_
  refine lv_i2l (v := mz.toInt64) hx hb dL_law_1479 rfl ?_
  refine b_lcmp_eq hx hb rfl rfl dL_law_1480 dL_law_1481 (tgt := 1486) (by decide) (fun c1480 => ?_) (fun c1480 => absurd c1480 (fun q9 => q9 (by rw [(hh0 h9).1]; exact ((Int32.toInt_toInt64 mz).trans (hzz h9)).symm)))
  refine lv_goto (tgt := 1641) hx hb dL_law_1486 (by decide) ?_
  exact N v1 i1 u fo1 fd1 _ _ _ hI1 hJ1 hR1 hP hD hS (lv_sub hl [2, 3, 4, 5, 6, 7] rfl)
set_option maxHeartbeats 4000000 in
set_option maxRecDepth 100000 in
theorem law_case_24 {p : Program} {l : Launch} {e : Env} {s : State} {m : MethodId} {below : List Frame} {meth : Method} {c : Code} {b L : Nat} {xs : Nat → Int32} {D : va_G} {K : Nat → ClassId} {A : Nat → Prop} (hlf : l.stackTraces = false) (hx : p.tables.exec = Jvm.exec) (hb : c.code = cL_law) (hml : c.maxLocals = 9) (hown : s.vm.findClass RL = some m.cls) (hts : ∀ w ∈ TB, w.before #[Value.ref b] s = true) (hX : va_X b L xs s s.heap) (hbl : b < s.heap.size) (hbA : ¬ A b) (hA : ∀ q, s.heap.size ≤ q → A q) (hK : va_K D vwCl (TY5 K) s) (hTX : TX A s.heap s) (hCL : CL s) (hL : L ≤ 3072) {ad q q1 q2 g r r2 mm : Nat → Nat} {oa ob k : Nat} {v : CV} {i : CI} {w0 : MS} {fo : Nat → Int64} {fd : Nat → UInt64} {H : Heap} {locs : List Loc} {ls : Array Slot} (hk : 6 * k + 6 ≤ L) (hI : IV v) (hJ : II v.1 i) (hR : RM v w0) (hP : va_P D vwCl (([(oa, .inl (K 1, 1, .inr (.inl fo)))] ++ ([(ob, .inl (K 4, 1, .inr (.inr (.inr (.inl fd)))))] ++ (WX K ad q q1 q2 g r r2 v i))) ++ (WMu K mm w0)) H) (hD : va_D A (([(oa, .inl (K 1, 1, .inr (.inl fo)))] ++ ([(ob, .inl (K 4, 1, .inr (.inr (.inr (.inl fd)))))] ++ (WX K ad q q1 q2 g r r2 v i))) ++ (WMu K mm w0))) (hS : va_S A s.heap H locs) (hl : lv_has ls 9 [(5, .int (nI (6 * k))), (0, .ref b), (1, .ref (ad 0)), (2, .ref (mm 0)), (3, .ref oa), (4, .ref ob)]) (N : LNX p l e s m below meth c b D K A ad q q1 q2 g r r2 mm oa ob k) : W p l e room_1 s m #[Value.ref b] below meth c H locs (100 + k) (2000 + 6 * k) (lw_Z below #[Value.ref b] s) (F0 m 1489 ls []) := by
  have hK4 := hK.sub (tys' := TY K) [0, 1, 2, 3] rfl
  refine lv_aload_n hx hb dL_law_1489 rfl (lv_at hl 2 rfl) ?_
  refine lv_aload_n hx hb dL_law_1490 rfl (lv_at hl 1 rfl) ?_
  refine lv_iload hx hb dL_law_1491 (lv_at hl 0 rfl) ?_
  refine lv_iconst (v := nI 1) hx hb dL_law_1493 (by decide) ?_
  refine lv_iadd hx hb dL_law_1494 ?_
  refine t_i (nI_add _ _) ?_
  refine n_sld hx hb hX hbl hbA hS (i := 6 * k + 1) (by omega) (by omega) dL_law_1495 ?_
  refine lv_aload_n hx hb dL_law_1496 rfl (lv_at hl 1 rfl) ?_
  refine lv_iload hx hb dL_law_1497 (lv_at hl 0 rfl) ?_
  refine lv_iconst (v := nI 2) hx hb dL_law_1499 (by decide) ?_
  refine lv_iadd hx hb dL_law_1500 ?_
  refine t_i (nI_add _ _) ?_
  refine n_sld hx hb hX hbl hbA hS (i := 6 * k + 2) (by omega) (by omega) dL_law_1501 ?_
  refine lv_aload_n hx hb dL_law_1502 rfl (lv_at hl 1 rfl) ?_
  refine lv_iload hx hb dL_law_1503 (lv_at hl 0 rfl) ?_
  refine lv_iconst (v := nI 3) hx hb dL_law_1505 (by decide) ?_
  refine lv_iadd hx hb dL_law_1506 ?_
  refine t_i (nI_add _ _) ?_
  refine n_sld hx hb hX hbl hbA hS (i := 6 * k + 3) (by omega) (by omega) dL_law_1507 ?_
  refine lv_aload_n hx hb dL_law_1508 rfl (lv_at hl 4 rfl) ?_
  have hPc := bP0 hP
  have hDc := bD0 hD
  have hFc := bF0 hD hS hA
  refine va_calli (vx_runSW (As := [.ref (ad 0), .int (xs (6 * k + 1)), .int (xs (6 * k + 2)), .int (xs (6 * k + 3)), .ref oa]) (rest := []) ⟨hx, hb, hml, hown, hts⟩ (c_L_shift l hlf D K oa ob fo fd ad q q1 q2 g r r2 v i (xs (6 * k + 1)) (xs (6 * k + 2)) (xs (6 * k + 3)) H.size hI hJ) (vx_cwSW 5 hts (TB_SW k_m_L_187 k_st_L_shift k_in_L k_co_L_shift (fun _ h => h)) rfl rfl rfl (by decide +kernel) ⟨Nat.le_of_ble_eq_true rfl, Nat.le_of_ble_eq_true rfl⟩) ⟨cPL_blind, cPL_of hPc hK hDc hTX hCL hS hFc⟩ rfl rfl hl.1 rfl (lv_room (Nat.le_of_ble_eq_true rfl)) dL_law_1509 ⟨(show 100 + k + 1 ≤ 601024 by omega), (show 2000 + 6 * k + 6 ≤ 7293034 by omega)⟩) hS (fun q _ h => hFc q h) hFc (fun kz u9 t9 H locs ht9 hvm hw hB hz1 hk1 hS => ?_)
  obtain ⟨v1, i1, fo1, fd1⟩ := u9
  obtain ⟨hP1, hK1, hD1⟩ := hB
  rw [ht9] at hP1
  obtain ⟨hP, hD⟩ := bJ0 hP hD hk1 hFc hP1 hD1
  have hP : va_P D vwCl (([(oa, .inl (K 1, 1, .inr (.inl fo1)))] ++ ([(ob, .inl (K 4, 1, .inr (.inr (.inr (.inl fd1)))))] ++ (WX K ad q q1 q2 g r r2 v1 i1))) ++ (WMu K mm w0)) H := hP
  have hD : va_D A (([(oa, .inl (K 1, 1, .inr (.inl fo1)))] ++ ([(ob, .inl (K 4, 1, .inr (.inr (.inr (.inl fd1)))))] ++ (WX K ad q q1 q2 g r r2 v1 i1))) ++ (WMu K mm w0)) := hD
  obtain ⟨hkz, hr3, hI1, hJ1, hh0, hh1⟩ := hw
  dsimp only at hI1 hJ1 hh0 hh1
  refine t_i (show kz = nI (rs_shift v.1 (xs (6 * k + 1)) (xs (6 * k + 2)) (xs (6 * k + 3))).1 from hkz) ?_
  refine lv_istore (lv' := [(6, .int (nI ((rs_shift v.1 (xs (6 * k + 1)) (xs (6 * k + 2)) (xs (6 * k + 3))).1))), (5, .int (nI (6 * k))), (0, .ref b), (1, .ref (ad 0)), (2, .ref (mm 0)), (3, .ref oa), (4, .ref ob)]) hx hb dL_law_1512 hl (by decide) rfl (fun ls hl => ?_)
  refine lv_aload_n hx hb dL_law_1514 rfl (lv_at hl 4 rfl) ?_
  refine lv_aload_n hx hb dL_law_1515 rfl (lv_at hl 2 rfl) ?_
  refine lv_iload hx hb dL_law_1516 (lv_at hl 1 rfl) ?_
  refine lv_iconst (v := nI 1) hx hb dL_law_1518 (by decide) ?_
  refine lv_iadd hx hb dL_law_1519 ?_
  refine t_i (nI_add _ _) ?_
  refine n_sld hx hb hX hbl hbA hS (i := 6 * k + 1) (by omega) (by omega) dL_law_1520 ?_
  refine lv_aload_n hx hb dL_law_1521 rfl (lv_at hl 2 rfl) ?_
  refine lv_iload hx hb dL_law_1522 (lv_at hl 1 rfl) ?_
  refine lv_iconst (v := nI 2) hx hb dL_law_1524 (by decide) ?_
  refine lv_iadd hx hb dL_law_1525 ?_
  refine t_i (nI_add _ _) ?_
  refine n_sld hx hb hX hbl hbA hS (i := 6 * k + 2) (by omega) (by omega) dL_law_1526 ?_
  refine lv_aload_n hx hb dL_law_1527 rfl (lv_at hl 2 rfl) ?_
  refine lv_iload hx hb dL_law_1528 (lv_at hl 1 rfl) ?_
  refine lv_iconst (v := nI 3) hx hb dL_law_1530 (by decide) ?_
  refine lv_iadd hx hb dL_law_1531 ?_
  refine t_i (nI_add _ _) ?_
  refine n_sld hx hb hX hbl hbA hS (i := 6 * k + 3) (by omega) (by omega) dL_law_1532 ?_
  have hPc := bP1e hP
  have hDc := bD1e hD
  have hFc := bF1e hD hS hA
  refine va_calli (va_runV (As := [.int (xs (6 * k + 1)), .int (xs (6 * k + 2)), .int (xs (6 * k + 3))]) (rest := []) ⟨hx, hb, hml, hown, hts⟩ (c_X7_shift l D K mm v w0 (xs (6 * k + 1)) (xs (6 * k + 2)) (xs (6 * k + 3)) H.size hI hR) (cwV 3 hts (TB_V k_m_L_190 k_im_X7_shift k_se_X7_shift k_in_X7 k_co_X7_shift (fun _ h => h)) rfl rfl rfl (by decide +kernel) ⟨Nat.le_of_ble_eq_true rfl, Nat.le_of_ble_eq_true rfl⟩) ⟨cP_blind, va_recv hK4 hPc (ci := 7) (q0 := 0) rfl rfl, cP_of hPc hK4 hDc⟩ rfl rfl hl.1 rfl (lv_room (Nat.le_of_ble_eq_true rfl)) dL_law_1533 ⟨(show 100 + k + 1 + 0 ≤ 601024 by omega), (show 2000 + 6 * k + 6 + 0 ≤ 7293034 by omega)⟩) hS (fun q _ h => hFc q h) hFc (fun mz u t9 H locs ht9 hvm hw hB hz1 hk1 hS => ?_)
  obtain ⟨hP1, hK1, hD1⟩ := hB
  rw [ht9] at hP1
  obtain ⟨hP, hD⟩ := bJ1e hP hD hk1 hFc hP1 hD1
  have hP : va_P D vwCl (([(oa, .inl (K 1, 1, .inr (.inl fo1)))] ++ ([(ob, .inl (K 4, 1, .inr (.inr (.inr (.inl fd1)))))] ++ (WX K ad q q1 q2 g r r2 v1 i1))) ++ (WMu K mm u)) H := hP
  have hD : va_D A (([(oa, .inl (K 1, 1, .inr (.inl fo1)))] ++ ([(ob, .inl (K 4, 1, .inr (.inr (.inr (.inl fd1)))))] ++ (WX K ad q q1 q2 g r r2 v1 i1))) ++ (WMu K mm u)) := hD
  obtain ⟨hRu, hth, hzz⟩ := hw
  have hR1 : RM v1 u := by
    by_cases h9 : (rs_shift v.1 (xs (6 * k + 1)) (xs (6 * k + 2)) (xs (6 * k + 3))).1 = 0
    · rw [(hh0 h9).2]; exact hRu
    · rw [hh1 h9]; exact hRu
  refine lv_istore (lv' := [(7, .int mz), (6, .int (nI ((rs_shift v.1 (xs (6 * k + 1)) (xs (6 * k + 2)) (xs (6 * k + 3))).1))), (5, .int (nI (6 * k))), (0, .ref b), (1, .ref (ad 0)), (2, .ref (mm 0)), (3, .ref oa), (4, .ref ob)]) hx hb dL_law_1536 hl (by decide) rfl (fun ls hl => ?_)
  refine lv_aload_n hx hb dL_law_1538 rfl (lv_at hl 5 rfl) ?_
  have hPc := bP1e hP
  have hDc := bD1e hD
  refine va_calli (va_runV (As := []) (rest := []) ⟨hx, hb, hml, hown, hts⟩ (c_X7_thrown l D K mm u.1 u.2.1 u.2.2.1 u.2.2.2.1 u.2.2.2.2.1 u.2.2.2.2.2.1 u.2.2.2.2.2.2.1 u.2.2.2.2.2.2.2.1 u.2.2.2.2.2.2.2.2.1 u.2.2.2.2.2.2.2.2.2.1 u.2.2.2.2.2.2.2.2.2.2.1 u.2.2.2.2.2.2.2.2.2.2.2.1 u.2.2.2.2.2.2.2.2.2.2.2.2.1 u.2.2.2.2.2.2.2.2.2.2.2.2.2.1 u.2.2.2.2.2.2.2.2.2.2.2.2.2.2.1 u.2.2.2.2.2.2.2.2.2.2.2.2.2.2.2.1 u.2.2.2.2.2.2.2.2.2.2.2.2.2.2.2.2 H.size) (cwV 0 hts (TB_V k_m_L_105 k_im_X7_thrown k_se_X7_thrown k_in_X7 k_co_X7_thrown (fun _ h => h)) rfl rfl rfl (by decide +kernel) ⟨Nat.le_of_ble_eq_true rfl, Nat.le_of_ble_eq_true rfl⟩) ⟨cP_blind, va_recv hK4 hPc (ci := 7) (q0 := 0) rfl rfl, cP_of hPc hK4 hDc⟩ rfl rfl hl.1 rfl (lv_room (Nat.le_of_ble_eq_true rfl)) dL_law_1539 ⟨(show 100 + k + 1 + 0 + 0 ≤ 601024 by omega), (show 2000 + 6 * k + 6 + 0 + 0 ≤ 7293034 by omega)⟩) hS (fun q _ h => absurd h id) (fun q h => absurd h id) (fun tz u9 t9 H locs ht9 hvm hw hB hz1 hk1 hS => ?_)
  have hP := P_same hP hk1
  have hth2 : tz = nI (rs_shift v.1 (xs (6 * k + 1)) (xs (6 * k + 2)) (xs (6 * k + 3))).1 := hw.trans hth
  refine t_i hth2 ?_
  refine lv_iload hx hb dL_law_1542 (lv_at hl 1 rfl) ?_
  refine b_icmp_eq hx hb (nI_toIntI (by omega)) (nI_toIntI (by omega)) dL_law_1544 (tgt := 1549) (by decide) (fun c1544 => ?_) (fun c1544 => absurd c1544 (fun q9 => q9 rfl))
  refine lv_iload hx hb dL_law_1549 (lv_at hl 1 rfl) ?_
  refine b_if_ne hx hb (nI_toIntI (by omega)) dL_law_1551 (tgt := 1566) (by decide) (fun c1551 => ?_) (fun c1551 => ?_)
  · refine lv_goto (tgt := 1641) hx hb dL_law_1566 (by decide) ?_
    exact N v1 i1 u fo1 fd1 _ _ _ hI1 hJ1 hR1 hP hD hS (lv_sub hl [2, 3, 4, 5, 6, 7] rfl)
  have h9 : (rs_shift v.1 (xs (6 * k + 1)) (xs (6 * k + 2)) (xs (6 * k + 3))).1 = 0 := by omega
  refine lv_aload_n hx hb dL_law_1554 rfl (lv_at hl 6 rfl) ?_
  refine lv_iconst (v := nI 0) hx hb dL_law_1555 (by decide) ?_
  refine n_lald hx hb hK hP 0 1 rfl rfl (i := 0) (n := 1) (by decide) (by decide) dL_law_1556 ?_
  refine lv_iload hx hb dL_law_1557 (lv_at hl 0 rfl) ?_
  refine lv_i2l (v := mz.toInt64) hx hb dL_law_1559 rfl ?_
  refine b_lcmp_eq hx hb rfl rfl dL_law_1560 dL_law_1561 (tgt := 1566) (by decide) (fun c1560 => ?_) (fun c1560 => absurd c1560 (fun q9 => q9 (by rw [(hh0 h9).1]; exact ((Int32.toInt_toInt64 mz).trans (hzz h9)).symm)))
  refine lv_goto (tgt := 1641) hx hb dL_law_1566 (by decide) ?_
  exact N v1 i1 u fo1 fd1 _ _ _ hI1 hJ1 hR1 hP hD hS (lv_sub hl [2, 3, 4, 5, 6, 7] rfl)
set_option maxHeartbeats 4000000 in
set_option maxRecDepth 100000 in
theorem law_case_25 {p : Program} {l : Launch} {e : Env} {s : State} {m : MethodId} {below : List Frame} {meth : Method} {c : Code} {b L : Nat} {xs : Nat → Int32} {D : va_G} {K : Nat → ClassId} {A : Nat → Prop} (hlf : l.stackTraces = false) (hx : p.tables.exec = Jvm.exec) (hb : c.code = cL_law) (hml : c.maxLocals = 9) (hown : s.vm.findClass RL = some m.cls) (hts : ∀ w ∈ TB, w.before #[Value.ref b] s = true) (hX : va_X b L xs s s.heap) (hbl : b < s.heap.size) (hbA : ¬ A b) (hA : ∀ q, s.heap.size ≤ q → A q) (hK : va_K D vwCl (TY5 K) s) (hTX : TX A s.heap s) (hCL : CL s) (hL : L ≤ 3072) {ad q q1 q2 g r r2 mm : Nat → Nat} {oa ob k : Nat} {v : CV} {i : CI} {w0 : MS} {fo : Nat → Int64} {fd : Nat → UInt64} {H : Heap} {locs : List Loc} {ls : Array Slot} (hk : 6 * k + 6 ≤ L) (hI : IV v) (hJ : II v.1 i) (hR : RM v w0) (hP : va_P D vwCl (([(oa, .inl (K 1, 1, .inr (.inl fo)))] ++ ([(ob, .inl (K 4, 1, .inr (.inr (.inr (.inl fd)))))] ++ (WX K ad q q1 q2 g r r2 v i))) ++ (WMu K mm w0)) H) (hD : va_D A (([(oa, .inl (K 1, 1, .inr (.inl fo)))] ++ ([(ob, .inl (K 4, 1, .inr (.inr (.inr (.inl fd)))))] ++ (WX K ad q q1 q2 g r r2 v i))) ++ (WMu K mm w0))) (hS : va_S A s.heap H locs) (hl : lv_has ls 9 [(5, .int (nI (6 * k))), (0, .ref b), (1, .ref (ad 0)), (2, .ref (mm 0)), (3, .ref oa), (4, .ref ob)]) (N : LNX p l e s m below meth c b D K A ad q q1 q2 g r r2 mm oa ob k) : W p l e room_1 s m #[Value.ref b] below meth c H locs (100 + k) (2000 + 6 * k) (lw_Z below #[Value.ref b] s) (F0 m 1569 ls []) := by
  have hK4 := hK.sub (tys' := TY K) [0, 1, 2, 3] rfl
  refine lv_aload_n hx hb dL_law_1569 rfl (lv_at hl 2 rfl) ?_
  refine lv_aload_n hx hb dL_law_1570 rfl (lv_at hl 1 rfl) ?_
  refine lv_iload hx hb dL_law_1571 (lv_at hl 0 rfl) ?_
  refine lv_iconst (v := nI 1) hx hb dL_law_1573 (by decide) ?_
  refine lv_iadd hx hb dL_law_1574 ?_
  refine t_i (nI_add _ _) ?_
  refine n_sld hx hb hX hbl hbA hS (i := 6 * k + 1) (by omega) (by omega) dL_law_1575 ?_
  have hPc := bP0 hP
  have hDc := bD0 hD
  have hFc := bF0 hD hS hA
  refine va_calli (vx_runSW (As := [.ref (ad 0), .int (xs (6 * k + 1))]) (rest := []) ⟨hx, hb, hml, hown, hts⟩ (c_L_save l hlf D K oa ob fo fd ad q q1 q2 g r r2 v i (xs (6 * k + 1)) H.size hI hJ) (vx_cwSW 2 hts (TB_SW k_m_L_191 k_st_L_save k_in_L k_co_L_save (fun _ h => h)) rfl rfl rfl (by decide +kernel) ⟨Nat.le_of_ble_eq_true rfl, Nat.le_of_ble_eq_true rfl⟩) ⟨cPL_blind, cPL_of hPc hK hDc hTX hCL hS hFc⟩ rfl rfl hl.1 rfl (lv_room (Nat.le_of_ble_eq_true rfl)) dL_law_1576 ⟨(show 100 + k + 1 ≤ 601024 by omega), (show 2000 + 6 * k + 6 ≤ 7293034 by omega)⟩) hS (fun q _ h => hFc q h) hFc (fun kz u9 t9 H locs ht9 hvm hw hB hz1 hk1 hS => ?_)
  obtain ⟨v1, i1, fo1, fd1⟩ := u9
  obtain ⟨hP1, hK1, hD1⟩ := hB
  rw [ht9] at hP1
  obtain ⟨hP, hD⟩ := bJ0 hP hD hk1 hFc hP1 hD1
  have hP : va_P D vwCl (([(oa, .inl (K 1, 1, .inr (.inl fo1)))] ++ ([(ob, .inl (K 4, 1, .inr (.inr (.inr (.inl fd1)))))] ++ (WX K ad q q1 q2 g r r2 v1 i1))) ++ (WMu K mm w0)) H := hP
  have hD : va_D A (([(oa, .inl (K 1, 1, .inr (.inl fo1)))] ++ ([(ob, .inl (K 4, 1, .inr (.inr (.inr (.inl fd1)))))] ++ (WX K ad q q1 q2 g r r2 v1 i1))) ++ (WMu K mm w0)) := hD
  obtain ⟨hkz, hr3, hI1, hJ1, hh0, hh1⟩ := hw
  dsimp only at hI1 hJ1 hh0 hh1
  refine t_i (show kz = nI (rs_save (xs (6 * k + 1))).1 from hkz) ?_
  refine lv_istore (lv' := [(6, .int (nI ((rs_save (xs (6 * k + 1))).1))), (5, .int (nI (6 * k))), (0, .ref b), (1, .ref (ad 0)), (2, .ref (mm 0)), (3, .ref oa), (4, .ref ob)]) hx hb dL_law_1579 hl (by decide) rfl (fun ls hl => ?_)
  refine lv_aload_n hx hb dL_law_1581 rfl (lv_at hl 4 rfl) ?_
  refine lv_aload_n hx hb dL_law_1582 rfl (lv_at hl 2 rfl) ?_
  refine lv_iload hx hb dL_law_1583 (lv_at hl 1 rfl) ?_
  refine lv_iconst (v := nI 1) hx hb dL_law_1585 (by decide) ?_
  refine lv_iadd hx hb dL_law_1586 ?_
  refine t_i (nI_add _ _) ?_
  refine n_sld hx hb hX hbl hbA hS (i := 6 * k + 1) (by omega) (by omega) dL_law_1587 ?_
  have hPc := bP1e hP
  have hDc := bD1e hD
  have hFc := bF1e hD hS hA
  refine va_callv (va_runV (As := [.int (xs (6 * k + 1))]) (rest := []) ⟨hx, hb, hml, hown, hts⟩ (c_X7_save l D K mm v w0 (xs (6 * k + 1)) H.size hI hR) (cwV 1 hts (TB_V k_m_L_194 k_im_X7_save k_se_X7_save k_in_X7 k_co_X7_save (fun _ h => h)) rfl rfl rfl (by decide +kernel) ⟨Nat.le_of_ble_eq_true rfl, Nat.le_of_ble_eq_true rfl⟩) ⟨cP_blind, va_recv hK4 hPc (ci := 7) (q0 := 0) rfl rfl, cP_of hPc hK4 hDc⟩ rfl rfl hl.1 rfl (lv_room (Nat.le_of_ble_eq_true rfl)) dL_law_1588 ⟨(show 100 + k + 1 + 0 ≤ 601024 by omega), (show 2000 + 6 * k + 6 + 0 ≤ 7293034 by omega)⟩) hS (fun q _ h => hFc q h) hFc (fun u t9 H locs ht9 hvm hw hB hz1 hk1 hS => ?_)
  obtain ⟨hP1, hK1, hD1⟩ := hB
  rw [ht9] at hP1
  obtain ⟨hP, hD⟩ := bJ1e hP hD hk1 hFc hP1 hD1
  have hP : va_P D vwCl (([(oa, .inl (K 1, 1, .inr (.inl fo1)))] ++ ([(ob, .inl (K 4, 1, .inr (.inr (.inr (.inl fd1)))))] ++ (WX K ad q q1 q2 g r r2 v1 i1))) ++ (WMu K mm u)) H := hP
  have hD : va_D A (([(oa, .inl (K 1, 1, .inr (.inl fo1)))] ++ ([(ob, .inl (K 4, 1, .inr (.inr (.inr (.inl fd1)))))] ++ (WX K ad q q1 q2 g r r2 v1 i1))) ++ (WMu K mm u)) := hD
  obtain ⟨hth, hw0, hw1⟩ := hw
  have hR1 : RM v1 u := by
    by_cases h9 : (rs_save (xs (6 * k + 1))).1 = 0
    · exact hw0 h9 v1 (hh0 h9).2
    · rw [hh1 h9]; exact hw1 h9
  refine lv_aload_n hx hb dL_law_1591 rfl (lv_at hl 4 rfl) ?_
  have hPc := bP1e hP
  have hDc := bD1e hD
  refine va_calli (va_runV (As := []) (rest := []) ⟨hx, hb, hml, hown, hts⟩ (c_X7_thrown l D K mm u.1 u.2.1 u.2.2.1 u.2.2.2.1 u.2.2.2.2.1 u.2.2.2.2.2.1 u.2.2.2.2.2.2.1 u.2.2.2.2.2.2.2.1 u.2.2.2.2.2.2.2.2.1 u.2.2.2.2.2.2.2.2.2.1 u.2.2.2.2.2.2.2.2.2.2.1 u.2.2.2.2.2.2.2.2.2.2.2.1 u.2.2.2.2.2.2.2.2.2.2.2.2.1 u.2.2.2.2.2.2.2.2.2.2.2.2.2.1 u.2.2.2.2.2.2.2.2.2.2.2.2.2.2.1 u.2.2.2.2.2.2.2.2.2.2.2.2.2.2.2.1 u.2.2.2.2.2.2.2.2.2.2.2.2.2.2.2.2 H.size) (cwV 0 hts (TB_V k_m_L_105 k_im_X7_thrown k_se_X7_thrown k_in_X7 k_co_X7_thrown (fun _ h => h)) rfl rfl rfl (by decide +kernel) ⟨Nat.le_of_ble_eq_true rfl, Nat.le_of_ble_eq_true rfl⟩) ⟨cP_blind, va_recv hK4 hPc (ci := 7) (q0 := 0) rfl rfl, cP_of hPc hK4 hDc⟩ rfl rfl hl.1 rfl (lv_room (Nat.le_of_ble_eq_true rfl)) dL_law_1592 ⟨(show 100 + k + 1 + 0 + 0 ≤ 601024 by omega), (show 2000 + 6 * k + 6 + 0 + 0 ≤ 7293034 by omega)⟩) hS (fun q _ h => absurd h id) (fun q h => absurd h id) (fun tz u9 t9 H locs ht9 hvm hw hB hz1 hk1 hS => ?_)
  have hP := P_same hP hk1
  have hth2 : tz = nI (rs_save (xs (6 * k + 1))).1 := hw.trans hth
  refine t_i hth2 ?_
  refine lv_iload hx hb dL_law_1595 (lv_at hl 0 rfl) ?_
  refine b_icmp_eq hx hb (nI_toIntI (by omega)) (nI_toIntI (by omega)) dL_law_1597 (tgt := 1602) (by decide) (fun c1597 => ?_) (fun c1597 => absurd c1597 (fun q9 => q9 rfl))
  refine lv_goto (tgt := 1641) hx hb dL_law_1602 (by decide) ?_
  exact N v1 i1 u fo1 fd1 _ _ _ hI1 hJ1 hR1 hP hD hS (lv_sub hl [1, 2, 3, 4, 5, 6] rfl)
set_option maxHeartbeats 4000000 in
set_option maxRecDepth 100000 in
theorem law_case_26 {p : Program} {l : Launch} {e : Env} {s : State} {m : MethodId} {below : List Frame} {meth : Method} {c : Code} {b L : Nat} {xs : Nat → Int32} {D : va_G} {K : Nat → ClassId} {A : Nat → Prop} (hlf : l.stackTraces = false) (hx : p.tables.exec = Jvm.exec) (hb : c.code = cL_law) (hml : c.maxLocals = 9) (hown : s.vm.findClass RL = some m.cls) (hts : ∀ w ∈ TB, w.before #[Value.ref b] s = true) (hX : va_X b L xs s s.heap) (hbl : b < s.heap.size) (hbA : ¬ A b) (hA : ∀ q, s.heap.size ≤ q → A q) (hK : va_K D vwCl (TY5 K) s) (hTX : TX A s.heap s) (hCL : CL s) (hL : L ≤ 3072) {ad q q1 q2 g r r2 mm : Nat → Nat} {oa ob k : Nat} {v : CV} {i : CI} {w0 : MS} {fo : Nat → Int64} {fd : Nat → UInt64} {H : Heap} {locs : List Loc} {ls : Array Slot} (hk : 6 * k + 6 ≤ L) (hI : IV v) (hJ : II v.1 i) (hR : RM v w0) (hP : va_P D vwCl (([(oa, .inl (K 1, 1, .inr (.inl fo)))] ++ ([(ob, .inl (K 4, 1, .inr (.inr (.inr (.inl fd)))))] ++ (WX K ad q q1 q2 g r r2 v i))) ++ (WMu K mm w0)) H) (hD : va_D A (([(oa, .inl (K 1, 1, .inr (.inl fo)))] ++ ([(ob, .inl (K 4, 1, .inr (.inr (.inr (.inl fd)))))] ++ (WX K ad q q1 q2 g r r2 v i))) ++ (WMu K mm w0))) (hS : va_S A s.heap H locs) (hl : lv_has ls 9 [(5, .int (nI (6 * k))), (0, .ref b), (1, .ref (ad 0)), (2, .ref (mm 0)), (3, .ref oa), (4, .ref ob)]) (N : LNX p l e s m below meth c b D K A ad q q1 q2 g r r2 mm oa ob k) : W p l e room_1 s m #[Value.ref b] below meth c H locs (100 + k) (2000 + 6 * k) (lw_Z below #[Value.ref b] s) (F0 m 1605 ls []) := by
  have hK4 := hK.sub (tys' := TY K) [0, 1, 2, 3] rfl
  refine lv_aload_n hx hb dL_law_1605 rfl (lv_at hl 2 rfl) ?_
  refine lv_aload_n hx hb dL_law_1606 rfl (lv_at hl 1 rfl) ?_
  refine lv_iload hx hb dL_law_1607 (lv_at hl 0 rfl) ?_
  refine lv_iconst (v := nI 1) hx hb dL_law_1609 (by decide) ?_
  refine lv_iadd hx hb dL_law_1610 ?_
  refine t_i (nI_add _ _) ?_
  refine n_sld hx hb hX hbl hbA hS (i := 6 * k + 1) (by omega) (by omega) dL_law_1611 ?_
  have hPc := bP0 hP
  have hDc := bD0 hD
  have hFc := bF0 hD hS hA
  refine va_calli (vx_runSW (As := [.ref (ad 0), .int (xs (6 * k + 1))]) (rest := []) ⟨hx, hb, hml, hown, hts⟩ (c_L_restore l hlf D K oa ob fo fd ad q q1 q2 g r r2 v i (xs (6 * k + 1)) H.size hI hJ) (vx_cwSW 2 hts (TB_SW k_m_L_195 k_st_L_restore k_in_L k_co_L_restore (fun _ h => h)) rfl rfl rfl (by decide +kernel) ⟨Nat.le_of_ble_eq_true rfl, Nat.le_of_ble_eq_true rfl⟩) ⟨cPL_blind, cPL_of hPc hK hDc hTX hCL hS hFc⟩ rfl rfl hl.1 rfl (lv_room (Nat.le_of_ble_eq_true rfl)) dL_law_1612 ⟨(show 100 + k + 1 ≤ 601024 by omega), (show 2000 + 6 * k + 6 ≤ 7293034 by omega)⟩) hS (fun q _ h => hFc q h) hFc (fun kz u9 t9 H locs ht9 hvm hw hB hz1 hk1 hS => ?_)
  obtain ⟨v1, i1, fo1, fd1⟩ := u9
  obtain ⟨hP1, hK1, hD1⟩ := hB
  rw [ht9] at hP1
  obtain ⟨hP, hD⟩ := bJ0 hP hD hk1 hFc hP1 hD1
  have hP : va_P D vwCl (([(oa, .inl (K 1, 1, .inr (.inl fo1)))] ++ ([(ob, .inl (K 4, 1, .inr (.inr (.inr (.inl fd1)))))] ++ (WX K ad q q1 q2 g r r2 v1 i1))) ++ (WMu K mm w0)) H := hP
  have hD : va_D A (([(oa, .inl (K 1, 1, .inr (.inl fo1)))] ++ ([(ob, .inl (K 4, 1, .inr (.inr (.inr (.inl fd1)))))] ++ (WX K ad q q1 q2 g r r2 v1 i1))) ++ (WMu K mm w0)) := hD
  obtain ⟨hkz, hr3, hI1, hJ1, hh0, hh1⟩ := hw
  dsimp only at hI1 hJ1 hh0 hh1
  refine t_i (show kz = nI (rs_restore v (xs (6 * k + 1))).1 from hkz) ?_
  refine lv_istore (lv' := [(6, .int (nI ((rs_restore v (xs (6 * k + 1))).1))), (5, .int (nI (6 * k))), (0, .ref b), (1, .ref (ad 0)), (2, .ref (mm 0)), (3, .ref oa), (4, .ref ob)]) hx hb dL_law_1615 hl (by decide) rfl (fun ls hl => ?_)
  refine lv_aload_n hx hb dL_law_1617 rfl (lv_at hl 4 rfl) ?_
  refine lv_aload_n hx hb dL_law_1618 rfl (lv_at hl 2 rfl) ?_
  refine lv_iload hx hb dL_law_1619 (lv_at hl 1 rfl) ?_
  refine lv_iconst (v := nI 1) hx hb dL_law_1621 (by decide) ?_
  refine lv_iadd hx hb dL_law_1622 ?_
  refine t_i (nI_add _ _) ?_
  refine n_sld hx hb hX hbl hbA hS (i := 6 * k + 1) (by omega) (by omega) dL_law_1623 ?_
  have hPc := bP1e hP
  have hDc := bD1e hD
  have hFc := bF1e hD hS hA
  refine va_callv (va_runV (As := [.int (xs (6 * k + 1))]) (rest := []) ⟨hx, hb, hml, hown, hts⟩ (c_X7_restore l D K mm v w0 (xs (6 * k + 1)) H.size hI hR) (cwV 1 hts (TB_V k_m_L_197 k_im_X7_restore k_se_X7_restore k_in_X7 k_co_X7_restore (fun _ h => h)) rfl rfl rfl (by decide +kernel) ⟨Nat.le_of_ble_eq_true rfl, Nat.le_of_ble_eq_true rfl⟩) ⟨cP_blind, va_recv hK4 hPc (ci := 7) (q0 := 0) rfl rfl, cP_of hPc hK4 hDc⟩ rfl rfl hl.1 rfl (lv_room (Nat.le_of_ble_eq_true rfl)) dL_law_1624 ⟨(show 100 + k + 1 + 0 ≤ 601024 by omega), (show 2000 + 6 * k + 6 + 0 ≤ 7293034 by omega)⟩) hS (fun q _ h => hFc q h) hFc (fun u t9 H locs ht9 hvm hw hB hz1 hk1 hS => ?_)
  obtain ⟨hP1, hK1, hD1⟩ := hB
  rw [ht9] at hP1
  obtain ⟨hP, hD⟩ := bJ1e hP hD hk1 hFc hP1 hD1
  have hP : va_P D vwCl (([(oa, .inl (K 1, 1, .inr (.inl fo1)))] ++ ([(ob, .inl (K 4, 1, .inr (.inr (.inr (.inl fd1)))))] ++ (WX K ad q q1 q2 g r r2 v1 i1))) ++ (WMu K mm u)) H := hP
  have hD : va_D A (([(oa, .inl (K 1, 1, .inr (.inl fo1)))] ++ ([(ob, .inl (K 4, 1, .inr (.inr (.inr (.inl fd1)))))] ++ (WX K ad q q1 q2 g r r2 v1 i1))) ++ (WMu K mm u)) := hD
  obtain ⟨hth, hw0, hw1⟩ := hw
  have hR1 : RM v1 u := by
    by_cases h9 : (rs_restore v (xs (6 * k + 1))).1 = 0
    · exact hw0 h9 v1 (hh0 h9).2
    · rw [hh1 h9]; exact hw1 h9
  refine lv_aload_n hx hb dL_law_1627 rfl (lv_at hl 4 rfl) ?_
  have hPc := bP1e hP
  have hDc := bD1e hD
  refine va_calli (va_runV (As := []) (rest := []) ⟨hx, hb, hml, hown, hts⟩ (c_X7_thrown l D K mm u.1 u.2.1 u.2.2.1 u.2.2.2.1 u.2.2.2.2.1 u.2.2.2.2.2.1 u.2.2.2.2.2.2.1 u.2.2.2.2.2.2.2.1 u.2.2.2.2.2.2.2.2.1 u.2.2.2.2.2.2.2.2.2.1 u.2.2.2.2.2.2.2.2.2.2.1 u.2.2.2.2.2.2.2.2.2.2.2.1 u.2.2.2.2.2.2.2.2.2.2.2.2.1 u.2.2.2.2.2.2.2.2.2.2.2.2.2.1 u.2.2.2.2.2.2.2.2.2.2.2.2.2.2.1 u.2.2.2.2.2.2.2.2.2.2.2.2.2.2.2.1 u.2.2.2.2.2.2.2.2.2.2.2.2.2.2.2.2 H.size) (cwV 0 hts (TB_V k_m_L_105 k_im_X7_thrown k_se_X7_thrown k_in_X7 k_co_X7_thrown (fun _ h => h)) rfl rfl rfl (by decide +kernel) ⟨Nat.le_of_ble_eq_true rfl, Nat.le_of_ble_eq_true rfl⟩) ⟨cP_blind, va_recv hK4 hPc (ci := 7) (q0 := 0) rfl rfl, cP_of hPc hK4 hDc⟩ rfl rfl hl.1 rfl (lv_room (Nat.le_of_ble_eq_true rfl)) dL_law_1628 ⟨(show 100 + k + 1 + 0 + 0 ≤ 601024 by omega), (show 2000 + 6 * k + 6 + 0 + 0 ≤ 7293034 by omega)⟩) hS (fun q _ h => absurd h id) (fun q h => absurd h id) (fun tz u9 t9 H locs ht9 hvm hw hB hz1 hk1 hS => ?_)
  have hP := P_same hP hk1
  have hth2 : tz = nI (rs_restore v (xs (6 * k + 1))).1 := hw.trans hth
  refine t_i hth2 ?_
  refine lv_iload hx hb dL_law_1631 (lv_at hl 0 rfl) ?_
  refine b_icmp_eq hx hb (nI_toIntI (by omega)) (nI_toIntI (by omega)) dL_law_1633 (tgt := 1638) (by decide) (fun c1633 => ?_) (fun c1633 => absurd c1633 (fun q9 => q9 rfl))
  refine lv_goto (tgt := 1641) hx hb dL_law_1638 (by decide) ?_
  exact N v1 i1 u fo1 fd1 _ _ _ hI1 hJ1 hR1 hP hD hS (lv_sub hl [1, 2, 3, 4, 5, 6] rfl)
