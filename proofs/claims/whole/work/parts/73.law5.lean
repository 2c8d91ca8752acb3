/-! the law: cases 14 to 19 -/
set_option maxHeartbeats 4000000 in
set_option maxRecDepth 100000 in
theorem law_case_14 {p : Program} {l : Launch} {e : Env} {s : State} {m : MethodId} {below : List Frame} {meth : Method} {c : Code} {b L : Nat} {xs : Nat → Int32} {D : va_G} {K : Nat → ClassId} {A : Nat → Prop} (hlf : l.stackTraces = false) (hx : p.tables.exec = Jvm.exec) (hb : c.code = cL_law) (hml : c.maxLocals = 9) (hown : s.vm.findClass RL = some m.cls) (hts : ∀ w ∈ TB, w.before #[Value.ref b] s = true) (hX : va_X b L xs s s.heap) (hbl : b < s.heap.size) (hbA : ¬ A b) (hA : ∀ q, s.heap.size ≤ q → A q) (hK : va_K D vwCl (TY5 K) s) (hTX : TX A s.heap s) (hCL : CL s) (hL : L ≤ 3072) {ad q q1 q2 g r r2 mm : Nat → Nat} {oa ob k : Nat} {v : CV} {i : CI} {w0 : MS} {fo : Nat → Int64} {fd : Nat → UInt64} {H : Heap} {locs : List Loc} {ls : Array Slot} (hk : 6 * k + 6 ≤ L) (hI : IV v) (hJ : II v.1 i) (hR : RM v w0) (hP : va_P D vwCl (([(oa, .inl (K 1, 1, .inr (.inl fo)))] ++ ([(ob, .inl (K 4, 1, .inr (.inr (.inr (.inl fd)))))] ++ (WX K ad q q1 q2 g r r2 v i))) ++ (WMu K mm w0)) H) (hD : va_D A (([(oa, .inl (K 1, 1, .inr (.inl fo)))] ++ ([(ob, .inl (K 4, 1, .inr (.inr (.inr (.inl fd)))))] ++ (WX K ad q q1 q2 g r r2 v i))) ++ (WMu K mm w0))) (hS : va_S A s.heap H locs) (hl : lv_has ls 9 [(5, .int (nI (6 * k))), (0, .ref b), (1, .ref (ad 0)), (2, .ref (mm 0)), (3, .ref oa), (4, .ref ob)]) (N : LNX p l e s m below meth c b D K A ad q q1 q2 g r r2 mm oa ob k) : W p l e room_1 s m #[Value.ref b] below meth c H locs (100 + k) (2000 + 6 * k) (lw_Z below #[Value.ref b] s) (F0 m 876 ls []) := by
  have hK4 := hK.sub (tys' := TY K) [0, 1, 2, 3] rfl
  refine lv_aload_n hx hb dL_law_876 rfl (lv_at hl 2 rfl) ?_
  refine lv_aload hx hb dL_law_877 (lv_at hl 5 rfl) ?_
  have hPc := bP0 hP
  have hDc := bD0 hD
  have hFc := bF0 hD hS hA
  refine va_calli (vx_runSW (As := [.ref (ad 0), .ref ob]) (rest := []) ⟨hx, hb, hml, hown, hts⟩ (c_L_ratioAsFloat l hlf D K oa ob fo fd ad q q1 q2 g r r2 v i  H.size hI hJ) (vx_cwSW 2 hts (TB_SW k_m_L_154 k_st_L_ratioAsFloat k_in_L k_co_L_ratioAsFloat (fun _ h => h)) rfl rfl rfl (by decide +kernel) ⟨Nat.le_of_ble_eq_true rfl, Nat.le_of_ble_eq_true rfl⟩) ⟨cPL_blind, cPL_of hPc hK hDc hTX hCL hS hFc⟩ rfl rfl hl.1 rfl (lv_room (Nat.le_of_ble_eq_true rfl)) dL_law_879 ⟨(show 100 + k + 1 ≤ 601024 by omega), (show 2000 + 6 * k + 6 ≤ 7293034 by omega)⟩) hS (fun q _ h => hFc q h) hFc (fun kz u9 t9 H locs ht9 hvm hw hB hz1 hk1 hS => ?_)
  obtain ⟨v1, i1, fo1, fd1⟩ := u9
  obtain ⟨hP1, hK1, hD1⟩ := hB
  rw [ht9] at hP1
  obtain ⟨hP, hD⟩ := bJ0 hP hD hk1 hFc hP1 hD1
  have hP : va_P D vwCl (([(oa, .inl (K 1, 1, .inr (.inl fo1)))] ++ ([(ob, .inl (K 4, 1, .inr (.inr (.inr (.inl fd1)))))] ++ (WX K ad q q1 q2 g r r2 v1 i1))) ++ (WMu K mm w0)) H := hP
  have hD : va_D A (([(oa, .inl (K 1, 1, .inr (.inl fo1)))] ++ ([(ob, .inl (K 4, 1, .inr (.inr (.inr (.inl fd1)))))] ++ (WX K ad q q1 q2 g r r2 v1 i1))) ++ (WMu K mm w0)) := hD
  obtain ⟨hkz, hr3, hI1, hJ1, hh0, hh1⟩ := hw
  dsimp only at hI1 hJ1 hh0 hh1
  refine t_i (show kz = nI (rs_raf v.1).1 from hkz) ?_
  refine lv_istore (lv' := [(6, .int (nI ((rs_raf v.1).1))), (5, .int (nI (6 * k))), (0, .ref b), (1, .ref (ad 0)), (2, .ref (mm 0)), (3, .ref oa), (4, .ref ob)]) hx hb dL_law_882 hl (by decide) rfl (fun ls hl => ?_)
  refine lv_aload_n hx hb dL_law_884 rfl (lv_at hl 4 rfl) ?_
  have hPc := bP1e hP
  have hDc := bD1e hD
  have hFc := bF1e hD hS hA
  refine va_callf (va_runV (As := []) (rest := []) ⟨hx, hb, hml, hown, hts⟩ (c_X7_ratioAsFloat l D K mm v w0  H.size hI hR) (cwV 0 hts (TB_V k_m_L_157 k_im_X7_ratioAsFloat k_se_X7_ratioAsFloat k_in_X7 k_co_X7_ratioAsFloat (fun _ h => h)) rfl rfl rfl (by decide +kernel) ⟨Nat.le_of_ble_eq_true rfl, Nat.le_of_ble_eq_true rfl⟩) ⟨cP_blind, va_recv hK4 hPc (ci := 7) (q0 := 0) rfl rfl, cP_of hPc hK4 hDc⟩ rfl rfl hl.1 rfl (lv_room (Nat.le_of_ble_eq_true rfl)) dL_law_885 ⟨(show 100 + k + 1 + 0 ≤ 601024 by omega), (show 2000 + 6 * k + 6 + 0 ≤ 7293034 by omega)⟩) hS (fun q _ h => hFc q h) hFc (fun mz u t9 H locs ht9 hvm hw hB hz1 hk1 hS => ?_)
  obtain ⟨hP1, hK1, hD1⟩ := hB
  rw [ht9] at hP1
  obtain ⟨hP, hD⟩ := bJ1e hP hD hk1 hFc hP1 hD1
  have hP : va_P D vwCl (([(oa, .inl (K 1, 1, .inr (.inl fo1)))] ++ ([(ob, .inl (K 4, 1, .inr (.inr (.inr (.inl fd1)))))] ++ (WX K ad q q1 q2 g r r2 v1 i1))) ++ (WMu K mm u)) H := hP
  have hD : va_D A (([(oa, .inl (K 1, 1, .inr (.inl fo1)))] ++ ([(ob, .inl (K 4, 1, .inr (.inr (.inr (.inl fd1)))))] ++ (WX K ad q q1 q2 g r r2 v1 i1))) ++ (WMu K mm u)) := hD
  obtain ⟨hRu, hth, hzz⟩ := hw
  have hR1 : RM v1 u := by
    by_cases h9 : (rs_raf v.1).1 = 0
    · rw [(hh0 h9).2]; exact hRu
    · rw [hh1 h9]; exact hRu
  refine lv_fstore (lv' := [(7, .float mz), (6, .int (nI ((rs_raf v.1).1))), (5, .int (nI (6 * k))), (0, .ref b), (1, .ref (ad 0)), (2, .ref (mm 0)), (3, .ref oa), (4, .ref ob)]) hx hb dL_law_888 hl (by decide) rfl (fun ls hl => ?_)
  refine lv_aload_n hx hb dL_law_890 rfl (lv_at hl 5 rfl) ?_
  have hPc := bP1e hP
  have hDc := bD1e hD
  refine va_calli (va_runV (As := []) (rest := []) ⟨hx, hb, hml, hown, hts⟩ (c_X7_thrown l D K mm u.1 u.2.1 u.2.2.1 u.2.2.2.1 u.2.2.2.2.1 u.2.2.2.2.2.1 u.2.2.2.2.2.2.1 u.2.2.2.2.2.2.2.1 u.2.2.2.2.2.2.2.2.1 u.2.2.2.2.2.2.2.2.2.1 u.2.2.2.2.2.2.2.2.2.2.1 u.2.2.2.2.2.2.2.2.2.2.2.1 u.2.2.2.2.2.2.2.2.2.2.2.2.1 u.2.2.2.2.2.2.2.2.2.2.2.2.2.1 u.2.2.2.2.2.2.2.2.2.2.2.2.2.2.1 u.2.2.2.2.2.2.2.2.2.2.2.2.2.2.2.1 u.2.2.2.2.2.2.2.2.2.2.2.2.2.2.2.2 H.size) (cwV 0 hts (TB_V k_m_L_105 k_im_X7_thrown k_se_X7_thrown k_in_X7 k_co_X7_thrown (fun _ h => h)) rfl rfl rfl (by decide +kernel) ⟨Nat.le_of_ble_eq_true rfl, Nat.le_of_ble_eq_true rfl⟩) ⟨cP_blind, va_recv hK4 hPc (ci := 7) (q0 := 0) rfl rfl, cP_of hPc hK4 hDc⟩ rfl rfl hl.1 rfl (lv_room (Nat.le_of_ble_eq_true rfl)) dL_law_891 ⟨(show 100 + k + 1 + 0 + 0 ≤ 601024 by omega), (show 2000 + 6 * k + 6 + 0 + 0 ≤ 7293034 by omega)⟩) hS (fun q _ h => absurd h id) (fun q h => absurd h id) (fun tz u9 t9 H locs ht9 hvm hw hB hz1 hk1 hS => ?_)
  have hP := P_same hP hk1
  have hth2 : tz = nI (rs_raf v.1).1 := hw.trans hth
  refine t_i hth2 ?_
  refine lv_iload hx hb dL_law_894 (lv_at hl 1 rfl) ?_
  refine b_icmp_eq hx hb (nI_toIntI (by omega)) (nI_toIntI (by omega)) dL_law_896 (tgt := 901) (by decide) (fun c896 => ?_) (fun c896 => absurd c896 (fun q9 => q9 rfl))
  refine lv_iload hx hb dL_law_901 (lv_at hl 1 rfl) ?_
  refine b_if_ne hx hb (nI_toIntI (by omega)) dL_law_903 (tgt := 939) (by decide) (fun c903 => ?_) (fun c903 => ?_)
  · refine lv_goto (tgt := 1641) hx hb dL_law_939 (by decide) ?_
    exact N v1 i1 u fo1 fd1 _ _ _ hI1 hJ1 hR1 hP hD hS (lv_sub hl [2, 3, 4, 5, 6, 7] rfl)
  have h9 : (rs_raf v.1).1 = 0 := by omega
  refine lv_aload hx hb dL_law_906 (lv_at hl 7 rfl) ?_
  refine lv_iconst (v := nI 0) hx hb dL_law_908 (by decide) ?_
  refine n_dald hx hb hK hP 1 4 rfl rfl (i := 0) (n := 1) (by decide) (by decide) dL_law_909 ?_
  refine lv_fload hx hb dL_law_910 (lv_at hl 0 rfl) ?_
  refine lv_f2d hx hb dL_law_912 (f2d_n64 (hzz h9).1) ?_
  refine lv_dcmp hx hb dL_law_913 ?_
  have hfl : Op.cmpValue (FP.dcmp (fd1 0) (FP.f2d mz)) .l = nI 0 := by rw [(hh0 h9).1.2, ← (hzz h9).2, f2d_self (hzz h9).1]; rfl
  refine t_i hfl ?_
  refine b_if_eq hx hb (nI_toIntI (by omega)) dL_law_914 (tgt := 939) (by decide) (fun c914 => ?_) (fun c914 => absurd c914 (by omega))
  refine lv_goto (tgt := 1641) hx hb dL_law_939 (by decide) ?_
  exact N v1 i1 u fo1 fd1 _ _ _ hI1 hJ1 hR1 hP hD hS (lv_sub hl [2, 3, 4, 5, 6, 7] rfl)
set_option maxHeartbeats 4000000 in
set_option maxRecDepth 100000 in
theorem law_case_15 {p : Program} {l : Launch} {e : Env} {s : State} {m : MethodId} {below : List Frame} {meth : Method} {c : Code} {b L : Nat} {xs : Nat → Int32} {D : va_G} {K : Nat → ClassId} {A : Nat → Prop} (hlf : l.stackTraces = false) (hx : p.tables.exec = Jvm.exec) (hb : c.code = cL_law) (hml : c.maxLocals = 9) (hown : s.vm.findClass RL = some m.cls) (hts : ∀ w ∈ TB, w.before #[Value.ref b] s = true) (hX : va_X b L xs s s.heap) (hbl : b < s.heap.size) (hbA : ¬ A b) (hA : ∀ q, s.heap.size ≤ q → A q) (hK : va_K D vwCl (TY5 K) s) (hTX : TX A s.heap s) (hCL : CL s) (hL : L ≤ 3072) {ad q q1 q2 g r r2 mm : Nat → Nat} {oa ob k : Nat} {v : CV} {i : CI} {w0 : MS} {fo : Nat → Int64} {fd : Nat → UInt64} {H : Heap} {locs : List Loc} {ls : Array Slot} (hk : 6 * k + 6 ≤ L) (hI : IV v) (hJ : II v.1 i) (hR : RM v w0) (hP : va_P D vwCl (([(oa, .inl (K 1, 1, .inr (.inl fo)))] ++ ([(ob, .inl (K 4, 1, .inr (.inr (.inr (.inl fd)))))] ++ (WX K ad q q1 q2 g r r2 v i))) ++ (WMu K mm w0)) H) (hD : va_D A (([(oa, .inl (K 1, 1, .inr (.inl fo)))] ++ ([(ob, .inl (K 4, 1, .inr (.inr (.inr (.inl fd)))))] ++ (WX K ad q q1 q2 g r r2 v i))) ++ (WMu K mm w0))) (hS : va_S A s.heap H locs) (hl : lv_has ls 9 [(5, .int (nI (6 * k))), (0, .ref b), (1, .ref (ad 0)), (2, .ref (mm 0)), (3, .ref oa), (4, .ref ob)]) (N : LNX p l e s m below meth c b D K A ad q q1 q2 g r r2 mm oa ob k) : W p l e room_1 s m #[Value.ref b] below meth c H locs (100 + k) (2000 + 6 * k) (lw_Z below #[Value.ref b] s) (F0 m 942 ls []) := by
  have hK4 := hK.sub (tys' := TY K) [0, 1, 2, 3] rfl
  refine lv_aload_n hx hb dL_law_942 rfl (lv_at hl 2 rfl) ?_
  refine lv_aload_n hx hb dL_law_943 rfl (lv_at hl 1 rfl) ?_
  refine lv_iload hx hb dL_law_944 (lv_at hl 0 rfl) ?_
  refine lv_iconst (v := nI 1) hx hb dL_law_946 (by decide) ?_
  refine lv_iadd hx hb dL_law_947 ?_
  refine t_i (nI_add _ _) ?_
  refine n_sld hx hb hX hbl hbA hS (i := 6 * k + 1) (by omega) (by omega) dL_law_948 ?_
  refine lv_aload_n hx hb dL_law_949 rfl (lv_at hl 4 rfl) ?_
  have hPc := bP0 hP
  have hDc := bD0 hD
  have hFc := bF0 hD hS hA
  refine va_calli (vx_runSW (As := [.ref (ad 0), .int (xs (6 * k + 1)), .ref oa]) (rest := []) ⟨hx, hb, hml, hown, hts⟩ (c_L_outputTorque l hlf D K oa ob fo fd ad q q1 q2 g r r2 v i (xs (6 * k + 1)) H.size hI hJ) (vx_cwSW 3 hts (TB_SW k_m_L_158 k_st_L_outputTorque k_in_L k_co_L_outputTorque (fun _ h => h)) rfl rfl rfl (by decide +kernel) ⟨Nat.le_of_ble_eq_true rfl, Nat.le_of_ble_eq_true rfl⟩) ⟨cPL_blind, cPL_of hPc hK hDc hTX hCL hS hFc⟩ rfl rfl hl.1 rfl (lv_room (Nat.le_of_ble_eq_true rfl)) dL_law_950 ⟨(show 100 + k + 1 ≤ 601024 by omega), (show 2000 + 6 * k + 6 ≤ 7293034 by omega)⟩) hS (fun q _ h => hFc q h) hFc (fun kz u9 t9 H locs ht9 hvm hw hB hz1 hk1 hS => ?_)
  obtain ⟨v1, i1, fo1, fd1⟩ := u9
  obtain ⟨hP1, hK1, hD1⟩ := hB
  rw [ht9] at hP1
  obtain ⟨hP, hD⟩ := bJ0 hP hD hk1 hFc hP1 hD1
  have hP : va_P D vwCl (([(oa, .inl (K 1, 1, .inr (.inl fo1)))] ++ ([(ob, .inl (K 4, 1, .inr (.inr (.inr (.inl fd1)))))] ++ (WX K ad q q1 q2 g r r2 v1 i1))) ++ (WMu K mm w0)) H := hP
  have hD : va_D A (([(oa, .inl (K 1, 1, .inr (.inl fo1)))] ++ ([(ob, .inl (K 4, 1, .inr (.inr (.inr (.inl fd1)))))] ++ (WX K ad q q1 q2 g r r2 v1 i1))) ++ (WMu K mm w0)) := hD
  obtain ⟨hkz, hr3, hI1, hJ1, hh0, hh1⟩ := hw
  dsimp only at hI1 hJ1 hh0 hh1
  refine t_i (show kz = nI (rs_outputTorque v.1 (xs (6 * k + 1))).1 from hkz) ?_
  refine lv_istore (lv' := [(6, .int (nI ((rs_outputTorque v.1 (xs (6 * k + 1))).1))), (5, .int (nI (6 * k))), (0, .ref b), (1, .ref (ad 0)), (2, .ref (mm 0)), (3, .ref oa), (4, .ref ob)]) hx hb dL_law_953 hl (by decide) rfl (fun ls hl => ?_)
  refine lv_aload_n hx hb dL_law_955 rfl (lv_at hl 4 rfl) ?_
  refine lv_aload_n hx hb dL_law_956 rfl (lv_at hl 2 rfl) ?_
  refine lv_iload hx hb dL_law_957 (lv_at hl 1 rfl) ?_
  refine lv_iconst (v := nI 1) hx hb dL_law_959 (by decide) ?_
  refine lv_iadd hx hb dL_law_960 ?_
  refine t_i (nI_add _ _) ?_
  refine n_sld hx hb hX hbl hbA hS (i := 6 * k + 1) (by omega) (by omega) dL_law_961 ?_
  have hPc := bP1e hP
  have hDc := bD1e hD
  have hFc := bF1e hD hS hA
  refine va_calll (va_runV (As := [.int (xs (6 * k + 1))]) (rest := []) ⟨hx, hb, hml, hown, hts⟩ (c_X7_outputTorque l D K mm v w0 (xs (6 * k + 1)) H.size hI hR) (cwV 1 hts (TB_V k_m_L_160 k_im_X7_outputTorque k_se_X7_outputTorque k_in_X7 k_co_X7_outputTorque (fun _ h => h)) rfl rfl rfl (by decide +kernel) ⟨Nat.le_of_ble_eq_true rfl, Nat.le_of_ble_eq_true rfl⟩) ⟨cP_blind, va_recv hK4 hPc (ci := 7) (q0 := 0) rfl rfl, cP_of hPc hK4 hDc⟩ rfl rfl hl.1 rfl (lv_room (Nat.le_of_ble_eq_true rfl)) dL_law_962 ⟨(show 100 + k + 1 + 0 ≤ 601024 by omega), (show 2000 + 6 * k + 6 + 0 ≤ 7293034 by omega)⟩) hS (fun q _ h => hFc q h) hFc (fun mz u t9 H locs ht9 hvm hw hB hz1 hk1 hS => ?_)
  obtain ⟨hP1, hK1, hD1⟩ := hB
  rw [ht9] at hP1
  obtain ⟨hP, hD⟩ := bJ1e hP hD hk1 hFc hP1 hD1
  have hP : va_P D vwCl (([(oa, .inl (K 1, 1, .inr (.inl fo1)))] ++ ([(ob, .inl (K 4, 1, .inr (.inr (.inr (.inl fd1)))))] ++ (WX K ad q q1 q2 g r r2 v1 i1))) ++ (WMu K mm u)) H := hP
  have hD : va_D A (([(oa, .inl (K 1, 1, .inr (.inl fo1)))] ++ ([(ob, .inl (K 4, 1, .inr (.inr (.inr (.inl fd1)))))] ++ (WX K ad q q1 q2 g r r2 v1 i1))) ++ (WMu K mm u)) := hD
  obtain ⟨hRu, hth, hzz⟩ := hw
  have hR1 : RM v1 u := by
    by_cases h9 : (rs_outputTorque v.1 (xs (6 * k + 1))).1 = 0
    · rw [(hh0 h9).2]; exact hRu
    · rw [hh1 h9]; exact hRu
  refine lv_lstore (lv' := [(7, .long mz), (6, .int (nI ((rs_outputTorque v.1 (xs (6 * k + 1))).1))), (5, .int (nI (6 * k))), (0, .ref b), (1, .ref (ad 0)), (2, .ref (mm 0)), (3, .ref oa), (4, .ref ob)]) hx hb dL_law_965 hl (by decide) rfl (fun ls hl => ?_)
  refine lv_aload_n hx hb dL_law_967 rfl (lv_at hl 5 rfl) ?_
  have hPc := bP1e hP
  have hDc := bD1e hD
  refine va_calli (va_runV (As := []) (rest := []) ⟨hx, hb, hml, hown, hts⟩ (c_X7_thrown l D K mm u.1 u.2.1 u.2.2.1 u.2.2.2.1 u.2.2.2.2.1 u.2.2.2.2.2.1 u.2.2.2.2.2.2.1 u.2.2.2.2.2.2.2.1 u.2.2.2.2.2.2.2.2.1 u.2.2.2.2.2.2.2.2.2.1 u.2.2.2.2.2.2.2.2.2.2.1 u.2.2.2.2.2.2.2.2.2.2.2.1 u.2.2.2.2.2.2.2.2.2.2.2.2.1 u.2.2.2.2.2.2.2.2.2.2.2.2.2.1 u.2.2.2.2.2.2.2.2.2.2.2.2.2.2.1 u.2.2.2.2.2.2.2.2.2.2.2.2.2.2.2.1 u.2.2.2.2.2.2.2.2.2.2.2.2.2.2.2.2 H.size) (cwV 0 hts (TB_V k_m_L_105 k_im_X7_thrown k_se_X7_thrown k_in_X7 k_co_X7_thrown (fun _ h => h)) rfl rfl rfl (by decide +kernel) ⟨Nat.le_of_ble_eq_true rfl, Nat.le_of_ble_eq_true rfl⟩) ⟨cP_blind, va_recv hK4 hPc (ci := 7) (q0 := 0) rfl rfl, cP_of hPc hK4 hDc⟩ rfl rfl hl.1 rfl (lv_room (Nat.le_of_ble_eq_true rfl)) dL_law_968 ⟨(show 100 + k + 1 + 0 + 0 ≤ 601024 by omega), (show 2000 + 6 * k + 6 + 0 + 0 ≤ 7293034 by omega)⟩) hS (fun q _ h => absurd h id) (fun q h => absurd h id) (fun tz u9 t9 H locs ht9 hvm hw hB hz1 hk1 hS => ?_)
  have hP := P_same hP hk1
  have hth2 : tz = nI (rs_outputTorque v.1 (xs (6 * k + 1))).1 := hw.trans hth
  refine t_i hth2 ?_
  refine lv_iload hx hb dL_law_971 (lv_at hl 1 rfl) ?_
  refine b_icmp_eq hx hb (nI_toIntI (by omega)) (nI_toIntI (by omega)) dL_law_973 (tgt := 978) (by decide) (fun c973 => ?_) (fun c973 => absurd c973 (fun q9 => q9 rfl))
  refine lv_iload hx hb dL_law_978 (lv_at hl 1 rfl) ?_
  refine b_if_ne hx hb (nI_toIntI (by omega)) dL_law_980 (tgt := 994) (by decide) (fun c980 => ?_) (fun c980 => ?_)
  · refine lv_goto (tgt := 1641) hx hb dL_law_994 (by decide) ?_
    exact N v1 i1 u fo1 fd1 _ _ _ hI1 hJ1 hR1 hP hD hS (lv_sub hl [2, 3, 4, 5, 6, 7] rfl)
  have h9 : (rs_outputTorque v.1 (xs (6 * k + 1))).1 = 0 := by omega
  refine lv_aload_n hx hb dL_law_983 rfl (lv_at hl 6 rfl) ?_
  refine lv_iconst (v := nI 0) hx hb dL_law_984 (by decide) ?_
  refine n_lald hx hb hK hP 0 1 rfl rfl (i := 0) (n := 1) (by decide) (by decide) dL_law_985 ?_
  refine lv_lload hx hb dL_law_986 (lv_at hl 0 rfl) ?_
  refine b_lcmp_eq hx hb rfl rfl dL_law_988 dL_law_989 (tgt := 994) (by decide) (fun c988 => ?_) (fun c988 => absurd c988 (fun q9 => q9 (by rw [(hh0 h9).1]; exact (hzz h9).symm)))
  refine lv_goto (tgt := 1641) hx hb dL_law_994 (by decide) ?_
  exact N v1 i1 u fo1 fd1 _ _ _ hI1 hJ1 hR1 hP hD hS (lv_sub hl [2, 3, 4, 5, 6, 7] rfl)
set_option maxHeartbeats 4000000 in
set_option maxRecDepth 100000 in
theorem law_case_16 {p : Program} {l : Launch} {e : Env} {s : State} {m : MethodId} {below : List Frame} {meth : Method} {c : Code} {b L : Nat} {xs : Nat → Int32} {D : va_G} {K : Nat → ClassId} {A : Nat → Prop} (hlf : l.stackTraces = false) (hx : p.tables.exec = Jvm.exec) (hb : c.code = cL_law) (hml : c.maxLocals = 9) (hown : s.vm.findClass RL = some m.cls) (hts : ∀ w ∈ TB, w.before #[Value.ref b] s = true) (hX : va_X b L xs s s.heap) (hbl : b < s.heap.size) (hbA : ¬ A b) (hA : ∀ q, s.heap.size ≤ q → A q) (hK : va_K D vwCl (TY5 K) s) (hTX : TX A s.heap s) (hCL : CL s) (hL : L ≤ 3072) {ad q q1 q2 g r r2 mm : Nat → Nat} {oa ob k : Nat} {v : CV} {i : CI} {w0 : MS} {fo : Nat → Int64} {fd : Nat → UInt64} {H : Heap} {locs : List Loc} {ls : Array Slot} (hk : 6 * k + 6 ≤ L) (hI : IV v) (hJ : II v.1 i) (hR : RM v w0) (hP : va_P D vwCl (([(oa, .inl (K 1, 1, .inr (.inl fo)))] ++ ([(ob, .inl (K 4, 1, .inr (.inr (.inr (.inl fd)))))] ++ (WX K ad q q1 q2 g r r2 v i))) ++ (WMu K mm w0)) H) (hD : va_D A (([(oa, .inl (K 1, 1, .inr (.inl fo)))] ++ ([(ob, .inl (K 4, 1, .inr (.inr (.inr (.inl fd)))))] ++ (WX K ad q q1 q2 g r r2 v i))) ++ (WMu K mm w0))) (hS : va_S A s.heap H locs) (hl : lv_has ls 9 [(5, .int (nI (6 * k))), (0, .ref b), (1, .ref (ad 0)), (2, .ref (mm 0)), (3, .ref oa), (4, .ref ob)]) (N : LNX p l e s m below meth c b D K A ad q q1 q2 g r r2 mm oa ob k) : W p l e room_1 s m #[Value.ref b] below meth c H locs (100 + k) (2000 + 6 * k) (lw_Z below #[Value.ref b] s) (F0 m 997 ls []) := by
  have hK4 := hK.sub (tys' := TY K) [0, 1, 2, 3] rfl
  refine lv_aload_n hx hb dL_law_997 rfl (lv_at hl 2 rfl) ?_
  refine lv_aload_n hx hb dL_law_998 rfl (lv_at hl 1 rfl) ?_
  refine lv_iload hx hb dL_law_999 (lv_at hl 0 rfl) ?_
  refine lv_iconst (v := nI 1) hx hb dL_law_1001 (by decide) ?_
  refine lv_iadd hx hb dL_law_1002 ?_
  refine t_i (nI_add _ _) ?_
  refine n_sld hx hb hX hbl hbA hS (i := 6 * k + 1) (by omega) (by omega) dL_law_1003 ?_
  refine lv_aload_n hx hb dL_law_1004 rfl (lv_at hl 1 rfl) ?_
  refine lv_iload hx hb dL_law_1005 (lv_at hl 0 rfl) ?_
  refine lv_iconst (v := nI 2) hx hb dL_law_1007 (by decide) ?_
  refine lv_iadd hx hb dL_law_1008 ?_
  refine t_i (nI_add _ _) ?_
  refine n_sld hx hb hX hbl hbA hS (i := 6 * k + 2) (by omega) (by omega) dL_law_1009 ?_
  refine lv_aload_n hx hb dL_law_1010 rfl (lv_at hl 4 rfl) ?_
  have hPc := bP0 hP
  have hDc := bD0 hD
  have hFc := bF0 hD hS hA
  refine va_calli (vx_runSW (As := [.ref (ad 0), .int (xs (6 * k + 1)), .int (xs (6 * k + 2)), .ref oa]) (rest := []) ⟨hx, hb, hml, hown, hts⟩ (c_L_torque l hlf D K oa ob fo fd ad q q1 q2 g r r2 v i (xs (6 * k + 1)) (xs (6 * k + 2)) H.size hI hJ) (vx_cwSW 4 hts (TB_SW k_m_L_161 k_st_L_torque k_in_L k_co_L_torque (fun _ h => h)) rfl rfl rfl (by decide +kernel) ⟨Nat.le_of_ble_eq_true rfl, Nat.le_of_ble_eq_true rfl⟩) ⟨cPL_blind, cPL_of hPc hK hDc hTX hCL hS hFc⟩ rfl rfl hl.1 rfl (lv_room (Nat.le_of_ble_eq_true rfl)) dL_law_1011 ⟨(show 100 + k + 1 ≤ 601024 by omega), (show 2000 + 6 * k + 6 ≤ 7293034 by omega)⟩) hS (fun q _ h => hFc q h) hFc (fun kz u9 t9 H locs ht9 hvm hw hB hz1 hk1 hS => ?_)
  obtain ⟨v1, i1, fo1, fd1⟩ := u9
  obtain ⟨hP1, hK1, hD1⟩ := hB
  rw [ht9] at hP1
  obtain ⟨hP, hD⟩ := bJ0 hP hD hk1 hFc hP1 hD1
  have hP : va_P D vwCl (([(oa, .inl (K 1, 1, .inr (.inl fo1)))] ++ ([(ob, .inl (K 4, 1, .inr (.inr (.inr (.inl fd1)))))] ++ (WX K ad q q1 q2 g r r2 v1 i1))) ++ (WMu K mm w0)) H := hP
  have hD : va_D A (([(oa, .inl (K 1, 1, .inr (.inl fo1)))] ++ ([(ob, .inl (K 4, 1, .inr (.inr (.inr (.inl fd1)))))] ++ (WX K ad q q1 q2 g r r2 v1 i1))) ++ (WMu K mm w0)) := hD
  obtain ⟨hkz, hr3, hI1, hJ1, hh0, hh1⟩ := hw
  dsimp only at hI1 hJ1 hh0 hh1
  refine t_i (show kz = nI (rs_torque v.1 (xs (6 * k + 1)) (xs (6 * k + 2))).1 from hkz) ?_
  refine lv_istore (lv' := [(6, .int (nI ((rs_torque v.1 (xs (6 * k + 1)) (xs (6 * k + 2))).1))), (5, .int (nI (6 * k))), (0, .ref b), (1, .ref (ad 0)), (2, .ref (mm 0)), (3, .ref oa), (4, .ref ob)]) hx hb dL_law_1014 hl (by decide) rfl (fun ls hl => ?_)
  refine lv_aload_n hx hb dL_law_1016 rfl (lv_at hl 4 rfl) ?_
  refine lv_aload_n hx hb dL_law_1017 rfl (lv_at hl 2 rfl) ?_
  refine lv_iload hx hb dL_law_1018 (lv_at hl 1 rfl) ?_
  refine lv_iconst (v := nI 1) hx hb dL_law_1020 (by decide) ?_
  refine lv_iadd hx hb dL_law_1021 ?_
  refine t_i (nI_add _ _) ?_
  refine n_sld hx hb hX hbl hbA hS (i := 6 * k + 1) (by omega) (by omega) dL_law_1022 ?_
  refine lv_aload_n hx hb dL_law_1023 rfl (lv_at hl 2 rfl) ?_
  refine lv_iload hx hb dL_law_1024 (lv_at hl 1 rfl) ?_
  refine lv_iconst (v := nI 2) hx hb dL_law_1026 (by decide) ?_
  refine lv_iadd hx hb dL_law_1027 ?_
  refine t_i (nI_add _ _) ?_
  refine n_sld hx hb hX hbl hbA hS (i := 6 * k + 2) (by omega) (by omega) dL_law_1028 ?_
  have hPc := bP1e hP
  have hDc := bD1e hD
  have hFc := bF1e hD hS hA
  refine va_calll (va_runV (As := [.int (xs (6 * k + 1)), .int (xs (6 * k + 2))]) (rest := []) ⟨hx, hb, hml, hown, hts⟩ (c_X7_torque l D K mm v w0 (xs (6 * k + 1)) (xs (6 * k + 2)) H.size hI hR) (cwV 2 hts (TB_V k_m_L_163 k_im_X7_torque k_se_X7_torque k_in_X7 k_co_X7_torque (fun _ h => h)) rfl rfl rfl (by decide +kernel) ⟨Nat.le_of_ble_eq_true rfl, Nat.le_of_ble_eq_true rfl⟩) ⟨cP_blind, va_recv hK4 hPc (ci := 7) (q0 := 0) rfl rfl, cP_of hPc hK4 hDc⟩ rfl rfl hl.1 rfl (lv_room (Nat.le_of_ble_eq_true rfl)) dL_law_1029 ⟨(show 100 + k + 1 + 0 ≤ 601024 by omega), (show 2000 + 6 * k + 6 + 0 ≤ 7293034 by omega)⟩) hS (fun q _ h => hFc q h) hFc (fun mz u t9 H locs ht9 hvm hw hB hz1 hk1 hS => ?_)
  obtain ⟨hP1, hK1, hD1⟩ := hB
  rw [ht9] at hP1
  obtain ⟨hP, hD⟩ := bJ1e hP hD hk1 hFc hP1 hD1
  have hP : va_P D vwCl (([(oa, .inl (K 1, 1, .inr (.inl fo1)))] ++ ([(ob, .inl (K 4, 1, .inr (.inr (.inr (.inl fd1)))))] ++ (WX K ad q q1 q2 g r r2 v1 i1))) ++ (WMu K mm u)) H := hP
  have hD : va_D A (([(oa, .inl (K 1, 1, .inr (.inl fo1)))] ++ ([(ob, .inl (K 4, 1, .inr (.inr (.inr (.inl fd1)))))] ++ (WX K ad q q1 q2 g r r2 v1 i1))) ++ (WMu K mm u)) := hD
  obtain ⟨hRu, hth, hzz⟩ := hw
  have hR1 : RM v1 u := by
    by_cases h9 : (rs_torque v.1 (xs (6 * k + 1)) (xs (6 * k + 2))).1 = 0
    · rw [(hh0 h9).2]; exact hRu
    · rw [hh1 h9]; exact hRu
  refine lv_lstore (lv' := [(7, .long mz), (6, .int (nI ((rs_torque v.1 (xs (6 * k + 1)) (xs (6 * k + 2))).1))), (5, .int (nI (6 * k))), (0, .ref b), (1, .ref (ad 0)), (2, .ref (mm 0)), (3, .ref oa), (4, .ref ob)]) hx hb dL_law_1032 hl (by decide) rfl (fun ls hl => ?_)
  refine lv_aload_n hx hb dL_law_1034 rfl (lv_at hl 5 rfl) ?_
  have hPc := bP1e hP
  have hDc := bD1e hD
  refine va_calli (va_runV (As := []) (rest := []) ⟨hx, hb, hml, hown, hts⟩ (c_X7_thrown l D K mm u.1 u.2.1 u.2.2.1 u.2.2.2.1 u.2.2.2.2.1 u.2.2.2.2.2.1 u.2.2.2.2.2.2.1 u.2.2.2.2.2.2.2.1 u.2.2.2.2.2.2.2.2.1 u.2.2.2.2.2.2.2.2.2.1 u.2.2.2.2.2.2.2.2.2.2.1 u.2.2.2.2.2.2.2.2.2.2.2.1 u.2.2.2.2.2.2.2.2.2.2.2.2.1 u.2.2.2.2.2.2.2.2.2.2.2.2.2.1 u.2.2.2.2.2.2.2.2.2.2.2.2.2.2.1 u.2.2.2.2.2.2.2.2.2.2.2.2.2.2.2.1 u.2.2.2.2.2.2.2.2.2.2.2.2.2.2.2.2 H.size) (cwV 0 hts (TB_V k_m_L_105 k_im_X7_thrown k_se_X7_thrown k_in_X7 k_co_X7_thrown (fun _ h => h)) rfl rfl rfl (by decide +kernel) ⟨Nat.le_of_ble_eq_true rfl, Nat.le_of_ble_eq_true rfl⟩) ⟨cP_blind, va_recv hK4 hPc (ci := 7) (q0 := 0) rfl rfl, cP_of hPc hK4 hDc⟩ rfl rfl hl.1 rfl (lv_room (Nat.le_of_ble_eq_true rfl)) dL_law_1035 ⟨(show 100 + k + 1 + 0 + 0 ≤ 601024 by omega), (show 2000 + 6 * k + 6 + 0 + 0 ≤ 7293034 by omega)⟩) hS (fun q _ h => absurd h id) (fun q h => absurd h id) (fun tz u9 t9 H locs ht9 hvm hw hB hz1 hk1 hS => ?_)
  have hP := P_same hP hk1
  have hth2 : tz = nI (rs_torque v.1 (xs (6 * k + 1)) (xs (6 * k + 2))).1 := hw.trans hth
  refine t_i hth2 ?_
  refine lv_iload hx hb dL_law_1038 (lv_at hl 1 rfl) ?_
  refine b_icmp_eq hx hb (nI_toIntI (by omega)) (nI_toIntI (by omega)) dL_law_1040 (tgt := 1045) (by decide) (fun c1040 => ?_) (fun c1040 => absurd c1040 (fun q9 => q9 rfl))
  refine lv_iload hx hb dL_law_1045 (lv_at hl 1 rfl) ?_
  refine b_if_ne hx hb (nI_toIntI (by omega)) dL_law_1047 (tgt := 1061) (by decide) (fun c1047 => ?_) (fun c1047 => ?_)
  · refine lv_goto (tgt := 1641) hx hb dL_law_1061 (by decide) ?_
    exact N v1 i1 u fo1 fd1 _ _ _ hI1 hJ1 hR1 hP hD hS (lv_sub hl [2, 3, 4, 5, 6, 7] rfl)
  have h9 : (rs_torque v.1 (xs (6 * k + 1)) (xs (6 * k + 2))).1 = 0 := by omega
  refine lv_aload_n hx hb dL_law_1050 rfl (lv_at hl 6 rfl) ?_
  refine lv_iconst (v := nI 0) hx hb dL_law_1051 (by decide) ?_
  refine n_lald hx hb hK hP 0 1 rfl rfl (i := 0) (n := 1) (by decide) (by decide) dL_law_1052 ?_
  refine lv_lload hx hb dL_law_1053 (lv_at hl 0 rfl) ?_
  refine b_lcmp_eq hx hb rfl rfl dL_law_1055 dL_law_1056 (tgt := 1061) (by decide) (fun c1055 => ?_) (fun c1055 => absurd c1055 (fun q9 => q9 (by rw [(hh0 h9).1]; exact (hzz h9).symm)))
  refine lv_goto (tgt := 1641) hx hb dL_law_1061 (by decide) ?_
  exact N v1 i1 u fo1 fd1 _ _ _ hI1 hJ1 hR1 hP hD hS (lv_sub hl [2, 3, 4, 5, 6, 7] rfl)
set_option maxHeartbeats 4000000 in
set_option maxRecDepth 100000 in
theorem law_case_17 {p : Program} {l : Launch} {e : Env} {s : State} {m : MethodId} {below : List Frame} {meth : Method} {c : Code} {b L : Nat} {xs : Nat → Int32} {D : va_G} {K : Nat → ClassId} {A : Nat → Prop} (hlf : l.stackTraces = false) (hx : p.tables.exec = Jvm.exec) (hb : c.code = cL_law) (hml : c.maxLocals = 9) (hown : s.vm.findClass RL = some m.cls) (hts : ∀ w ∈ TB, w.before #[Value.ref b] s = true) (hX : va_X b L xs s s.heap) (hbl : b < s.heap.size) (hbA : ¬ A b) (hA : ∀ q, s.heap.size ≤ q → A q) (hK : va_K D vwCl (TY5 K) s) (hTX : TX A s.heap s) (hCL : CL s) (hL : L ≤ 3072) {ad q q1 q2 g r r2 mm : Nat → Nat} {oa ob k : Nat} {v : CV} {i : CI} {w0 : MS} {fo : Nat → Int64} {fd : Nat → UInt64} {H : Heap} {locs : List Loc} {ls : Array Slot} (hk : 6 * k + 6 ≤ L) (hI : IV v) (hJ : II v.1 i) (hR : RM v w0) (hP : va_P D vwCl (([(oa, .inl (K 1, 1, .inr (.inl fo)))] ++ ([(ob, .inl (K 4, 1, .inr (.inr (.inr (.inl fd)))))] ++ (WX K ad q q1 q2 g r r2 v i))) ++ (WMu K mm w0)) H) (hD : va_D A (([(oa, .inl (K 1, 1, .inr (.inl fo)))] ++ ([(ob, .inl (K 4, 1, .inr (.inr (.inr (.inl fd)))))] ++ (WX K ad q q1 q2 g r r2 v i))) ++ (WMu K mm w0))) (hS : va_S A s.heap H locs) (hl : lv_has ls 9 [(5, .int (nI (6 * k))), (0, .ref b), (1, .ref (ad 0)), (2, .ref (mm 0)), (3, .ref oa), (4, .ref ob)]) (N : LNX p l e s m below meth c b D K A ad q q1 q2 g r r2 mm oa ob k) : W p l e room_1 s m #[Value.ref b] below meth c H locs (100 + k) (2000 + 6 * k) (lw_Z below #[Value.ref b] s) (F0 m 1064 ls []) := by
  have hK4 := hK.sub (tys' := TY K) [0, 1, 2, 3] rfl
  refine lv_aload_n hx hb dL_law_1064 rfl (lv_at hl 2 rfl) ?_
  refine lv_aload_n hx hb dL_law_1065 rfl (lv_at hl 1 rfl) ?_
  refine lv_iload hx hb dL_law_1066 (lv_at hl 0 rfl) ?_
  refine lv_iconst (v := nI 1) hx hb dL_law_1068 (by decide) ?_
  refine lv_iadd hx hb dL_law_1069 ?_
  refine t_i (nI_add _ _) ?_
  refine n_sld hx hb hX hbl hbA hS (i := 6 * k + 1) (by omega) (by omega) dL_law_1070 ?_
  refine lv_aload_n hx hb dL_law_1071 rfl (lv_at hl 4 rfl) ?_
  have hPc := bP0 hP
  have hDc := bD0 hD
  have hFc := bF0 hD hS hA
  refine va_calli (vx_runSW (As := [.ref (ad 0), .int (xs (6 * k + 1)), .ref oa]) (rest := []) ⟨hx, hb, hml, hown, hts⟩ (c_L_slipping l hlf D K oa ob fo fd ad q q1 q2 g r r2 v i (xs (6 * k + 1)) H.size hI hJ) (vx_cwSW 3 hts (TB_SW k_m_L_164 k_st_L_slipping k_in_L k_co_L_slipping (fun _ h => h)) rfl rfl rfl (by decide +kernel) ⟨Nat.le_of_ble_eq_true rfl, Nat.le_of_ble_eq_true rfl⟩) ⟨cPL_blind, cPL_of hPc hK hDc hTX hCL hS hFc⟩ rfl rfl hl.1 rfl (lv_room (Nat.le_of_ble_eq_true rfl)) dL_law_1072 ⟨(show 100 + k + 1 ≤ 601024 by omega), (show 2000 + 6 * k + 6 ≤ 7293034 by omega)⟩) hS (fun q _ h => hFc q h) hFc (fun kz u9 t9 H locs ht9 hvm hw hB hz1 hk1 hS => ?_)
  obtain ⟨v1, i1, fo1, fd1⟩ := u9
  obtain ⟨hP1, hK1, hD1⟩ := hB
  rw [ht9] at hP1
  obtain ⟨hP, hD⟩ := bJ0 hP hD hk1 hFc hP1 hD1
  have hP : va_P D vwCl (([(oa, .inl (K 1, 1, .inr (.inl fo1)))] ++ ([(ob, .inl (K 4, 1, .inr (.inr (.inr (.inl fd1)))))] ++ (WX K ad q q1 q2 g r r2 v1 i1))) ++ (WMu K mm w0)) H := hP
  have hD : va_D A (([(oa, .inl (K 1, 1, .inr (.inl fo1)))] ++ ([(ob, .inl (K 4, 1, .inr (.inr (.inr (.inl fd1)))))] ++ (WX K ad q q1 q2 g r r2 v1 i1))) ++ (WMu K mm w0)) := hD
  obtain ⟨hkz, hr3, hI1, hJ1, hh0, hh1⟩ := hw
  dsimp only at hI1 hJ1 hh0 hh1
  refine t_i (show kz = nI (rs_slipping v.1 (xs (6 * k + 1))).1 from hkz) ?_
  refine lv_istore (lv' := [(6, .int (nI ((rs_slipping v.1 (xs (6 * k + 1))).1))), (5, .int (nI (6 * k))), (0, .ref b), (1, .ref (ad 0)), (2, .ref (mm 0)), (3, .ref oa), (4, .ref ob)]) hx hb dL_law_1075 hl (by decide) rfl (fun ls hl => ?_)
  refine lv_aload_n hx hb dL_law_1077 rfl (lv_at hl 4 rfl) ?_
  refine lv_aload_n hx hb dL_law_1078 rfl (lv_at hl 2 rfl) ?_
  refine lv_iload hx hb dL_law_1079 (lv_at hl 1 rfl) ?_
  refine lv_iconst (v := nI 1) hx hb dL_law_1081 (by decide) ?_
  refine lv_iadd hx hb dL_law_1082 ?_
  refine t_i (nI_add _ _) ?_
  refine n_sld hx hb hX hbl hbA hS (i := 6 * k + 1) (by omega) (by omega) dL_law_1083 ?_
  have hPc := bP1e hP
  have hDc := bD1e hD
  have hFc := bF1e hD hS hA
  refine va_calli (va_runV (As := [.int (xs (6 * k + 1))]) (rest := []) ⟨hx, hb, hml, hown, hts⟩ (c_X7_slipping l D K mm v w0 (xs (6 * k + 1)) H.size hI hR) (cwV 1 hts (TB_V k_m_L_166 k_im_X7_slipping k_se_X7_slipping k_in_X7 k_co_X7_slipping (fun _ h => h)) rfl rfl rfl (by decide +kernel) ⟨Nat.le_of_ble_eq_true rfl, Nat.le_of_ble_eq_true rfl⟩) ⟨cP_blind, va_recv hK4 hPc (ci := 7) (q0 := 0) rfl rfl, cP_of hPc hK4 hDc⟩ rfl rfl hl.1 rfl (lv_room (Nat.le_of_ble_eq_true rfl)) dL_law_1084 ⟨(show 100 + k + 1 + 0 ≤ 601024 by omega), (show 2000 + 6 * k + 6 + 0 ≤ 7293034 by omega)⟩) hS (fun q _ h => hFc q h) hFc (fun mz u t9 H locs ht9 hvm hw hB hz1 hk1 hS => ?_)
  obtain ⟨hP1, hK1, hD1⟩ := hB
  rw [ht9] at hP1
  obtain ⟨hP, hD⟩ := bJ1e hP hD hk1 hFc hP1 hD1
  have hP : va_P D vwCl (([(oa, .inl (K 1, 1, .inr (.inl fo1)))] ++ ([(ob, .inl (K 4, 1, .inr (.inr (.inr (.inl fd1)))))] ++ (WX K ad q q1 q2 g r r2 v1 i1))) ++ (WMu K mm u)) H := hP
  have hD : va_D A (([(oa, .inl (K 1, 1, .inr (.inl fo1)))] ++ ([(ob, .inl (K 4, 1, .inr (.inr (.inr (.inl fd1)))))] ++ (WX K ad q q1 q2 g r r2 v1 i1))) ++ (WMu K mm u)) := hD
  obtain ⟨hRu, hth, hzz⟩ := hw
  have hR1 : RM v1 u := by
    by_cases h9 : (rs_slipping v.1 (xs (6 * k + 1))).1 = 0
    · rw [(hh0 h9).2]; exact hRu
    · rw [hh1 h9]; exact hRu
  refine lv_istore (lv' := [(7, .int mz), (6, .int (nI ((rs_slipping v.1 (xs (6 * k + 1))).1))), (5, .int (nI (6 * k))), (0, .ref b), (1, .ref (ad 0)), (2, .ref (mm 0)), (3, .ref oa), (4, .ref ob)]) hx hb dL_law_1087 hl (by decide) rfl (fun ls hl => ?_)
  refine lv_aload_n hx hb dL_law_1089 rfl (lv_at hl 5 rfl) ?_
  have hPc := bP1e hP
  have hDc := bD1e hD
  refine va_calli (va_runV (As := []) (rest := []) ⟨hx, hb, hml, hown, hts⟩ (c_X7_thrown l D K mm u.1 u.2.1 u.2.2.1 u.2.2.2.1 u.2.2.2.2.1 u.2.2.2.2.2.1 u.2.2.2.2.2.2.1 u.2.2.2.2.2.2.2.1 u.2.2.2.2.2.2.2.2.1 u.2.2.2.2.2.2.2.2.2.1 u.2.2.2.2.2.2.2.2.2.2.1 u.2.2.2.2.2.2.2.2.2.2.2.1 u.2.2.2.2.2.2.2.2.2.2.2.2.1 u.2.2.2.2.2.2.2.2.2.2.2.2.2.1 u.2.2.2.2.2.2.2.2.2.2.2.2.2.2.1 u.2.2.2.2.2.2.2.2.2.2.2.2.2.2.2.1 u.2.2.2.2.2.2.2.2.2.2.2.2.2.2.2.2 H.size) (cwV 0 hts (TB_V k_m_L_105 k_im_X7_thrown k_se_X7_thrown k_in_X7 k_co_X7_thrown (fun _ h => h)) rfl rfl rfl (by decide +kernel) ⟨Nat.le_of_ble_eq_true rfl, Nat.le_of_ble_eq_true rfl⟩) ⟨cP_blind, va_recv hK4 hPc (ci := 7) (q0 := 0) rfl rfl, cP_of hPc hK4 hDc⟩ rfl rfl hl.1 rfl (lv_room (Nat.le_of_ble_eq_true rfl)) dL_law_1090 ⟨(show 100 + k + 1 + 0 + 0 ≤ 601024 by omega), (show 2000 + 6 * k + 6 + 0 + 0 ≤ 7293034 by omega)⟩) hS (fun q _ h => absurd h id) (fun q h => absurd h id) (fun tz u9 t9 H locs ht9 hvm hw hB hz1 hk1 hS => ?_)
  have hP := P_same hP hk1
  have hth2 : tz = nI (rs_slipping v.1 (xs (6 * k + 1))).1 := hw.trans hth
  refine t_i hth2 ?_
  refine lv_iload hx hb dL_law_1093 (lv_at hl 1 rfl) ?_
  refine b_icmp_eq hx hb (nI_toIntI (by omega)) (nI_toIntI (by omega)) dL_law_1095 (tgt := 1100) (by decide) (fun c1095 => ?_) (fun c1095 => absurd c1095 (fun q9 => q9 rfl))
  refine lv_iload hx hb dL_law_1100 (lv_at hl 1 rfl) ?_
  refine b_if_ne hx hb (nI_toIntI (by omega)) dL_law_1102 (tgt := 1117) (by decide) (fun c1102 => ?_) (fun c1102 => ?_)
  · refine lv_goto (tgt := 1641) hx hb dL_law_1117 (by decide) ?_
    exact N v1 i1 u fo1 fd1 _ _ _ hI1 hJ1 hR1 hP hD hS (lv_sub hl [2, 3, 4, 5, 6, 7] rfl)
  have h9 : (rs_slipping v.1 (xs (6 * k + 1))).1 = 0 := by omega
  refine lv_aload_n hx hb dL_law_1105 rfl (lv_at hl 6 rfl) ?_
  refine lv_iconst (v := nI 0) hx hb dL_law_1106 (by decide) ?_
  refine n_lald hx hb hK hP 0 1 rfl rfl (i := 0) (n := 1) (by decide) (by decide) dL_law_1107 ?_
  refine lv_iload hx hb dL_law_1108 (lv_at hl 0 rfl) ?_
  refine lv_i2l (v := mz.toInt64) hx hb dL_law_1110 rfl ?_
  refine b_lcmp_eq hx hb rfl rfl dL_law_1111 dL_law_1112 (tgt := 1117) (by decide) (fun c1111 => ?_) (fun c1111 => absurd c1111 (fun q9 => q9 (by rw [(hh0 h9).1]; exact ((Int32.toInt_toInt64 mz).trans (hzz h9)).symm)))
  refine lv_goto (tgt := 1641) hx hb dL_law_1117 (by decide) ?_
  exact N v1 i1 u fo1 fd1 _ _ _ hI1 hJ1 hR1 hP hD hS (lv_sub hl [2, 3, 4, 5, 6, 7] rfl)
set_option maxHeartbeats 4000000 in
set_option maxRecDepth 100000 in
theorem law_case_18 {p : Program} {l : Launch} {e : Env} {s : State} {m : MethodId} {below : List Frame} {meth : Method} {c : Code} {b L : Nat} {xs : Nat → Int32} {D : va_G} {K : Nat → ClassId} {A : Nat → Prop} (hlf : l.stackTraces = false) (hx : p.tables.exec = Jvm.exec) (hb : c.code = cL_law) (hml : c.maxLocals = 9) (hown : s.vm.findClass RL = some m.cls) (hts : ∀ w ∈ TB, w.before #[Value.ref b] s = true) (hX : va_X b L xs s s.heap) (hbl : b < s.heap.size) (hbA : ¬ A b) (hA : ∀ q, s.heap.size ≤ q → A q) (hK : va_K D vwCl (TY5 K) s) (hTX : TX A s.heap s) (hCL : CL s) (hL : L ≤ 3072) {ad q q1 q2 g r r2 mm : Nat → Nat} {oa ob k : Nat} {v : CV} {i : CI} {w0 : MS} {fo : Nat → Int64} {fd : Nat → UInt64} {H : Heap} {locs : List Loc} {ls : Array Slot} (hk : 6 * k + 6 ≤ L) (hI : IV v) (hJ : II v.1 i) (hR : RM v w0) (hP : va_P D vwCl (([(oa, .inl (K 1, 1, .inr (.inl fo)))] ++ ([(ob, .inl (K 4, 1, .inr (.inr (.inr (.inl fd)))))] ++ (WX K ad q q1 q2 g r r2 v i))) ++ (WMu K mm w0)) H) (hD : va_D A (([(oa, .inl (K 1, 1, .inr (.inl fo)))] ++ ([(ob, .inl (K 4, 1, .inr (.inr (.inr (.inl fd)))))] ++ (WX K ad q q1 q2 g r r2 v i))) ++ (WMu K mm w0))) (hS : va_S A s.heap H locs) (hl : lv_has ls 9 [(5, .int (nI (6 * k))), (0, .ref b), (1, .ref (ad 0)), (2, .ref (mm 0)), (3, .ref oa), (4, .ref ob)]) (N : LNX p l e s m below meth c b D K A ad q q1 q2 g r r2 mm oa ob k) : W p l e room_1 s m #[Value.ref b] below meth c H locs (100 + k) (2000 + 6 * k) (lw_Z below #[Value.ref b] s) (F0 m 1120 ls []) := by
  have hK4 := hK.sub (tys' := TY K) [0, 1, 2, 3] rfl
  refine lv_aload_n hx hb dL_law_1120 rfl (lv_at hl 2 rfl) ?_
  refine lv_aload_n hx hb dL_law_1121 rfl (lv_at hl 4 rfl) ?_
  have hPc := bP0 hP
  have hDc := bD0 hD
  have hFc := bF0 hD hS hA
  refine va_calli (vx_runSW (As := [.ref (ad 0), .ref oa]) (rest := []) ⟨hx, hb, hml, hown, hts⟩ (c_L_greatestTorque l hlf D K oa ob fo fd ad q q1 q2 g r r2 v i  H.size hI hJ) (vx_cwSW 2 hts (TB_SW k_m_L_167 k_st_L_greatestTorque k_in_L k_co_L_greatestTorque (fun _ h => h)) rfl rfl rfl (by decide +kernel) ⟨Nat.le_of_ble_eq_true rfl, Nat.le_of_ble_eq_true rfl⟩) ⟨cPL_blind, cPL_of hPc hK hDc hTX hCL hS hFc⟩ rfl rfl hl.1 rfl (lv_room (Nat.le_of_ble_eq_true rfl)) dL_law_1122 ⟨(show 100 + k + 1 ≤ 601024 by omega), (show 2000 + 6 * k + 6 ≤ 7293034 by omega)⟩) hS (fun q _ h => hFc q h) hFc (fun kz u9 t9 H locs ht9 hvm hw hB hz1 hk1 hS => ?_)
  obtain ⟨v1, i1, fo1, fd1⟩ := u9
  obtain ⟨hP1, hK1, hD1⟩ := hB
  rw [ht9] at hP1
  obtain ⟨hP, hD⟩ := bJ0 hP hD hk1 hFc hP1 hD1
  have hP : va_P D vwCl (([(oa, .inl (K 1, 1, .inr (.inl fo1)))] ++ ([(ob, .inl (K 4, 1, .inr (.inr (.inr (.inl fd1)))))] ++ (WX K ad q q1 q2 g r r2 v1 i1))) ++ (WMu K mm w0)) H := hP
  have hD : va_D A (([(oa, .inl (K 1, 1, .inr (.inl fo1)))] ++ ([(ob, .inl (K 4, 1, .inr (.inr (.inr (.inl fd1)))))] ++ (WX K ad q q1 q2 g r r2 v1 i1))) ++ (WMu K mm w0)) := hD
  obtain ⟨hkz, hr3, hI1, hJ1, hh0, hh1⟩ := hw
  dsimp only at hI1 hJ1 hh0 hh1
  refine t_i (show kz = nI (rs_greatest v.1).1 from hkz) ?_
  refine lv_istore (lv' := [(6, .int (nI ((rs_greatest v.1).1))), (5, .int (nI (6 * k))), (0, .ref b), (1, .ref (ad 0)), (2, .ref (mm 0)), (3, .ref oa), (4, .ref ob)]) hx hb dL_law_1125 hl (by decide) rfl (fun ls hl => ?_)
  refine lv_aload_n hx hb dL_law_1127 rfl (lv_at hl 4 rfl) ?_
  have hPc := bP1e hP
  have hDc := bD1e hD
  have hFc := bF1e hD hS hA
  refine va_calli (va_runV (As := []) (rest := []) ⟨hx, hb, hml, hown, hts⟩ (c_X7_greatestTorque l D K mm v w0  H.size hI hR) (cwV 0 hts (TB_V k_m_L_170 k_im_X7_greatestTorque k_se_X7_greatestTorque k_in_X7 k_co_X7_greatestTorque (fun _ h => h)) rfl rfl rfl (by decide +kernel) ⟨Nat.le_of_ble_eq_true rfl, Nat.le_of_ble_eq_true rfl⟩) ⟨cP_blind, va_recv hK4 hPc (ci := 7) (q0 := 0) rfl rfl, cP_of hPc hK4 hDc⟩ rfl rfl hl.1 rfl (lv_room (Nat.le_of_ble_eq_true rfl)) dL_law_1128 ⟨(show 100 + k + 1 + 0 ≤ 601024 by omega), (show 2000 + 6 * k + 6 + 0 ≤ 7293034 by omega)⟩) hS (fun q _ h => hFc q h) hFc (fun mz u t9 H locs ht9 hvm hw hB hz1 hk1 hS => ?_)
  obtain ⟨hP1, hK1, hD1⟩ := hB
  rw [ht9] at hP1
  obtain ⟨hP, hD⟩ := bJ1e hP hD hk1 hFc hP1 hD1
  have hP : va_P D vwCl (([(oa, .inl (K 1, 1, .inr (.inl fo1)))] ++ ([(ob, .inl (K 4, 1, .inr (.inr (.inr (.inl fd1)))))] ++ (WX K ad q q1 q2 g r r2 v1 i1))) ++ (WMu K mm u)) H := hP
  have hD : va_D A (([(oa, .inl (K 1, 1, .inr (.inl fo1)))] ++ ([(ob, .inl (K 4, 1, .inr (.inr (.inr (.inl fd1)))))] ++ (WX K ad q q1 q2 g r r2 v1 i1))) ++ (WMu K mm u)) := hD
  obtain ⟨hRu, hth, hzz⟩ := hw
  have hR1 : RM v1 u := by
    by_cases h9 : (rs_greatest v.1).1 = 0
    · rw [(hh0 h9).2]; exact hRu
    · rw [hh1 h9]; exact hRu
  refine lv_istore (lv' := [(7, .int mz), (6, .int (nI ((rs_greatest v.1).1))), (5, .int (nI (6 * k))), (0, .ref b), (1, .ref (ad 0)), (2, .ref (mm 0)), (3, .ref oa), (4, .ref ob)]) hx hb dL_law_1131 hl (by decide) rfl (fun ls hl => ?_)
  refine lv_aload_n hx hb dL_law_1133 rfl (lv_at hl 5 rfl) ?_
  have hPc := bP1e hP
  have hDc := bD1e hD
  refine va_calli (va_runV (As := []) (rest := []) ⟨hx, hb, hml, hown, hts⟩ (c_X7_thrown l D K mm u.1 u.2.1 u.2.2.1 u.2.2.2.1 u.2.2.2.2.1 u.2.2.2.2.2.1 u.2.2.2.2.2.2.1 u.2.2.2.2.2.2.2.1 u.2.2.2.2.2.2.2.2.1 u.2.2.2.2.2.2.2.2.2.1 u.2.2.2.2.2.2.2.2.2.2.1 u.2.2.2.2.2.2.2.2.2.2.2.1 u.2.2.2.2.2.2.2.2.2.2.2.2.1 u.2.2.2.2.2.2.2.2.2.2.2.2.2.1 u.2.2.2.2.2.2.2.2.2.2.2.2.2.2.1 u.2.2.2.2.2.2.2.2.2.2.2.2.2.2.2.1 u.2.2.2.2.2.2.2.2.2.2.2.2.2.2.2.2 H.size) (cwV 0 hts (TB_V k_m_L_105 k_im_X7_thrown k_se_X7_thrown k_in_X7 k_co_X7_thrown (fun _ h => h)) rfl rfl rfl (by decide +kernel) ⟨Nat.le_of_ble_eq_true rfl, Nat.le_of_ble_eq_true rfl⟩) ⟨cP_blind, va_recv hK4 hPc (ci := 7) (q0 := 0) rfl rfl, cP_of hPc hK4 hDc⟩ rfl rfl hl.1 rfl (lv_room (Nat.le_of_ble_eq_true rfl)) dL_law_1134 ⟨(show 100 + k + 1 + 0 + 0 ≤ 601024 by omega), (show 2000 + 6 * k + 6 + 0 + 0 ≤ 7293034 by omega)⟩) hS (fun q _ h => absurd h id) (fun q h => absurd h id) (fun tz u9 t9 H locs ht9 hvm hw hB hz1 hk1 hS => ?_)
  have hP := P_same hP hk1
  have hth2 : tz = nI (rs_greatest v.1).1 := hw.trans hth
  refine t_i hth2 ?_
  refine lv_iload hx hb dL_law_1137 (lv_at hl 1 rfl) ?_
  refine b_icmp_eq hx hb (nI_toIntI (by omega)) (nI_toIntI (by omega)) dL_law_1139 (tgt := 1144) (by decide) (fun c1139 => ?_) (fun c1139 => absurd c1139 (fun q9 => q9 rfl))
  refine lv_iload hx hb dL_law_1144 (lv_at hl 1 rfl) ?_
  refine b_if_ne hx hb (nI_toIntI (by omega)) dL_law_1146 (tgt := 1161) (by decide) (fun c1146 => ?_) (fun c1146 => ?_)
  · refine lv_goto (tgt := 1641) hx hb dL_law_1161 (by decide) ?_
    exact N v1 i1 u fo1 fd1 _ _ _ hI1 hJ1 hR1 hP hD hS (lv_sub hl [2, 3, 4, 5, 6, 7] rfl)
  have h9 : (rs_greatest v.1).1 = 0 := by omega
  refine lv_aload_n hx hb dL_law_1149 rfl (lv_at hl 6 rfl) ?_
  refine lv_iconst (v := nI 0) hx hb dL_law_1150 (by decide) ?_
  refine n_lald hx hb hK hP 0 1 rfl rfl (i := 0) (n := 1) (by decide) (by decide) dL_law_1151 ?_
  refine lv_iload hx hb dL_law_1152 (lv_at hl 0 rfl) ?_
  refine lv_i2l (v := mz.toInt64) hx hb dL_law_1154 rfl ?_
  refine b_lcmp_eq hx hb rfl rfl dL_law_1155 dL_law_1156 (tgt := 1161) (by decide) (fun c1155 => ?_) (fun c1155 => absurd c1155 (fun q9 => q9 (by rw [(hh0 h9).1]; exact ((Int32.toInt_toInt64 mz).trans (hzz h9)).symm)))
  refine lv_goto (tgt := 1641) hx hb dL_law_1161 (by decide) ?_
  exact N v1 i1 u fo1 fd1 _ _ _ hI1 hJ1 hR1 hP hD hS (lv_sub hl [2, 3, 4, 5, 6, 7] rfl)
set_option maxHeartbeats 4000000 in
set_option maxRecDepth 100000 in
theorem law_case_19 {p : Program} {l : Launch} {e : Env} {s : State} {m : MethodId} {below : List Frame} {meth : Method} {c : Code} {b L : Nat} {xs : Nat → Int32} {D : va_G} {K : Nat → ClassId} {A : Nat → Prop} (hlf : l.stackTraces = false) (hx : p.tables.exec = Jvm.exec) (hb : c.code = cL_law) (hml : c.maxLocals = 9) (hown : s.vm.findClass RL = some m.cls) (hts : ∀ w ∈ TB, w.before #[Value.ref b] s = true) (hX : va_X b L xs s s.heap) (hbl : b < s.heap.size) (hbA : ¬ A b) (hA : ∀ q, s.heap.size ≤ q → A q) (hK : va_K D vwCl (TY5 K) s) (hTX : TX A s.heap s) (hCL : CL s) (hL : L ≤ 3072) {ad q q1 q2 g r r2 mm : Nat → Nat} {oa ob k : Nat} {v : CV} {i : CI} {w0 : MS} {fo : Nat → Int64} {fd : Nat → UInt64} {H : Heap} {locs : List Loc} {ls : Array Slot} (hk : 6 * k + 6 ≤ L) (hI : IV v) (hJ : II v.1 i) (hR : RM v w0) (hP : va_P D vwCl (([(oa, .inl (K 1, 1, .inr (.inl fo)))] ++ ([(ob, .inl (K 4, 1, .inr (.inr (.inr (.inl fd)))))] ++ (WX K ad q q1 q2 g r r2 v i))) ++ (WMu K mm w0)) H) (hD : va_D A (([(oa, .inl (K 1, 1, .inr (.inl fo)))] ++ ([(ob, .inl (K 4, 1, .inr (.inr (.inr (.inl fd)))))] ++ (WX K ad q q1 q2 g r r2 v i))) ++ (WMu K mm w0))) (hS : va_S A s.heap H locs) (hl : lv_has ls 9 [(5, .int (nI (6 * k))), (0, .ref b), (1, .ref (ad 0)), (2, .ref (mm 0)), (3, .ref oa), (4, .ref ob)]) (N : LNX p l e s m below meth c b D K A ad q q1 q2 g r r2 mm oa ob k) : W p l e room_1 s m #[Value.ref b] below meth c H locs (100 + k) (2000 + 6 * k) (lw_Z below #[Value.ref b] s) (F0 m 1164 ls []) := by
  have hK4 := hK.sub (tys' := TY K) [0, 1, 2, 3] rfl
  refine lv_aload_n hx hb dL_law_1164 rfl (lv_at hl 2 rfl) ?_
  refine lv_aload_n hx hb dL_law_1165 rfl (lv_at hl 1 rfl) ?_
  refine lv_iload hx hb dL_law_1166 (lv_at hl 0 rfl) ?_
  refine lv_iconst (v := nI 1) hx hb dL_law_1168 (by decide) ?_
  refine lv_iadd hx hb dL_law_1169 ?_
  refine t_i (nI_add _ _) ?_
  refine n_sld hx hb hX hbl hbA hS (i := 6 * k + 1) (by omega) (by omega) dL_law_1170 ?_
  refine lv_aload_n hx hb dL_law_1171 rfl (lv_at hl 4 rfl) ?_
  have hPc := bP0 hP
  have hDc := bD0 hD
  have hFc := bF0 hD hS hA
  refine va_calli (vx_runSW (As := [.ref (ad 0), .int (xs (6 * k + 1)), .ref oa]) (rest := []) ⟨hx, hb, hml, hown, hts⟩ (c_L_gear l hlf D K oa ob fo fd ad q q1 q2 g r r2 v i (xs (6 * k + 1)) H.size hI hJ) (vx_cwSW 3 hts (TB_SW k_m_L_171 k_st_L_gear k_in_L k_co_L_gear (fun _ h => h)) rfl rfl rfl (by decide +kernel) ⟨Nat.le_of_ble_eq_true rfl, Nat.le_of_ble_eq_true rfl⟩) ⟨cPL_blind, cPL_of hPc hK hDc hTX hCL hS hFc⟩ rfl rfl hl.1 rfl (lv_room (Nat.le_of_ble_eq_true rfl)) dL_law_1172 ⟨(show 100 + k + 1 ≤ 601024 by omega), (show 2000 + 6 * k + 6 ≤ 7293034 by omega)⟩) hS (fun q _ h => hFc q h) hFc (fun kz u9 t9 H locs ht9 hvm hw hB hz1 hk1 hS => ?_)
  obtain ⟨v1, i1, fo1, fd1⟩ := u9
  obtain ⟨hP1, hK1, hD1⟩ := hB
  rw [ht9] at hP1
  obtain ⟨hP, hD⟩ := bJ0 hP hD hk1 hFc hP1 hD1
  have hP : va_P D vwCl (([(oa, .inl (K 1, 1, .inr (.inl fo1)))] ++ ([(ob, .inl (K 4, 1, .inr (.inr (.inr (.inl fd1)))))] ++ (WX K ad q q1 q2 g r r2 v1 i1))) ++ (WMu K mm w0)) H := hP
  have hD : va_D A (([(oa, .inl (K 1, 1, .inr (.inl fo1)))] ++ ([(ob, .inl (K 4, 1, .inr (.inr (.inr (.inl fd1)))))] ++ (WX K ad q q1 q2 g r r2 v1 i1))) ++ (WMu K mm w0)) := hD
  obtain ⟨hkz, hr3, hI1, hJ1, hh0, hh1⟩ := hw
  dsimp only at hI1 hJ1 hh0 hh1
  refine t_i (show kz = nI (rs_gear v.1 (xs (6 * k + 1))).1 from hkz) ?_
  refine lv_istore (lv' := [(6, .int (nI ((rs_gear v.1 (xs (6 * k + 1))).1))), (5, .int (nI (6 * k))), (0, .ref b), (1, .ref (ad 0)), (2, .ref (mm 0)), (3, .ref oa), (4, .ref ob)]) hx hb dL_law_1175 hl (by decide) rfl (fun ls hl => ?_)
  refine lv_aload_n hx hb dL_law_1177 rfl (lv_at hl 4 rfl) ?_
  refine lv_aload_n hx hb dL_law_1178 rfl (lv_at hl 2 rfl) ?_
  refine lv_iload hx hb dL_law_1179 (lv_at hl 1 rfl) ?_
  refine lv_iconst (v := nI 1) hx hb dL_law_1181 (by decide) ?_
  refine lv_iadd hx hb dL_law_1182 ?_
  refine t_i (nI_add _ _) ?_
  refine n_sld hx hb hX hbl hbA hS (i := 6 * k + 1) (by omega) (by omega) dL_law_1183 ?_
  have hPc := bP1e hP
  have hDc := bD1e hD
  have hFc := bF1e hD hS hA
  refine va_calli (va_runV (As := [.int (xs (6 * k + 1))]) (rest := []) ⟨hx, hb, hml, hown, hts⟩ (c_X7_gear l D K mm v w0 (xs (6 * k + 1)) H.size hI hR) (cwV 1 hts (TB_V k_m_L_173 k_im_X7_gear k_se_X7_gear k_in_X7 k_co_X7_gear (fun _ h => h)) rfl rfl rfl (by decide +kernel) ⟨Nat.le_of_ble_eq_true rfl, Nat.le_of_ble_eq_true rfl⟩) ⟨cP_blind, va_recv hK4 hPc (ci := 7) (q0 := 0) rfl rfl, cP_of hPc hK4 hDc⟩ rfl rfl hl.1 rfl (lv_room (Nat.le_of_ble_eq_true rfl)) dL_law_1184 ⟨(show 100 + k + 1 + 0 ≤ 601024 by omega), (show 2000 + 6 * k + 6 + 0 ≤ 7293034 by omega)⟩) hS (fun q _ h => hFc q h) hFc (fun mz u t9 H locs ht9 hvm hw hB hz1 hk1 hS => ?_)
  obtain ⟨hP1, hK1, hD1⟩ := hB
  rw [ht9] at hP1
  obtain ⟨hP, hD⟩ := bJ1e hP hD hk1 hFc hP1 hD1
  have hP : va_P D vwCl (([(oa, .inl (K 1, 1, .inr (.inl fo1)))] ++ ([(ob, .inl (K 4, 1, .inr (.inr (.inr (.inl fd1)))))] ++ (WX K ad q q1 q2 g r r2 v1 i1))) ++ (WMu K mm u)) H := hP
  have hD : va_D A (([(oa, .inl (K 1, 1, .inr (.inl fo1)))] ++ ([(ob, .inl (K 4, 1, .inr (.inr (.inr (.inl fd1)))))] ++ (WX K ad q q1 q2 g r r2 v1 i1))) ++ (WMu K mm u)) := hD
  obtain ⟨hRu, hth, hzz⟩ := hw
  have hR1 : RM v1 u := by
    by_cases h9 : (rs_gear v.1 (xs (6 * k + 1))).1 = 0
    · rw [(hh0 h9).2]; exact hRu
    · rw [hh1 h9]; exact hRu
  refine lv_istore (lv' := [(7, .int mz), (6, .int (nI ((rs_gear v.1 (xs (6 * k + 1))).1))), (5, .int (nI (6 * k))), (0, .ref b), (1, .ref (ad 0)), (2, .ref (mm 0)), (3, .ref oa), (4, .ref ob)]) hx hb dL_law_1187 hl (by decide) rfl (fun ls hl => ?_)
  refine lv_aload_n hx hb dL_law_1189 rfl (lv_at hl 5 rfl) ?_
  have hPc := bP1e hP
  have hDc := bD1e hD
  refine va_calli (va_runV (As := []) (rest := []) ⟨hx, hb, hml, hown, hts⟩ (c_X7_thrown l D K mm u.1 u.2.1 u.2.2.1 u.2.2.2.1 u.2.2.2.2.1 u.2.2.2.2.2.1 u.2.2.2.2.2.2.1 u.2.2.2.2.2.2.2.1 u.2.2.2.2.2.2.2.2.1 u.2.2.2.2.2.2.2.2.2.1 u.2.2.2.2.2.2.2.2.2.2.1 u.2.2.2.2.2.2.2.2.2.2.2.1 u.2.2.2.2.2.2.2.2.2.2.2.2.1 u.2.2.2.2.2.2.2.2.2.2.2.2.2.1 u.2.2.2.2.2.2.2.2.2.2.2.2.2.2.1 u.2.2.2.2.2.2.2.2.2.2.2.2.2.2.2.1 u.2.2.2.2.2.2.2.2.2.2.2.2.2.2.2.2 H.size) (cwV 0 hts (TB_V k_m_L_105 k_im_X7_thrown k_se_X7_thrown k_in_X7 k_co_X7_thrown (fun _ h => h)) rfl rfl rfl (by decide +kernel) ⟨Nat.le_of_ble_eq_true rfl, Nat.le_of_ble_eq_true rfl⟩) ⟨cP_blind, va_recv hK4 hPc (ci := 7) (q0 := 0) rfl rfl, cP_of hPc hK4 hDc⟩ rfl rfl hl.1 rfl (lv_room (Nat.le_of_ble_eq_true rfl)) dL_law_1190 ⟨(show 100 + k + 1 + 0 + 0 ≤ 601024 by omega), (show 2000 + 6 * k + 6 + 0 + 0 ≤ 7293034 by omega)⟩) hS (fun q _ h => absurd h id) (fun q h => absurd h id) (fun tz u9 t9 H locs ht9 hvm hw hB hz1 hk1 hS => ?_)
  have hP := P_same hP hk1
  have hth2 : tz = nI (rs_gear v.1 (xs (6 * k + 1))).1 := hw.trans hth
  refine t_i hth2 ?_
  refine lv_iload hx hb dL_law_1193 (lv_at hl 1 rfl) ?_
  refine b_icmp_eq hx hb (nI_toIntI (by omega)) (nI_toIntI (by omega)) dL_law_1195 (tgt := 1200) (by decide) (fun c1195 => ?_) (fun c1195 => absurd c1195 (fun q9 => q9 rfl))
  refine lv_iload hx hb dL_law_1200 (lv_at hl 1 rfl) ?_
  refine b_if_ne hx hb (nI_toIntI (by omega)) dL_law_1202 (tgt := 1217) (by decide) (fun c1202 => ?_) (fun c1202 => ?_)
  · refine lv_goto (tgt := 1641) hx hb dL_law_1217 (by decide) ?_
    exact N v1 i1 u fo1 fd1 _ _ _ hI1 hJ1 hR1 hP hD hS (lv_sub hl [2, 3, 4, 5, 6, 7] rfl)
  have h9 : (rs_gear v.1 (xs (6 * k + 1))).1 = 0 := by omega
  refine lv_aload_n hx hb dL_law_1205 rfl (lv_at hl 6 rfl) ?_
  refine lv_iconst (v := nI 0) hx hb dL_law_1206 (by decide) ?_
  refine n_lald hx hb hK hP 0 1 rfl rfl (i := 0) (n := 1) (by decide) (by decide) dL_law_1207 ?_
  refine lv_iload hx hb dL_law_1208 (lv_at hl 0 rfl) ?_
  refine lv_i2l (v := mz.toInt64) hx hb dL_law_1210 rfl ?_
  refine b_lcmp_eq hx hb rfl rfl dL_law_1211 dL_law_1212 (tgt := 1217) (by decide) (fun c1211 => ?_) (fun c1211 => absurd c1211 (fun q9 => q9 (by rw [(hh0 h9).1]; exact ((Int32.toInt_toInt64 mz).trans (hzz h9)).symm)))
  refine lv_goto (tgt := 1641) hx hb dL_law_1217 (by decide) ?_
  exact N v1 i1 u fo1 fd1 _ _ _ hI1 hJ1 hR1 hP hD hS (lv_sub hl [2, 3, 4, 5, 6, 7] rfl)
