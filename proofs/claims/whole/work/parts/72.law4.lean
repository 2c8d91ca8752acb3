/-! the law: cases 8 to 13 -/
set_option maxHeartbeats 4000000 in
set_option maxRecDepth 100000 in
theorem law_case_8 {p : Program} {l : Launch} {e : Env} {s : State} {m : MethodId} {below : List Frame} {meth : Method} {c : Code} {b L : Nat} {xs : Nat → Int32} {D : va_G} {K : Nat → ClassId} {A : Nat → Prop} (hlf : l.stackTraces = false) (hx : p.tables.exec = Jvm.exec) (hb : c.code = cL_law) (hml : c.maxLocals = 9) (hown : s.vm.findClass RL = some m.cls) (hts : ∀ w ∈ TB, w.before #[Value.ref b] s = true) (hX : va_X b L xs s s.heap) (hbl : b < s.heap.size) (hbA : ¬ A b) (hA : ∀ q, s.heap.size ≤ q → A q) (hK : va_K D vwCl (TY5 K) s) (hTX : TX A s.heap s) (hCL : CL s) (hL : L ≤ 3072) {ad q q1 q2 g r r2 mm : Nat → Nat} {oa ob k : Nat} {v : CV} {i : CI} {w0 : MS} {fo : Nat → Int64} {fd : Nat → UInt64} {H : Heap} {locs : List Loc} {ls : Array Slot} (hk : 6 * k + 6 ≤ L) (hI : IV v) (hJ : II v.1 i) (hR : RM v w0) (hP : va_P D vwCl (([(oa, .inl (K 1, 1, .inr (.inl fo)))] ++ ([(ob, .inl (K 4, 1, .inr (.inr (.inr (.inl fd)))))] ++ (WX K ad q q1 q2 g r r2 v i))) ++ (WMu K mm w0)) H) (hD : va_D A (([(oa, .inl (K 1, 1, .inr (.inl fo)))] ++ ([(ob, .inl (K 4, 1, .inr (.inr (.inr (.inl fd)))))] ++ (WX K ad q q1 q2 g r r2 v i))) ++ (WMu K mm w0))) (hS : va_S A s.heap H locs) (hl : lv_has ls 9 [(5, .int (nI (6 * k))), (0, .ref b), (1, .ref (ad 0)), (2, .ref (mm 0)), (3, .ref oa), (4, .ref ob)]) (N : LNX p l e s m below meth c b D K A ad q q1 q2 g r r2 mm oa ob k) : W p l e room_1 s m #[Value.ref b] below meth c H locs (100 + k) (2000 + 6 * k) (lw_Z below #[Value.ref b] s) (F0 m 702 ls []) := by
  have hK4 := hK.sub (tys' := TY K) [0, 1, 2, 3] rfl
  refine lv_aload_n hx hb dL_law_702 rfl (lv_at hl 2 rfl) ?_
  have hPf : va_P D vwCl ([(oa, .inl (K 1, 1, .inr (.inl fo)))] ++ ([(ob, .inl (K 4, 1, .inr (.inr (.inr (.inl fd)))))] ++ (WX K ad q q1 q2 g r r2 v i ++ WMu K mm w0))) H := hP
  have hDf : va_D A ([(oa, .inl (K 1, 1, .inr (.inl fo)))] ++ ([(ob, .inl (K 4, 1, .inr (.inr (.inr (.inl fd)))))] ++ (WX K ad q q1 q2 g r r2 v i ++ WMu K mm w0))) := hD
  have hPc := bP2 hPf
  have hDc := bD2 hDf
  have hFc := bF2 hDf hS hA
  refine va_calli (va_runV (As := []) (rest := []) ⟨hx, hb, hml, hown, hts⟩ (c_X6_undo l D K ad q q1 q2 g r r2 v i H.size hI hJ) (cwV 0 hts (TB_V k_m_L_131 k_im_X6_undo k_se_X6_undo k_in_X6 k_co_X6_undo (fun _ h => h)) rfl rfl rfl (by decide +kernel) ⟨Nat.le_of_ble_eq_true rfl, Nat.le_of_ble_eq_true rfl⟩) ⟨cP_blind, va_recv hK4 hPc (ci := 6) (q0 := 0) rfl rfl, cP_of hPc hK4 hDc⟩ rfl rfl hl.1 rfl (lv_room (Nat.le_of_ble_eq_true rfl)) dL_law_703 ⟨(show 100 + k + 0 ≤ 601024 by omega), (show 2000 + 6 * k + 0 ≤ 7293034 by omega)⟩) hS (fun q _ h => hFc q h) hFc (fun kz u9 t9 H locs ht9 hvm hw hB hz1 hk1 hS => ?_)
  obtain ⟨v1, i1⟩ := u9
  obtain ⟨hP1, hK1, hD1⟩ := hB
  rw [ht9] at hP1
  obtain ⟨hPg, hDg⟩ := bJ2 hPf hDf hk1 hFc hP1 hD1
  have hP : va_P D vwCl (([(oa, .inl (K 1, 1, .inr (.inl fo)))] ++ ([(ob, .inl (K 4, 1, .inr (.inr (.inr (.inl fd)))))] ++ (WX K ad q q1 q2 g r r2 v1 i1))) ++ (WMu K mm w0)) H := hPg
  have hD : va_D A (([(oa, .inl (K 1, 1, .inr (.inl fo)))] ++ ([(ob, .inl (K 4, 1, .inr (.inr (.inr (.inl fd)))))] ++ (WX K ad q q1 q2 g r r2 v1 i1))) ++ (WMu K mm w0)) := hDg
  have hw6 := hw
  dsimp only at hw6
  obtain ⟨hI1, hJ1, hc6⟩ := hw6
  refine lv_aload_n hx hb dL_law_706 rfl (lv_at hl 3 rfl) ?_
  have hPc := bP1e hP
  have hDc := bD1e hD
  have hFc := bF1e hD hS hA
  refine va_calli (va_runV (As := []) (rest := [.int kz]) ⟨hx, hb, hml, hown, hts⟩ (c_X7_undo l D K mm v w0 H.size hI hR) (cwV 0 hts (TB_V k_m_L_135 k_im_X7_undo k_se_X7_undo k_in_X7 k_co_X7_undo (fun _ h => h)) rfl rfl rfl (by decide +kernel) ⟨Nat.le_of_ble_eq_true rfl, Nat.le_of_ble_eq_true rfl⟩) ⟨cP_blind, va_recv hK4 hPc (ci := 7) (q0 := 0) rfl rfl, cP_of hPc hK4 hDc⟩ rfl rfl hl.1 rfl (lv_room (Nat.le_of_ble_eq_true rfl)) dL_law_707 ⟨(show 100 + k + 0 + 0 ≤ 601024 by omega), (show 2000 + 6 * k + 0 + 0 ≤ 7293034 by omega)⟩) hS (fun q _ h => hFc q h) hFc (fun mz u t9 H locs ht9 hvm hw hB hz1 hk1 hS => ?_)
  obtain ⟨hP1, hK1, hD1⟩ := hB
  rw [ht9] at hP1
  obtain ⟨hP, hD⟩ := bJ1e hP hD hk1 hFc hP1 hD1
  have hP : va_P D vwCl (([(oa, .inl (K 1, 1, .inr (.inl fo)))] ++ ([(ob, .inl (K 4, 1, .inr (.inr (.inr (.inl fd)))))] ++ (WX K ad q q1 q2 g r r2 v1 i1))) ++ (WMu K mm u)) H := hP
  have hD : va_D A (([(oa, .inl (K 1, 1, .inr (.inl fo)))] ++ ([(ob, .inl (K 4, 1, .inr (.inr (.inr (.inl fd)))))] ++ (WX K ad q q1 q2 g r r2 v1 i1))) ++ (WMu K mm u)) := hD
  have hcmp : kz.toInt = mz.toInt ∧ RM v1 u := by
    obtain ⟨hth, hc7⟩ := hw
    rcases hc6 with ⟨z1, z2, z3⟩ | ⟨z1, z2, z3⟩ <;> rcases hc7 with ⟨y1, y2, y3⟩ | ⟨y1, y2, y3⟩
    · exact ⟨by rw [z2, y2], by rw [z3]; exact y3⟩
    · omega
    · omega
    · exact ⟨by rw [z2, y2], by rw [z3]; exact y3⟩
  refine b_icmp_eq hx hb rfl rfl dL_law_710 (tgt := 1641) (by decide) (fun c710 => ?_) (fun c710 => absurd c710 (fun q9 => q9 hcmp.1))
  exact W.widen (k := 100 + k + 1) (n := 2000 + 6 * k + 6) (by omega) (by omega) (N v1 i1 u fo fd _ _ _ hI1 hJ1 hcmp.2 hP hD hS (lv_sub hl [0, 1, 2, 3, 4, 5] rfl))
set_option maxHeartbeats 4000000 in
set_option maxRecDepth 100000 in
theorem law_case_9 {p : Program} {l : Launch} {e : Env} {s : State} {m : MethodId} {below : List Frame} {meth : Method} {c : Code} {b L : Nat} {xs : Nat → Int32} {D : va_G} {K : Nat → ClassId} {A : Nat → Prop} (hlf : l.stackTraces = false) (hx : p.tables.exec = Jvm.exec) (hb : c.code = cL_law) (hml : c.maxLocals = 9) (hown : s.vm.findClass RL = some m.cls) (hts : ∀ w ∈ TB, w.before #[Value.ref b] s = true) (hX : va_X b L xs s s.heap) (hbl : b < s.heap.size) (hbA : ¬ A b) (hA : ∀ q, s.heap.size ≤ q → A q) (hK : va_K D vwCl (TY5 K) s) (hTX : TX A s.heap s) (hCL : CL s) (hL : L ≤ 3072) {ad q q1 q2 g r r2 mm : Nat → Nat} {oa ob k : Nat} {v : CV} {i : CI} {w0 : MS} {fo : Nat → Int64} {fd : Nat → UInt64} {H : Heap} {locs : List Loc} {ls : Array Slot} (hk : 6 * k + 6 ≤ L) (hI : IV v) (hJ : II v.1 i) (hR : RM v w0) (hP : va_P D vwCl (([(oa, .inl (K 1, 1, .inr (.inl fo)))] ++ ([(ob, .inl (K 4, 1, .inr (.inr (.inr (.inl fd)))))] ++ (WX K ad q q1 q2 g r r2 v i))) ++ (WMu K mm w0)) H) (hD : va_D A (([(oa, .inl (K 1, 1, .inr (.inl fo)))] ++ ([(ob, .inl (K 4, 1, .inr (.inr (.inr (.inl fd)))))] ++ (WX K ad q q1 q2 g r r2 v i))) ++ (WMu K mm w0))) (hS : va_S A s.heap H locs) (hl : lv_has ls 9 [(5, .int (nI (6 * k))), (0, .ref b), (1, .ref (ad 0)), (2, .ref (mm 0)), (3, .ref oa), (4, .ref ob)]) (N : LNX p l e s m below meth c b D K A ad q q1 q2 g r r2 mm oa ob k) : W p l e room_1 s m #[Value.ref b] below meth c H locs (100 + k) (2000 + 6 * k) (lw_Z below #[Value.ref b] s) (F0 m 715 ls []) := by
  have hK4 := hK.sub (tys' := TY K) [0, 1, 2, 3] rfl
  refine lv_aload_n hx hb dL_law_715 rfl (lv_at hl 2 rfl) ?_
  have hPf : va_P D vwCl ([(oa, .inl (K 1, 1, .inr (.inl fo)))] ++ ([(ob, .inl (K 4, 1, .inr (.inr (.inr (.inl fd)))))] ++ (WX K ad q q1 q2 g r r2 v i ++ WMu K mm w0))) H := hP
  have hDf : va_D A ([(oa, .inl (K 1, 1, .inr (.inl fo)))] ++ ([(ob, .inl (K 4, 1, .inr (.inr (.inr (.inl fd)))))] ++ (WX K ad q q1 q2 g r r2 v i ++ WMu K mm w0))) := hD
  have hPc := bP2 hPf
  have hDc := bD2 hDf
  have hFc := bF2 hDf hS hA
  refine va_calli (va_runV (As := []) (rest := []) ⟨hx, hb, hml, hown, hts⟩ (c_X6_engaged l D K ad q q1 q2 g r r2 v i H.size hI hJ) (cwV 0 hts (TB_V k_m_L_136 k_im_X6_engaged k_se_X6_engaged k_in_X6 k_co_X6_engaged (fun _ h => h)) rfl rfl rfl (by decide +kernel) ⟨Nat.le_of_ble_eq_true rfl, Nat.le_of_ble_eq_true rfl⟩) ⟨cP_blind, va_recv hK4 hPc (ci := 6) (q0 := 0) rfl rfl, cP_of hPc hK4 hDc⟩ rfl rfl hl.1 rfl (lv_room (Nat.le_of_ble_eq_true rfl)) dL_law_716 ⟨(show 100 + k + 0 ≤ 601024 by omega), (show 2000 + 6 * k + 0 ≤ 7293034 by omega)⟩) hS (fun q _ h => hFc q h) hFc (fun kz u9 t9 H locs ht9 hvm hw hB hz1 hk1 hS => ?_)
  obtain ⟨v1, i1⟩ := u9
  obtain ⟨hP1, hK1, hD1⟩ := hB
  rw [ht9] at hP1
  obtain ⟨hPg, hDg⟩ := bJ2 hPf hDf hk1 hFc hP1 hD1
  have hP : va_P D vwCl (([(oa, .inl (K 1, 1, .inr (.inl fo)))] ++ ([(ob, .inl (K 4, 1, .inr (.inr (.inr (.inl fd)))))] ++ (WX K ad q q1 q2 g r r2 v1 i1))) ++ (WMu K mm w0)) H := hPg
  have hD : va_D A (([(oa, .inl (K 1, 1, .inr (.inl fo)))] ++ ([(ob, .inl (K 4, 1, .inr (.inr (.inr (.inl fd)))))] ++ (WX K ad q q1 q2 g r r2 v1 i1))) ++ (WMu K mm w0)) := hDg
  have hw6 := hw
  dsimp only at hw6
  obtain ⟨hv1, hJ1, hc6⟩ := hw6
  have hI1 : IV v1 := by rw [hv1]; exact hI
  refine lv_aload_n hx hb dL_law_719 rfl (lv_at hl 3 rfl) ?_
  have hPc := bP1e hP
  have hDc := bD1e hD
  have hFc := bF1e hD hS hA
  refine va_calli (va_runV (As := []) (rest := [.int kz]) ⟨hx, hb, hml, hown, hts⟩ (c_X7_engaged l D K mm v w0 H.size hI hR) (cwV 0 hts (TB_V k_m_L_139 k_im_X7_engaged k_se_X7_engaged k_in_X7 k_co_X7_engaged (fun _ h => h)) rfl rfl rfl (by decide +kernel) ⟨Nat.le_of_ble_eq_true rfl, Nat.le_of_ble_eq_true rfl⟩) ⟨cP_blind, va_recv hK4 hPc (ci := 7) (q0 := 0) rfl rfl, cP_of hPc hK4 hDc⟩ rfl rfl hl.1 rfl (lv_room (Nat.le_of_ble_eq_true rfl)) dL_law_720 ⟨(show 100 + k + 0 + 0 ≤ 601024 by omega), (show 2000 + 6 * k + 0 + 0 ≤ 7293034 by omega)⟩) hS (fun q _ h => hFc q h) hFc (fun mz u t9 H locs ht9 hvm hw hB hz1 hk1 hS => ?_)
  obtain ⟨hP1, hK1, hD1⟩ := hB
  rw [ht9] at hP1
  obtain ⟨hP, hD⟩ := bJ1e hP hD hk1 hFc hP1 hD1
  have hP : va_P D vwCl (([(oa, .inl (K 1, 1, .inr (.inl fo)))] ++ ([(ob, .inl (K 4, 1, .inr (.inr (.inr (.inl fd)))))] ++ (WX K ad q q1 q2 g r r2 v1 i1))) ++ (WMu K mm u)) H := hP
  have hD : va_D A (([(oa, .inl (K 1, 1, .inr (.inl fo)))] ++ ([(ob, .inl (K 4, 1, .inr (.inr (.inr (.inl fd)))))] ++ (WX K ad q q1 q2 g r r2 v1 i1))) ++ (WMu K mm u)) := hD
  have hcmp : kz.toInt = mz.toInt ∧ RM v1 u := ⟨by rw [hc6, hw.2.2], by rw [hv1]; exact hw.1⟩
  refine b_icmp_eq hx hb rfl rfl dL_law_723 (tgt := 1641) (by decide) (fun c723 => ?_) (fun c723 => absurd c723 (fun q9 => q9 hcmp.1))
  exact W.widen (k := 100 + k + 1) (n := 2000 + 6 * k + 6) (by omega) (by omega) (N v1 i1 u fo fd _ _ _ hI1 hJ1 hcmp.2 hP hD hS (lv_sub hl [0, 1, 2, 3, 4, 5] rfl))
set_option maxHeartbeats 4000000 in
set_option maxRecDepth 100000 in
theorem law_case_10 {p : Program} {l : Launch} {e : Env} {s : State} {m : MethodId} {below : List Frame} {meth : Method} {c : Code} {b L : Nat} {xs : Nat → Int32} {D : va_G} {K : Nat → ClassId} {A : Nat → Prop} (hlf : l.stackTraces = false) (hx : p.tables.exec = Jvm.exec) (hb : c.code = cL_law) (hml : c.maxLocals = 9) (hown : s.vm.findClass RL = some m.cls) (hts : ∀ w ∈ TB, w.before #[Value.ref b] s = true) (hX : va_X b L xs s s.heap) (hbl : b < s.heap.size) (hbA : ¬ A b) (hA : ∀ q, s.heap.size ≤ q → A q) (hK : va_K D vwCl (TY5 K) s) (hTX : TX A s.heap s) (hCL : CL s) (hL : L ≤ 3072) {ad q q1 q2 g r r2 mm : Nat → Nat} {oa ob k : Nat} {v : CV} {i : CI} {w0 : MS} {fo : Nat → Int64} {fd : Nat → UInt64} {H : Heap} {locs : List Loc} {ls : Array Slot} (hk : 6 * k + 6 ≤ L) (hI : IV v) (hJ : II v.1 i) (hR : RM v w0) (hP : va_P D vwCl (([(oa, .inl (K 1, 1, .inr (.inl fo)))] ++ ([(ob, .inl (K 4, 1, .inr (.inr (.inr (.inl fd)))))] ++ (WX K ad q q1 q2 g r r2 v i))) ++ (WMu K mm w0)) H) (hD : va_D A (([(oa, .inl (K 1, 1, .inr (.inl fo)))] ++ ([(ob, .inl (K 4, 1, .inr (.inr (.inr (.inl fd)))))] ++ (WX K ad q q1 q2 g r r2 v i))) ++ (WMu K mm w0))) (hS : va_S A s.heap H locs) (hl : lv_has ls 9 [(5, .int (nI (6 * k))), (0, .ref b), (1, .ref (ad 0)), (2, .ref (mm 0)), (3, .ref oa), (4, .ref ob)]) (N : LNX p l e s m below meth c b D K A ad q q1 q2 g r r2 mm oa ob k) : W p l e room_1 s m #[Value.ref b] below meth c H locs (100 + k) (2000 + 6 * k) (lw_Z below #[Value.ref b] s) (F0 m 728 ls []) := by
  have hK4 := hK.sub (tys' := TY K) [0, 1, 2, 3] rfl
  refine lv_aload_n hx hb dL_law_728 rfl (lv_at hl 2 rfl) ?_
  have hPf : va_P D vwCl ([(oa, .inl (K 1, 1, .inr (.inl fo)))] ++ ([(ob, .inl (K 4, 1, .inr (.inr (.inr (.inl fd)))))] ++ (WX K ad q q1 q2 g r r2 v i ++ WMu K mm w0))) H := hP
  have hDf : va_D A ([(oa, .inl (K 1, 1, .inr (.inl fo)))] ++ ([(ob, .inl (K 4, 1, .inr (.inr (.inr (.inl fd)))))] ++ (WX K ad q q1 q2 g r r2 v i ++ WMu K mm w0))) := hD
  have hPc := bP2 hPf
  have hDc := bD2 hDf
  have hFc := bF2 hDf hS hA
  refine va_calli (va_runV (As := []) (rest := []) ⟨hx, hb, hml, hown, hts⟩ (c_X6_brakesOnly l D K ad q q1 q2 g r r2 v i H.size hI hJ) (cwV 0 hts (TB_V k_m_L_140 k_im_X6_brakesOnly k_se_X6_brakesOnly k_in_X6 k_co_X6_brakesOnly (fun _ h => h)) rfl rfl rfl (by decide +kernel) ⟨Nat.le_of_ble_eq_true rfl, Nat.le_of_ble_eq_true rfl⟩) ⟨cP_blind, va_recv hK4 hPc (ci := 6) (q0 := 0) rfl rfl, cP_of hPc hK4 hDc⟩ rfl rfl hl.1 rfl (lv_room (Nat.le_of_ble_eq_true rfl)) dL_law_729 ⟨(show 100 + k + 0 ≤ 601024 by omega), (show 2000 + 6 * k + 0 ≤ 7293034 by omega)⟩) hS (fun q _ h => hFc q h) hFc (fun kz u9 t9 H locs ht9 hvm hw hB hz1 hk1 hS => ?_)
  obtain ⟨v1, i1⟩ := u9
  obtain ⟨hP1, hK1, hD1⟩ := hB
  rw [ht9] at hP1
  obtain ⟨hPg, hDg⟩ := bJ2 hPf hDf hk1 hFc hP1 hD1
  have hP : va_P D vwCl (([(oa, .inl (K 1, 1, .inr (.inl fo)))] ++ ([(ob, .inl (K 4, 1, .inr (.inr (.inr (.inl fd)))))] ++ (WX K ad q q1 q2 g r r2 v1 i1))) ++ (WMu K mm w0)) H := hPg
  have hD : va_D A (([(oa, .inl (K 1, 1, .inr (.inl fo)))] ++ ([(ob, .inl (K 4, 1, .inr (.inr (.inr (.inl fd)))))] ++ (WX K ad q q1 q2 g r r2 v1 i1))) ++ (WMu K mm w0)) := hDg
  have hw6 := hw
  dsimp only at hw6
  obtain ⟨hv1, hJ1, hc6⟩ := hw6
  have hI1 : IV v1 := by rw [hv1]; exact hI
  refine lv_aload_n hx hb dL_law_732 rfl (lv_at hl 3 rfl) ?_
  have hPc := bP1e hP
  have hDc := bD1e hD
  have hFc := bF1e hD hS hA
  refine va_calli (va_runV (As := []) (rest := [.int kz]) ⟨hx, hb, hml, hown, hts⟩ (c_X7_brakesOnly l D K mm v w0 H.size hI hR) (cwV 0 hts (TB_V k_m_L_143 k_im_X7_brakesOnly k_se_X7_brakesOnly k_in_X7 k_co_X7_brakesOnly (fun _ h => h)) rfl rfl rfl (by decide +kernel) ⟨Nat.le_of_ble_eq_true rfl, Nat.le_of_ble_eq_true rfl⟩) ⟨cP_blind, va_recv hK4 hPc (ci := 7) (q0 := 0) rfl rfl, cP_of hPc hK4 hDc⟩ rfl rfl hl.1 rfl (lv_room (Nat.le_of_ble_eq_true rfl)) dL_law_733 ⟨(show 100 + k + 0 + 0 ≤ 601024 by omega), (show 2000 + 6 * k + 0 + 0 ≤ 7293034 by omega)⟩) hS (fun q _ h => hFc q h) hFc (fun mz u t9 H locs ht9 hvm hw hB hz1 hk1 hS => ?_)
  obtain ⟨hP1, hK1, hD1⟩ := hB
  rw [ht9] at hP1
  obtain ⟨hP, hD⟩ := bJ1e hP hD hk1 hFc hP1 hD1
  have hP : va_P D vwCl (([(oa, .inl (K 1, 1, .inr (.inl fo)))] ++ ([(ob, .inl (K 4, 1, .inr (.inr (.inr (.inl fd)))))] ++ (WX K ad q q1 q2 g r r2 v1 i1))) ++ (WMu K mm u)) H := hP
  have hD : va_D A (([(oa, .inl (K 1, 1, .inr (.inl fo)))] ++ ([(ob, .inl (K 4, 1, .inr (.inr (.inr (.inl fd)))))] ++ (WX K ad q q1 q2 g r r2 v1 i1))) ++ (WMu K mm u)) := hD
  have hcmp : kz.toInt = mz.toInt ∧ RM v1 u := ⟨hc6.trans hw.2.2.symm, by rw [hv1]; exact hw.1⟩
  refine b_icmp_eq hx hb rfl rfl dL_law_736 (tgt := 1641) (by decide) (fun c736 => ?_) (fun c736 => absurd c736 (fun q9 => q9 hcmp.1))
  exact W.widen (k := 100 + k + 1) (n := 2000 + 6 * k + 6) (by omega) (by omega) (N v1 i1 u fo fd _ _ _ hI1 hJ1 hcmp.2 hP hD hS (lv_sub hl [0, 1, 2, 3, 4, 5] rfl))
set_option maxHeartbeats 4000000 in
set_option maxRecDepth 100000 in
theorem law_case_11 {p : Program} {l : Launch} {e : Env} {s : State} {m : MethodId} {below : List Frame} {meth : Method} {c : Code} {b L : Nat} {xs : Nat → Int32} {D : va_G} {K : Nat → ClassId} {A : Nat → Prop} (hlf : l.stackTraces = false) (hx : p.tables.exec = Jvm.exec) (hb : c.code = cL_law) (hml : c.maxLocals = 9) (hown : s.vm.findClass RL = some m.cls) (hts : ∀ w ∈ TB, w.before #[Value.ref b] s = true) (hX : va_X b L xs s s.heap) (hbl : b < s.heap.size) (hbA : ¬ A b) (hA : ∀ q, s.heap.size ≤ q → A q) (hK : va_K D vwCl (TY5 K) s) (hTX : TX A s.heap s) (hCL : CL s) (hL : L ≤ 3072) {ad q q1 q2 g r r2 mm : Nat → Nat} {oa ob k : Nat} {v : CV} {i : CI} {w0 : MS} {fo : Nat → Int64} {fd : Nat → UInt64} {H : Heap} {locs : List Loc} {ls : Array Slot} (hk : 6 * k + 6 ≤ L) (hI : IV v) (hJ : II v.1 i) (hR : RM v w0) (hP : va_P D vwCl (([(oa, .inl (K 1, 1, .inr (.inl fo)))] ++ ([(ob, .inl (K 4, 1, .inr (.inr (.inr (.inl fd)))))] ++ (WX K ad q q1 q2 g r r2 v i))) ++ (WMu K mm w0)) H) (hD : va_D A (([(oa, .inl (K 1, 1, .inr (.inl fo)))] ++ ([(ob, .inl (K 4, 1, .inr (.inr (.inr (.inl fd)))))] ++ (WX K ad q q1 q2 g r r2 v i))) ++ (WMu K mm w0))) (hS : va_S A s.heap H locs) (hl : lv_has ls 9 [(5, .int (nI (6 * k))), (0, .ref b), (1, .ref (ad 0)), (2, .ref (mm 0)), (3, .ref oa), (4, .ref ob)]) (N : LNX p l e s m below meth c b D K A ad q q1 q2 g r r2 mm oa ob k) : W p l e room_1 s m #[Value.ref b] below meth c H locs (100 + k) (2000 + 6 * k) (lw_Z below #[Value.ref b] s) (F0 m 741 ls []) := by
  have hK4 := hK.sub (tys' := TY K) [0, 1, 2, 3] rfl
  refine lv_aload_n hx hb dL_law_741 rfl (lv_at hl 2 rfl) ?_
  have hPf : va_P D vwCl ([(oa, .inl (K 1, 1, .inr (.inl fo)))] ++ ([(ob, .inl (K 4, 1, .inr (.inr (.inr (.inl fd)))))] ++ (WX K ad q q1 q2 g r r2 v i ++ WMu K mm w0))) H := hP
  have hDf : va_D A ([(oa, .inl (K 1, 1, .inr (.inl fo)))] ++ ([(ob, .inl (K 4, 1, .inr (.inr (.inr (.inl fd)))))] ++ (WX K ad q q1 q2 g r r2 v i ++ WMu K mm w0))) := hD
  have hPc := bP2 hPf
  have hDc := bD2 hDf
  have hFc := bF2 hDf hS hA
  refine va_calli (va_runV (As := []) (rest := []) ⟨hx, hb, hml, hown, hts⟩ (c_X6_state l D K ad q q1 q2 g r r2 v i H.size hI hJ) (cwV 0 hts (TB_V k_m_L_144 k_im_X6_state k_se_X6_state k_in_X6 k_co_X6_state (fun _ h => h)) rfl rfl rfl (by decide +kernel) ⟨Nat.le_of_ble_eq_true rfl, Nat.le_of_ble_eq_true rfl⟩) ⟨cP_blind, va_recv hK4 hPc (ci := 6) (q0 := 0) rfl rfl, cP_of hPc hK4 hDc⟩ rfl rfl hl.1 rfl (lv_room (Nat.le_of_ble_eq_true rfl)) dL_law_742 ⟨(show 100 + k + 0 ≤ 601024 by omega), (show 2000 + 6 * k + 0 ≤ 7293034 by omega)⟩) hS (fun q _ h => hFc q h) hFc (fun kz u9 t9 H locs ht9 hvm hw hB hz1 hk1 hS => ?_)
  obtain ⟨v1, i1⟩ := u9
  obtain ⟨hP1, hK1, hD1⟩ := hB
  rw [ht9] at hP1
  obtain ⟨hPg, hDg⟩ := bJ2 hPf hDf hk1 hFc hP1 hD1
  have hP : va_P D vwCl (([(oa, .inl (K 1, 1, .inr (.inl fo)))] ++ ([(ob, .inl (K 4, 1, .inr (.inr (.inr (.inl fd)))))] ++ (WX K ad q q1 q2 g r r2 v1 i1))) ++ (WMu K mm w0)) H := hPg
  have hD : va_D A (([(oa, .inl (K 1, 1, .inr (.inl fo)))] ++ ([(ob, .inl (K 4, 1, .inr (.inr (.inr (.inl fd)))))] ++ (WX K ad q q1 q2 g r r2 v1 i1))) ++ (WMu K mm w0)) := hDg
  have hw6 := hw
  dsimp only at hw6
  obtain ⟨hv1, hJ1, hc6⟩ := hw6
  have hI1 : IV v1 := by rw [hv1]; exact hI
  refine lv_aload_n hx hb dL_law_745 rfl (lv_at hl 3 rfl) ?_
  have hPc := bP1e hP
  have hDc := bD1e hD
  have hFc := bF1e hD hS hA
  refine va_calli (va_runV (As := []) (rest := [.int kz]) ⟨hx, hb, hml, hown, hts⟩ (c_X7_state l D K mm v w0 H.size hI hR) (cwV 0 hts (TB_V k_m_L_147 k_im_X7_state k_se_X7_state k_in_X7 k_co_X7_state (fun _ h => h)) rfl rfl rfl (by decide +kernel) ⟨Nat.le_of_ble_eq_true rfl, Nat.le_of_ble_eq_true rfl⟩) ⟨cP_blind, va_recv hK4 hPc (ci := 7) (q0 := 0) rfl rfl, cP_of hPc hK4 hDc⟩ rfl rfl hl.1 rfl (lv_room (Nat.le_of_ble_eq_true rfl)) dL_law_746 ⟨(show 100 + k + 0 + 0 ≤ 601024 by omega), (show 2000 + 6 * k + 0 + 0 ≤ 7293034 by omega)⟩) hS (fun q _ h => hFc q h) hFc (fun mz u t9 H locs ht9 hvm hw hB hz1 hk1 hS => ?_)
  obtain ⟨hP1, hK1, hD1⟩ := hB
  rw [ht9] at hP1
  obtain ⟨hP, hD⟩ := bJ1e hP hD hk1 hFc hP1 hD1
  have hP : va_P D vwCl (([(oa, .inl (K 1, 1, .inr (.inl fo)))] ++ ([(ob, .inl (K 4, 1, .inr (.inr (.inr (.inl fd)))))] ++ (WX K ad q q1 q2 g r r2 v1 i1))) ++ (WMu K mm u)) H := hP
  have hD : va_D A (([(oa, .inl (K 1, 1, .inr (.inl fo)))] ++ ([(ob, .inl (K 4, 1, .inr (.inr (.inr (.inl fd)))))] ++ (WX K ad q q1 q2 g r r2 v1 i1))) ++ (WMu K mm u)) := hD
  have hcmp : kz.toInt = mz.toInt ∧ RM v1 u := ⟨hc6.trans hw.2.2.symm, by rw [hv1]; exact hw.1⟩
  refine b_icmp_eq hx hb rfl rfl dL_law_749 (tgt := 1641) (by decide) (fun c749 => ?_) (fun c749 => absurd c749 (fun q9 => q9 hcmp.1))
  exact W.widen (k := 100 + k + 1) (n := 2000 + 6 * k + 6) (by omega) (by omega) (N v1 i1 u fo fd _ _ _ hI1 hJ1 hcmp.2 hP hD hS (lv_sub hl [0, 1, 2, 3, 4, 5] rfl))
set_option maxHeartbeats 4000000 in
set_option maxRecDepth 100000 in
theorem law_case_12 {p : Program} {l : Launch} {e : Env} {s : State} {m : MethodId} {below : List Frame} {meth : Method} {c : Code} {b L : Nat} {xs : Nat → Int32} {D : va_G} {K : Nat → ClassId} {A : Nat → Prop} (hlf : l.stackTraces = false) (hx : p.tables.exec = Jvm.exec) (hb : c.code = cL_law) (hml : c.maxLocals = 9) (hown : s.vm.findClass RL = some m.cls) (hts : ∀ w ∈ TB, w.before #[Value.ref b] s = true) (hX : va_X b L xs s s.heap) (hbl : b < s.heap.size) (hbA : ¬ A b) (hA : ∀ q, s.heap.size ≤ q → A q) (hK : va_K D vwCl (TY5 K) s) (hTX : TX A s.heap s) (hCL : CL s) (hL : L ≤ 3072) {ad q q1 q2 g r r2 mm : Nat → Nat} {oa ob k : Nat} {v : CV} {i : CI} {w0 : MS} {fo : Nat → Int64} {fd : Nat → UInt64} {H : Heap} {locs : List Loc} {ls : Array Slot} (hk : 6 * k + 6 ≤ L) (hI : IV v) (hJ : II v.1 i) (hR : RM v w0) (hP : va_P D vwCl (([(oa, .inl (K 1, 1, .inr (.inl fo)))] ++ ([(ob, .inl (K 4, 1, .inr (.inr (.inr (.inl fd)))))] ++ (WX K ad q q1 q2 g r r2 v i))) ++ (WMu K mm w0)) H) (hD : va_D A (([(oa, .inl (K 1, 1, .inr (.inl fo)))] ++ ([(ob, .inl (K 4, 1, .inr (.inr (.inr (.inl fd)))))] ++ (WX K ad q q1 q2 g r r2 v i))) ++ (WMu K mm w0))) (hS : va_S A s.heap H locs) (hl : lv_has ls 9 [(5, .int (nI (6 * k))), (0, .ref b), (1, .ref (ad 0)), (2, .ref (mm 0)), (3, .ref oa), (4, .ref ob)]) (N : LNX p l e s m below meth c b D K A ad q q1 q2 g r r2 mm oa ob k) : W p l e room_1 s m #[Value.ref b] below meth c H locs (100 + k) (2000 + 6 * k) (lw_Z below #[Value.ref b] s) (F0 m 754 ls []) := by
  have hK4 := hK.sub (tys' := TY K) [0, 1, 2, 3] rfl
  refine lv_aload_n hx hb dL_law_754 rfl (lv_at hl 2 rfl) ?_
  refine lv_aload_n hx hb dL_law_755 rfl (lv_at hl 1 rfl) ?_
  refine lv_iload hx hb dL_law_756 (lv_at hl 0 rfl) ?_
  refine lv_iconst (v := nI 1) hx hb dL_law_758 (by decide) ?_
  refine lv_iadd hx hb dL_law_759 ?_
  refine t_i (nI_add _ _) ?_
  refine n_sld hx hb hX hbl hbA hS (i := 6 * k + 1) (by omega) (by omega) dL_law_760 ?_
  refine lv_aload_n hx hb dL_law_761 rfl (lv_at hl 1 rfl) ?_
  refine lv_iload hx hb dL_law_762 (lv_at hl 0 rfl) ?_
  refine lv_iconst (v := nI 2) hx hb dL_law_764 (by decide) ?_
  refine lv_iadd hx hb dL_law_765 ?_
  refine t_i (nI_add _ _) ?_
  refine n_sld hx hb hX hbl hbA hS (i := 6 * k + 2) (by omega) (by omega) dL_law_766 ?_
  refine lv_aload_n hx hb dL_law_767 rfl (lv_at hl 4 rfl) ?_
  have hPc := bP0 hP
  have hDc := bD0 hD
  have hFc := bF0 hD hS hA
  refine va_calli (vx_runSW (As := [.ref (ad 0), .int (xs (6 * k + 1)), .int (xs (6 * k + 2)), .ref oa]) (rest := []) ⟨hx, hb, hml, hown, hts⟩ (c_L_speed l hlf D K oa ob fo fd ad q q1 q2 g r r2 v i (xs (6 * k + 1)) (xs (6 * k + 2)) H.size hI hJ) (vx_cwSW 4 hts (TB_SW k_m_L_148 k_st_L_speed k_in_L k_co_L_speed (fun _ h => h)) rfl rfl rfl (by decide +kernel) ⟨Nat.le_of_ble_eq_true rfl, Nat.le_of_ble_eq_true rfl⟩) ⟨cPL_blind, cPL_of hPc hK hDc hTX hCL hS hFc⟩ rfl rfl hl.1 rfl (lv_room (Nat.le_of_ble_eq_true rfl)) dL_law_768 ⟨(show 100 + k + 1 ≤ 601024 by omega), (show 2000 + 6 * k + 6 ≤ 7293034 by omega)⟩) hS (fun q _ h => hFc q h) hFc (fun kz u9 t9 H locs ht9 hvm hw hB hz1 hk1 hS => ?_)
  obtain ⟨v1, i1, fo1, fd1⟩ := u9
  obtain ⟨hP1, hK1, hD1⟩ := hB
  rw [ht9] at hP1
  obtain ⟨hP, hD⟩ := bJ0 hP hD hk1 hFc hP1 hD1
  have hP : va_P D vwCl (([(oa, .inl (K 1, 1, .inr (.inl fo1)))] ++ ([(ob, .inl (K 4, 1, .inr (.inr (.inr (.inl fd1)))))] ++ (WX K ad q q1 q2 g r r2 v1 i1))) ++ (WMu K mm w0)) H := hP
  have hD : va_D A (([(oa, .inl (K 1, 1, .inr (.inl fo1)))] ++ ([(ob, .inl (K 4, 1, .inr (.inr (.inr (.inl fd1)))))] ++ (WX K ad q q1 q2 g r r2 v1 i1))) ++ (WMu K mm w0)) := hD
  obtain ⟨hkz, hr3, hI1, hJ1, hh0, hh1⟩ := hw
  dsimp only at hI1 hJ1 hh0 hh1
  refine t_i (show kz = nI (rs_speed v.1 (xs (6 * k + 1)) (xs (6 * k + 2))).1 from hkz) ?_
  refine lv_istore (lv' := [(6, .int (nI ((rs_speed v.1 (xs (6 * k + 1)) (xs (6 * k + 2))).1))), (5, .int (nI (6 * k))), (0, .ref b), (1, .ref (ad 0)), (2, .ref (mm 0)), (3, .ref oa), (4, .ref ob)]) hx hb dL_law_771 hl (by decide) rfl (fun ls hl => ?_)
  refine lv_aload_n hx hb dL_law_773 rfl (lv_at hl 4 rfl) ?_
  refine lv_aload_n hx hb dL_law_774 rfl (lv_at hl 2 rfl) ?_
  refine lv_iload hx hb dL_law_775 (lv_at hl 1 rfl) ?_
  refine lv_iconst (v := nI 1) hx hb dL_law_777 (by decide) ?_
  refine lv_iadd hx hb dL_law_778 ?_
  refine t_i (nI_add _ _) ?_
  refine n_sld hx hb hX hbl hbA hS (i := 6 * k + 1) (by omega) (by omega) dL_law_779 ?_
  refine lv_aload_n hx hb dL_law_780 rfl (lv_at hl 2 rfl) ?_
  refine lv_iload hx hb dL_law_781 (lv_at hl 1 rfl) ?_
  refine lv_iconst (v := nI 2) hx hb dL_law_783 (by decide) ?_
  refine lv_iadd hx hb dL_law_784 ?_
  refine t_i (nI_add _ _) ?_
  refine n_sld hx hb hX hbl hbA hS (i := 6 * k + 2) (by omega) (by omega) dL_law_785 ?_
  have hPc := bP1e hP
  have hDc := bD1e hD
  have hFc := bF1e hD hS hA
  refine va_calll (va_runV (As := [.int (xs (6 * k + 1)), .int (xs (6 * k + 2))]) (rest := []) ⟨hx, hb, hml, hown, hts⟩ (c_X7_speed l D K mm v w0 (xs (6 * k + 1)) (xs (6 * k + 2)) H.size hI hR) (cwV 2 hts (TB_V k_m_L_150 k_im_X7_speed k_se_X7_speed k_in_X7 k_co_X7_speed (fun _ h => h)) rfl rfl rfl (by decide +kernel) ⟨Nat.le_of_ble_eq_true rfl, Nat.le_of_ble_eq_true rfl⟩) ⟨cP_blind, va_recv hK4 hPc (ci := 7) (q0 := 0) rfl rfl, cP_of hPc hK4 hDc⟩ rfl rfl hl.1 rfl (lv_room (Nat.le_of_ble_eq_true rfl)) dL_law_786 ⟨(show 100 + k + 1 + 0 ≤ 601024 by omega), (show 2000 + 6 * k + 6 + 0 ≤ 7293034 by omega)⟩) hS (fun q _ h => hFc q h) hFc (fun mz u t9 H locs ht9 hvm hw hB hz1 hk1 hS => ?_)
  obtain ⟨hP1, hK1, hD1⟩ := hB
  rw [ht9] at hP1
  obtain ⟨hP, hD⟩ := bJ1e hP hD hk1 hFc hP1 hD1
  have hP : va_P D vwCl (([(oa, .inl (K 1, 1, .inr (.inl fo1)))] ++ ([(ob, .inl (K 4, 1, .inr (.inr (.inr (.inl fd1)))))] ++ (WX K ad q q1 q2 g r r2 v1 i1))) ++ (WMu K mm u)) H := hP
  have hD : va_D A (([(oa, .inl (K 1, 1, .inr (.inl fo1)))] ++ ([(ob, .inl (K 4, 1, .inr (.inr (.inr (.inl fd1)))))] ++ (WX K ad q q1 q2 g r r2 v1 i1))) ++ (WMu K mm u)) := hD
  obtain ⟨hRu, hth, hzz⟩ := hw
  have hR1 : RM v1 u := by
    by_cases h9 : (rs_speed v.1 (xs (6 * k + 1)) (xs (6 * k + 2))).1 = 0
    · rw [(hh0 h9).2]; exact hRu
    · rw [hh1 h9]; exact hRu
  refine lv_lstore (lv' := [(7, .long mz), (6, .int (nI ((rs_speed v.1 (xs (6 * k + 1)) (xs (6 * k + 2))).1))), (5, .int (nI (6 * k))), (0, .ref b), (1, .ref (ad 0)), (2, .ref (mm 0)), (3, .ref oa), (4, .ref ob)]) hx hb dL_law_789 hl (by decide) rfl (fun ls hl => ?_)
  refine lv_aload_n hx hb dL_law_791 rfl (lv_at hl 5 rfl) ?_
  have hPc := bP1e hP
  have hDc := bD1e hD
  refine va_calli (va_runV (As := []) (rest := []) ⟨hx, hb, hml, hown, hts⟩ (c_X7_thrown l D K mm u.1 u.2.1 u.2.2.1 u.2.2.2.1 u.2.2.2.2.1 u.2.2.2.2.2.1 u.2.2.2.2.2.2.1 u.2.2.2.2.2.2.2.1 u.2.2.2.2.2.2.2.2.1 u.2.2.2.2.2.2.2.2.2.1 u.2.2.2.2.2.2.2.2.2.2.1 u.2.2.2.2.2.2.2.2.2.2.2.1 u.2.2.2.2.2.2.2.2.2.2.2.2.1 u.2.2.2.2.2.2.2.2.2.2.2.2.2.1 u.2.2.2.2.2.2.2.2.2.2.2.2.2.2.1 u.2.2.2.2.2.2.2.2.2.2.2.2.2.2.2.1 u.2.2.2.2.2.2.2.2.2.2.2.2.2.2.2.2 H.size) (cwV 0 hts (TB_V k_m_L_105 k_im_X7_thrown k_se_X7_thrown k_in_X7 k_co_X7_thrown (fun _ h => h)) rfl rfl rfl (by decide +kernel) ⟨Nat.le_of_ble_eq_true rfl, Nat.le_of_ble_eq_true rfl⟩) ⟨cP_blind, va_recv hK4 hPc (ci := 7) (q0 := 0) rfl rfl, cP_of hPc hK4 hDc⟩ rfl rfl hl.1 rfl (lv_room (Nat.le_of_ble_eq_true rfl)) dL_law_792 ⟨(show 100 + k + 1 + 0 + 0 ≤ 601024 by omega), (show 2000 + 6 * k + 6 + 0 + 0 ≤ 7293034 by omega)⟩) hS (fun q _ h => absurd h id) (fun q h => absurd h id) (fun tz u9 t9 H locs ht9 hvm hw hB hz1 hk1 hS => ?_)
  have hP := P_same hP hk1
  have hth2 : tz = nI (rs_speed v.1 (xs (6 * k + 1)) (xs (6 * k + 2))).1 := hw.trans hth
  refine t_i hth2 ?_
  refine lv_iload hx hb dL_law_795 (lv_at hl 1 rfl) ?_
  refine b_icmp_eq hx hb (nI_toIntI (by omega)) (nI_toIntI (by omega)) dL_law_797 (tgt := 802) (by decide) (fun c797 => ?_) (fun c797 => absurd c797 (fun q9 => q9 rfl))
  refine lv_iload hx hb dL_law_802 (lv_at hl 1 rfl) ?_
  refine b_if_ne hx hb (nI_toIntI (by omega)) dL_law_804 (tgt := 818) (by decide) (fun c804 => ?_) (fun c804 => ?_)
  · refine lv_goto (tgt := 1641) hx hb dL_law_818 (by decide) ?_
    exact N v1 i1 u fo1 fd1 _ _ _ hI1 hJ1 hR1 hP hD hS (lv_sub hl [2, 3, 4, 5, 6, 7] rfl)
  have h9 : (rs_speed v.1 (xs (6 * k + 1)) (xs (6 * k + 2))).1 = 0 := by omega
  refine lv_aload_n hx hb dL_law_807 rfl (lv_at hl 6 rfl) ?_
  refine lv_iconst (v := nI 0) hx hb dL_law_808 (by decide) ?_
  refine n_lald hx hb hK hP 0 1 rfl rfl (i := 0) (n := 1) (by decide) (by decide) dL_law_809 ?_
  refine lv_lload hx hb dL_law_810 (lv_at hl 0 rfl) ?_
  refine b_lcmp_eq hx hb rfl rfl dL_law_812 dL_law_813 (tgt := 818) (by decide) (fun c812 => ?_) (fun c812 => absurd c812 (fun q9 => q9 (by rw [(hh0 h9).1]; exact (hzz h9).symm)))
  refine lv_goto (tgt := 1641) hx hb dL_law_818 (by decide) ?_
  exact N v1 i1 u fo1 fd1 _ _ _ hI1 hJ1 hR1 hP hD hS (lv_sub hl [2, 3, 4, 5, 6, 7] rfl)
set_option maxHeartbeats 4000000 in
set_option maxRecDepth 100000 in
theorem law_case_13 {p : Program} {l : Launch} {e : Env} {s : State} {m : MethodId} {below : List Frame} {meth : Method} {c : Code} {b L : Nat} {xs : Nat → Int32} {D : va_G} {K : Nat → ClassId} {A : Nat → Prop} (hlf : l.stackTraces = false) (hx : p.tables.exec = Jvm.exec) (hb : c.code = cL_law) (hml : c.maxLocals = 9) (hown : s.vm.findClass RL = some m.cls) (hts : ∀ w ∈ TB, w.before #[Value.ref b] s = true) (hX : va_X b L xs s s.heap) (hbl : b < s.heap.size) (hbA : ¬ A b) (hA : ∀ q, s.heap.size ≤ q → A q) (hK : va_K D vwCl (TY5 K) s) (hTX : TX A s.heap s) (hCL : CL s) (hL : L ≤ 3072) {ad q q1 q2 g r r2 mm : Nat → Nat} {oa ob k : Nat} {v : CV} {i : CI} {w0 : MS} {fo : Nat → Int64} {fd : Nat → UInt64} {H : Heap} {locs : List Loc} {ls : Array Slot} (hk : 6 * k + 6 ≤ L) (hI : IV v) (hJ : II v.1 i) (hR : RM v w0) (hP : va_P D vwCl (([(oa, .inl (K 1, 1, .inr (.inl fo)))] ++ ([(ob, .inl (K 4, 1, .inr (.inr (.inr (.inl fd)))))] ++ (WX K ad q q1 q2 g r r2 v i))) ++ (WMu K mm w0)) H) (hD : va_D A (([(oa, .inl (K 1, 1, .inr (.inl fo)))] ++ ([(ob, .inl (K 4, 1, .inr (.inr (.inr (.inl fd)))))] ++ (WX K ad q q1 q2 g r r2 v i))) ++ (WMu K mm w0))) (hS : va_S A s.heap H locs) (hl : lv_has ls 9 [(5, .int (nI (6 * k))), (0, .ref b), (1, .ref (ad 0)), (2, .ref (mm 0)), (3, .ref oa), (4, .ref ob)]) (N : LNX p l e s m below meth c b D K A ad q q1 q2 g r r2 mm oa ob k) : W p l e room_1 s m #[Value.ref b] below meth c H locs (100 + k) (2000 + 6 * k) (lw_Z below #[Value.ref b] s) (F0 m 821 ls []) := by
  have hK4 := hK.sub (tys' := TY K) [0, 1, 2, 3] rfl
  refine lv_aload_n hx hb dL_law_821 rfl (lv_at hl 2 rfl) ?_
  refine lv_aload_n hx hb dL_law_822 rfl (lv_at hl 1 rfl) ?_
  refine lv_iload hx hb dL_law_823 (lv_at hl 0 rfl) ?_
  refine lv_iconst (v := nI 1) hx hb dL_law_825 (by decide) ?_
  refine lv_iadd hx hb dL_law_826 ?_
  refine t_i (nI_add _ _) ?_
  refine n_sld hx hb hX hbl hbA hS (i := 6 * k + 1) (by omega) (by omega) dL_law_827 ?_
  refine lv_aload_n hx hb dL_law_828 rfl (lv_at hl 4 rfl) ?_
  have hPc := bP0 hP
  have hDc := bD0 hD
  have hFc := bF0 hD hS hA
  refine va_calli (vx_runSW (As := [.ref (ad 0), .int (xs (6 * k + 1)), .ref oa]) (rest := []) ⟨hx, hb, hml, hown, hts⟩ (c_L_ratio l hlf D K oa ob fo fd ad q q1 q2 g r r2 v i (xs (6 * k + 1)) H.size hI hJ) (vx_cwSW 3 hts (TB_SW k_m_L_151 k_st_L_ratio k_in_L k_co_L_ratio (fun _ h => h)) rfl rfl rfl (by decide +kernel) ⟨Nat.le_of_ble_eq_true rfl, Nat.le_of_ble_eq_true rfl⟩) ⟨cPL_blind, cPL_of hPc hK hDc hTX hCL hS hFc⟩ rfl rfl hl.1 rfl (lv_room (Nat.le_of_ble_eq_true rfl)) dL_law_829 ⟨(show 100 + k + 1 ≤ 601024 by omega), (show 2000 + 6 * k + 6 ≤ 7293034 by omega)⟩) hS (fun q _ h => hFc q h) hFc (fun kz u9 t9 H locs ht9 hvm hw hB hz1 hk1 hS => ?_)
  obtain ⟨v1, i1, fo1, fd1⟩ := u9
  obtain ⟨hP1, hK1, hD1⟩ := hB
  rw [ht9] at hP1
  obtain ⟨hP, hD⟩ := bJ0 hP hD hk1 hFc hP1 hD1
  have hP : va_P D vwCl (([(oa, .inl (K 1, 1, .inr (.inl fo1)))] ++ ([(ob, .inl (K 4, 1, .inr (.inr (.inr (.inl fd1)))))] ++ (WX K ad q q1 q2 g r r2 v1 i1))) ++ (WMu K mm w0)) H := hP
  have hD : va_D A (([(oa, .inl (K 1, 1, .inr (.inl fo1)))] ++ ([(ob, .inl (K 4, 1, .inr (.inr (.inr (.inl fd1)))))] ++ (WX K ad q q1 q2 g r r2 v1 i1))) ++ (WMu K mm w0)) := hD
  obtain ⟨hkz, hr3, hI1, hJ1, hh0, hh1⟩ := hw
  dsimp only at hI1 hJ1 hh0 hh1
  refine t_i (show kz = nI (rs_ratio v.1 (xs (6 * k + 1))).1 from hkz) ?_
  refine lv_istore (lv' := [(6, .int (nI ((rs_ratio v.1 (xs (6 * k + 1))).1))), (5, .int (nI (6 * k))), (0, .ref b), (1, .ref (ad 0)), (2, .ref (mm 0)), (3, .ref oa), (4, .ref ob)]) hx hb dL_law_832 hl (by decide) rfl (fun ls hl => ?_)
  refine lv_aload_n hx hb dL_law_834 rfl (lv_at hl 4 rfl) ?_
  refine lv_aload_n hx hb dL_law_835 rfl (lv_at hl 2 rfl) ?_
  refine lv_iload hx hb dL_law_836 (lv_at hl 1 rfl) ?_
  refine lv_iconst (v := nI 1) hx hb dL_law_838 (by decide) ?_
  refine lv_iadd hx hb dL_law_839 ?_
  refine t_i (nI_add _ _) ?_
  refine n_sld hx hb hX hbl hbA hS (i := 6 * k + 1) (by omega) (by omega) dL_law_840 ?_
  have hPc := bP1e hP
  have hDc := bD1e hD
  have hFc := bF1e hD hS hA
  refine va_calll (va_runV (As := [.int (xs (6 * k + 1))]) (rest := []) ⟨hx, hb, hml, hown, hts⟩ (c_X7_ratio l D K mm v w0 (xs (6 * k + 1)) H.size hI hR) (cwV 1 hts (TB_V k_m_L_153 k_im_X7_ratio k_se_X7_ratio k_in_X7 k_co_X7_ratio (fun _ h => h)) rfl rfl rfl (by decide +kernel) ⟨Nat.le_of_ble_eq_true rfl, Nat.le_of_ble_eq_true rfl⟩) ⟨cP_blind, va_recv hK4 hPc (ci := 7) (q0 := 0) rfl rfl, cP_of hPc hK4 hDc⟩ rfl rfl hl.1 rfl (lv_room (Nat.le_of_ble_eq_true rfl)) dL_law_841 ⟨(show 100 + k + 1 + 0 ≤ 601024 by omega), (show 2000 + 6 * k + 6 + 0 ≤ 7293034 by omega)⟩) hS (fun q _ h => hFc q h) hFc (fun mz u t9 H locs ht9 hvm hw hB hz1 hk1 hS => ?_)
  obtain ⟨hP1, hK1, hD1⟩ := hB
  rw [ht9] at hP1
  obtain ⟨hP, hD⟩ := bJ1e hP hD hk1 hFc hP1 hD1
  have hP : va_P D vwCl (([(oa, .inl (K 1, 1, .inr (.inl fo1)))] ++ ([(ob, .inl (K 4, 1, .inr (.inr (.inr (.inl fd1)))))] ++ (WX K ad q q1 q2 g r r2 v1 i1))) ++ (WMu K mm u)) H := hP
  have hD : va_D A (([(oa, .inl (K 1, 1, .inr (.inl fo1)))] ++ ([(ob, .inl (K 4, 1, .inr (.inr (.inr (.inl fd1)))))] ++ (WX K ad q q1 q2 g r r2 v1 i1))) ++ (WMu K mm u)) := hD
  obtain ⟨hRu, hth, hzz⟩ := hw
  have hR1 : RM v1 u := by
    by_cases h9 : (rs_ratio v.1 (xs (6 * k + 1))).1 = 0
    · rw [(hh0 h9).2]; exact hRu
    · rw [hh1 h9]; exact hRu
  refine lv_lstore (lv' := [(7, .long mz), (6, .int (nI ((rs_ratio v.1 (xs (6 * k + 1))).1))), (5, .int (nI (6 * k))), (0, .ref b), (1, .ref (ad 0)), (2, .ref (mm 0)), (3, .ref oa), (4, .ref ob)]) hx hb dL_law_844 hl (by decide) rfl (fun ls hl => ?_)
  refine lv_aload_n hx hb dL_law_846 rfl (lv_at hl 5 rfl) ?_
  have hPc := bP1e hP
  have hDc := bD1e hD
  refine va_calli (va_runV (As := []) (rest := []) ⟨hx, hb, hml, hown, hts⟩ (c_X7_thrown l D K mm u.1 u.2.1 u.2.2.1 u.2.2.2.1 u.2.2.2.2.1 u.2.2.2.2.2.1 u.2.2.2.2.2.2.1 u.2.2.2.2.2.2.2.1 u.2.2.2.2.2.2.2.2.1 u.2.2.2.2.2.2.2.2.2.1 u.2.2.2.2.2.2.2.2.2.2.1 u.2.2.2.2.2.2.2.2.2.2.2.1 u.2.2.2.2.2.2.2.2.2.2.2.2.1 u.2.2.2.2.2.2.2.2.2.2.2.2.2.1 u.2.2.2.2.2.2.2.2.2.2.2.2.2.2.1 u.2.2.2.2.2.2.2.2.2.2.2.2.2.2.2.1 u.2.2.2.2.2.2.2.2.2.2.2.2.2.2.2.2 H.size) (cwV 0 hts (TB_V k_m_L_105 k_im_X7_thrown k_se_X7_thrown k_in_X7 k_co_X7_thrown (fun _ h => h)) rfl rfl rfl (by decide +kernel) ⟨Nat.le_of_ble_eq_true rfl, Nat.le_of_ble_eq_true rfl⟩) ⟨cP_blind, va_recv hK4 hPc (ci := 7) (q0 := 0) rfl rfl, cP_of hPc hK4 hDc⟩ rfl rfl hl.1 rfl (lv_room (Nat.le_of_ble_eq_true rfl)) dL_law_847 ⟨(show 100 + k + 1 + 0 + 0 ≤ 601024 by omega), (show 2000 + 6 * k + 6 + 0 + 0 ≤ 7293034 by omega)⟩) hS (fun q _ h => absurd h id) (fun q h => absurd h id) (fun tz u9 t9 H locs ht9 hvm hw hB hz1 hk1 hS => ?_)
  have hP := P_same hP hk1
  have hth2 : tz = nI (rs_ratio v.1 (xs (6 * k + 1))).1 := hw.trans hth
  refine t_i hth2 ?_
  refine lv_iload hx hb dL_law_850 (lv_at hl 1 rfl) ?_
  refine b_icmp_eq hx hb (nI_toIntI (by omega)) (nI_toIntI (by omega)) dL_law_852 (tgt := 857) (by decide) (fun c852 => ?_) (fun c852 => absurd c852 (fun q9 => q9 rfl))
  refine lv_iload hx hb dL_law_857 (lv_at hl 1 rfl) ?_
  refine b_if_ne hx hb (nI_toIntI (by omega)) dL_law_859 (tgt := 873) (by decide) (fun c859 => ?_) (fun c859 => ?_)
  · refine lv_goto (tgt := 1641) hx hb dL_law_873 (by decide) ?_
    exact N v1 i1 u fo1 fd1 _ _ _ hI1 hJ1 hR1 hP hD hS (lv_sub hl [2, 3, 4, 5, 6, 7] rfl)
  have h9 : (rs_ratio v.1 (xs (6 * k + 1))).1 = 0 := by omega
  refine lv_aload_n hx hb dL_law_862 rfl (lv_at hl 6 rfl) ?_
  refine lv_iconst (v := nI 0) hx hb dL_law_863 (by decide) ?_
  refine n_lald hx hb hK hP 0 1 rfl rfl (i := 0) (n := 1) (by decide) (by decide) dL_law_864 ?_
  refine lv_lload hx hb dL_law_865 (lv_at hl 0 rfl) ?_
  refine b_lcmp_eq hx hb rfl rfl dL_law_867 dL_law_868 (tgt := 873) (by decide) (fun c867 => ?_) (fun c867 => absurd c867 (fun q9 => q9 (by rw [(hh0 h9).1]; exact (hzz h9).symm)))
  refine lv_goto (tgt := 1641) hx hb dL_law_873 (by decide) ?_
  exact N v1 i1 u fo1 fd1 _ _ _ hI1 hJ1 hR1 hP hD hS (lv_sub hl [2, 3, 4, 5, 6, 7] rfl)
