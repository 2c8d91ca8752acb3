/-! the law: its sets -/
set_option maxHeartbeats 4000000 in
set_option maxRecDepth 100000 in
theorem law_sets {p : Program} {l : Launch} {e : Env} {s : State} {m : MethodId} {below : List Frame} {meth : Method} {c : Code} {b L : Nat} {xs : Nat → Int32} {D : va_G} {K : Nat → ClassId} {A : Nat → Prop} (hlf : l.stackTraces = false) (hx : p.tables.exec = Jvm.exec) (hb : c.code = cL_law) (hml : c.maxLocals = 13) (hown : s.vm.findClass RL = some m.cls) (hts : ∀ w ∈ TB, w.before #[Value.ref b] s = true) (hX : va_X b L xs s s.heap) (hbl : b < s.heap.size) (hbA : ¬ A b) (hA : ∀ q, s.heap.size ≤ q → A q) (hK : va_K D vwCl (TY K) s) (hTX : TX A s.heap s) (hCL : CL s) (hL : L ≤ 260) (hr : meth.sig.returnType = ret) (hlocks : meth.locks = false) (hAs : ∀ q, A q → s.heap.size ≤ q) {ad q q1 q2 g r r2 : Nat → Nat} {vw : CV} {i : CI} (hI : IV vw) (hJ : II vw.1 i) (hg0 : vw.1 8 0 = nI 0) (hg1 : vw.1 8 1 = nI 0) (hg2 : vw.1 8 2 = nI 0) {H : Heap} {locs : List Loc} {ls : Array Slot} (hP : va_P D vwCl (WX K ad q q1 q2 g r r2 vw i) H) (hD : va_D A (WX K ad q q1 q2 g r r2 vw i)) (hS : va_S A s.heap H locs) (hl : lv_has ls 13 [(0, .ref b), (1, .ref (ad 0)), (2, .int (nI 1))]) : W p l e room_1 s m #[Value.ref b] below meth c H locs 110 2060 (lw_Z below #[Value.ref b] s) (F0 m 27 ls []) := by
  refine lv_iconst (v := nI 1) hx hb dL_law_27 (by decide) ?_
  refine lv_aload_n hx hb dL_law_28 rfl (lv_at hl 0 rfl) ?_
  refine lv_iload_n hx hb dL_law_29 rfl (lv_at hl 2 rfl) ?_
  refine lv_iinc (v := nI (1 + 1)) (lv' := [(2, .int (nI (1 + 1))), (0, .ref b), (1, .ref (ad 0))]) hx hb dL_law_30 hl (k := 2) rfl (nI_add 1 1) (by decide) rfl (fun ls hl => ?_)
  refine va_calli (va_runS (As := [.ref b, .int (nI 1)]) (rest := [.int (nI 1)]) ⟨hx, hb, hml, hown, hts⟩ (c_L_cell l b L 1 xs (by omega) (by omega)) (va_cwS 2 hts (TB_S k_m_L_12 k_st_L_cell k_in_L k_co_L_cell (fun _ h => h)) rfl rfl rfl (by decide +kernel) ⟨Nat.le_of_ble_eq_true rfl, Nat.le_of_ble_eq_true rfl⟩) ⟨cXs_blind, cXs_of hX hbl hbA hS⟩ rfl rfl hl.1 rfl (lv_room (Nat.le_of_ble_eq_true rfl)) dL_law_33 ⟨(Nat.le_of_ble_eq_true rfl), (Nat.le_of_ble_eq_true rfl)⟩) hS (fun q _ h => absurd h id) (fun q h => absurd h id) (fun cv_1 u9 t9 H locs ht9 hvm hw hB hz1 hk1 hS => ?_)
  have hP := P_same hP hk1
  refine lv_iconst (v := nI 3) hx hb dL_law_36 (by decide) ?_
  refine va_calli (va_runS (As := [.int cv_1, .int (nI 3)]) (rest := [.int (nI 1)]) ⟨hx, hb, hml, hown, hts⟩ (c_L_up l cv_1 3 (by omega) (by omega)) (va_cwS 2 hts (TB_S k_m_L_22 k_st_L_up k_in_L k_co_L_up (fun _ h => h)) rfl rfl rfl (by decide +kernel) ⟨Nat.le_of_ble_eq_true rfl, Nat.le_of_ble_eq_true rfl⟩) ⟨tP_blind, tP_of⟩ rfl rfl hl.1 rfl (lv_room (Nat.le_of_ble_eq_true rfl)) dL_law_37 ⟨(Nat.le_of_ble_eq_true rfl), (Nat.le_of_ble_eq_true rfl)⟩) hS (fun q _ h => absurd h id) (fun q h => absurd h id) (fun ru u9 t9 H locs ht9 hvm hw hB hz1 hk1 hS => ?_)
  have hP := P_same hP hk1
  obtain ⟨up_2, hup_2, eup_2⟩ := hw
  refine t_i eup_2 ?_
  refine lv_iadd hx hb dL_law_40 ?_
  refine t_i (nI_add _ _) ?_
  refine lv_istore_n (lv' := [(3, .int (nI (1 + up_2))), (2, .int (nI (1 + 1))), (0, .ref b), (1, .ref (ad 0))]) hx hb dL_law_41 rfl hl (by decide) rfl (fun ls hl => ?_)
  obtain ⟨ns, hns⟩ : ∃ t, t = 1 + up_2 := ⟨_, rfl⟩
  rw [← hns] at hl
  have hns3 : ns ≤ 3 := by omega
  clear hns
  refine lv_iconst (v := nI 0) hx hb dL_law_42 (by decide) ?_
  refine lv_istore (lv' := [(4, .int (nI 0)), (3, .int (nI ns)), (2, .int (nI (1 + 1))), (0, .ref b), (1, .ref (ad 0))]) hx hb dL_law_43 hl (by decide) rfl (fun ls hl => ?_)
  refine W.widen (k := 110 + 0) (n := 2060 + 0 * 6) (by omega) (by omega) ?_
  have L45 : ∀ (fuel : Nat) (vw : CV) (i : CI) (k : Nat) (a9 : Nat) (H : Heap) (locs : List Loc) (ls : Array Slot), ns - k < fuel → (IV vw) → (II vw.1 i) → (vw.1 8 0 = nI k) → (vw.1 8 1 = nI 0) → (vw.1 8 2 = nI 0) → (k ≤ ns) → (a9 ≤ 2 + k) → va_P D vwCl (WX K ad q q1 q2 g r r2 vw i) H → va_D A (WX K ad q q1 q2 g r r2 vw i) → va_S A s.heap H locs → lv_has ls 13 [(0, .ref b), (1, .ref (ad 0)), (2, .int (nI a9)), (3, .int (nI ns)), (4, .int (nI k))] → W p l e room_1 s m #[Value.ref b] below meth c H locs (110 + k) (2060 + k * 6) (lw_Z below #[Value.ref b] s) (F0 m 45 ls []) := by
    intro fuel
    induction fuel with
    | zero =>
      intro vw i k a9 H locs ls hfu
      exact absurd hfu (Nat.not_lt_zero _)
    | succ fuel ih45 =>
      intro vw i k a9 H locs ls hfu hI hJ hg0 hg1 hg2 hk ha9 hP hD hS hl
      refine lv_iload hx hb dL_law_45 (lv_at hl 4 rfl) ?_
      refine lv_iload_n hx hb dL_law_47 rfl (lv_at hl 3 rfl) ?_
      refine b_icmp_ge hx hb (nI_toIntI (by omega)) (nI_toIntI (by omega)) dL_law_48 (tgt := 198) (by decide) (fun c48 => ?_) (fun c48 => ?_)
      · refine W.widen (k := 113) (n := 2078) (by omega) (by omega) ?_
        exact law_elems hlf hx hb hml hown hts hX hbl hbA hA hK hTX hCL hL hr hlocks hAs hI hJ hg1 hg2 (show a9 ≤ 10 by omega) hP hD hS (lv_sub hl [0, 1, 2] rfl)
      have hd0 : dn vw.1 8 0 = k := dn_of hg0 (by omega)
      refine lv_aload_n hx hb dL_law_51 rfl (lv_at hl 0 rfl) ?_
      refine lv_iload_n hx hb dL_law_52 rfl (lv_at hl 2 rfl) ?_
      refine lv_iinc (v := nI (a9 + 1)) (lv' := [(2, .int (nI (a9 + 1))), (0, .ref b), (1, .ref (ad 0)), (3, .int (nI ns)), (4, .int (nI k))]) hx hb dL_law_53 hl (k := 2) rfl (nI_add a9 1) (by decide) rfl (fun ls hl => ?_)
      refine va_calli (va_runS (As := [.ref b, .int (nI a9)]) (rest := []) ⟨hx, hb, hml, hown, hts⟩ (c_L_cell l b L a9 xs (by omega) (by omega)) (va_cwS 2 hts (TB_S k_m_L_12 k_st_L_cell k_in_L k_co_L_cell (fun _ h => h)) rfl rfl rfl (by decide +kernel) ⟨Nat.le_of_ble_eq_true rfl, Nat.le_of_ble_eq_true rfl⟩) ⟨cXs_blind, cXs_of hX hbl hbA hS⟩ rfl rfl hl.1 rfl (lv_room (Nat.le_of_ble_eq_true rfl)) dL_law_56 ⟨(show (110 + k) + 0 ≤ 611516 by omega), (show (2060 + k * 6) + 0 ≤ 7267151 by omega)⟩) hS (fun q _ h => absurd h id) (fun q h => absurd h id) (fun cv_3 u9 t9 H locs ht9 hvm hw hB hz1 hk1 hS => ?_)
      have hP := P_same hP hk1
      refine lv_istore (lv' := [(5, .int cv_3), (2, .int (nI (a9 + 1))), (0, .ref b), (1, .ref (ad 0)), (3, .int (nI ns)), (4, .int (nI k))]) hx hb dL_law_59 hl (by decide) rfl (fun ls hl => ?_)
      by_cases hk0 : k = 0
      · refine lv_iload hx hb dL_law_61 (lv_at hl 5 rfl) ?_
        refine b_if_ne hx hb (nI_toIntI (by omega)) dL_law_63 (tgt := 70) (by decide) (fun c63 => absurd c63 (by omega)) (fun c63 => ?_)
        refine lv_iconst (v := nI 0) hx hb dL_law_66 (by decide) ?_
        refine lv_goto (tgt := 76) hx hb dL_law_67 (by decide) ?_
        refine lv_istore (lv' := [(6, .int (nI 0)), (5, .int cv_3), (2, .int (nI (a9 + 1))), (0, .ref b), (1, .ref (ad 0)), (3, .int (nI ns)), (4, .int (nI k))]) hx hb dL_law_76 hl (by decide) rfl (fun ls hl => ?_)
        refine lv_iload hx hb dL_law_78 (lv_at hl 0 rfl) ?_
        refine lv_iconst (v := nI 1) hx hb dL_law_80 (by decide) ?_
        refine lv_iadd hx hb dL_law_81 ?_
        refine t_i (nI_add _ _) ?_
        refine lv_iload hx hb dL_law_82 (lv_at hl 1 rfl) ?_
        refine lv_iconst (v := nI 4) hx hb dL_law_84 (by decide) ?_
        refine lv_ishr hx hb dL_law_85 ?_
        refine lv_iconst (v := nI 4) hx hb dL_law_86 (by decide) ?_
        refine va_calli (va_runS (As := [.int (cv_3 >>> ((nI 4) &&& 31)), .int (nI 4)]) (rest := [.int (nI (0 + 1))]) ⟨hx, hb, hml, hown, hts⟩ (c_L_up l (cv_3 >>> ((nI 4) &&& 31)) 4 (by omega) (by omega)) (va_cwS 2 hts (TB_S k_m_L_22 k_st_L_up k_in_L k_co_L_up (fun _ h => h)) rfl rfl rfl (by decide +kernel) ⟨Nat.le_of_ble_eq_true rfl, Nat.le_of_ble_eq_true rfl⟩) ⟨tP_blind, tP_of⟩ rfl rfl hl.1 rfl (lv_room (Nat.le_of_ble_eq_true rfl)) dL_law_87 ⟨(show ((110 + k) + 0) + 0 ≤ 611516 by omega), (show ((2060 + k * 6) + 0) + 0 ≤ 7267151 by omega)⟩) hS (fun q _ h => absurd h id) (fun q h => absurd h id) (fun ru u9 t9 H locs ht9 hvm hw hB hz1 hk1 hS => ?_)
        have hP := P_same hP hk1
        obtain ⟨up_4, hup_4, eup_4⟩ := hw
        refine t_i eup_4 ?_
        refine lv_iadd hx hb dL_law_90 ?_
        refine t_i (nI_add _ _) ?_
        refine lv_iconst (v := nI 5) hx hb dL_law_91 (by decide) ?_
        refine lv_irem hx hb dL_law_92 (nI_ne0 (by decide) (by decide)) ?_
        refine t_i (pk_rem (by omega) (by omega) (by omega)) ?_
        obtain ⟨rm_5, hrm_5⟩ : ∃ y, y = (0 + 1 + up_4) % 5 := ⟨_, rfl⟩
        refine t_i (congrArg nI hrm_5.symm) ?_
        refine lv_istore (lv' := [(7, .int (nI rm_5)), (6, .int (nI 0)), (5, .int cv_3), (2, .int (nI (a9 + 1))), (0, .ref b), (1, .ref (ad 0)), (3, .int (nI ns)), (4, .int (nI k))]) hx hb dL_law_93 hl (by decide) rfl (fun ls hl => ?_)
        refine lv_iload hx hb dL_law_95 (lv_at hl 7 rfl) ?_
        refine b_if_ne hx hb (nI_toIntI (by omega)) dL_law_97 (tgt := 110) (by decide) (fun c97 => absurd c97 (by omega)) (fun c97 => ?_)
        refine lv_iload hx hb dL_law_100 (lv_at hl 0 rfl) ?_
        refine lv_iconst (v := nI 1) hx hb dL_law_102 (by decide) ?_
        refine b_icmp_eq hx hb (nI_toIntI (by omega)) (nI_toIntI (by omega)) dL_law_103 (tgt := 110) (by decide) (fun c103 => ?_) (fun c103 => ?_)
        · refine lv_iload hx hb dL_law_110 (lv_at hl 0 rfl) ?_
          refine lv_iconst (v := nI 1) hx hb dL_law_112 (by decide) ?_
          refine lv_iadd hx hb dL_law_113 ?_
          refine t_i (nI_add _ _) ?_
          refine lv_iconst (v := nI 5) hx hb dL_law_114 (by decide) ?_
          refine lv_irem hx hb dL_law_115 (nI_ne0 (by decide) (by decide)) ?_
          refine t_i (pk_rem (by omega) (by omega) (by omega)) ?_
          obtain ⟨rm_6, hrm_6⟩ : ∃ y, y = (rm_5 + 1) % 5 := ⟨_, rfl⟩
          refine t_i (congrArg nI hrm_6.symm) ?_
          refine lv_iload hx hb dL_law_116 (lv_at hl 1 rfl) ?_
          refine b_icmp_ne hx hb (nI_toIntI (by omega)) (nI_toIntI (by omega)) dL_law_118 (tgt := 130) (by decide) (fun c118 => ?_) (fun c118 => ?_)
          · refine lv_iload hx hb dL_law_130 (lv_at hl 0 rfl) ?_
            refine lv_iconst (v := nI 1) hx hb dL_law_132 (by decide) ?_
            refine lv_iadd hx hb dL_law_133 ?_
            refine t_i (nI_add _ _) ?_
            refine lv_iconst (v := nI 5) hx hb dL_law_134 (by decide) ?_
            refine lv_irem hx hb dL_law_135 (nI_ne0 (by decide) (by decide)) ?_
            refine t_i (pk_rem (by omega) (by omega) (by omega)) ?_
            obtain ⟨rm_7, hrm_7⟩ : ∃ y, y = (rm_5 + 1) % 5 := ⟨_, rfl⟩
            refine t_i (congrArg nI hrm_7.symm) ?_
            refine lv_istore (lv' := [(8, .int (nI rm_7)), (7, .int (nI rm_5)), (6, .int (nI 0)), (5, .int cv_3), (2, .int (nI (a9 + 1))), (0, .ref b), (1, .ref (ad 0)), (3, .int (nI ns)), (4, .int (nI k))]) hx hb dL_law_136 hl (by decide) rfl (fun ls hl => ?_)
            refine lv_bipush (v := nI 10) hx hb dL_law_138 (by decide) ?_
            refine lv_iload hx hb dL_law_140 (lv_at hl 3 rfl) ?_
            refine lv_bipush (v := nI 10) hx hb dL_law_142 (by decide) ?_
            refine lv_ishr hx hb dL_law_144 ?_
            refine lv_bipush (v := nI 31) hx hb dL_law_145 (by decide) ?_
            refine va_calli (va_runS (As := [.int (cv_3 >>> ((nI 10) &&& 31)), .int (nI 31)]) (rest := [.int (nI 10)]) ⟨hx, hb, hml, hown, hts⟩ (c_L_up l (cv_3 >>> ((nI 10) &&& 31)) 31 (by omega) (by omega)) (va_cwS 2 hts (TB_S k_m_L_22 k_st_L_up k_in_L k_co_L_up (fun _ h => h)) rfl rfl rfl (by decide +kernel) ⟨Nat.le_of_ble_eq_true rfl, Nat.le_of_ble_eq_true rfl⟩) ⟨tP_blind, tP_of⟩ rfl rfl hl.1 rfl (lv_room (Nat.le_of_ble_eq_true rfl)) dL_law_147 ⟨(show (((110 + k) + 0) + 0) + 0 ≤ 611516 by omega), (show (((2060 + k * 6) + 0) + 0) + 0 ≤ 7267151 by omega)⟩) hS (fun q _ h => absurd h id) (fun q h => absurd h id) (fun ru u9 t9 H locs ht9 hvm hw hB hz1 hk1 hS => ?_)
            have hP := P_same hP hk1
            obtain ⟨up_8, hup_8, eup_8⟩ := hw
            refine t_i eup_8 ?_
            refine lv_iadd hx hb dL_law_150 ?_
            refine t_i (nI_add _ _) ?_
            refine lv_istore (lv' := [(9, .int (nI (10 + up_8))), (8, .int (nI rm_7)), (7, .int (nI rm_5)), (6, .int (nI 0)), (5, .int cv_3), (2, .int (nI (a9 + 1))), (0, .ref b), (1, .ref (ad 0)), (3, .int (nI ns)), (4, .int (nI k))]) hx hb dL_law_151 hl (by decide) rfl (fun ls hl => ?_)
            refine lv_aload_n hx hb dL_law_153 rfl (lv_at hl 7 rfl) ?_
            refine lv_iload hx hb dL_law_154 (lv_at hl 3 rfl) ?_
            refine lv_iload hx hb dL_law_156 (lv_at hl 2 rfl) ?_
            refine lv_iload hx hb dL_law_158 (lv_at hl 1 rfl) ?_
            refine lv_iload hx hb dL_law_160 (lv_at hl 0 rfl) ?_
            refine lv_iload hx hb dL_law_162 (lv_at hl 0 rfl) ?_
            refine lv_iconst (v := nI 1) hx hb dL_law_164 (by decide) ?_
            refine lv_iadd hx hb dL_law_165 ?_
            refine t_i (nI_add _ _) ?_
            refine lv_iload hx hb dL_law_166 (lv_at hl 4 rfl) ?_
            refine lv_bipush (v := nI 16) hx hb dL_law_168 (by decide) ?_
            refine lv_ishr hx hb dL_law_170 ?_
            refine lv_bipush (v := nI 100) hx hb dL_law_171 (by decide) ?_
            refine lv_iload hx hb dL_law_173 (lv_at hl 0 rfl) ?_
            refine lv_isub hx hb dL_law_175 ?_
            refine t_i (pk_sub (by omega)) ?_
            refine va_calli (va_runS (As := [.int (cv_3 >>> ((nI 16) &&& 31)), .int (nI (100 - (10 + up_8)))]) (rest := [.int (nI (10 + up_8 + 1)), .int (nI (10 + up_8)), .int (nI rm_7), .int (nI rm_5), .int (nI 0), .ref (ad 0)]) ⟨hx, hb, hml, hown, hts⟩ (c_L_up l (cv_3 >>> ((nI 16) &&& 31)) (100 - (10 + up_8)) (by omega) (by omega)) (va_cwS 2 hts (TB_S k_m_L_22 k_st_L_up k_in_L k_co_L_up (fun _ h => h)) rfl rfl rfl (by decide +kernel) ⟨Nat.le_of_ble_eq_true rfl, Nat.le_of_ble_eq_true rfl⟩) ⟨tP_blind, tP_of⟩ rfl rfl hl.1 rfl (lv_room (Nat.le_of_ble_eq_true rfl)) dL_law_176 ⟨(show ((((110 + k) + 0) + 0) + 0) + 0 ≤ 611516 by omega), (show ((((2060 + k * 6) + 0) + 0) + 0) + 0 ≤ 7267151 by omega)⟩) hS (fun q _ h => absurd h id) (fun q h => absurd h id) (fun ru u9 t9 H locs ht9 hvm hw hB hz1 hk1 hS => ?_)
            have hP := P_same hP hk1
            obtain ⟨up_9, hup_9, eup_9⟩ := hw
            refine t_i eup_9 ?_
            refine lv_iadd hx hb dL_law_179 ?_
            refine t_i (nI_add _ _) ?_
            have hm0 : dn vw.1 8 0 < 3 := by omega
            have hrs : rs_addSet vw.1 (nI 0) (nI rm_5) (nI rm_7) (nI (10 + up_8)) (nI (10 + up_8 + 1 + up_9)) = (0, ((k + 1 : Nat) : Int)) := ((rs_set_at (by omega) (by omega) (by omega) (by omega) (by omega) (by omega) (by omega) (by omega) (by omega) (by omega) hm0).trans (by rw [hd0]))
            have hFc := freeAll hD hS hA
            refine vx_calli (vx_runV (As := [.int (nI 0), .int (nI rm_5), .int (nI rm_7), .int (nI (10 + up_8)), .int (nI (10 + up_8 + 1 + up_9))]) (rest := []) ⟨hx, hb, hml, hown, hts⟩ (c_X6_addSet l hlf D K ad q q1 q2 g r r2 vw i (nI 0) (nI rm_5) (nI rm_7) (nI (10 + up_8)) (nI (10 + up_8 + 1 + up_9)) H.size hI hJ) (cwV 5 hts (TB_V k_m_L_26 k_im_X6_addSet k_se_X6_addSet k_in_X6 k_co_X6_addSet (fun _ h => h)) rfl rfl rfl (by decide +kernel) ⟨Nat.le_of_ble_eq_true rfl, Nat.le_of_ble_eq_true rfl⟩) ⟨cPT_blind, va_recv hK hP (ci := 6) (q0 := 0) rfl rfl, cPT_of hP hK hD hTX hS hFc⟩ rfl rfl hl.1 rfl (lv_room (Nat.le_of_ble_eq_true rfl)) dL_law_180 ⟨(show (((((110 + k) + 0) + 0) + 0) + 0) + 1 ≤ 611516 by omega), (show (((((2060 + k * 6) + 0) + 0) + 0) + 0) + 6 ≤ 7267151 by omega)⟩) hS (fun q _ h => hFc q h) hFc (fun q _ h => hFc q h) (fun E ce q9 u9 t9 H locs ht9 hal hpx hB hz1 hk1 hS hce hcv hcl => ?_) (fun rz u9 t9 H locs ht9 hal hw hB hz1 hk1 hS => ?_)
            · exact absurd hB.1.1 (by rw [hrs]; exact Nat.lt_irrefl 0)
            obtain ⟨vx1, i9⟩ := u9
            obtain ⟨hP1, hK1, hD1⟩ := hB
            rw [ht9] at hP1
            have hP2 := hP1
            have hD2 := hD1.weaken (fun _ _ _ h => hFc _ h)
            dsimp only at hw
            obtain ⟨he9, hI9, hJ9, hr9⟩ := hw
            have hz : rz.toInt = ((k + 1 : Nat) : Int) := (Prod.mk.inj (hr9.symm.trans hrs)).2
            rw [hd0] at he9
            have hg0 : vx1.1 8 0 = nI (k + 1) := by rw [he9]; rfl
            have hg1 : vx1.1 8 1 = nI 0 := by rw [he9]; exact hg1
            have hg2 : vx1.1 8 2 = nI 0 := by rw [he9]; exact hg2
            have hI := hI9
            have hJ := hJ9
            have hP : va_P D vwCl (WX K ad q q1 q2 g r r2 vx1 i9) H := hP2
            have hD : va_D A (WX K ad q q1 q2 g r r2 vx1 i9) := hD2
            refine t_i ((i32_eq rz (nI (k + 1))).mpr (by rw [nI_toIntI (by omega)]; exact hz)) ?_
            refine lv_iload hx hb dL_law_183 (lv_at hl 9 rfl) ?_
            refine lv_iconst (v := nI 1) hx hb dL_law_185 (by decide) ?_
            refine lv_iadd hx hb dL_law_186 ?_
            refine t_i (nI_add _ _) ?_
            refine b_icmp_eq hx hb (nI_toIntI (by omega)) (nI_toIntI (by omega)) dL_law_187 (tgt := 192) (by decide) (fun c187 => ?_) (fun c187 => absurd c187 (by omega))
            refine lv_iinc (v := nI (k + 1)) (lv' := [(4, .int (nI (k + 1))), (9, .int (nI (10 + up_8))), (8, .int (nI rm_7)), (7, .int (nI rm_5)), (6, .int (nI 0)), (5, .int cv_3), (2, .int (nI (a9 + 1))), (0, .ref b), (1, .ref (ad 0)), (3, .int (nI ns))]) hx hb dL_law_192 hl (k := 9) rfl (nI_add k 1) (by decide) rfl (fun ls hl => ?_)
            refine lv_goto (tgt := 45) hx hb dL_law_195 (by decide) ?_
            refine W.widen (k := 110 + (k + 1)) (n := 2060 + (k + 1) * 6) (by omega) (by omega) ?_
            exact ih45 vx1 i9 (k + 1) (a9 + 1) _ _ _ (by omega) hI hJ hg0 hg1 hg2 (by omega) (by omega) hP hD hS (lv_sub hl [7, 8, 6, 9, 0] rfl)
          refine lv_iload hx hb dL_law_121 (lv_at hl 0 rfl) ?_
          refine lv_iconst (v := nI 2) hx hb dL_law_123 (by decide) ?_
          refine lv_iadd hx hb dL_law_124 ?_
          refine t_i (nI_add _ _) ?_
          refine lv_iconst (v := nI 5) hx hb dL_law_125 (by decide) ?_
          refine lv_irem hx hb dL_law_126 (nI_ne0 (by decide) (by decide)) ?_
          refine t_i (pk_rem (by omega) (by omega) (by omega)) ?_
          obtain ⟨rm_10, hrm_10⟩ : ∃ y, y = (rm_5 + 2) % 5 := ⟨_, rfl⟩
          refine t_i (congrArg nI hrm_10.symm) ?_
          refine lv_goto (tgt := 136) hx hb dL_law_127 (by decide) ?_
          refine lv_istore (lv' := [(8, .int (nI rm_10)), (7, .int (nI rm_5)), (6, .int (nI 0)), (5, .int cv_3), (2, .int (nI (a9 + 1))), (0, .ref b), (1, .ref (ad 0)), (3, .int (nI ns)), (4, .int (nI k))]) hx hb dL_law_136 hl (by decide) rfl (fun ls hl => ?_)
          refine lv_bipush (v := nI 10) hx hb dL_law_138 (by decide) ?_
          refine lv_iload hx hb dL_law_140 (lv_at hl 3 rfl) ?_
          refine lv_bipush (v := nI 10) hx hb dL_law_142 (by decide) ?_
          refine lv_ishr hx hb dL_law_144 ?_
          refine lv_bipush (v := nI 31) hx hb dL_law_145 (by decide) ?_
          refine va_calli (va_runS (As := [.int (cv_3 >>> ((nI 10) &&& 31)), .int (nI 31)]) (rest := [.int (nI 10)]) ⟨hx, hb, hml, hown, hts⟩ (c_L_up l (cv_3 >>> ((nI 10) &&& 31)) 31 (by omega) (by omega)) (va_cwS 2 hts (TB_S k_m_L_22 k_st_L_up k_in_L k_co_L_up (fun _ h => h)) rfl rfl rfl (by decide +kernel) ⟨Nat.le_of_ble_eq_true rfl, Nat.le_of_ble_eq_true rfl⟩) ⟨tP_blind, tP_of⟩ rfl rfl hl.1 rfl (lv_room (Nat.le_of_ble_eq_true rfl)) dL_law_147 ⟨(show (((110 + k) + 0) + 0) + 0 ≤ 611516 by omega), (show (((2060 + k * 6) + 0) + 0) + 0 ≤ 7267151 by omega)⟩) hS (fun q _ h => absurd h id) (fun q h => absurd h id) (fun ru u9 t9 H locs ht9 hvm hw hB hz1 hk1 hS => ?_)
          have hP := P_same hP hk1
          obtain ⟨up_11, hup_11, eup_11⟩ := hw
          refine t_i eup_11 ?_
          refine lv_iadd hx hb dL_law_150 ?_
          refine t_i (nI_add _ _) ?_
          refine lv_istore (lv' := [(9, .int (nI (10 + up_11))), (8, .int (nI rm_10)), (7, .int (nI rm_5)), (6, .int (nI 0)), (5, .int cv_3), (2, .int (nI (a9 + 1))), (0, .ref b), (1, .ref (ad 0)), (3, .int (nI ns)), (4, .int (nI k))]) hx hb dL_law_151 hl (by decide) rfl (fun ls hl => ?_)
          refine lv_aload_n hx hb dL_law_153 rfl (lv_at hl 7 rfl) ?_
          refine lv_iload hx hb dL_law_154 (lv_at hl 3 rfl) ?_
          refine lv_iload hx hb dL_law_156 (lv_at hl 2 rfl) ?_
          refine lv_iload hx hb dL_law_158 (lv_at hl 1 rfl) ?_
          refine lv_iload hx hb dL_law_160 (lv_at hl 0 rfl) ?_
          refine lv_iload hx hb dL_law_162 (lv_at hl 0 rfl) ?_
          refine lv_iconst (v := nI 1) hx hb dL_law_164 (by decide) ?_
          refine lv_iadd hx hb dL_law_165 ?_
          refine t_i (nI_add _ _) ?_
          refine lv_iload hx hb dL_law_166 (lv_at hl 4 rfl) ?_
          refine lv_bipush (v := nI 16) hx hb dL_law_168 (by decide) ?_
          refine lv_ishr hx hb dL_law_170 ?_
          refine lv_bipush (v := nI 100) hx hb dL_law_171 (by decide) ?_
          refine lv_iload hx hb dL_law_173 (lv_at hl 0 rfl) ?_
          refine lv_isub hx hb dL_law_175 ?_
          refine t_i (pk_sub (by omega)) ?_
          refine va_calli (va_runS (As := [.int (cv_3 >>> ((nI 16) &&& 31)), .int (nI (100 - (10 + up_11)))]) (rest := [.int (nI (10 + up_11 + 1)), .int (nI (10 + up_11)), .int (nI rm_10), .int (nI rm_5), .int (nI 0), .ref (ad 0)]) ⟨hx, hb, hml, hown, hts⟩ (c_L_up l (cv_3 >>> ((nI 16) &&& 31)) (100 - (10 + up_11)) (by omega) (by omega)) (va_cwS 2 hts (TB_S k_m_L_22 k_st_L_up k_in_L k_co_L_up (fun _ h => h)) rfl rfl rfl (by decide +kernel) ⟨Nat.le_of_ble_eq_true rfl, Nat.le_of_ble_eq_true rfl⟩) ⟨tP_blind, tP_of⟩ rfl rfl hl.1 rfl (lv_room (Nat.le_of_ble_eq_true rfl)) dL_law_176 ⟨(show ((((110 + k) + 0) + 0) + 0) + 0 ≤ 611516 by omega), (show ((((2060 + k * 6) + 0) + 0) + 0) + 0 ≤ 7267151 by omega)⟩) hS (fun q _ h => absurd h id) (fun q h => absurd h id) (fun ru u9 t9 H locs ht9 hvm hw hB hz1 hk1 hS => ?_)
          have hP := P_same hP hk1
          obtain ⟨up_12, hup_12, eup_12⟩ := hw
          refine t_i eup_12 ?_
          refine lv_iadd hx hb dL_law_179 ?_
          refine t_i (nI_add _ _) ?_
          have hm0 : dn vw.1 8 0 < 3 := by omega
          have hrs : rs_addSet vw.1 (nI 0) (nI rm_5) (nI rm_10) (nI (10 + up_11)) (nI (10 + up_11 + 1 + up_12)) = (0, ((k + 1 : Nat) : Int)) := ((rs_set_at (by omega) (by omega) (by omega) (by omega) (by omega) (by omega) (by omega) (by omega) (by omega) (by omega) hm0).trans (by rw [hd0]))
          have hFc := freeAll hD hS hA
          refine vx_calli (vx_runV (As := [.int (nI 0), .int (nI rm_5), .int (nI rm_10), .int (nI (10 + up_11)), .int (nI (10 + up_11 + 1 + up_12))]) (rest := []) ⟨hx, hb, hml, hown, hts⟩ (c_X6_addSet l hlf D K ad q q1 q2 g r r2 vw i (nI 0) (nI rm_5) (nI rm_10) (nI (10 + up_11)) (nI (10 + up_11 + 1 + up_12)) H.size hI hJ) (cwV 5 hts (TB_V k_m_L_26 k_im_X6_addSet k_se_X6_addSet k_in_X6 k_co_X6_addSet (fun _ h => h)) rfl rfl rfl (by decide +kernel) ⟨Nat.le_of_ble_eq_true rfl, Nat.le_of_ble_eq_true rfl⟩) ⟨cPT_blind, va_recv hK hP (ci := 6) (q0 := 0) rfl rfl, cPT_of hP hK hD hTX hS hFc⟩ rfl rfl hl.1 rfl (lv_room (Nat.le_of_ble_eq_true rfl)) dL_law_180 ⟨(show (((((110 + k) + 0) + 0) + 0) + 0) + 1 ≤ 611516 by omega), (show (((((2060 + k * 6) + 0) + 0) + 0) + 0) + 6 ≤ 7267151 by omega)⟩) hS (fun q _ h => hFc q h) hFc (fun q _ h => hFc q h) (fun E ce q9 u9 t9 H locs ht9 hal hpx hB hz1 hk1 hS hce hcv hcl => ?_) (fun rz u9 t9 H locs ht9 hal hw hB hz1 hk1 hS => ?_)
          · exact absurd hB.1.1 (by rw [hrs]; exact Nat.lt_irrefl 0)
          obtain ⟨vx2, i9⟩ := u9
          obtain ⟨hP1, hK1, hD1⟩ := hB
          rw [ht9] at hP1
          have hP2 := hP1
          have hD2 := hD1.weaken (fun _ _ _ h => hFc _ h)
          dsimp only at hw
          obtain ⟨he9, hI9, hJ9, hr9⟩ := hw
          have hz : rz.toInt = ((k + 1 : Nat) : Int) := (Prod.mk.inj (hr9.symm.trans hrs)).2
          rw [hd0] at he9
          have hg0 : vx2.1 8 0 = nI (k + 1) := by rw [he9]; rfl
          have hg1 : vx2.1 8 1 = nI 0 := by rw [he9]; exact hg1
          have hg2 : vx2.1 8 2 = nI 0 := by rw [he9]; exact hg2
          have hI := hI9
          have hJ := hJ9
          have hP : va_P D vwCl (WX K ad q q1 q2 g r r2 vx2 i9) H := hP2
          have hD : va_D A (WX K ad q q1 q2 g r r2 vx2 i9) := hD2
          refine t_i ((i32_eq rz (nI (k + 1))).mpr (by rw [nI_toIntI (by omega)]; exact hz)) ?_
          refine lv_iload hx hb dL_law_183 (lv_at hl 9 rfl) ?_
          refine lv_iconst (v := nI 1) hx hb dL_law_185 (by decide) ?_
          refine lv_iadd hx hb dL_law_186 ?_
          refine t_i (nI_add _ _) ?_
          refine b_icmp_eq hx hb (nI_toIntI (by omega)) (nI_toIntI (by omega)) dL_law_187 (tgt := 192) (by decide) (fun c187 => ?_) (fun c187 => absurd c187 (by omega))
          refine lv_iinc (v := nI (k + 1)) (lv' := [(4, .int (nI (k + 1))), (9, .int (nI (10 + up_11))), (8, .int (nI rm_10)), (7, .int (nI rm_5)), (6, .int (nI 0)), (5, .int cv_3), (2, .int (nI (a9 + 1))), (0, .ref b), (1, .ref (ad 0)), (3, .int (nI ns))]) hx hb dL_law_192 hl (k := 9) rfl (nI_add k 1) (by decide) rfl (fun ls hl => ?_)
          refine lv_goto (tgt := 45) hx hb dL_law_195 (by decide) ?_
          refine W.widen (k := 110 + (k + 1)) (n := 2060 + (k + 1) * 6) (by omega) (by omega) ?_
          exact ih45 vx2 i9 (k + 1) (a9 + 1) _ _ _ (by omega) hI hJ hg0 hg1 hg2 (by omega) (by omega) hP hD hS (lv_sub hl [7, 8, 6, 9, 0] rfl)
        refine lv_iconst (v := nI 1) hx hb dL_law_106 (by decide) ?_
        refine lv_goto (tgt := 136) hx hb dL_law_107 (by decide) ?_
        refine lv_istore (lv' := [(8, .int (nI 1)), (7, .int (nI rm_5)), (6, .int (nI 0)), (5, .int cv_3), (2, .int (nI (a9 + 1))), (0, .ref b), (1, .ref (ad 0)), (3, .int (nI ns)), (4, .int (nI k))]) hx hb dL_law_136 hl (by decide) rfl (fun ls hl => ?_)
        refine lv_bipush (v := nI 10) hx hb dL_law_138 (by decide) ?_
        refine lv_iload hx hb dL_law_140 (lv_at hl 3 rfl) ?_
        refine lv_bipush (v := nI 10) hx hb dL_law_142 (by decide) ?_
        refine lv_ishr hx hb dL_law_144 ?_
        refine lv_bipush (v := nI 31) hx hb dL_law_145 (by decide) ?_
        refine va_calli (va_runS (As := [.int (cv_3 >>> ((nI 10) &&& 31)), .int (nI 31)]) (rest := [.int (nI 10)]) ⟨hx, hb, hml, hown, hts⟩ (c_L_up l (cv_3 >>> ((nI 10) &&& 31)) 31 (by omega) (by omega)) (va_cwS 2 hts (TB_S k_m_L_22 k_st_L_up k_in_L k_co_L_up (fun _ h => h)) rfl rfl rfl (by decide +kernel) ⟨Nat.le_of_ble_eq_true rfl, Nat.le_of_ble_eq_true rfl⟩) ⟨tP_blind, tP_of⟩ rfl rfl hl.1 rfl (lv_room (Nat.le_of_ble_eq_true rfl)) dL_law_147 ⟨(show (((110 + k) + 0) + 0) + 0 ≤ 611516 by omega), (show (((2060 + k * 6) + 0) + 0) + 0 ≤ 7267151 by omega)⟩) hS (fun q _ h => absurd h id) (fun q h => absurd h id) (fun ru u9 t9 H locs ht9 hvm hw hB hz1 hk1 hS => ?_)
        have hP := P_same hP hk1
        obtain ⟨up_13, hup_13, eup_13⟩ := hw
        refine t_i eup_13 ?_
        refine lv_iadd hx hb dL_law_150 ?_
        refine t_i (nI_add _ _) ?_
        refine lv_istore (lv' := [(9, .int (nI (10 + up_13))), (8, .int (nI 1)), (7, .int (nI rm_5)), (6, .int (nI 0)), (5, .int cv_3), (2, .int (nI (a9 + 1))), (0, .ref b), (1, .ref (ad 0)), (3, .int (nI ns)), (4, .int (nI k))]) hx hb dL_law_151 hl (by decide) rfl (fun ls hl => ?_)
        refine lv_aload_n hx hb dL_law_153 rfl (lv_at hl 7 rfl) ?_
        refine lv_iload hx hb dL_law_154 (lv_at hl 3 rfl) ?_
        refine lv_iload hx hb dL_law_156 (lv_at hl 2 rfl) ?_
        refine lv_iload hx hb dL_law_158 (lv_at hl 1 rfl) ?_
        refine lv_iload hx hb dL_law_160 (lv_at hl 0 rfl) ?_
        refine lv_iload hx hb dL_law_162 (lv_at hl 0 rfl) ?_
        refine lv_iconst (v := nI 1) hx hb dL_law_164 (by decide) ?_
        refine lv_iadd hx hb dL_law_165 ?_
        refine t_i (nI_add _ _) ?_
        refine lv_iload hx hb dL_law_166 (lv_at hl 4 rfl) ?_
        refine lv_bipush (v := nI 16) hx hb dL_law_168 (by decide) ?_
        refine lv_ishr hx hb dL_law_170 ?_
        refine lv_bipush (v := nI 100) hx hb dL_law_171 (by decide) ?_
        refine lv_iload hx hb dL_law_173 (lv_at hl 0 rfl) ?_
        refine lv_isub hx hb dL_law_175 ?_
        refine t_i (pk_sub (by omega)) ?_
        refine va_calli (va_runS (As := [.int (cv_3 >>> ((nI 16) &&& 31)), .int (nI (100 - (10 + up_13)))]) (rest := [.int (nI (10 + up_13 + 1)), .int (nI (10 + up_13)), .int (nI 1), .int (nI rm_5), .int (nI 0), .ref (ad 0)]) ⟨hx, hb, hml, hown, hts⟩ (c_L_up l (cv_3 >>> ((nI 16) &&& 31)) (100 - (10 + up_13)) (by omega) (by omega)) (va_cwS 2 hts (TB_S k_m_L_22 k_st_L_up k_in_L k_co_L_up (fun _ h => h)) rfl rfl rfl (by decide +kernel) ⟨Nat.le_of_ble_eq_true rfl, Nat.le_of_ble_eq_true rfl⟩) ⟨tP_blind, tP_of⟩ rfl rfl hl.1 rfl (lv_room (Nat.le_of_ble_eq_true rfl)) dL_law_176 ⟨(show ((((110 + k) + 0) + 0) + 0) + 0 ≤ 611516 by omega), (show ((((2060 + k * 6) + 0) + 0) + 0) + 0 ≤ 7267151 by omega)⟩) hS (fun q _ h => absurd h id) (fun q h => absurd h id) (fun ru u9 t9 H locs ht9 hvm hw hB hz1 hk1 hS => ?_)
        have hP := P_same hP hk1
        obtain ⟨up_14, hup_14, eup_14⟩ := hw
        refine t_i eup_14 ?_
        refine lv_iadd hx hb dL_law_179 ?_
        refine t_i (nI_add _ _) ?_
        have hm0 : dn vw.1 8 0 < 3 := by omega
        have hrs : rs_addSet vw.1 (nI 0) (nI rm_5) (nI 1) (nI (10 + up_13)) (nI (10 + up_13 + 1 + up_14)) = (0, ((k + 1 : Nat) : Int)) := ((rs_set_at (by omega) (by omega) (by omega) (by omega) (by omega) (by omega) (by omega) (by omega) (by omega) (by omega) hm0).trans (by rw [hd0]))
        have hFc := freeAll hD hS hA
        refine vx_calli (vx_runV (As := [.int (nI 0), .int (nI rm_5), .int (nI 1), .int (nI (10 + up_13)), .int (nI (10 + up_13 + 1 + up_14))]) (rest := []) ⟨hx, hb, hml, hown, hts⟩ (c_X6_addSet l hlf D K ad q q1 q2 g r r2 vw i (nI 0) (nI rm_5) (nI 1) (nI (10 + up_13)) (nI (10 + up_13 + 1 + up_14)) H.size hI hJ) (cwV 5 hts (TB_V k_m_L_26 k_im_X6_addSet k_se_X6_addSet k_in_X6 k_co_X6_addSet (fun _ h => h)) rfl rfl rfl (by decide +kernel) ⟨Nat.le_of_ble_eq_true rfl, Nat.le_of_ble_eq_true rfl⟩) ⟨cPT_blind, va_recv hK hP (ci := 6) (q0 := 0) rfl rfl, cPT_of hP hK hD hTX hS hFc⟩ rfl rfl hl.1 rfl (lv_room (Nat.le_of_ble_eq_true rfl)) dL_law_180 ⟨(show (((((110 + k) + 0) + 0) + 0) + 0) + 1 ≤ 611516 by omega), (show (((((2060 + k * 6) + 0) + 0) + 0) + 0) + 6 ≤ 7267151 by omega)⟩) hS (fun q _ h => hFc q h) hFc (fun q _ h => hFc q h) (fun E ce q9 u9 t9 H locs ht9 hal hpx hB hz1 hk1 hS hce hcv hcl => ?_) (fun rz u9 t9 H locs ht9 hal hw hB hz1 hk1 hS => ?_)
        · exact absurd hB.1.1 (by rw [hrs]; exact Nat.lt_irrefl 0)
        obtain ⟨vx3, i9⟩ := u9
        obtain ⟨hP1, hK1, hD1⟩ := hB
        rw [ht9] at hP1
        have hP2 := hP1
        have hD2 := hD1.weaken (fun _ _ _ h => hFc _ h)
        dsimp only at hw
        obtain ⟨he9, hI9, hJ9, hr9⟩ := hw
        have hz : rz.toInt = ((k + 1 : Nat) : Int) := (Prod.mk.inj (hr9.symm.trans hrs)).2
        rw [hd0] at he9
        have hg0 : vx3.1 8 0 = nI (k + 1) := by rw [he9]; rfl
        have hg1 : vx3.1 8 1 = nI 0 := by rw [he9]; exact hg1
        have hg2 : vx3.1 8 2 = nI 0 := by rw [he9]; exact hg2
        have hI := hI9
        have hJ := hJ9
        have hP : va_P D vwCl (WX K ad q q1 q2 g r r2 vx3 i9) H := hP2
        have hD : va_D A (WX K ad q q1 q2 g r r2 vx3 i9) := hD2
        refine t_i ((i32_eq rz (nI (k + 1))).mpr (by rw [nI_toIntI (by omega)]; exact hz)) ?_
        refine lv_iload hx hb dL_law_183 (lv_at hl 9 rfl) ?_
        refine lv_iconst (v := nI 1) hx hb dL_law_185 (by decide) ?_
        refine lv_iadd hx hb dL_law_186 ?_
        refine t_i (nI_add _ _) ?_
        refine b_icmp_eq hx hb (nI_toIntI (by omega)) (nI_toIntI (by omega)) dL_law_187 (tgt := 192) (by decide) (fun c187 => ?_) (fun c187 => absurd c187 (by omega))
        refine lv_iinc (v := nI (k + 1)) (lv' := [(4, .int (nI (k + 1))), (9, .int (nI (10 + up_13))), (8, .int (nI 1)), (7, .int (nI rm_5)), (6, .int (nI 0)), (5, .int cv_3), (2, .int (nI (a9 + 1))), (0, .ref b), (1, .ref (ad 0)), (3, .int (nI ns))]) hx hb dL_law_192 hl (k := 9) rfl (nI_add k 1) (by decide) rfl (fun ls hl => ?_)
        refine lv_goto (tgt := 45) hx hb dL_law_195 (by decide) ?_
        refine W.widen (k := 110 + (k + 1)) (n := 2060 + (k + 1) * 6) (by omega) (by omega) ?_
        exact ih45 vx3 i9 (k + 1) (a9 + 1) _ _ _ (by omega) hI hJ hg0 hg1 hg2 (by omega) (by omega) hP hD hS (lv_sub hl [7, 8, 6, 9, 0] rfl)
      · refine lv_iload hx hb dL_law_61 (lv_at hl 5 rfl) ?_
        refine b_if_ne hx hb (nI_toIntI (by omega)) dL_law_63 (tgt := 70) (by decide) (fun c63 => ?_) (fun c63 => absurd c63 (by omega))
        refine lv_iload hx hb dL_law_70 (lv_at hl 0 rfl) ?_
        refine lv_iconst (v := nI 5) hx hb dL_law_72 (by decide) ?_
        refine va_calli (va_runS (As := [.int cv_3, .int (nI 5)]) (rest := []) ⟨hx, hb, hml, hown, hts⟩ (c_L_up l cv_3 5 (by omega) (by omega)) (va_cwS 2 hts (TB_S k_m_L_22 k_st_L_up k_in_L k_co_L_up (fun _ h => h)) rfl rfl rfl (by decide +kernel) ⟨Nat.le_of_ble_eq_true rfl, Nat.le_of_ble_eq_true rfl⟩) ⟨tP_blind, tP_of⟩ rfl rfl hl.1 rfl (lv_room (Nat.le_of_ble_eq_true rfl)) dL_law_73 ⟨(show ((110 + k) + 0) + 0 ≤ 611516 by omega), (show ((2060 + k * 6) + 0) + 0 ≤ 7267151 by omega)⟩) hS (fun q _ h => absurd h id) (fun q h => absurd h id) (fun ru u9 t9 H locs ht9 hvm hw hB hz1 hk1 hS => ?_)
        have hP := P_same hP hk1
        obtain ⟨up_15, hup_15, eup_15⟩ := hw
        refine t_i eup_15 ?_
        refine lv_istore (lv' := [(6, .int (nI up_15)), (5, .int cv_3), (2, .int (nI (a9 + 1))), (0, .ref b), (1, .ref (ad 0)), (3, .int (nI ns)), (4, .int (nI k))]) hx hb dL_law_76 hl (by decide) rfl (fun ls hl => ?_)
        refine lv_iload hx hb dL_law_78 (lv_at hl 0 rfl) ?_
        refine lv_iconst (v := nI 1) hx hb dL_law_80 (by decide) ?_
        refine lv_iadd hx hb dL_law_81 ?_
        refine t_i (nI_add _ _) ?_
        refine lv_iload hx hb dL_law_82 (lv_at hl 1 rfl) ?_
        refine lv_iconst (v := nI 4) hx hb dL_law_84 (by decide) ?_
        refine lv_ishr hx hb dL_law_85 ?_
        refine lv_iconst (v := nI 4) hx hb dL_law_86 (by decide) ?_
        refine va_calli (va_runS (As := [.int (cv_3 >>> ((nI 4) &&& 31)), .int (nI 4)]) (rest := [.int (nI (up_15 + 1))]) ⟨hx, hb, hml, hown, hts⟩ (c_L_up l (cv_3 >>> ((nI 4) &&& 31)) 4 (by omega) (by omega)) (va_cwS 2 hts (TB_S k_m_L_22 k_st_L_up k_in_L k_co_L_up (fun _ h => h)) rfl rfl rfl (by decide +kernel) ⟨Nat.le_of_ble_eq_true rfl, Nat.le_of_ble_eq_true rfl⟩) ⟨tP_blind, tP_of⟩ rfl rfl hl.1 rfl (lv_room (Nat.le_of_ble_eq_true rfl)) dL_law_87 ⟨(show (((110 + k) + 0) + 0) + 0 ≤ 611516 by omega), (show (((2060 + k * 6) + 0) + 0) + 0 ≤ 7267151 by omega)⟩) hS (fun q _ h => absurd h id) (fun q h => absurd h id) (fun ru u9 t9 H locs ht9 hvm hw hB hz1 hk1 hS => ?_)
        have hP := P_same hP hk1
        obtain ⟨up_16, hup_16, eup_16⟩ := hw
        refine t_i eup_16 ?_
        refine lv_iadd hx hb dL_law_90 ?_
        refine t_i (nI_add _ _) ?_
        refine lv_iconst (v := nI 5) hx hb dL_law_91 (by decide) ?_
        refine lv_irem hx hb dL_law_92 (nI_ne0 (by decide) (by decide)) ?_
        refine t_i (pk_rem (by omega) (by omega) (by omega)) ?_
        obtain ⟨rm_17, hrm_17⟩ : ∃ y, y = (up_15 + 1 + up_16) % 5 := ⟨_, rfl⟩
        refine t_i (congrArg nI hrm_17.symm) ?_
        refine lv_istore (lv' := [(7, .int (nI rm_17)), (6, .int (nI up_15)), (5, .int cv_3), (2, .int (nI (a9 + 1))), (0, .ref b), (1, .ref (ad 0)), (3, .int (nI ns)), (4, .int (nI k))]) hx hb dL_law_93 hl (by decide) rfl (fun ls hl => ?_)
        refine lv_iload hx hb dL_law_95 (lv_at hl 7 rfl) ?_
        refine b_if_ne hx hb (nI_toIntI (by omega)) dL_law_97 (tgt := 110) (by decide) (fun c97 => ?_) (fun c97 => absurd c97 (by omega))
        refine lv_iload hx hb dL_law_110 (lv_at hl 0 rfl) ?_
        refine lv_iconst (v := nI 1) hx hb dL_law_112 (by decide) ?_
        refine lv_iadd hx hb dL_law_113 ?_
        refine t_i (nI_add _ _) ?_
        refine lv_iconst (v := nI 5) hx hb dL_law_114 (by decide) ?_
        refine lv_irem hx hb dL_law_115 (nI_ne0 (by decide) (by decide)) ?_
        refine t_i (pk_rem (by omega) (by omega) (by omega)) ?_
        obtain ⟨rm_18, hrm_18⟩ : ∃ y, y = (rm_17 + 1) % 5 := ⟨_, rfl⟩
        refine t_i (congrArg nI hrm_18.symm) ?_
        refine lv_iload hx hb dL_law_116 (lv_at hl 1 rfl) ?_
        refine b_icmp_ne hx hb (nI_toIntI (by omega)) (nI_toIntI (by omega)) dL_law_118 (tgt := 130) (by decide) (fun c118 => ?_) (fun c118 => ?_)
        · refine lv_iload hx hb dL_law_130 (lv_at hl 0 rfl) ?_
          refine lv_iconst (v := nI 1) hx hb dL_law_132 (by decide) ?_
          refine lv_iadd hx hb dL_law_133 ?_
          refine t_i (nI_add _ _) ?_
          refine lv_iconst (v := nI 5) hx hb dL_law_134 (by decide) ?_
          refine lv_irem hx hb dL_law_135 (nI_ne0 (by decide) (by decide)) ?_
          refine t_i (pk_rem (by omega) (by omega) (by omega)) ?_
          obtain ⟨rm_19, hrm_19⟩ : ∃ y, y = (rm_17 + 1) % 5 := ⟨_, rfl⟩
          refine t_i (congrArg nI hrm_19.symm) ?_
          refine lv_istore (lv' := [(8, .int (nI rm_19)), (7, .int (nI rm_17)), (6, .int (nI up_15)), (5, .int cv_3), (2, .int (nI (a9 + 1))), (0, .ref b), (1, .ref (ad 0)), (3, .int (nI ns)), (4, .int (nI k))]) hx hb dL_law_136 hl (by decide) rfl (fun ls hl => ?_)
          refine lv_bipush (v := nI 10) hx hb dL_law_138 (by decide) ?_
          refine lv_iload hx hb dL_law_140 (lv_at hl 3 rfl) ?_
          refine lv_bipush (v := nI 10) hx hb dL_law_142 (by decide) ?_
          refine lv_ishr hx hb dL_law_144 ?_
          refine lv_bipush (v := nI 31) hx hb dL_law_145 (by decide) ?_
          refine va_calli (va_runS (As := [.int (cv_3 >>> ((nI 10) &&& 31)), .int (nI 31)]) (rest := [.int (nI 10)]) ⟨hx, hb, hml, hown, hts⟩ (c_L_up l (cv_3 >>> ((nI 10) &&& 31)) 31 (by omega) (by omega)) (va_cwS 2 hts (TB_S k_m_L_22 k_st_L_up k_in_L k_co_L_up (fun _ h => h)) rfl rfl rfl (by decide +kernel) ⟨Nat.le_of_ble_eq_true rfl, Nat.le_of_ble_eq_true rfl⟩) ⟨tP_blind, tP_of⟩ rfl rfl hl.1 rfl (lv_room (Nat.le_of_ble_eq_true rfl)) dL_law_147 ⟨(show ((((110 + k) + 0) + 0) + 0) + 0 ≤ 611516 by omega), (show ((((2060 + k * 6) + 0) + 0) + 0) + 0 ≤ 7267151 by omega)⟩) hS (fun q _ h => absurd h id) (fun q h => absurd h id) (fun ru u9 t9 H locs ht9 hvm hw hB hz1 hk1 hS => ?_)
          have hP := P_same hP hk1
          obtain ⟨up_20, hup_20, eup_20⟩ := hw
          refine t_i eup_20 ?_
          refine lv_iadd hx hb dL_law_150 ?_
          refine t_i (nI_add _ _) ?_
          refine lv_istore (lv' := [(9, .int (nI (10 + up_20))), (8, .int (nI rm_19)), (7, .int (nI rm_17)), (6, .int (nI up_15)), (5, .int cv_3), (2, .int (nI (a9 + 1))), (0, .ref b), (1, .ref (ad 0)), (3, .int (nI ns)), (4, .int (nI k))]) hx hb dL_law_151 hl (by decide) rfl (fun ls hl => ?_)
          refine lv_aload_n hx hb dL_law_153 rfl (lv_at hl 7 rfl) ?_
          refine lv_iload hx hb dL_law_154 (lv_at hl 3 rfl) ?_
          refine lv_iload hx hb dL_law_156 (lv_at hl 2 rfl) ?_
          refine lv_iload hx hb dL_law_158 (lv_at hl 1 rfl) ?_
          refine lv_iload hx hb dL_law_160 (lv_at hl 0 rfl) ?_
          refine lv_iload hx hb dL_law_162 (lv_at hl 0 rfl) ?_
          refine lv_iconst (v := nI 1) hx hb dL_law_164 (by decide) ?_
          refine lv_iadd hx hb dL_law_165 ?_
          refine t_i (nI_add _ _) ?_
          refine lv_iload hx hb dL_law_166 (lv_at hl 4 rfl) ?_
          refine lv_bipush (v := nI 16) hx hb dL_law_168 (by decide) ?_
          refine lv_ishr hx hb dL_law_170 ?_
          refine lv_bipush (v := nI 100) hx hb dL_law_171 (by decide) ?_
          refine lv_iload hx hb dL_law_173 (lv_at hl 0 rfl) ?_
          refine lv_isub hx hb dL_law_175 ?_
          refine t_i (pk_sub (by omega)) ?_
          refine va_calli (va_runS (As := [.int (cv_3 >>> ((nI 16) &&& 31)), .int (nI (100 - (10 + up_20)))]) (rest := [.int (nI (10 + up_20 + 1)), .int (nI (10 + up_20)), .int (nI rm_19), .int (nI rm_17), .int (nI up_15), .ref (ad 0)]) ⟨hx, hb, hml, hown, hts⟩ (c_L_up l (cv_3 >>> ((nI 16) &&& 31)) (100 - (10 + up_20)) (by omega) (by omega)) (va_cwS 2 hts (TB_S k_m_L_22 k_st_L_up k_in_L k_co_L_up (fun _ h => h)) rfl rfl rfl (by decide +kernel) ⟨Nat.le_of_ble_eq_true rfl, Nat.le_of_ble_eq_true rfl⟩) ⟨tP_blind, tP_of⟩ rfl rfl hl.1 rfl (lv_room (Nat.le_of_ble_eq_true rfl)) dL_law_176 ⟨(show (((((110 + k) + 0) + 0) + 0) + 0) + 0 ≤ 611516 by omega), (show (((((2060 + k * 6) + 0) + 0) + 0) + 0) + 0 ≤ 7267151 by omega)⟩) hS (fun q _ h => absurd h id) (fun q h => absurd h id) (fun ru u9 t9 H locs ht9 hvm hw hB hz1 hk1 hS => ?_)
          have hP := P_same hP hk1
          obtain ⟨up_21, hup_21, eup_21⟩ := hw
          refine t_i eup_21 ?_
          refine lv_iadd hx hb dL_law_179 ?_
          refine t_i (nI_add _ _) ?_
          have hm0 : dn vw.1 8 0 < 3 := by omega
          have hrs : rs_addSet vw.1 (nI up_15) (nI rm_17) (nI rm_19) (nI (10 + up_20)) (nI (10 + up_20 + 1 + up_21)) = (0, ((k + 1 : Nat) : Int)) := ((rs_set_at (by omega) (by omega) (by omega) (by omega) (by omega) (by omega) (by omega) (by omega) (by omega) (by omega) hm0).trans (by rw [hd0]))
          have hFc := freeAll hD hS hA
          refine vx_calli (vx_runV (As := [.int (nI up_15), .int (nI rm_17), .int (nI rm_19), .int (nI (10 + up_20)), .int (nI (10 + up_20 + 1 + up_21))]) (rest := []) ⟨hx, hb, hml, hown, hts⟩ (c_X6_addSet l hlf D K ad q q1 q2 g r r2 vw i (nI up_15) (nI rm_17) (nI rm_19) (nI (10 + up_20)) (nI (10 + up_20 + 1 + up_21)) H.size hI hJ) (cwV 5 hts (TB_V k_m_L_26 k_im_X6_addSet k_se_X6_addSet k_in_X6 k_co_X6_addSet (fun _ h => h)) rfl rfl rfl (by decide +kernel) ⟨Nat.le_of_ble_eq_true rfl, Nat.le_of_ble_eq_true rfl⟩) ⟨cPT_blind, va_recv hK hP (ci := 6) (q0 := 0) rfl rfl, cPT_of hP hK hD hTX hS hFc⟩ rfl rfl hl.1 rfl (lv_room (Nat.le_of_ble_eq_true rfl)) dL_law_180 ⟨(show ((((((110 + k) + 0) + 0) + 0) + 0) + 0) + 1 ≤ 611516 by omega), (show ((((((2060 + k * 6) + 0) + 0) + 0) + 0) + 0) + 6 ≤ 7267151 by omega)⟩) hS (fun q _ h => hFc q h) hFc (fun q _ h => hFc q h) (fun E ce q9 u9 t9 H locs ht9 hal hpx hB hz1 hk1 hS hce hcv hcl => ?_) (fun rz u9 t9 H locs ht9 hal hw hB hz1 hk1 hS => ?_)
          · exact absurd hB.1.1 (by rw [hrs]; exact Nat.lt_irrefl 0)
          obtain ⟨vx4, i9⟩ := u9
          obtain ⟨hP1, hK1, hD1⟩ := hB
          rw [ht9] at hP1
          have hP2 := hP1
          have hD2 := hD1.weaken (fun _ _ _ h => hFc _ h)
          dsimp only at hw
          obtain ⟨he9, hI9, hJ9, hr9⟩ := hw
          have hz : rz.toInt = ((k + 1 : Nat) : Int) := (Prod.mk.inj (hr9.symm.trans hrs)).2
          rw [hd0] at he9
          have hg0 : vx4.1 8 0 = nI (k + 1) := by rw [he9]; rfl
          have hg1 : vx4.1 8 1 = nI 0 := by rw [he9]; exact hg1
          have hg2 : vx4.1 8 2 = nI 0 := by rw [he9]; exact hg2
          have hI := hI9
          have hJ := hJ9
          have hP : va_P D vwCl (WX K ad q q1 q2 g r r2 vx4 i9) H := hP2
          have hD : va_D A (WX K ad q q1 q2 g r r2 vx4 i9) := hD2
          refine t_i ((i32_eq rz (nI (k + 1))).mpr (by rw [nI_toIntI (by omega)]; exact hz)) ?_
          refine lv_iload hx hb dL_law_183 (lv_at hl 9 rfl) ?_
          refine lv_iconst (v := nI 1) hx hb dL_law_185 (by decide) ?_
          refine lv_iadd hx hb dL_law_186 ?_
          refine t_i (nI_add _ _) ?_
          refine b_icmp_eq hx hb (nI_toIntI (by omega)) (nI_toIntI (by omega)) dL_law_187 (tgt := 192) (by decide) (fun c187 => ?_) (fun c187 => absurd c187 (by omega))
          refine lv_iinc (v := nI (k + 1)) (lv' := [(4, .int (nI (k + 1))), (9, .int (nI (10 + up_20))), (8, .int (nI rm_19)), (7, .int (nI rm_17)), (6, .int (nI up_15)), (5, .int cv_3), (2, .int (nI (a9 + 1))), (0, .ref b), (1, .ref (ad 0)), (3, .int (nI ns))]) hx hb dL_law_192 hl (k := 9) rfl (nI_add k 1) (by decide) rfl (fun ls hl => ?_)
          refine lv_goto (tgt := 45) hx hb dL_law_195 (by decide) ?_
          refine W.widen (k := 110 + (k + 1)) (n := 2060 + (k + 1) * 6) (by omega) (by omega) ?_
          exact ih45 vx4 i9 (k + 1) (a9 + 1) _ _ _ (by omega) hI hJ hg0 hg1 hg2 (by omega) (by omega) hP hD hS (lv_sub hl [7, 8, 6, 9, 0] rfl)
        refine lv_iload hx hb dL_law_121 (lv_at hl 0 rfl) ?_
        refine lv_iconst (v := nI 2) hx hb dL_law_123 (by decide) ?_
        refine lv_iadd hx hb dL_law_124 ?_
        refine t_i (nI_add _ _) ?_
        refine lv_iconst (v := nI 5) hx hb dL_law_125 (by decide) ?_
        refine lv_irem hx hb dL_law_126 (nI_ne0 (by decide) (by decide)) ?_
        refine t_i (pk_rem (by omega) (by omega) (by omega)) ?_
        obtain ⟨rm_22, hrm_22⟩ : ∃ y, y = (rm_17 + 2) % 5 := ⟨_, rfl⟩
        refine t_i (congrArg nI hrm_22.symm) ?_
        refine lv_goto (tgt := 136) hx hb dL_law_127 (by decide) ?_
        refine lv_istore (lv' := [(8, .int (nI rm_22)), (7, .int (nI rm_17)), (6, .int (nI up_15)), (5, .int cv_3), (2, .int (nI (a9 + 1))), (0, .ref b), (1, .ref (ad 0)), (3, .int (nI ns)), (4, .int (nI k))]) hx hb dL_law_136 hl (by decide) rfl (fun ls hl => ?_)
        refine lv_bipush (v := nI 10) hx hb dL_law_138 (by decide) ?_
        refine lv_iload hx hb dL_law_140 (lv_at hl 3 rfl) ?_
        refine lv_bipush (v := nI 10) hx hb dL_law_142 (by decide) ?_
        refine lv_ishr hx hb dL_law_144 ?_
        refine lv_bipush (v := nI 31) hx hb dL_law_145 (by decide) ?_
        refine va_calli (va_runS (As := [.int (cv_3 >>> ((nI 10) &&& 31)), .int (nI 31)]) (rest := [.int (nI 10)]) ⟨hx, hb, hml, hown, hts⟩ (c_L_up l (cv_3 >>> ((nI 10) &&& 31)) 31 (by omega) (by omega)) (va_cwS 2 hts (TB_S k_m_L_22 k_st_L_up k_in_L k_co_L_up (fun _ h => h)) rfl rfl rfl (by decide +kernel) ⟨Nat.le_of_ble_eq_true rfl, Nat.le_of_ble_eq_true rfl⟩) ⟨tP_blind, tP_of⟩ rfl rfl hl.1 rfl (lv_room (Nat.le_of_ble_eq_true rfl)) dL_law_147 ⟨(show ((((110 + k) + 0) + 0) + 0) + 0 ≤ 611516 by omega), (show ((((2060 + k * 6) + 0) + 0) + 0) + 0 ≤ 7267151 by omega)⟩) hS (fun q _ h => absurd h id) (fun q h => absurd h id) (fun ru u9 t9 H locs ht9 hvm hw hB hz1 hk1 hS => ?_)
        have hP := P_same hP hk1
        obtain ⟨up_23, hup_23, eup_23⟩ := hw
        refine t_i eup_23 ?_
        refine lv_iadd hx hb dL_law_150 ?_
        refine t_i (nI_add _ _) ?_
        refine lv_istore (lv' := [(9, .int (nI (10 + up_23))), (8, .int (nI rm_22)), (7, .int (nI rm_17)), (6, .int (nI up_15)), (5, .int cv_3), (2, .int (nI (a9 + 1))), (0, .ref b), (1, .ref (ad 0)), (3, .int (nI ns)), (4, .int (nI k))]) hx hb dL_law_151 hl (by decide) rfl (fun ls hl => ?_)
        refine lv_aload_n hx hb dL_law_153 rfl (lv_at hl 7 rfl) ?_
        refine lv_iload hx hb dL_law_154 (lv_at hl 3 rfl) ?_
        refine lv_iload hx hb dL_law_156 (lv_at hl 2 rfl) ?_
        refine lv_iload hx hb dL_law_158 (lv_at hl 1 rfl) ?_
        refine lv_iload hx hb dL_law_160 (lv_at hl 0 rfl) ?_
        refine lv_iload hx hb dL_law_162 (lv_at hl 0 rfl) ?_
        refine lv_iconst (v := nI 1) hx hb dL_law_164 (by decide) ?_
        refine lv_iadd hx hb dL_law_165 ?_
        refine t_i (nI_add _ _) ?_
        refine lv_iload hx hb dL_law_166 (lv_at hl 4 rfl) ?_
        refine lv_bipush (v := nI 16) hx hb dL_law_168 (by decide) ?_
        refine lv_ishr hx hb dL_law_170 ?_
        refine lv_bipush (v := nI 100) hx hb dL_law_171 (by decide) ?_
        refine lv_iload hx hb dL_law_173 (lv_at hl 0 rfl) ?_
        refine lv_isub hx hb dL_law_175 ?_
        refine t_i (pk_sub (by omega)) ?_
        refine va_calli (va_runS (As := [.int (cv_3 >>> ((nI 16) &&& 31)), .int (nI (100 - (10 + up_23)))]) (rest := [.int (nI (10 + up_23 + 1)), .int (nI (10 + up_23)), .int (nI rm_22), .int (nI rm_17), .int (nI up_15), .ref (ad 0)]) ⟨hx, hb, hml, hown, hts⟩ (c_L_up l (cv_3 >>> ((nI 16) &&& 31)) (100 - (10 + up_23)) (by omega) (by omega)) (va_cwS 2 hts (TB_S k_m_L_22 k_st_L_up k_in_L k_co_L_up (fun _ h => h)) rfl rfl rfl (by decide +kernel) ⟨Nat.le_of_ble_eq_true rfl, Nat.le_of_ble_eq_true rfl⟩) ⟨tP_blind, tP_of⟩ rfl rfl hl.1 rfl (lv_room (Nat.le_of_ble_eq_true rfl)) dL_law_176 ⟨(show (((((110 + k) + 0) + 0) + 0) + 0) + 0 ≤ 611516 by omega), (show (((((2060 + k * 6) + 0) + 0) + 0) + 0) + 0 ≤ 7267151 by omega)⟩) hS (fun q _ h => absurd h id) (fun q h => absurd h id) (fun ru u9 t9 H locs ht9 hvm hw hB hz1 hk1 hS => ?_)
        have hP := P_same hP hk1
        obtain ⟨up_24, hup_24, eup_24⟩ := hw
        refine t_i eup_24 ?_
        refine lv_iadd hx hb dL_law_179 ?_
        refine t_i (nI_add _ _) ?_
        have hm0 : dn vw.1 8 0 < 3 := by omega
        have hrs : rs_addSet vw.1 (nI up_15) (nI rm_17) (nI rm_22) (nI (10 + up_23)) (nI (10 + up_23 + 1 + up_24)) = (0, ((k + 1 : Nat) : Int)) := ((rs_set_at (by omega) (by omega) (by omega) (by omega) (by omega) (by omega) (by omega) (by omega) (by omega) (by omega) hm0).trans (by rw [hd0]))
        have hFc := freeAll hD hS hA
        refine vx_calli (vx_runV (As := [.int (nI up_15), .int (nI rm_17), .int (nI rm_22), .int (nI (10 + up_23)), .int (nI (10 + up_23 + 1 + up_24))]) (rest := []) ⟨hx, hb, hml, hown, hts⟩ (c_X6_addSet l hlf D K ad q q1 q2 g r r2 vw i (nI up_15) (nI rm_17) (nI rm_22) (nI (10 + up_23)) (nI (10 + up_23 + 1 + up_24)) H.size hI hJ) (cwV 5 hts (TB_V k_m_L_26 k_im_X6_addSet k_se_X6_addSet k_in_X6 k_co_X6_addSet (fun _ h => h)) rfl rfl rfl (by decide +kernel) ⟨Nat.le_of_ble_eq_true rfl, Nat.le_of_ble_eq_true rfl⟩) ⟨cPT_blind, va_recv hK hP (ci := 6) (q0 := 0) rfl rfl, cPT_of hP hK hD hTX hS hFc⟩ rfl rfl hl.1 rfl (lv_room (Nat.le_of_ble_eq_true rfl)) dL_law_180 ⟨(show ((((((110 + k) + 0) + 0) + 0) + 0) + 0) + 1 ≤ 611516 by omega), (show ((((((2060 + k * 6) + 0) + 0) + 0) + 0) + 0) + 6 ≤ 7267151 by omega)⟩) hS (fun q _ h => hFc q h) hFc (fun q _ h => hFc q h) (fun E ce q9 u9 t9 H locs ht9 hal hpx hB hz1 hk1 hS hce hcv hcl => ?_) (fun rz u9 t9 H locs ht9 hal hw hB hz1 hk1 hS => ?_)
        · exact absurd hB.1.1 (by rw [hrs]; exact Nat.lt_irrefl 0)
        obtain ⟨vx5, i9⟩ := u9
        obtain ⟨hP1, hK1, hD1⟩ := hB
        rw [ht9] at hP1
        have hP2 := hP1
        have hD2 := hD1.weaken (fun _ _ _ h => hFc _ h)
        dsimp only at hw
        obtain ⟨he9, hI9, hJ9, hr9⟩ := hw
        have hz : rz.toInt = ((k + 1 : Nat) : Int) := (Prod.mk.inj (hr9.symm.trans hrs)).2
        rw [hd0] at he9
        have hg0 : vx5.1 8 0 = nI (k + 1) := by rw [he9]; rfl
        have hg1 : vx5.1 8 1 = nI 0 := by rw [he9]; exact hg1
        have hg2 : vx5.1 8 2 = nI 0 := by rw [he9]; exact hg2
        have hI := hI9
        have hJ := hJ9
        have hP : va_P D vwCl (WX K ad q q1 q2 g r r2 vx5 i9) H := hP2
        have hD : va_D A (WX K ad q q1 q2 g r r2 vx5 i9) := hD2
        refine t_i ((i32_eq rz (nI (k + 1))).mpr (by rw [nI_toIntI (by omega)]; exact hz)) ?_
        refine lv_iload hx hb dL_law_183 (lv_at hl 9 rfl) ?_
        refine lv_iconst (v := nI 1) hx hb dL_law_185 (by decide) ?_
        refine lv_iadd hx hb dL_law_186 ?_
        refine t_i (nI_add _ _) ?_
        refine b_icmp_eq hx hb (nI_toIntI (by omega)) (nI_toIntI (by omega)) dL_law_187 (tgt := 192) (by decide) (fun c187 => ?_) (fun c187 => absurd c187 (by omega))
        refine lv_iinc (v := nI (k + 1)) (lv' := [(4, .int (nI (k + 1))), (9, .int (nI (10 + up_23))), (8, .int (nI rm_22)), (7, .int (nI rm_17)), (6, .int (nI up_15)), (5, .int cv_3), (2, .int (nI (a9 + 1))), (0, .ref b), (1, .ref (ad 0)), (3, .int (nI ns))]) hx hb dL_law_192 hl (k := 9) rfl (nI_add k 1) (by decide) rfl (fun ls hl => ?_)
        refine lv_goto (tgt := 45) hx hb dL_law_195 (by decide) ?_
        refine W.widen (k := 110 + (k + 1)) (n := 2060 + (k + 1) * 6) (by omega) (by omega) ?_
        exact ih45 vx5 i9 (k + 1) (a9 + 1) _ _ _ (by omega) hI hJ hg0 hg1 hg2 (by omega) (by omega) hP hD hS (lv_sub hl [7, 8, 6, 9, 0] rfl)
  exact L45 _ vw i 0 (1 + 1) _ _ _ (Nat.lt_succ_self _) hI hJ hg0 hg1 hg2 (Nat.zero_le _) (by omega) hP hD hS (lv_sub hl [3, 4, 2, 1, 0] rfl)
