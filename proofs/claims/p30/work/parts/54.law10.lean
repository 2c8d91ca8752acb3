/-! the law: sets and elements are built -/
section BU
theorem w_or0 : ∀ a, a < 64 → nI a ||| nI 0 = nI a := by decide +kernel
theorem or_bit {a k : Nat} (h : a < 2 ^ k) : a ||| 2 ^ k < 2 ^ (k + 1) ∧ ∀ j, j ≤ k → ((a ||| 2 ^ k).testBit j = true ↔ (a.testBit j = true ∨ j = k)) := by
  refine ⟨?_, fun j hj => ?_⟩
  · have h1 : a < 2 ^ (k + 1) := Nat.lt_of_lt_of_le h (Nat.pow_le_pow_right (by decide) (Nat.le_succ k))
    have h2 : 2 ^ k < 2 ^ (k + 1) := Nat.pow_lt_pow_right (by decide) (Nat.lt_succ_self k)
    exact Nat.or_lt_two_pow h1 h2
  · rw [Nat.testBit_or, Bool.or_eq_true]
    by_cases z : j = k
    · subst z
      exact ⟨fun _ => Or.inr rfl, fun _ => Or.inr Nat.testBit_two_pow_self⟩
    · rw [Nat.testBit_two_pow_of_ne (fun y => z y.symm)]
      exact ⟨fun y => y.elim Or.inl (fun q => absurd q Bool.false_ne_true), fun y => y.elim Or.inl (fun q => absurd q z)⟩
theorem bit_out {a k : Nat} (h : a < 2 ^ k) : ¬ a.testBit k = true := by
  rw [Nat.testBit_lt_two_pow h]
  exact Bool.false_ne_true
/-- the elements so far -/
def EB (v : CV) (k cl : Nat) : Prop := v.1 8 1 = nI k ∧ v.1 8 2 = nI 0 ∧ cl < 2 ^ k ∧ (∀ j, j < k → (cl.testBit j = true ↔ ¬ v.1 6 j = -1)) ∧ (0 < k → (v.1 7 0).toInt ≤ 2000)
variable {v w : CV} {k cl : Nat}
theorem EB_0 (h1 : v.1 8 1 = nI 0) (h2 : v.1 8 2 = nI 0) : EB v 0 0 := ⟨h1, h2, by decide, fun j hj => absurd hj (Nat.not_lt_zero _), fun h => absurd h (Nat.lt_irrefl _)⟩
theorem dE_6 (d : Nat → Nat → Int32) (m : Nat) (a b : Int32) (j : Nat) : dE d m a b 6 j = if j = m then b else d 6 j := rfl
theorem dE_7 (d : Nat → Nat → Int32) (m : Nat) (a b : Int32) (j : Nat) : dE d m a b 7 j = if j = m then nI 1000 else d 7 j := rfl
theorem EB_brake {a : Int32} (h : EB v k cl) (hk : k < 6) (hw : w.1 = dE v.1 k a (-1)) : EB w (k + 1) cl ∧ w.1 7 k = nI 1000 := by
  obtain ⟨h1, h2, h3, h4, h5⟩ := h
  refine ⟨⟨by rw [hw]; rfl, by rw [hw]; exact h2, Nat.lt_of_lt_of_le h3 (Nat.pow_le_pow_right (by decide) (Nat.le_succ k)), fun j hj => ?_, fun _ => ?_⟩, ?_⟩
  · rw [hw, dE_6]
    by_cases z : j = k
    · subst z
      rw [if_pos rfl]
      exact ⟨fun y => absurd y (bit_out h3), fun y => absurd rfl y⟩
    · rw [if_neg z]
      exact h4 j (by omega)
  · rw [hw, dE_7]
    by_cases z : 0 = k
    · rw [if_pos z]; decide
    · rw [if_neg z]; exact h5 (by omega)
  · rw [hw, dE_7, if_pos rfl]
theorem EB_clutch {a : Int32} {b : Nat} (h : EB v k cl) (hk : k < 6) (hb : b < 6) (hw : w.1 = dE v.1 k a (nI b)) : EB w (k + 1) (cl ||| 2 ^ k) ∧ w.1 7 k = nI 1000 := by
  obtain ⟨h1, h2, h3, h4, h5⟩ := h
  obtain ⟨o1, o2⟩ := or_bit h3
  refine ⟨⟨by rw [hw]; rfl, by rw [hw]; exact h2, o1, fun j hj => ?_, fun _ => ?_⟩, ?_⟩
  · rw [hw, dE_6, o2 j (by omega)]
    by_cases z : j = k
    · subst z
      rw [if_pos rfl]
      exact ⟨fun _ y => m1_ne (by omega) y.symm, fun _ => Or.inr rfl⟩
    · rw [if_neg z]
      exact ⟨fun y => y.elim (fun q => (h4 j (by omega)).mp q) (fun q => absurd q z), fun y => Or.inl ((h4 j (by omega)).mpr y)⟩
  · rw [hw, dE_7]
    by_cases z : 0 = k
    · rw [if_pos z]; decide
    · rw [if_neg z]; exact h5 (by omega)
  · rw [hw, dE_7, if_pos rfl]
theorem EB_cap {c : Nat} (h : EB v (k + 1) cl) (hk : k < 6) (hc : c ≤ 2000) (hw : w.1 = dU v.1 7 (nI k).toInt.toNat (nI c)) : EB w (k + 1) cl := by
  rw [nI_tt (by omega)] at hw
  obtain ⟨h1, h2, h3, h4, h5⟩ := h
  refine ⟨by rw [hw]; exact h1, by rw [hw]; exact h2, h3, fun j hj => by rw [hw]; exact h4 j hj, fun _ => ?_⟩
  rw [hw]
  show ((if 7 = 7 then upd (v.1 7) k (nI c) else v.1 7) 0).toInt ≤ 2000
  rw [if_pos rfl]
  by_cases z : 0 = k
  · subst z; rw [updSame, nI_toIntI (by omega)]; omega
  · rw [updOther z]; exact h5 (by omega)
/-- saved: what the rounds want -/
theorem BL_save {me : Nat} (h : EB v me cl) (hme : 3 ≤ me) (hme6 : me ≤ 6) (hI : IV v) (hw : IV w) (hs : SAV v (nI 1) w) : BL w me cl ∧ dn w.1 8 2 = 0 := by
  obtain ⟨h1, h2, h3, h4, h5⟩ := h
  obtain ⟨s1, s2, s3⟩ := hs
  rcases s3 with ⟨z, -⟩ | ⟨-, s4, s5, s6, s7⟩
  · exact absurd z (by decide)
  have hm : dn v.1 8 1 = me := dn_of h1 (by omega)
  have hp : 2 ^ me ≤ 64 := (pow_64 me (by omega)).2
  refine ⟨⟨hw, by rw [s1]; exact hm.symm, hme, by omega, fun j hj => ?_, s7, ?_, ?_, ?_, ?_⟩, by rw [s1]; exact dn_of h2 (by decide)⟩
  · rw [s1] at hj ⊢
    exact h4 j (by omega)
  · rw [s1]; exact spM_EqD hI.1 s5
  · rw [s1]; exact dn_keep s5.2.2.2.1
  · exact s5.2.2.2.2.trans h2
  · rw [s1]
    have := h5 (by omega)
    omega
end BU
set_option maxHeartbeats 4000000 in
set_option maxRecDepth 100000 in
theorem law_elems {p : Program} {l : Launch} {e : Env} {s : State} {m : MethodId} {below : List Frame} {meth : Method} {c : Code} {b L : Nat} {xs : Nat → Int32} {D : va_G} {K : Nat → ClassId} {A : Nat → Prop} (hlf : l.stackTraces = false) (hx : p.tables.exec = Jvm.exec) (hb : c.code = cL_law) (hml : c.maxLocals = 13) (hown : s.vm.findClass RL = some m.cls) (hts : ∀ w ∈ TB, w.before #[Value.ref b] s = true) (hX : va_X b L xs s s.heap) (hbl : b < s.heap.size) (hbA : ¬ A b) (hA : ∀ q, s.heap.size ≤ q → A q) (hK : va_K D vwCl (TY K) s) (hTX : TX A s.heap s) (hCL : CL s) (hL : L ≤ 260) (hr : meth.sig.returnType = ret) (hlocks : meth.locks = false) (hAs : ∀ q, A q → s.heap.size ≤ q) {ad q q1 q2 g r r2 : Nat → Nat} {a9 : Nat} {vw : CV} {i : CI} (hI : IV vw) (hJ : II vw.1 i) (hzz1 : vw.1 8 1 = nI 0) (hzz2 : vw.1 8 2 = nI 0) (ha9 : a9 ≤ 10) {H : Heap} {locs : List Loc} {ls : Array Slot} (hP : va_P D vwCl (WX K ad q q1 q2 g r r2 vw i) H) (hD : va_D A (WX K ad q q1 q2 g r r2 vw i)) (hS : va_S A s.heap H locs) (hl : lv_has ls 13 [(0, .ref b), (1, .ref (ad 0)), (2, .int (nI a9))]) : W p l e room_1 s m #[Value.ref b] below meth c H locs 113 2078 (lw_Z below #[Value.ref b] s) (F0 m 198 ls []) := by
  refine lv_iconst (v := nI 0) hx hb dL_law_198 (by decide) ?_
  refine lv_istore (lv' := [(4, .int (nI 0)), (0, .ref b), (1, .ref (ad 0)), (2, .int (nI a9))]) hx hb dL_law_199 hl (by decide) rfl (fun ls hl => ?_)
  refine lv_iconst (v := nI 3) hx hb dL_law_201 (by decide) ?_
  refine lv_aload_n hx hb dL_law_202 rfl (lv_at hl 1 rfl) ?_
  refine lv_iload_n hx hb dL_law_203 rfl (lv_at hl 3 rfl) ?_
  refine lv_iinc (v := nI (a9 + 1)) (lv' := [(2, .int (nI (a9 + 1))), (4, .int (nI 0)), (0, .ref b), (1, .ref (ad 0))]) hx hb dL_law_204 hl (k := 3) rfl (nI_add a9 1) (by decide) rfl (fun ls hl => ?_)
  refine va_calli (va_runS (As := [.ref b, .int (nI a9)]) (rest := [.int (nI 3)]) ⟨hx, hb, hml, hown, hts⟩ (c_L_cell l b L a9 xs (by omega) (by omega)) (va_cwS 2 hts (TB_S k_m_L_12 k_st_L_cell k_in_L k_co_L_cell (fun _ h => h)) rfl rfl rfl (by decide +kernel) ⟨Nat.le_of_ble_eq_true rfl, Nat.le_of_ble_eq_true rfl⟩) ⟨cXs_blind, cXs_of hX hbl hbA hS⟩ rfl rfl hl.1 rfl (lv_room (Nat.le_of_ble_eq_true rfl)) dL_law_207 ⟨(Nat.le_of_ble_eq_true rfl), (Nat.le_of_ble_eq_true rfl)⟩) hS (fun q _ h => absurd h id) (fun q h => absurd h id) (fun cv_1 u9 t9 H locs ht9 hvm hw hB hz1 hk1 hS => ?_)
  have hP := P_same hP hk1
  refine lv_iconst (v := nI 4) hx hb dL_law_210 (by decide) ?_
  refine va_calli (va_runS (As := [.int cv_1, .int (nI 4)]) (rest := [.int (nI 3)]) ⟨hx, hb, hml, hown, hts⟩ (c_L_up l cv_1 4 (by omega) (by omega)) (va_cwS 2 hts (TB_S k_m_L_22 k_st_L_up k_in_L k_co_L_up (fun _ h => h)) rfl rfl rfl (by decide +kernel) ⟨Nat.le_of_ble_eq_true rfl, Nat.le_of_ble_eq_true rfl⟩) ⟨tP_blind, tP_of⟩ rfl rfl hl.1 rfl (lv_room (Nat.le_of_ble_eq_true rfl)) dL_law_211 ⟨(Nat.le_of_ble_eq_true rfl), (Nat.le_of_ble_eq_true rfl)⟩) hS (fun q _ h => absurd h id) (fun q h => absurd h id) (fun ru u9 t9 H locs ht9 hvm hw hB hz1 hk1 hS => ?_)
  have hP := P_same hP hk1
  obtain ⟨up_2, hup_2, eup_2⟩ := hw
  refine t_i eup_2 ?_
  refine lv_iadd hx hb dL_law_214 ?_
  refine t_i (nI_add _ _) ?_
  refine lv_istore (lv' := [(5, .int (nI (3 + up_2))), (2, .int (nI (a9 + 1))), (4, .int (nI 0)), (0, .ref b), (1, .ref (ad 0))]) hx hb dL_law_215 hl (by decide) rfl (fun ls hl => ?_)
  obtain ⟨me, hme⟩ : ∃ t, t = 3 + up_2 := ⟨_, rfl⟩
  rw [← hme] at hl
  have hme3 : 3 ≤ me := by omega
  have hme6 : me ≤ 6 := by omega
  clear hme
  refine lv_iconst (v := nI 0) hx hb dL_law_217 (by decide) ?_
  refine lv_istore (lv' := [(6, .int (nI 0)), (5, .int (nI me)), (2, .int (nI (a9 + 1))), (4, .int (nI 0)), (0, .ref b), (1, .ref (ad 0))]) hx hb dL_law_218 hl (by decide) rfl (fun ls hl => ?_)
  refine W.widen (k := 113 + 0 * 2) (n := 2078 + 0 * 12) (by omega) (by omega) ?_
  have L220 : ∀ (fuel : Nat) (vw : CV) (i : CI) (k : Nat) (a9 : Nat) (cl : Nat) (H : Heap) (locs : List Loc) (ls : Array Slot), me - k < fuel → (IV vw) → (II vw.1 i) → (EB vw k cl) → (k ≤ me) → (a9 ≤ 11 + k) → va_P D vwCl (WX K ad q q1 q2 g r r2 vw i) H → va_D A (WX K ad q q1 q2 g r r2 vw i) → va_S A s.heap H locs → lv_has ls 13 [(0, .ref b), (1, .ref (ad 0)), (2, .int (nI a9)), (4, .int (nI cl)), (5, .int (nI me)), (6, .int (nI k))] → W p l e room_1 s m #[Value.ref b] below meth c H locs (113 + k * 2) (2078 + k * 12) (lw_Z below #[Value.ref b] s) (F0 m 220 ls []) := by
    intro fuel
    induction fuel with
    | zero =>
      intro vw i k a9 cl H locs ls hfu
      exact absurd hfu (Nat.not_lt_zero _)
    | succ fuel ih220 =>
      intro vw i k a9 cl H locs ls hfu hI hJ hEB hk ha9 hP hD hS hl
      refine lv_iload hx hb dL_law_220 (lv_at hl 5 rfl) ?_
      refine lv_iload hx hb dL_law_222 (lv_at hl 4 rfl) ?_
      refine b_icmp_ge hx hb (nI_toIntI (by omega)) (nI_toIntI (by omega)) dL_law_224 (tgt := 365) (by decide) (fun c224 => ?_) (fun c224 => ?_)
      · refine lv_aload_n hx hb dL_law_365 rfl (lv_at hl 1 rfl) ?_
        refine lv_iconst (v := nI 1) hx hb dL_law_366 (by decide) ?_
        have hkme : k = me := by omega
        rw [hkme] at hEB
        have hrs : rs_save (nI 1) = (0, 0) := (rs_save_at (by decide))
        have hFc := freeAll hD hS hA
        refine vx_callv (vx_runV (As := [.int (nI 1)]) (rest := []) ⟨hx, hb, hml, hown, hts⟩ (c_X6_save l hlf D K ad q q1 q2 g r r2 vw i (nI 1) H.size hI hJ) (cwV 1 hts (TB_V k_m_L_40 k_im_X6_save k_se_X6_save k_in_X6 k_co_X6_save (fun _ h => h)) rfl rfl rfl (by decide +kernel) ⟨Nat.le_of_ble_eq_true rfl, Nat.le_of_ble_eq_true rfl⟩) ⟨cPT_blind, va_recv hK hP (ci := 6) (q0 := 0) rfl rfl, cPT_of hP hK hD hTX hS hFc⟩ rfl rfl hl.1 rfl (lv_room (Nat.le_of_ble_eq_true rfl)) dL_law_367 ⟨(show (113 + k * 2) + 1 ≤ 611516 by omega), (show (2078 + k * 12) + 6 ≤ 7267151 by omega)⟩) hS (fun q _ h => hFc q h) hFc (fun q _ h => hFc q h) (fun E ce q9 u9 t9 H locs ht9 hal hpx hB hz1 hk1 hS hce hcv hcl => ?_) (fun u9 t9 H locs ht9 hal hw hB hz1 hk1 hS => ?_)
        · exact absurd hB.1.1 (by rw [hrs]; exact Nat.lt_irrefl 0)
        obtain ⟨vx1, i9⟩ := u9
        obtain ⟨hP1, hK1, hD1⟩ := hB
        rw [ht9] at hP1
        have hP2 := hP1
        have hD2 := hD1.weaken (fun _ _ _ h => hFc _ h)
        dsimp only at hw
        obtain ⟨hsv, hI9, hJ9, hr9⟩ := hw
        obtain ⟨hBL, hd0⟩ := BL_save hEB hme3 hme6 hI hI9 hsv
        have hI := hI9
        have hJ := hJ9
        have hP : va_P D vwCl (WX K ad q q1 q2 g r r2 vx1 i9) H := hP2
        have hD : va_D A (WX K ad q q1 q2 g r r2 vx1 i9) := hD2
        refine lv_aload_n hx hb dL_law_370 rfl (lv_at hl 1 rfl) ?_
        refine lv_iload hx hb dL_law_371 (lv_at hl 4 rfl) ?_
        have hFc := freeAll hD hS hA
        refine va_calli (va_runS (As := [.ref (ad 0), .int (nI me)]) (rest := []) ⟨hx, hb, hml, hown, hts⟩ (c_L_geared l hlf D K ad q q1 q2 g r r2 vx1 i9 me H.size hI hJ hBL.2.1) (va_cwS 2 hts (TB_S k_m_L_44 k_st_L_geared k_in_L k_co_L_geared (fun _ h => h)) rfl rfl rfl (by decide +kernel) ⟨Nat.le_of_ble_eq_true rfl, Nat.le_of_ble_eq_true rfl⟩) ⟨cPM_blind, cPM_of hP hK hD hTX hCL hS hFc⟩ rfl rfl hl.1 rfl (lv_room (Nat.le_of_ble_eq_true rfl)) dL_law_373 ⟨(show ((113 + k * 2) + 1) + 2600 ≤ 611516 by omega), (show ((2078 + k * 12) + 6) + 15600 ≤ 7267151 by omega)⟩) hS (fun q _ h => hFc q h) hFc (fun rz u9 t9 H locs ht9 hal hw hB hz1 hk1 hS => ?_)
        obtain ⟨v9, i9⟩ := u9
        obtain ⟨hP1, hK1, hD1⟩ := hB
        rw [ht9] at hP1
        have hP2 := hP1
        have hD2 := hD1.weaken (fun _ _ _ h => hFc _ h)
        obtain ⟨hz, hI9, hJ9, hE9⟩ := hw
        dsimp only at hI9 hJ9 hE9
        obtain ⟨vg, hvg⟩ : ∃ t, t = v9 := ⟨_, rfl⟩
        rw [← hvg] at hI9 hJ9 hE9 hP2 hD2
        have hI0 := hI
        have hI := hI9
        have hJ := hJ9
        have hE := hE9
        have hP : va_P D vwCl (WX K ad q q1 q2 g r r2 vg i9) H := hP2
        have hD : va_D A (WX K ad q q1 q2 g r r2 vg i9) := hD2
        refine t_i hz ?_
        refine b_if_eq hx hb (nI_toIntI (by omega)) dL_law_376 (tgt := 386) (by decide) (fun c376 => absurd c376 (by omega)) (fun c376 => ?_)
        refine lv_aload_n hx hb dL_law_379 rfl (lv_at hl 1 rfl) ?_
        have hFc := freeAll hD hS hA
        refine va_calli (va_runS (As := [.ref (ad 0)]) (rest := []) ⟨hx, hb, hml, hown, hts⟩ (c_L_shifts l hlf D K ad q q1 q2 g r r2 vg i9  H.size hI hJ ) (va_cwS 1 hts (TB_S k_m_L_47 k_st_L_shifts k_in_L k_co_L_shifts (fun _ h => h)) rfl rfl rfl (by decide +kernel) ⟨Nat.le_of_ble_eq_true rfl, Nat.le_of_ble_eq_true rfl⟩) ⟨cPM_blind, cPM_of hP hK hD hTX hCL hS hFc⟩ rfl rfl hl.1 rfl (lv_room (Nat.le_of_ble_eq_true rfl)) dL_law_380 ⟨(show (((113 + k * 2) + 1) + 2600) + 150529 ≤ 611516 by omega), (show (((2078 + k * 12) + 6) + 15600) + 903174 ≤ 7267151 by omega)⟩) hS (fun q _ h => hFc q h) hFc (fun rz u9 t9 H locs ht9 hal hw hB hz1 hk1 hS => ?_)
        obtain ⟨v9, i9⟩ := u9
        obtain ⟨hP1, hK1, hD1⟩ := hB
        rw [ht9] at hP1
        have hP2 := hP1
        have hD2 := hD1.weaken (fun _ _ _ h => hFc _ h)
        obtain ⟨hz, hv9, hJ9⟩ := hw
        have hv9 : v9 = vg := hv9
        dsimp only at hJ9 hz
        rw [hv9] at hP2 hD2 hJ9
        dsimp only at hP2 hD2
        have hJ : II vg.1 i9 := hJ9
        have hP : va_P D vwCl (WX K ad q q1 q2 g r r2 vg i9) H := hP2
        have hD : va_D A (WX K ad q q1 q2 g r r2 vg i9) := hD2
        refine t_i hz ?_
        refine b_if_ne hx hb (nI_toIntI (by omega)) dL_law_383 (tgt := 388) (by decide) (fun c383 => ?_) (fun c383 => absurd c383 (by omega))
        refine W.widen (k := 153255) (n := 920930) (by omega) (by omega) ?_
        exact law_rounds hlf hx hb hml hown hts hX hbl hbA hA hK hTX hCL hL hr hlocks hAs hBL hI hJ hE (show a9 ≤ 30 by omega) hP hD hS (lv_sub hl [0, 1, 2, 3, 4] rfl)
      have hk6 : k < 6 := by omega
      have hd1 : dn vw.1 8 1 = k := dn_of hEB.1 (by omega)
      have hcl64 : cl < 64 := Nat.lt_of_lt_of_le hEB.2.2.1 (pow_64 k (by omega)).2
      refine lv_aload_n hx hb dL_law_227 rfl (lv_at hl 0 rfl) ?_
      refine lv_iload_n hx hb dL_law_228 rfl (lv_at hl 2 rfl) ?_
      refine lv_iinc (v := nI (a9 + 1)) (lv' := [(2, .int (nI (a9 + 1))), (0, .ref b), (1, .ref (ad 0)), (4, .int (nI cl)), (5, .int (nI me)), (6, .int (nI k))]) hx hb dL_law_229 hl (k := 2) rfl (nI_add a9 1) (by decide) rfl (fun ls hl => ?_)
      refine va_calli (va_runS (As := [.ref b, .int (nI a9)]) (rest := []) ⟨hx, hb, hml, hown, hts⟩ (c_L_cell l b L a9 xs (by omega) (by omega)) (va_cwS 2 hts (TB_S k_m_L_12 k_st_L_cell k_in_L k_co_L_cell (fun _ h => h)) rfl rfl rfl (by decide +kernel) ⟨Nat.le_of_ble_eq_true rfl, Nat.le_of_ble_eq_true rfl⟩) ⟨cXs_blind, cXs_of hX hbl hbA hS⟩ rfl rfl hl.1 rfl (lv_room (Nat.le_of_ble_eq_true rfl)) dL_law_232 ⟨(show (113 + k * 2) + 0 ≤ 611516 by omega), (show (2078 + k * 12) + 0 ≤ 7267151 by omega)⟩) hS (fun q _ h => absurd h id) (fun q h => absurd h id) (fun cv_3 u9 t9 H locs ht9 hvm hw hB hz1 hk1 hS => ?_)
      have hP := P_same hP hk1
      refine lv_istore (lv' := [(7, .int cv_3), (2, .int (nI (a9 + 1))), (0, .ref b), (1, .ref (ad 0)), (4, .int (nI cl)), (5, .int (nI me)), (6, .int (nI k))]) hx hb dL_law_235 hl (by decide) rfl (fun ls hl => ?_)
      refine lv_iload hx hb dL_law_237 (lv_at hl 0 rfl) ?_
      refine lv_iconst (v := nI 5) hx hb dL_law_239 (by decide) ?_
      refine va_calli (va_runS (As := [.int cv_3, .int (nI 5)]) (rest := []) ⟨hx, hb, hml, hown, hts⟩ (c_L_up l cv_3 5 (by omega) (by omega)) (va_cwS 2 hts (TB_S k_m_L_22 k_st_L_up k_in_L k_co_L_up (fun _ h => h)) rfl rfl rfl (by decide +kernel) ⟨Nat.le_of_ble_eq_true rfl, Nat.le_of_ble_eq_true rfl⟩) ⟨tP_blind, tP_of⟩ rfl rfl hl.1 rfl (lv_room (Nat.le_of_ble_eq_true rfl)) dL_law_240 ⟨(show ((113 + k * 2) + 0) + 0 ≤ 611516 by omega), (show ((2078 + k * 12) + 0) + 0 ≤ 7267151 by omega)⟩) hS (fun q _ h => absurd h id) (fun q h => absurd h id) (fun ru u9 t9 H locs ht9 hvm hw hB hz1 hk1 hS => ?_)
      have hP := P_same hP hk1
      obtain ⟨up_4, hup_4, eup_4⟩ := hw
      refine t_i eup_4 ?_
      refine lv_istore (lv' := [(8, .int (nI up_4)), (7, .int cv_3), (2, .int (nI (a9 + 1))), (0, .ref b), (1, .ref (ad 0)), (4, .int (nI cl)), (5, .int (nI me)), (6, .int (nI k))]) hx hb dL_law_243 hl (by decide) rfl (fun ls hl => ?_)
      refine lv_iload hx hb dL_law_245 (lv_at hl 1 rfl) ?_
      refine lv_bipush (v := nI 9) hx hb dL_law_247 (by decide) ?_
      refine lv_ishr hx hb dL_law_249 ?_
      refine lv_iconst (v := nI 1) hx hb dL_law_250 (by decide) ?_
      refine lv_iand hx hb dL_law_251 ?_
      refine lv_iconst (v := nI 1) hx hb dL_law_252 (by decide) ?_
      refine b_icmp_ne hx hb rfl (nI_toIntI (by omega)) dL_law_253 (tgt := 260) (by decide) (fun c253 => ?_) (fun c253 => ?_)
      · refine lv_iconst (v := nI 0) hx hb dL_law_260 (by decide) ?_
        refine lv_istore (lv' := [(9, .int (nI 0)), (8, .int (nI up_4)), (7, .int cv_3), (2, .int (nI (a9 + 1))), (0, .ref b), (1, .ref (ad 0)), (4, .int (nI cl)), (5, .int (nI me)), (6, .int (nI k))]) hx hb dL_law_261 hl (by decide) rfl (fun ls hl => ?_)
        refine lv_iload hx hb dL_law_263 (lv_at hl 0 rfl) ?_
        refine b_if_eq hx hb (nI_toIntI (by omega)) dL_law_265 (tgt := 286) (by decide) (fun c265 => ?_) (fun c265 => absurd c265 (by omega))
        refine lv_aload_n hx hb dL_law_286 rfl (lv_at hl 5 rfl) ?_
        refine lv_iload hx hb dL_law_287 (lv_at hl 1 rfl) ?_
        refine lv_iload hx hb dL_law_289 (lv_at hl 1 rfl) ?_
        refine lv_iconst (v := nI 1) hx hb dL_law_291 (by decide) ?_
        refine lv_iadd hx hb dL_law_292 ?_
        refine t_i (nI_add _ _) ?_
        refine lv_iload hx hb dL_law_293 (lv_at hl 2 rfl) ?_
        refine lv_iconst (v := nI 4) hx hb dL_law_295 (by decide) ?_
        refine lv_ishr hx hb dL_law_296 ?_
        refine lv_iconst (v := nI 4) hx hb dL_law_297 (by decide) ?_
        refine va_calli (va_runS (As := [.int (cv_3 >>> ((nI 4) &&& 31)), .int (nI 4)]) (rest := [.int (nI (up_4 + 1)), .int (nI up_4), .ref (ad 0)]) ⟨hx, hb, hml, hown, hts⟩ (c_L_up l (cv_3 >>> ((nI 4) &&& 31)) 4 (by omega) (by omega)) (va_cwS 2 hts (TB_S k_m_L_22 k_st_L_up k_in_L k_co_L_up (fun _ h => h)) rfl rfl rfl (by decide +kernel) ⟨Nat.le_of_ble_eq_true rfl, Nat.le_of_ble_eq_true rfl⟩) ⟨tP_blind, tP_of⟩ rfl rfl hl.1 rfl (lv_room (Nat.le_of_ble_eq_true rfl)) dL_law_298 ⟨(show (((113 + k * 2) + 0) + 0) + 0 ≤ 611516 by omega), (show (((2078 + k * 12) + 0) + 0) + 0 ≤ 7267151 by omega)⟩) hS (fun q _ h => absurd h id) (fun q h => absurd h id) (fun ru u9 t9 H locs ht9 hvm hw hB hz1 hk1 hS => ?_)
        have hP := P_same hP hk1
        obtain ⟨up_5, hup_5, eup_5⟩ := hw
        refine t_i eup_5 ?_
        refine lv_iadd hx hb dL_law_301 ?_
        refine t_i (nI_add _ _) ?_
        refine lv_iconst (v := nI 5) hx hb dL_law_302 (by decide) ?_
        refine lv_irem hx hb dL_law_303 (nI_ne0 (by decide) (by decide)) ?_
        refine t_i (pk_rem (by omega) (by omega) (by omega)) ?_
        obtain ⟨rm_6, hrm_6⟩ : ∃ y, y = (up_4 + 1 + up_5) % 5 := ⟨_, rfl⟩
        refine t_i (congrArg nI hrm_6.symm) ?_
        have hrs : rs_addClutch vw.1 (nI up_4) (nI rm_6) = (0, ((k : Nat) : Int)) := ((rs_clutch_at (by omega) (by omega) (by omega) (by omega)).trans (by rw [hd1]))
        have hFc := freeAll hD hS hA
        refine vx_calli (vx_runV (As := [.int (nI up_4), .int (nI rm_6)]) (rest := []) ⟨hx, hb, hml, hown, hts⟩ (c_X6_addClutch l hlf D K ad q q1 q2 g r r2 vw i (nI up_4) (nI rm_6) H.size hI hJ) (cwV 2 hts (TB_V k_m_L_34 k_im_X6_addClutch k_se_X6_addClutch k_in_X6 k_co_X6_addClutch (fun _ h => h)) rfl rfl rfl (by decide +kernel) ⟨Nat.le_of_ble_eq_true rfl, Nat.le_of_ble_eq_true rfl⟩) ⟨cPT_blind, va_recv hK hP (ci := 6) (q0 := 0) rfl rfl, cPT_of hP hK hD hTX hS hFc⟩ rfl rfl hl.1 rfl (lv_room (Nat.le_of_ble_eq_true rfl)) dL_law_304 ⟨(show ((((113 + k * 2) + 0) + 0) + 0) + 1 ≤ 611516 by omega), (show ((((2078 + k * 12) + 0) + 0) + 0) + 6 ≤ 7267151 by omega)⟩) hS (fun q _ h => hFc q h) hFc (fun q _ h => hFc q h) (fun E ce q9 u9 t9 H locs ht9 hal hpx hB hz1 hk1 hS hce hcv hcl => ?_) (fun rz u9 t9 H locs ht9 hal hw hB hz1 hk1 hS => ?_)
        · exact absurd hB.1.1 (by rw [hrs]; exact Nat.lt_irrefl 0)
        obtain ⟨vx2, i9⟩ := u9
        obtain ⟨hP1, hK1, hD1⟩ := hB
        rw [ht9] at hP1
        have hP2 := hP1
        have hD2 := hD1.weaken (fun _ _ _ h => hFc _ h)
        dsimp only at hw
        obtain ⟨he9, hI9, hJ9, hr9⟩ := hw
        have hz : rz.toInt = ((k : Nat) : Int) := (Prod.mk.inj (hr9.symm.trans hrs)).2
        rw [hd1] at he9
        obtain ⟨hEB1, h7⟩ := EB_clutch (w := vx2) (b := rm_6) hEB hk6 (by omega) (by rw [he9])
        have hEB := hEB1
        have hI := hI9
        have hJ := hJ9
        have hP : va_P D vwCl (WX K ad q q1 q2 g r r2 vx2 i9) H := hP2
        have hD : va_D A (WX K ad q q1 q2 g r r2 vx2 i9) := hD2
        refine t_i ((i32_eq rz (nI k)).mpr (by rw [nI_toIntI (by omega)]; exact hz)) ?_
        refine lv_iload hx hb dL_law_307 (lv_at hl 8 rfl) ?_
        refine b_icmp_eq hx hb (nI_toIntI (by omega)) (nI_toIntI (by omega)) dL_law_309 (tgt := 314) (by decide) (fun c309 => ?_) (fun c309 => absurd c309 (by omega))
        refine lv_iload hx hb dL_law_314 (lv_at hl 6 rfl) ?_
        refine lv_iload hx hb dL_law_316 (lv_at hl 0 rfl) ?_
        refine b_if_eq hx hb (nI_toIntI (by omega)) dL_law_318 (tgt := 325) (by decide) (fun c318 => ?_) (fun c318 => absurd c318 (by omega))
        refine lv_iconst (v := nI 1) hx hb dL_law_325 (by decide) ?_
        refine lv_iload hx hb dL_law_326 (lv_at hl 8 rfl) ?_
        refine lv_ishl hx hb dL_law_328 ?_
        refine lv_ior hx hb dL_law_329 ?_
        refine t_i (w_or cl hcl64 k hk6) ?_
        refine lv_istore (lv' := [(4, .int (nI (cl ||| 2 ^ k))), (9, .int (nI 0)), (8, .int (nI up_4)), (7, .int cv_3), (2, .int (nI (a9 + 1))), (0, .ref b), (1, .ref (ad 0)), (5, .int (nI me)), (6, .int (nI k))]) hx hb dL_law_330 hl (by decide) rfl (fun ls hl => ?_)
        refine lv_aload_n hx hb dL_law_332 rfl (lv_at hl 6 rfl) ?_
        refine lv_iload hx hb dL_law_333 (lv_at hl 8 rfl) ?_
        refine lv_iconst (v := nI 1) hx hb dL_law_335 (by decide) ?_
        refine lv_iload hx hb dL_law_336 (lv_at hl 3 rfl) ?_
        refine lv_bipush (v := nI 12) hx hb dL_law_338 (by decide) ?_
        refine lv_ishr hx hb dL_law_340 ?_
        refine lv_sipush (v := nI 2000) hx hb dL_law_341 (by decide) ?_
        refine va_calli (va_runS (As := [.int (cv_3 >>> ((nI 12) &&& 31)), .int (nI 2000)]) (rest := [.int (nI 1), .int (nI k), .ref (ad 0)]) ⟨hx, hb, hml, hown, hts⟩ (c_L_up l (cv_3 >>> ((nI 12) &&& 31)) 2000 (by omega) (by omega)) (va_cwS 2 hts (TB_S k_m_L_22 k_st_L_up k_in_L k_co_L_up (fun _ h => h)) rfl rfl rfl (by decide +kernel) ⟨Nat.le_of_ble_eq_true rfl, Nat.le_of_ble_eq_true rfl⟩) ⟨tP_blind, tP_of⟩ rfl rfl hl.1 rfl (lv_room (Nat.le_of_ble_eq_true rfl)) dL_law_344 ⟨(show (((((113 + k * 2) + 0) + 0) + 0) + 1) + 0 ≤ 611516 by omega), (show (((((2078 + k * 12) + 0) + 0) + 0) + 6) + 0 ≤ 7267151 by omega)⟩) hS (fun q _ h => absurd h id) (fun q h => absurd h id) (fun ru u9 t9 H locs ht9 hvm hw hB hz1 hk1 hS => ?_)
        have hP := P_same hP hk1
        obtain ⟨up_7, hup_7, eup_7⟩ := hw
        refine t_i eup_7 ?_
        refine lv_iadd hx hb dL_law_347 ?_
        refine t_i (nI_add _ _) ?_
        have hd2 : dn vx2.1 8 1 = k + 1 := dn_of hEB.1 (by omega)
        have hrs : rs_setCapacity vx2.1 (nI k) (nI (1 + up_7)) = (0, ((1000 : Nat) : Int)) := ((rs_cap (by omega) hk6 (by omega) (by omega)).trans (by rw [h7]; rfl))
        have hFc := freeAll hD hS hA
        refine vx_calli (vx_runV (As := [.int (nI k), .int (nI (1 + up_7))]) (rest := []) ⟨hx, hb, hml, hown, hts⟩ (c_X6_setCapacity l hlf D K ad q q1 q2 g r r2 vx2 i9 (nI k) (nI (1 + up_7)) H.size hI hJ) (cwV 2 hts (TB_V k_m_L_37 k_im_X6_setCapacity k_se_X6_setCapacity k_in_X6 k_co_X6_setCapacity (fun _ h => h)) rfl rfl rfl (by decide +kernel) ⟨Nat.le_of_ble_eq_true rfl, Nat.le_of_ble_eq_true rfl⟩) ⟨cPT_blind, va_recv hK hP (ci := 6) (q0 := 0) rfl rfl, cPT_of hP hK hD hTX hS hFc⟩ rfl rfl hl.1 rfl (lv_room (Nat.le_of_ble_eq_true rfl)) dL_law_348 ⟨(show ((((((113 + k * 2) + 0) + 0) + 0) + 1) + 0) + 1 ≤ 611516 by omega), (show ((((((2078 + k * 12) + 0) + 0) + 0) + 6) + 0) + 6 ≤ 7267151 by omega)⟩) hS (fun q _ h => hFc q h) hFc (fun q _ h => hFc q h) (fun E ce q9 u9 t9 H locs ht9 hal hpx hB hz1 hk1 hS hce hcv hcl => ?_) (fun rz u9 t9 H locs ht9 hal hw hB hz1 hk1 hS => ?_)
        · exact absurd hB.1.1 (by rw [hrs]; exact Nat.lt_irrefl 0)
        obtain ⟨vx3, i9⟩ := u9
        obtain ⟨hP1, hK1, hD1⟩ := hB
        rw [ht9] at hP1
        have hP2 := hP1
        have hD2 := hD1.weaken (fun _ _ _ h => hFc _ h)
        dsimp only at hw
        obtain ⟨he9, hI9, hJ9, hr9⟩ := hw
        have hz : rz.toInt = ((1000 : Nat) : Int) := (Prod.mk.inj (hr9.symm.trans hrs)).2
        have hEB1 := EB_cap (w := vx3) (c := 1 + up_7) hEB hk6 (by omega) (by rw [he9])
        have hEB := hEB1
        have hI := hI9
        have hJ := hJ9
        have hP : va_P D vwCl (WX K ad q q1 q2 g r r2 vx3 i9) H := hP2
        have hD : va_D A (WX K ad q q1 q2 g r r2 vx3 i9) := hD2
        refine t_i ((i32_eq rz (nI 1000)).mpr (by rw [nI_toIntI (by decide)]; exact hz)) ?_
        refine lv_sipush (v := nI 1000) hx hb dL_law_351 (by decide) ?_
        refine b_icmp_eq hx hb (nI_toIntI (by omega)) (nI_toIntI (by omega)) dL_law_354 (tgt := 359) (by decide) (fun c354 => ?_) (fun c354 => absurd c354 (by omega))
        refine lv_iinc (v := nI (k + 1)) (lv' := [(6, .int (nI (k + 1))), (4, .int (nI (cl ||| 2 ^ k))), (9, .int (nI 0)), (8, .int (nI up_4)), (7, .int cv_3), (2, .int (nI (a9 + 1))), (0, .ref b), (1, .ref (ad 0)), (5, .int (nI me))]) hx hb dL_law_359 hl (k := 8) rfl (nI_add k 1) (by decide) rfl (fun ls hl => ?_)
        refine lv_goto (tgt := 220) hx hb dL_law_362 (by decide) ?_
        refine W.widen (k := 113 + (k + 1) * 2) (n := 2078 + (k + 1) * 12) (by omega) (by omega) ?_
        exact ih220 vx3 i9 (k + 1) (a9 + 1) (cl ||| 2 ^ k) _ _ _ (by omega) hI hJ hEB (by omega) (by omega) hP hD hS (lv_sub hl [6, 7, 5, 1, 8, 0] rfl)
      refine lv_iconst (v := nI 1) hx hb dL_law_256 (by decide) ?_
      refine lv_goto (tgt := 261) hx hb dL_law_257 (by decide) ?_
      refine lv_istore (lv' := [(9, .int (nI 1)), (8, .int (nI up_4)), (7, .int cv_3), (2, .int (nI (a9 + 1))), (0, .ref b), (1, .ref (ad 0)), (4, .int (nI cl)), (5, .int (nI me)), (6, .int (nI k))]) hx hb dL_law_261 hl (by decide) rfl (fun ls hl => ?_)
      refine lv_iload hx hb dL_law_263 (lv_at hl 0 rfl) ?_
      refine b_if_eq hx hb (nI_toIntI (by omega)) dL_law_265 (tgt := 286) (by decide) (fun c265 => absurd c265 (by omega)) (fun c265 => ?_)
      refine lv_aload_n hx hb dL_law_268 rfl (lv_at hl 5 rfl) ?_
      refine lv_iconst (v := nI 1) hx hb dL_law_269 (by decide) ?_
      refine lv_iload hx hb dL_law_270 (lv_at hl 2 rfl) ?_
      refine lv_bipush (v := nI 10) hx hb dL_law_272 (by decide) ?_
      refine lv_ishr hx hb dL_law_274 ?_
      refine lv_iconst (v := nI 4) hx hb dL_law_275 (by decide) ?_
      refine va_calli (va_runS (As := [.int (cv_3 >>> ((nI 10) &&& 31)), .int (nI 4)]) (rest := [.int (nI 1), .ref (ad 0)]) ⟨hx, hb, hml, hown, hts⟩ (c_L_up l (cv_3 >>> ((nI 10) &&& 31)) 4 (by omega) (by omega)) (va_cwS 2 hts (TB_S k_m_L_22 k_st_L_up k_in_L k_co_L_up (fun _ h => h)) rfl rfl rfl (by decide +kernel) ⟨Nat.le_of_ble_eq_true rfl, Nat.le_of_ble_eq_true rfl⟩) ⟨tP_blind, tP_of⟩ rfl rfl hl.1 rfl (lv_room (Nat.le_of_ble_eq_true rfl)) dL_law_276 ⟨(show (((113 + k * 2) + 0) + 0) + 0 ≤ 611516 by omega), (show (((2078 + k * 12) + 0) + 0) + 0 ≤ 7267151 by omega)⟩) hS (fun q _ h => absurd h id) (fun q h => absurd h id) (fun ru u9 t9 H locs ht9 hvm hw hB hz1 hk1 hS => ?_)
      have hP := P_same hP hk1
      obtain ⟨up_8, hup_8, eup_8⟩ := hw
      refine t_i eup_8 ?_
      refine lv_iadd hx hb dL_law_279 ?_
      refine t_i (nI_add _ _) ?_
      have hrs : rs_addBrake vw.1 (nI (1 + up_8)) = (0, ((k : Nat) : Int)) := ((rs_brake_at (by omega) (by omega)).trans (by rw [hd1]))
      have hFc := freeAll hD hS hA
      refine vx_calli (vx_runV (As := [.int (nI (1 + up_8))]) (rest := []) ⟨hx, hb, hml, hown, hts⟩ (c_X6_addBrake l hlf D K ad q q1 q2 g r r2 vw i (nI (1 + up_8)) H.size hI hJ) (cwV 1 hts (TB_V k_m_L_30 k_im_X6_addBrake k_se_X6_addBrake k_in_X6 k_co_X6_addBrake (fun _ h => h)) rfl rfl rfl (by decide +kernel) ⟨Nat.le_of_ble_eq_true rfl, Nat.le_of_ble_eq_true rfl⟩) ⟨cPT_blind, va_recv hK hP (ci := 6) (q0 := 0) rfl rfl, cPT_of hP hK hD hTX hS hFc⟩ rfl rfl hl.1 rfl (lv_room (Nat.le_of_ble_eq_true rfl)) dL_law_280 ⟨(show ((((113 + k * 2) + 0) + 0) + 0) + 1 ≤ 611516 by omega), (show ((((2078 + k * 12) + 0) + 0) + 0) + 6 ≤ 7267151 by omega)⟩) hS (fun q _ h => hFc q h) hFc (fun q _ h => hFc q h) (fun E ce q9 u9 t9 H locs ht9 hal hpx hB hz1 hk1 hS hce hcv hcl => ?_) (fun rz u9 t9 H locs ht9 hal hw hB hz1 hk1 hS => ?_)
      · exact absurd hB.1.1 (by rw [hrs]; exact Nat.lt_irrefl 0)
      obtain ⟨vx4, i9⟩ := u9
      obtain ⟨hP1, hK1, hD1⟩ := hB
      rw [ht9] at hP1
      have hP2 := hP1
      have hD2 := hD1.weaken (fun _ _ _ h => hFc _ h)
      dsimp only at hw
      obtain ⟨he9, hI9, hJ9, hr9⟩ := hw
      have hz : rz.toInt = ((k : Nat) : Int) := (Prod.mk.inj (hr9.symm.trans hrs)).2
      rw [hd1] at he9
      obtain ⟨hEB1, h7⟩ := EB_brake (w := vx4) hEB hk6 (by rw [he9])
      have hEB := hEB1
      have hI := hI9
      have hJ := hJ9
      have hP : va_P D vwCl (WX K ad q q1 q2 g r r2 vx4 i9) H := hP2
      have hD : va_D A (WX K ad q q1 q2 g r r2 vx4 i9) := hD2
      refine t_i ((i32_eq rz (nI k)).mpr (by rw [nI_toIntI (by omega)]; exact hz)) ?_
      refine lv_goto (tgt := 307) hx hb dL_law_283 (by decide) ?_
      refine lv_iload hx hb dL_law_307 (lv_at hl 8 rfl) ?_
      refine b_icmp_eq hx hb (nI_toIntI (by omega)) (nI_toIntI (by omega)) dL_law_309 (tgt := 314) (by decide) (fun c309 => ?_) (fun c309 => absurd c309 (by omega))
      refine lv_iload hx hb dL_law_314 (lv_at hl 6 rfl) ?_
      refine lv_iload hx hb dL_law_316 (lv_at hl 0 rfl) ?_
      refine b_if_eq hx hb (nI_toIntI (by omega)) dL_law_318 (tgt := 325) (by decide) (fun c318 => absurd c318 (by omega)) (fun c318 => ?_)
      refine lv_iconst (v := nI 0) hx hb dL_law_321 (by decide) ?_
      refine lv_goto (tgt := 329) hx hb dL_law_322 (by decide) ?_
      refine lv_ior hx hb dL_law_329 ?_
      refine t_i (w_or0 cl hcl64) ?_
      refine lv_istore (lv' := [(4, .int (nI cl)), (9, .int (nI 1)), (8, .int (nI up_4)), (7, .int cv_3), (2, .int (nI (a9 + 1))), (0, .ref b), (1, .ref (ad 0)), (5, .int (nI me)), (6, .int (nI k))]) hx hb dL_law_330 hl (by decide) rfl (fun ls hl => ?_)
      refine lv_aload_n hx hb dL_law_332 rfl (lv_at hl 6 rfl) ?_
      refine lv_iload hx hb dL_law_333 (lv_at hl 8 rfl) ?_
      refine lv_iconst (v := nI 1) hx hb dL_law_335 (by decide) ?_
      refine lv_iload hx hb dL_law_336 (lv_at hl 3 rfl) ?_
      refine lv_bipush (v := nI 12) hx hb dL_law_338 (by decide) ?_
      refine lv_ishr hx hb dL_law_340 ?_
      refine lv_sipush (v := nI 2000) hx hb dL_law_341 (by decide) ?_
      refine va_calli (va_runS (As := [.int (cv_3 >>> ((nI 12) &&& 31)), .int (nI 2000)]) (rest := [.int (nI 1), .int (nI k), .ref (ad 0)]) ⟨hx, hb, hml, hown, hts⟩ (c_L_up l (cv_3 >>> ((nI 12) &&& 31)) 2000 (by omega) (by omega)) (va_cwS 2 hts (TB_S k_m_L_22 k_st_L_up k_in_L k_co_L_up (fun _ h => h)) rfl rfl rfl (by decide +kernel) ⟨Nat.le_of_ble_eq_true rfl, Nat.le_of_ble_eq_true rfl⟩) ⟨tP_blind, tP_of⟩ rfl rfl hl.1 rfl (lv_room (Nat.le_of_ble_eq_true rfl)) dL_law_344 ⟨(show (((((113 + k * 2) + 0) + 0) + 0) + 1) + 0 ≤ 611516 by omega), (show (((((2078 + k * 12) + 0) + 0) + 0) + 6) + 0 ≤ 7267151 by omega)⟩) hS (fun q _ h => absurd h id) (fun q h => absurd h id) (fun ru u9 t9 H locs ht9 hvm hw hB hz1 hk1 hS => ?_)
      have hP := P_same hP hk1
      obtain ⟨up_9, hup_9, eup_9⟩ := hw
      refine t_i eup_9 ?_
      refine lv_iadd hx hb dL_law_347 ?_
      refine t_i (nI_add _ _) ?_
      have hd2 : dn vx4.1 8 1 = k + 1 := dn_of hEB.1 (by omega)
      have hrs : rs_setCapacity vx4.1 (nI k) (nI (1 + up_9)) = (0, ((1000 : Nat) : Int)) := ((rs_cap (by omega) hk6 (by omega) (by omega)).trans (by rw [h7]; rfl))
      have hFc := freeAll hD hS hA
      refine vx_calli (vx_runV (As := [.int (nI k), .int (nI (1 + up_9))]) (rest := []) ⟨hx, hb, hml, hown, hts⟩ (c_X6_setCapacity l hlf D K ad q q1 q2 g r r2 vx4 i9 (nI k) (nI (1 + up_9)) H.size hI hJ) (cwV 2 hts (TB_V k_m_L_37 k_im_X6_setCapacity k_se_X6_setCapacity k_in_X6 k_co_X6_setCapacity (fun _ h => h)) rfl rfl rfl (by decide +kernel) ⟨Nat.le_of_ble_eq_true rfl, Nat.le_of_ble_eq_true rfl⟩) ⟨cPT_blind, va_recv hK hP (ci := 6) (q0 := 0) rfl rfl, cPT_of hP hK hD hTX hS hFc⟩ rfl rfl hl.1 rfl (lv_room (Nat.le_of_ble_eq_true rfl)) dL_law_348 ⟨(show ((((((113 + k * 2) + 0) + 0) + 0) + 1) + 0) + 1 ≤ 611516 by omega), (show ((((((2078 + k * 12) + 0) + 0) + 0) + 6) + 0) + 6 ≤ 7267151 by omega)⟩) hS (fun q _ h => hFc q h) hFc (fun q _ h => hFc q h) (fun E ce q9 u9 t9 H locs ht9 hal hpx hB hz1 hk1 hS hce hcv hcl => ?_) (fun rz u9 t9 H locs ht9 hal hw hB hz1 hk1 hS => ?_)
      · exact absurd hB.1.1 (by rw [hrs]; exact Nat.lt_irrefl 0)
      obtain ⟨vx5, i9⟩ := u9
      obtain ⟨hP1, hK1, hD1⟩ := hB
      rw [ht9] at hP1
      have hP2 := hP1
      have hD2 := hD1.weaken (fun _ _ _ h => hFc _ h)
      dsimp only at hw
      obtain ⟨he9, hI9, hJ9, hr9⟩ := hw
      have hz : rz.toInt = ((1000 : Nat) : Int) := (Prod.mk.inj (hr9.symm.trans hrs)).2
      have hEB1 := EB_cap (w := vx5) (c := 1 + up_9) hEB hk6 (by omega) (by rw [he9])
      have hEB := hEB1
      have hI := hI9
      have hJ := hJ9
      have hP : va_P D vwCl (WX K ad q q1 q2 g r r2 vx5 i9) H := hP2
      have hD : va_D A (WX K ad q q1 q2 g r r2 vx5 i9) := hD2
      refine t_i ((i32_eq rz (nI 1000)).mpr (by rw [nI_toIntI (by decide)]; exact hz)) ?_
      refine lv_sipush (v := nI 1000) hx hb dL_law_351 (by decide) ?_
      refine b_icmp_eq hx hb (nI_toIntI (by omega)) (nI_toIntI (by omega)) dL_law_354 (tgt := 359) (by decide) (fun c354 => ?_) (fun c354 => absurd c354 (by omega))
      refine lv_iinc (v := nI (k + 1)) (lv' := [(6, .int (nI (k + 1))), (4, .int (nI cl)), (9, .int (nI 1)), (8, .int (nI up_4)), (7, .int cv_3), (2, .int (nI (a9 + 1))), (0, .ref b), (1, .ref (ad 0)), (5, .int (nI me))]) hx hb dL_law_359 hl (k := 8) rfl (nI_add k 1) (by decide) rfl (fun ls hl => ?_)
      refine lv_goto (tgt := 220) hx hb dL_law_362 (by decide) ?_
      refine W.widen (k := 113 + (k + 1) * 2) (n := 2078 + (k + 1) * 12) (by omega) (by omega) ?_
      exact ih220 vx5 i9 (k + 1) (a9 + 1) cl _ _ _ (by omega) hI hJ hEB (by omega) (by omega) hP hD hS (lv_sub hl [6, 7, 5, 1, 8, 0] rfl)
  exact L220 _ vw i 0 (a9 + 1) 0 _ _ _ (Nat.lt_succ_self _) hI hJ (EB_0 hzz1 hzz2) (Nat.zero_le _) (by omega) hP hD hS (lv_sub hl [4, 5, 2, 3, 1, 0] rfl)
