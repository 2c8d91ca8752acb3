/-! Torques.holdsUpTo; History -/
/-- the greatest input torque, up to 10000, that element k with a capacity bears -/
noncomputable def hold (S : (Nat → Int) → Prop) (k cap : Nat) : Nat := @ite _ (Solv S ∧ DetS S (4 + k)) (Classical.propDecidable _) (if vN S (4 + k) = 0 then 10000 else if 10000 < cap * (vD S (4 + k)).natAbs / (vN S (4 + k)).natAbs then 10000 else cap * (vD S (4 + k)).natAbs / (vN S (4 + k)).natAbs) 10000
theorem hold_no {S : (Nat → Int) → Prop} {k cap : Nat} (h : ¬ (Solv S ∧ DetS S (4 + k))) : hold S k cap = 10000 := by unfold hold; rw [if_neg h]
theorem hold_0 {S : (Nat → Int) → Prop} {k cap : Nat} (h : Solv S ∧ DetS S (4 + k)) (h2 : vN S (4 + k) = 0) : hold S k cap = 10000 := by unfold hold; rw [if_pos h, if_pos h2]
theorem hold_n {S : (Nat → Int) → Prop} {k cap : Nat} (h : Solv S ∧ DetS S (4 + k)) (h2 : ¬ vN S (4 + k) = 0) : hold S k cap = if 10000 < cap * (vD S (4 + k)).natAbs / (vN S (4 + k)).natAbs then 10000 else cap * (vD S (4 + k)).natAbs / (vN S (4 + k)).natAbs := by unfold hold; rw [if_pos h, if_neg h2]
theorem hold_le (S : (Nat → Int) → Prop) (k cap : Nat) : hold S k cap ≤ 10000 := by
  by_cases h : Solv S ∧ DetS S (4 + k)
  · by_cases h2 : vN S (4 + k) = 0
    · rw [hold_0 h h2]; exact Nat.le_refl _
    · rw [hold_n h h2]; split <;> omega
  · rw [hold_no h]; exact Nat.le_refl _
theorem L_abs {x : Int64} {n : Nat} (h : x.toInt.natAbs = n) (hn : n < 9223372036854775808) : (if 0 < x then x else -x) = lN n := by
  have z : (0 : Int64).toInt = 0 := by decide
  refine L_ext ?_
  rw [lN_toI hn]
  by_cases q : 0 < x
  · rw [if_pos q]
    have := (i64_lt _ _).mp q
    omega
  · rw [if_neg q]
    have h1 : ¬ (0 : Int) < x.toInt := fun w => q ((i64_lt _ _).mpr (by rw [z]; exact w))
    rw [L_neg (by omega)]
    omega
/-- the masks behind one change more -/
def hsA (f : Nat → Int32) (s : Nat) (x : Int32) (j : Nat) : Int32 := if s = 20 then (if j < 19 then f (j + 1) else x) else if j = s then x else f j
set_option maxHeartbeats 4000000 in
set_option maxRecDepth 100000 in
theorem c_X5_holdsUpTo (l : Launch) (D : va_G) (K : Nat → ClassId) (sp : Nat) (a ao ap ab : Nat) (r : Nat → Nat) (M : Nat → Nat → Int64) (pv ip : Nat → Int32) (sv : Int32) (M0 : Nat → Nat → Int) (k cap : Nat) (sz : Nat) (hk : k < 6) (hcap : cap ≤ 10000) (hS0 : SolvedE M0 M pv sv) : Met l yX5_holdsUpTo (.code yX5_holdsUpTo cX5_holdsUpTo 7 (some .int) :: TB) ({ frames := 3, cells := 0, slots := 0, locals := 83 } : Room) (va_Pc [.ref sp, .int (nI k), .int (nI cap)] (cP D K ([(sp, .inr (5, [.ref a]))] ++ (WE K a ao ap ab r M pv ip sv)) sz)) (va_Qi (fun (z : Int32) (_ : Unit) => z = nI (hold (HS M0 10) k cap)) (fun _ _ => True) (fun _ => False)) 0 0 (fun _ => False) := by
  refine Met.ofW (cc := cX5_holdsUpTo) (maxL := 7) (ret := (some .int)) (by decide) rfl ?_
  intro p e s m args below meth c s₁ B hml hv
  obtain ⟨rfl, hsz, hP, hK, hD0⟩ := hv
  have hx := B.exec
  have hb := B.bytes
  have hr := B.returns
  have hts := hts_tl (atoms_spec (ws := (.code yX5_holdsUpTo cX5_holdsUpTo 7 (some .int) :: TB)) B.pre)
  have hown : s.vm.findClass RX5 = some m.cls := findClass_of_methodNamed B.named
  have hlocks := B.notSynchronized
  subst hsz
  have hA : ∀ q : Nat, q < s.heap.size → (fun _ : Nat => False) q → False := fun _ _ h => h
  have hS : va_S (fun _ => False) s.heap s.heap [] := va_S.rf
  have hl := lv_entry ([.ref sp, .int (nI k), .int (nI cap)]) (n := 7) (Nat.le_of_ble_eq_true rfl)
  rw [lg_entry_eq]
  generalize (lg_sl ([.ref sp, .int (nI k), .int (nI cap)]) ++ List.replicate (7 - (lg_sl ([.ref sp, .int (nI k), .int (nI cap)])).length) Slot.unset).toArray = ls at hl ⊢
  have hl : lv_has ls 7 [(0, .ref sp), (1, .int (nI k)), (2, .int (nI cap))] := hl
  refine lv_aload_n hx hb dX5_holdsUpTo_0 rfl (lv_at hl 0 rfl) ?_
  refine lv_iload_n hx hb dX5_holdsUpTo_1 rfl (lv_at hl 1 rfl) ?_
  refine va_calli (va_runV (As := [.int (nI k)]) (rest := []) ⟨hx, hb, hml, hown, hts⟩ (c_X5_isDetermined l D K sp a ao ap ab r M pv ip sv M0 k s.heap.size hk hS0) (cwV 1 hts (TB_V k_m_X5_48 k_im_X5_isDetermined k_se_X5_isDetermined k_in_X5 k_co_X5_isDetermined (fun _ h => h)) rfl rfl rfl (by decide +kernel) ⟨Nat.le_of_ble_eq_true rfl, Nat.le_of_ble_eq_true rfl⟩) ⟨cP_blind, va_recv hK hP (ci := 5) (q0 := 0) rfl rfl, cP_of hP hK hD0⟩ rfl rfl hl.1 rfl (lv_room (Nat.le_of_ble_eq_true rfl)) dX5_holdsUpTo_2 ⟨Nat.le_of_ble_eq_true rfl, Nat.le_of_ble_eq_true rfl⟩) hS (fun q _ h => absurd h id) (fun q h => absurd h id) (fun dt u9 t9 H locs ht9 hvm hw hB hz1 hk1 hS => ?_)
  have hP := P_same hP hk1
  by_cases hSD : Solv (HS M0 10) ∧ DetS (HS M0 10) (4 + k)
  rotate_left
  · refine t_i (hw.trans (bI_f hSD).symm) ?_
    refine b_if_ne hx hb (nI_toIntI (by omega)) dX5_holdsUpTo_5 (tgt := 12) (by decide) (fun c5 => absurd c5 (by omega)) (fun c5 => ?_)
    refine lv_sipush (v := nI 10000) hx hb dX5_holdsUpTo_8 (by decide) ?_
    exact W.iret (v := nI 10000) hx hb hr (fun t9 ht9 hW => ⟨⟨nI 10000, (), rfl, congrArg nI (hold_no hSD).symm, trivial⟩, hS.F ht9⟩) hS.2.2 dX5_holdsUpTo_11
  refine t_i (hw.trans (bI_t hSD).symm) ?_
  refine b_if_ne hx hb (nI_toIntI (by omega)) dX5_holdsUpTo_5 (tgt := 12) (by decide) (fun c5 => ?_) (fun c5 => absurd c5 (by omega))
  refine lv_aload_n hx hb dX5_holdsUpTo_12 rfl (lv_at hl 0 rfl) ?_
  refine lv_iload_n hx hb dX5_holdsUpTo_13 rfl (lv_at hl 1 rfl) ?_
  refine lv_iconst (v := nI 0) hx hb dX5_holdsUpTo_14 (by decide) ?_
  refine va_calll (va_runV (As := [.int (nI k), .int (nI 0)]) (rest := []) ⟨hx, hb, hml, hown, hts⟩ (c_X5_elementPart l D K sp a ao ap ab r M pv ip sv M0 k 0 H.size hk (by decide) hS0 hSD.1 hSD.2) (cwV 2 hts (TB_V k_m_X5_49 k_im_X5_elementPart k_se_X5_elementPart k_in_X5 k_co_X5_elementPart (fun _ h => h)) rfl rfl rfl (by decide +kernel) ⟨Nat.le_of_ble_eq_true rfl, Nat.le_of_ble_eq_true rfl⟩) ⟨cP_blind, va_recv hK hP (ci := 5) (q0 := 0) rfl rfl, cP_of hP hK hD0⟩ rfl rfl hl.1 rfl (lv_room (Nat.le_of_ble_eq_true rfl)) dX5_holdsUpTo_15 ⟨Nat.le_of_ble_eq_true rfl, Nat.le_of_ble_eq_true rfl⟩) hS (fun q _ h => absurd h id) (fun q h => absurd h id) (fun vx u9 t9 H locs ht9 hvm hw hB hz1 hk1 hS => ?_)
  have hP := P_same hP hk1
  have hxv : vx.toInt = vN (HS M0 10) (4 + k) := hw
  have hbd := hS0.bound (t := 4 + k) (by omega) hSD.1 hSD.2
  have hBB : BB = 351232000 := rfl
  refine va_mabs_long hx hb (hml.trans hl.1.symm) hown (hts _ k_m_X5_52) (hts _ k_st_Lib_MathLoose_abs_long_x) (hts _ k_in_java_lang_Math) (hts _ k_co_Lib_MathLoose_abs_long_x) (Nat.le_of_ble_eq_true rfl) (Nat.le_of_ble_eq_true rfl) (Nat.le_of_ble_eq_true rfl) (Nat.le_of_ble_eq_true rfl) dX5_holdsUpTo_18 ?_
  refine t_l (L_abs (n := (vN (HS M0 10) (4 + k)).natAbs) (by rw [hxv]) (by omega)) ?_
  refine lv_lstore_n (lv' := [(3, .long (lN (vN (HS M0 10) (4 + k)).natAbs)), (0, .ref sp), (1, .int (nI k)), (2, .int (nI cap))]) hx hb dX5_holdsUpTo_21 rfl hl (by decide) rfl (fun ls hl => ?_)
  refine lv_lload_n hx hb dX5_holdsUpTo_22 rfl (lv_at hl 0 rfl) ?_
  refine lv_lconst (v := 0) hx hb dX5_holdsUpTo_23 (by decide) ?_
  refine b_lcmp_ne hx hb rfl (show (0 : Int64).toInt = 0 by decide) dX5_holdsUpTo_24 dX5_holdsUpTo_25 (tgt := 32) (by decide) (fun c24 => ?_) (fun c24 => ?_)
  · refine lv_iload_n hx hb dX5_holdsUpTo_32 rfl (lv_at hl 3 rfl) ?_
    refine lv_i2l (v := (nI cap).toInt64) hx hb dX5_holdsUpTo_33 rfl ?_
    refine t_l (nI_l (by omega)) ?_
    refine lv_aload_n hx hb dX5_holdsUpTo_34 rfl (lv_at hl 1 rfl) ?_
    refine lv_iload_n hx hb dX5_holdsUpTo_35 rfl (lv_at hl 2 rfl) ?_
    refine lv_iconst (v := nI 1) hx hb dX5_holdsUpTo_36 (by decide) ?_
    refine va_calll (va_runV (As := [.int (nI k), .int (nI 1)]) (rest := [.long (lN cap)]) ⟨hx, hb, hml, hown, hts⟩ (c_X5_elementPart l D K sp a ao ap ab r M pv ip sv M0 k 1 H.size hk (by decide) hS0 hSD.1 hSD.2) (cwV 2 hts (TB_V k_m_X5_49 k_im_X5_elementPart k_se_X5_elementPart k_in_X5 k_co_X5_elementPart (fun _ h => h)) rfl rfl rfl (by decide +kernel) ⟨Nat.le_of_ble_eq_true rfl, Nat.le_of_ble_eq_true rfl⟩) ⟨cP_blind, va_recv hK hP (ci := 5) (q0 := 0) rfl rfl, cP_of hP hK hD0⟩ rfl rfl hl.1 rfl (lv_room (Nat.le_of_ble_eq_true rfl)) dX5_holdsUpTo_37 ⟨Nat.le_of_ble_eq_true rfl, Nat.le_of_ble_eq_true rfl⟩) hS (fun q _ h => absurd h id) (fun q h => absurd h id) (fun vy u9 t9 H locs ht9 hvm hw hB hz1 hk1 hS => ?_)
    have hP := P_same hP hk1
    have hyv : vy.toInt = vD (HS M0 10) (4 + k) := hw
    refine t_l (show vy = lN (vD (HS M0 10) (4 + k)).natAbs from L_ext (by rw [hyv, lN_toI (by omega)]; omega)) ?_
    refine lv_lmul hx hb dX5_holdsUpTo_40 ?_
    refine t_l (lN_mul _ _) ?_
    have hml9 : cap * (vD (HS M0 10) (4 + k)).natAbs ≤ 10000 * 351232000 := Nat.mul_le_mul hcap (by omega)
    have hne : ¬ vN (HS M0 10) (4 + k) = 0 := fun z => c24 (by rw [lN_toI (by omega), z]; rfl)
    have hnp : 0 < (vN (HS M0 10) (4 + k)).natAbs := Int.natAbs_pos.mpr hne
    have hh := hold_n (cap := cap) hSD hne
    refine lv_lload_n hx hb dX5_holdsUpTo_41 rfl (lv_at hl 0 rfl) ?_
    refine lv_ldiv hx hb dX5_holdsUpTo_42 (fun q => c24 (by rw [q]; decide)) ?_
    refine t_l (pk_lDiv (by omega) hnp (by omega)) ?_
    have hdv : cap * (vD (HS M0 10) (4 + k)).natAbs / (vN (HS M0 10) (4 + k)).natAbs ≤ cap * (vD (HS M0 10) (4 + k)).natAbs := Nat.div_le_self _ _
    generalize hX : cap * (vD (HS M0 10) (4 + k)).natAbs / (vN (HS M0 10) (4 + k)).natAbs = X at hh hdv ⊢
    refine lv_lstore (lv' := [(5, .long (lN X)), (3, .long (lN (vN (HS M0 10) (4 + k)).natAbs)), (0, .ref sp), (1, .int (nI k)), (2, .int (nI cap))]) hx hb dX5_holdsUpTo_43 hl (by decide) rfl (fun ls hl => ?_)
    refine lv_lload hx hb dX5_holdsUpTo_45 (lv_at hl 0 rfl) ?_
    refine lv_ldc2 hx hb hown (hts _ k_kl_X5_58) dX5_holdsUpTo_47 ?_
    refine va_mmin_long hx hb (hml.trans hl.1.symm) hown (hts _ k_m_X5_60) (hts _ k_st_Lib_MathLoose_min_long_x) (hts _ k_in_java_lang_Math) (hts _ k_co_Lib_MathLoose_min_long_x) (Nat.le_of_ble_eq_true rfl) (Nat.le_of_ble_eq_true rfl) (Nat.le_of_ble_eq_true rfl) (Nat.le_of_ble_eq_true rfl) dX5_holdsUpTo_50 ?_
    refine t_l (show (if (10000 : Int64) < lN X then (10000 : Int64) else lN X) = lN (hold (HS M0 10) k cap) from ?_) ?_
    · rw [hh]
      have e1 : ((10000 : Int64) < lN X) = (10000 < X) := propext (pk_lLT (a := 10000) (by decide) (by omega))
      simp only [e1]
      split
      · rfl
      · rfl
    refine lv_l2i (v := (lN (hold (HS M0 10) k cap)).toInt32) hx hb dX5_holdsUpTo_53 rfl ?_
    refine t_i (lN_i _) ?_
    exact W.iret (v := nI (hold (HS M0 10) k cap)) hx hb hr (fun t9 ht9 hW => ⟨⟨nI (hold (HS M0 10) k cap), (), rfl, rfl, trivial⟩, hS.F ht9⟩) hS.2.2 dX5_holdsUpTo_54
  refine lv_sipush (v := nI 10000) hx hb dX5_holdsUpTo_28 (by decide) ?_
  exact W.iret (v := nI 10000) hx hb hr (fun t9 ht9 hW => ⟨⟨nI 10000, (), rfl, congrArg nI (hold_0 hSD (by rw [lN_toI (by omega)] at c24; omega)).symm, trivial⟩, hS.F ht9⟩) hS.2.2 dX5_holdsUpTo_31
set_option maxHeartbeats 4000000 in
set_option maxRecDepth 100000 in
theorem c_X3_isEmpty (l : Launch) (D : va_G) (K : Nat → ClassId) (h hm : Nat) (f : Nat → Int32) (s0 : Nat) (sz : Nat) (hs : s0 ≤ 20) : Met l yX3_isEmpty (.code yX3_isEmpty cX3_isEmpty 1 (some .boolean) :: TB) ({ frames := 0, cells := 0, slots := 0, locals := 0 } : Room) (va_Pc [.ref h] (cP D K (WH K h hm f (nI s0)) sz)) (va_Qi (fun (z : Int32) (_ : Unit) => z = bI (s0 = 0)) (fun _ _ => True) (fun _ => False)) 0 0 (fun _ => False) := by
  refine Met.ofW (cc := cX3_isEmpty) (maxL := 1) (ret := (some .boolean)) (by decide) rfl ?_
  intro p e s m args below meth c s₁ B hml hv
  obtain ⟨rfl, hsz, hP, hK, hD0⟩ := hv
  have hx := B.exec
  have hb := B.bytes
  have hr := B.returns
  have hts := hts_tl (atoms_spec (ws := (.code yX3_isEmpty cX3_isEmpty 1 (some .boolean) :: TB)) B.pre)
  have hown : s.vm.findClass RX3 = some m.cls := findClass_of_methodNamed B.named
  have hlocks := B.notSynchronized
  subst hsz
  have hA : ∀ q : Nat, q < s.heap.size → (fun _ : Nat => False) q → False := fun _ _ h => h
  have hS : va_S (fun _ => False) s.heap s.heap [] := va_S.rf
  have hl := lv_entry ([.ref h]) (n := 1) (Nat.le_of_ble_eq_true rfl)
  rw [lg_entry_eq]
  generalize (lg_sl ([.ref h]) ++ List.replicate (1 - (lg_sl ([.ref h])).length) Slot.unset).toArray = ls at hl ⊢
  have hl : lv_has ls 1 [(0, .ref h)] := hl
  refine lv_aload_n hx hb dX3_isEmpty_0 rfl (lv_at hl 0 rfl) ?_
  refine va_get (D := D) (ci := 3) (C := RX3) (T := TX3) (N := 2) hx hb hts iX3 hown hK hP 0 rfl rfl 1 (by decide) (hts _ k_f_X3_15) (fun _ h9 => h9) rfl dX3_isEmpty_1 ?_
  refine t_i (show _ = nI s0 from rfl) ?_
  refine b_if_gt hx hb (nI_toIntI (by omega)) dX3_isEmpty_4 (tgt := 11) (by decide) (fun c4 => ?_) (fun c4 => ?_)
  · refine lv_iconst (v := nI 0) hx hb dX3_isEmpty_11 (by decide) ?_
    exact W.zret (v := nI 0) hx hb hr (by decide) (fun t9 ht9 hW => ⟨⟨nI 0, (), rfl, bI_f (by omega), trivial⟩, hS.F ht9⟩) hS.2.2 dX3_isEmpty_12
  refine lv_iconst (v := nI 1) hx hb dX3_isEmpty_7 (by decide) ?_
  refine lv_goto (tgt := 12) hx hb dX3_isEmpty_8 (by decide) ?_
  exact W.zret (v := nI 1) hx hb hr (by decide) (fun t9 ht9 hW => ⟨⟨nI 1, (), rfl, bI_t (by omega), trivial⟩, hS.F ht9⟩) hS.2.2 dX3_isEmpty_12
set_option maxHeartbeats 4000000 in
set_option maxRecDepth 100000 in
theorem c_X3_clear (l : Launch) (D : va_G) (K : Nat → ClassId) (h hm : Nat) (f : Nat → Int32) (s0 : Nat) (sz : Nat)  : Met l yX3_clear (.code yX3_clear cX3_clear 1 none :: TB) ({ frames := 0, cells := 0, slots := 0, locals := 0 } : Room) (va_Pc [.ref h] (cP D K (WH K h hm f (nI s0)) sz)) (va_Qv (fun (_ : Unit) => True) (fun (u : Unit) t => cB D K (va_A (WH K h hm f (nI s0)) sz) (WH K h hm f (nI 0)) t) (va_A (WH K h hm f (nI s0)) sz)) 0 0 (va_A (WH K h hm f (nI s0)) sz) := by
  refine Met.ofW (cc := cX3_clear) (maxL := 1) (ret := none) (by decide) rfl ?_
  intro p e s m args below meth c s₁ B hml hv
  obtain ⟨rfl, hsz, hP, hK, hD0⟩ := hv
  have hx := B.exec
  have hb := B.bytes
  have hr := B.returns
  have hts := hts_tl (atoms_spec (ws := (.code yX3_clear cX3_clear 1 none :: TB)) B.pre)
  have hown : s.vm.findClass RX3 = some m.cls := findClass_of_methodNamed B.named
  have hlocks := B.notSynchronized
  subst hsz
  have hD := hD0.self (sz := s.heap.size)
  generalize hAe : (va_A (WH K h hm f (nI s0)) s.heap.size) = A at hD ⊢
  have hA : ∀ q : Nat, s.heap.size ≤ q → A q := fun q h => by rw [← hAe]; exact Or.inr h
  have hS : va_S A s.heap s.heap [] := va_S.rf
  have hl := lv_entry ([.ref h]) (n := 1) (Nat.le_of_ble_eq_true rfl)
  rw [lg_entry_eq]
  generalize (lg_sl ([.ref h]) ++ List.replicate (1 - (lg_sl ([.ref h])).length) Slot.unset).toArray = ls at hl ⊢
  have hl : lv_has ls 1 [(0, .ref h)] := hl
  refine lv_aload_n hx hb dX3_clear_0 rfl (lv_at hl 0 rfl) ?_
  refine lv_iconst (v := nI 0) hx hb dX3_clear_1 (by decide) ?_
  refine va_put (D := D) (ci := 3) (v := .int (nI 0)) (ty := .int) (C := RX3) (T := TX3) (N := 2) hx hb hts iX3 tyX3 tyX3_ok nmX3 hown hK hP hD hS 0 rfl rfl 1 (by decide) (hts _ k_f_X3_15) (fun _ h9 => h9) rfl (by decide +kernel) rfl rfl (Nat.le_of_ble_eq_true rfl) dX3_clear_2 (fun H locs hP hD hS => ?_)
  have hP : va_P D vwCl (WH K h hm f (nI 0)) H := hP
  have hD : va_D A (WH K h hm f (nI 0)) := hD
  exact W.vret hx hb hr (fun t9 ht9 hW => ⟨⟨(), rfl, trivial, by rw [ht9]; exact hP, va_K.moved hW.alike hK, hD⟩, hS.F ht9⟩) hS.2.2 dX3_clear_5
set_option maxHeartbeats 4000000 in
set_option maxRecDepth 100000 in
theorem c_X3_takeLatest (l : Launch) (D : va_G) (K : Nat → ClassId) (h hm : Nat) (f : Nat → Int32) (s0 : Nat) (sz : Nat) (hs : s0 ≤ 20) (h0 : 0 < s0) : Met l yX3_takeLatest (.code yX3_takeLatest cX3_takeLatest 1 (some .int) :: TB) ({ frames := 0, cells := 0, slots := 0, locals := 0 } : Room) (va_Pc [.ref h] (cP D K (WH K h hm f (nI s0)) sz)) (va_Qi (fun (z : Int32) (_ : Unit) => z = f (s0 - 1)) (fun (u : Unit) t => cB D K (va_A (WH K h hm f (nI s0)) sz) (WH K h hm f (nI (s0 - 1))) t) (va_A (WH K h hm f (nI s0)) sz)) 0 0 (va_A (WH K h hm f (nI s0)) sz) := by
  refine Met.ofW (cc := cX3_takeLatest) (maxL := 1) (ret := (some .int)) (by decide) rfl ?_
  intro p e s m args below meth c s₁ B hml hv
  obtain ⟨rfl, hsz, hP, hK, hD0⟩ := hv
  have hx := B.exec
  have hb := B.bytes
  have hr := B.returns
  have hts := hts_tl (atoms_spec (ws := (.code yX3_takeLatest cX3_takeLatest 1 (some .int) :: TB)) B.pre)
  have hown : s.vm.findClass RX3 = some m.cls := findClass_of_methodNamed B.named
  have hlocks := B.notSynchronized
  subst hsz
  have hD := hD0.self (sz := s.heap.size)
  generalize hAe : (va_A (WH K h hm f (nI s0)) s.heap.size) = A at hD ⊢
  have hA : ∀ q : Nat, s.heap.size ≤ q → A q := fun q h => by rw [← hAe]; exact Or.inr h
  have hS : va_S A s.heap s.heap [] := va_S.rf
  have hl := lv_entry ([.ref h]) (n := 1) (Nat.le_of_ble_eq_true rfl)
  rw [lg_entry_eq]
  generalize (lg_sl ([.ref h]) ++ List.replicate (1 - (lg_sl ([.ref h])).length) Slot.unset).toArray = ls at hl ⊢
  have hl : lv_has ls 1 [(0, .ref h)] := hl
  refine lv_aload_n hx hb dX3_takeLatest_0 rfl (lv_at hl 0 rfl) ?_
  refine va_get (D := D) (ci := 3) (C := RX3) (T := TX3) (N := 2) hx hb hts iX3 hown hK hP 0 rfl rfl 1 (by decide) (hts _ k_f_X3_15) (fun _ h9 => h9) rfl dX3_takeLatest_1 ?_
  refine t_i (show _ = nI s0 from rfl) ?_
  refine b_if_le hx hb (nI_toIntI (by omega)) dX3_takeLatest_4 (tgt := 16) (by decide) (fun c4 => absurd c4 (by omega)) (fun c4 => ?_)
  refine lv_aload_n hx hb dX3_takeLatest_7 rfl (lv_at hl 0 rfl) ?_
  refine va_get (D := D) (ci := 3) (C := RX3) (T := TX3) (N := 2) hx hb hts iX3 hown hK hP 0 rfl rfl 1 (by decide) (hts _ k_f_X3_15) (fun _ h9 => h9) rfl dX3_takeLatest_8 ?_
  refine t_i (show _ = nI s0 from rfl) ?_
  refine lv_bipush (v := nI 20) hx hb dX3_takeLatest_11 (by decide) ?_
  refine b_icmp_le hx hb (nI_toIntI (by omega)) (nI_toIntI (by omega)) dX3_takeLatest_13 (tgt := 18) (by decide) (fun c13 => ?_) (fun c13 => absurd c13 (by omega))
  refine lv_aload_n hx hb dX3_takeLatest_18 rfl (lv_at hl 0 rfl) ?_
  refine lv_dup hx hb dX3_takeLatest_19 rfl ?_
  refine va_get (D := D) (ci := 3) (C := RX3) (T := TX3) (N := 2) hx hb hts iX3 hown hK hP 0 rfl rfl 1 (by decide) (hts _ k_f_X3_15) (fun _ h9 => h9) rfl dX3_takeLatest_20 ?_
  refine t_i (show _ = nI s0 from rfl) ?_
  refine lv_iconst (v := nI 1) hx hb dX3_takeLatest_23 (by decide) ?_
  refine lv_isub hx hb dX3_takeLatest_24 ?_
  refine t_i (pk_sub (by omega)) ?_
  refine va_put (D := D) (ci := 3) (v := .int (nI (s0 - 1))) (ty := .int) (C := RX3) (T := TX3) (N := 2) hx hb hts iX3 tyX3 tyX3_ok nmX3 hown hK hP hD hS 0 rfl rfl 1 (by decide) (hts _ k_f_X3_15) (fun _ h9 => h9) rfl (by decide +kernel) rfl rfl (Nat.le_of_ble_eq_true rfl) dX3_takeLatest_25 (fun H locs hP hD hS => ?_)
  have hP : va_P D vwCl (WH K h hm f (nI (s0 - 1))) H := hP
  have hD : va_D A (WH K h hm f (nI (s0 - 1))) := hD
  refine lv_aload_n hx hb dX3_takeLatest_28 rfl (lv_at hl 0 rfl) ?_
  refine va_get (D := D) (ci := 3) (C := RX3) (T := TX3) (N := 2) hx hb hts iX3 hown hK hP 0 rfl rfl 0 (by decide) (hts _ k_f_X3_9) (fun _ h9 => h9) rfl dX3_takeLatest_29 ?_
  refine lv_aload_n hx hb dX3_takeLatest_32 rfl (lv_at hl 0 rfl) ?_
  refine va_get (D := D) (ci := 3) (C := RX3) (T := TX3) (N := 2) hx hb hts iX3 hown hK hP 0 rfl rfl 1 (by decide) (hts _ k_f_X3_15) (fun _ h9 => h9) rfl dX3_takeLatest_33 ?_
  refine t_i (show _ = nI (s0 - 1) from rfl) ?_
  refine n_iald hx hb hK hP 1 0 rfl rfl (i := s0 - 1) (n := 20) (by omega) (by decide) dX3_takeLatest_36 ?_
  exact W.iret (v := f (s0 - 1)) hx hb hr (fun t9 ht9 hW => ⟨⟨f (s0 - 1), (), rfl, rfl, by rw [ht9]; exact hP, va_K.moved hW.alike hK, hD⟩, hS.F ht9⟩) hS.2.2 dX3_takeLatest_37
set_option maxHeartbeats 4000000 in
set_option maxRecDepth 100000 in
theorem c_X3_add (l : Launch) (D : va_G) (K : Nat → ClassId) (h hm : Nat) (f : Nat → Int32) (s0 : Nat) (x : Int32) (sz : Nat) (hs : s0 ≤ 20) : Met l yX3_add (.code yX3_add cX3_add 3 none :: TB) ({ frames := 0, cells := 0, slots := 0, locals := 0 } : Room) (va_Pc [.ref h, .int x] (cP D K (WH K h hm f (nI s0)) sz)) (va_Qv (fun (u : (Nat → Int32) × Nat) => u.2 = (if s0 = 20 then 20 else s0 + 1) ∧ ∀ j, j < u.2 → u.1 j = hsA f s0 x j) (fun (u : (Nat → Int32) × Nat) t => cB D K (va_A (WH K h hm f (nI s0)) sz) (WH K h hm u.1 (nI u.2)) t) (va_A (WH K h hm f (nI s0)) sz)) 0 0 (va_A (WH K h hm f (nI s0)) sz) := by
  refine Met.ofW (cc := cX3_add) (maxL := 3) (ret := none) (by decide) rfl ?_
  intro p e s m args below meth c s₁ B hml hv
  obtain ⟨rfl, hsz, hP, hK, hD0⟩ := hv
  have hx := B.exec
  have hb := B.bytes
  have hr := B.returns
  have hts := hts_tl (atoms_spec (ws := (.code yX3_add cX3_add 3 none :: TB)) B.pre)
  have hown : s.vm.findClass RX3 = some m.cls := findClass_of_methodNamed B.named
  have hlocks := B.notSynchronized
  subst hsz
  have hD := hD0.self (sz := s.heap.size)
  generalize hAe : (va_A (WH K h hm f (nI s0)) s.heap.size) = A at hD ⊢
  have hA : ∀ q : Nat, s.heap.size ≤ q → A q := fun q h => by rw [← hAe]; exact Or.inr h
  have hS : va_S A s.heap s.heap [] := va_S.rf
  have hl := lv_entry ([.ref h, .int x]) (n := 3) (Nat.le_of_ble_eq_true rfl)
  rw [lg_entry_eq]
  generalize (lg_sl ([.ref h, .int x]) ++ List.replicate (3 - (lg_sl ([.ref h, .int x])).length) Slot.unset).toArray = ls at hl ⊢
  have hl : lv_has ls 3 [(0, .ref h), (1, .int x)] := hl
  refine lv_aload_n hx hb dX3_add_0 rfl (lv_at hl 0 rfl) ?_
  refine va_get (D := D) (ci := 3) (C := RX3) (T := TX3) (N := 2) hx hb hts iX3 hown hK hP 0 rfl rfl 1 (by decide) (hts _ k_f_X3_15) (fun _ h9 => h9) rfl dX3_add_1 ?_
  refine t_i (show _ = nI s0 from rfl) ?_
  refine lv_bipush (v := nI 20) hx hb dX3_add_4 (by decide) ?_
  refine b_icmp_lt hx hb (nI_toIntI (by omega)) (nI_toIntI (by omega)) dX3_add_6 (tgt := 43) (by decide) (fun c6 => ?_) (fun c6 => ?_)
  · refine lv_aload_n hx hb dX3_add_43 rfl (lv_at hl 0 rfl) ?_
    refine va_get (D := D) (ci := 3) (C := RX3) (T := TX3) (N := 2) hx hb hts iX3 hown hK hP 0 rfl rfl 1 (by decide) (hts _ k_f_X3_15) (fun _ h9 => h9) rfl dX3_add_44 ?_
    refine t_i (show _ = nI s0 from rfl) ?_
    refine b_if_lt hx hb (nI_toIntI (by omega)) dX3_add_47 (tgt := 70) (by decide) (fun c47 => absurd c47 (by omega)) (fun c47 => ?_)
    refine lv_aload_n hx hb dX3_add_50 rfl (lv_at hl 0 rfl) ?_
    refine va_get (D := D) (ci := 3) (C := RX3) (T := TX3) (N := 2) hx hb hts iX3 hown hK hP 0 rfl rfl 0 (by decide) (hts _ k_f_X3_9) (fun _ h9 => h9) rfl dX3_add_51 ?_
    refine lv_aload_n hx hb dX3_add_54 rfl (lv_at hl 0 rfl) ?_
    refine va_get (D := D) (ci := 3) (C := RX3) (T := TX3) (N := 2) hx hb hts iX3 hown hK hP 0 rfl rfl 1 (by decide) (hts _ k_f_X3_15) (fun _ h9 => h9) rfl dX3_add_55 ?_
    refine t_i (show _ = nI s0 from rfl) ?_
    refine lv_iload_n hx hb dX3_add_58 rfl (lv_at hl 1 rfl) ?_
    refine n_iast hx hb hK hP hD hS 1 0 rfl rfl (i := s0) (n := 20) (by omega) (by decide) dX3_add_59 (fun H locs hP hD hS => ?_)
    have hP : va_P D vwCl (WH K h hm (upd f s0 x) (nI s0)) H := hP
    have hD : va_D A (WH K h hm (upd f s0 x) (nI s0)) := hD
    refine lv_aload_n hx hb dX3_add_60 rfl (lv_at hl 0 rfl) ?_
    refine lv_dup hx hb dX3_add_61 rfl ?_
    refine va_get (D := D) (ci := 3) (C := RX3) (T := TX3) (N := 2) hx hb hts iX3 hown hK hP 0 rfl rfl 1 (by decide) (hts _ k_f_X3_15) (fun _ h9 => h9) rfl dX3_add_62 ?_
    refine t_i (show _ = nI s0 from rfl) ?_
    refine lv_iconst (v := nI 1) hx hb dX3_add_65 (by decide) ?_
    refine lv_iadd hx hb dX3_add_66 ?_
    refine t_i (nI_add _ _) ?_
    refine va_put (D := D) (ci := 3) (v := .int (nI (s0 + 1))) (ty := .int) (C := RX3) (T := TX3) (N := 2) hx hb hts iX3 tyX3 tyX3_ok nmX3 hown hK hP hD hS 0 rfl rfl 1 (by decide) (hts _ k_f_X3_15) (fun _ h9 => h9) rfl (by decide +kernel) rfl rfl (Nat.le_of_ble_eq_true rfl) dX3_add_67 (fun H locs hP hD hS => ?_)
    have hP : va_P D vwCl (WH K h hm (upd f s0 x) (nI (s0 + 1))) H := hP
    have hD : va_D A (WH K h hm (upd f s0 x) (nI (s0 + 1))) := hD
    exact W.vret hx hb hr (fun t9 ht9 hW => ⟨⟨(upd f s0 x, s0 + 1), rfl, ⟨by show s0 + 1 = _; rw [if_neg (by omega)], fun j hj => by show upd f s0 x j = hsA f s0 x j; unfold upd hsA; rw [if_neg (show ¬ s0 = 20 by omega)]⟩, by rw [ht9]; exact hP, va_K.moved hW.alike hK, hD⟩, hS.F ht9⟩) hS.2.2 dX3_add_70
  refine lv_iconst (v := nI 1) hx hb dX3_add_9 (by decide) ?_
  refine lv_istore_n (lv' := [(2, .int (nI 1)), (0, .ref h), (1, .int x)]) hx hb dX3_add_10 rfl hl (by decide) rfl (fun ls hl => ?_)
  have L11 : ∀ (fuel : Nat) (i : Nat) (f' : Nat → Int32) (H : Heap) (locs : List Loc) (ls : Array Slot), 20 - i < fuel → (i ≤ 20) → (1 ≤ i) → (∀ j, j + 1 < i → f' j = f (j + 1)) → (∀ j, i ≤ j + 1 → f' j = f j) → va_P D vwCl (WH K h hm f' (nI s0)) H → va_D A (WH K h hm f' (nI s0)) → va_S A s.heap H locs → lv_has ls 3 [(2, .int (nI i)), (0, .ref h), (1, .int x)] → W p l e ({ frames := 0, cells := 0, slots := 0, locals := 0 } : Room) s m [.ref h, .int x].toArray below meth c H locs 0 0 (MQ below (va_Qv (fun (u : (Nat → Int32) × Nat) => u.2 = (if s0 = 20 then 20 else s0 + 1) ∧ ∀ j, j < u.2 → u.1 j = hsA f s0 x j) (fun (u : (Nat → Int32) × Nat) t => cB D K A (WH K h hm u.1 (nI u.2)) t) A) [.ref h, .int x].toArray s 0 0 A) (F0 m 11 ls []) := by
    intro fuel
    induction fuel with
    | zero =>
      intro i f' H locs ls hfu
      exact absurd hfu (Nat.not_lt_zero _)
    | succ fuel ih11 =>
      intro i f' H locs ls hfu hi hi1 hlo hhi hP hD hS hl
      refine lv_iload_n hx hb dX3_add_11 rfl (lv_at hl 0 rfl) ?_
      refine lv_bipush (v := nI 20) hx hb dX3_add_12 (by decide) ?_
      refine b_icmp_ge hx hb (nI_toIntI (by omega)) (nI_toIntI (by omega)) dX3_add_14 (tgt := 37) (by decide) (fun c14 => ?_) (fun c14 => ?_)
      · refine lv_aload_n hx hb dX3_add_37 rfl (lv_at hl 1 rfl) ?_
        refine lv_bipush (v := nI 19) hx hb dX3_add_38 (by decide) ?_
        refine va_put (D := D) (ci := 3) (v := .int (nI 19)) (ty := .int) (C := RX3) (T := TX3) (N := 2) hx hb hts iX3 tyX3 tyX3_ok nmX3 hown hK hP hD hS 0 rfl rfl 1 (by decide) (hts _ k_f_X3_15) (fun _ h9 => h9) rfl (by decide +kernel) rfl rfl (Nat.le_of_ble_eq_true rfl) dX3_add_40 (fun H locs hP hD hS => ?_)
        have hP : va_P D vwCl (WH K h hm f' (nI 19)) H := hP
        have hD : va_D A (WH K h hm f' (nI 19)) := hD
        refine lv_aload_n hx hb dX3_add_43 rfl (lv_at hl 1 rfl) ?_
        refine va_get (D := D) (ci := 3) (C := RX3) (T := TX3) (N := 2) hx hb hts iX3 hown hK hP 0 rfl rfl 1 (by decide) (hts _ k_f_X3_15) (fun _ h9 => h9) rfl dX3_add_44 ?_
        refine t_i (show _ = nI 19 from rfl) ?_
        refine b_if_lt hx hb (nI_toIntI (by omega)) dX3_add_47 (tgt := 70) (by decide) (fun c47 => absurd c47 (by omega)) (fun c47 => ?_)
        refine lv_aload_n hx hb dX3_add_50 rfl (lv_at hl 1 rfl) ?_
        refine va_get (D := D) (ci := 3) (C := RX3) (T := TX3) (N := 2) hx hb hts iX3 hown hK hP 0 rfl rfl 0 (by decide) (hts _ k_f_X3_9) (fun _ h9 => h9) rfl dX3_add_51 ?_
        refine lv_aload_n hx hb dX3_add_54 rfl (lv_at hl 1 rfl) ?_
        refine va_get (D := D) (ci := 3) (C := RX3) (T := TX3) (N := 2) hx hb hts iX3 hown hK hP 0 rfl rfl 1 (by decide) (hts _ k_f_X3_15) (fun _ h9 => h9) rfl dX3_add_55 ?_
        refine t_i (show _ = nI 19 from rfl) ?_
        refine lv_iload_n hx hb dX3_add_58 rfl (lv_at hl 2 rfl) ?_
        refine n_iast hx hb hK hP hD hS 1 0 rfl rfl (i := 19) (n := 20) (by omega) (by decide) dX3_add_59 (fun H locs hP hD hS => ?_)
        have hP : va_P D vwCl (WH K h hm (upd f' 19 x) (nI 19)) H := hP
        have hD : va_D A (WH K h hm (upd f' 19 x) (nI 19)) := hD
        refine lv_aload_n hx hb dX3_add_60 rfl (lv_at hl 1 rfl) ?_
        refine lv_dup hx hb dX3_add_61 rfl ?_
        refine va_get (D := D) (ci := 3) (C := RX3) (T := TX3) (N := 2) hx hb hts iX3 hown hK hP 0 rfl rfl 1 (by decide) (hts _ k_f_X3_15) (fun _ h9 => h9) rfl dX3_add_62 ?_
        refine t_i (show _ = nI 19 from rfl) ?_
        refine lv_iconst (v := nI 1) hx hb dX3_add_65 (by decide) ?_
        refine lv_iadd hx hb dX3_add_66 ?_
        refine t_i (nI_add _ _) ?_
        refine va_put (D := D) (ci := 3) (v := .int (nI (19 + 1))) (ty := .int) (C := RX3) (T := TX3) (N := 2) hx hb hts iX3 tyX3 tyX3_ok nmX3 hown hK hP hD hS 0 rfl rfl 1 (by decide) (hts _ k_f_X3_15) (fun _ h9 => h9) rfl (by decide +kernel) rfl rfl (Nat.le_of_ble_eq_true rfl) dX3_add_67 (fun H locs hP hD hS => ?_)
        have hP : va_P D vwCl (WH K h hm (upd f' 19 x) (nI (19 + 1))) H := hP
        have hD : va_D A (WH K h hm (upd f' 19 x) (nI (19 + 1))) := hD
        have hfin : ∀ j, j < 20 → upd f' 19 x j = hsA f s0 x j := fun j hj => by
          unfold upd hsA; rw [if_pos (show s0 = 20 by omega)]
          by_cases q : j = 19
          · rw [if_pos q, if_neg (by omega)]
          · rw [if_neg q, if_pos (by omega)]; exact hlo j (by omega)
        exact W.vret hx hb hr (fun t9 ht9 hW => ⟨⟨(upd f' 19 x, 20), rfl, ⟨by show 20 = _; rw [if_pos (by omega)], fun j hj => hfin j hj⟩, by rw [ht9]; exact hP, va_K.moved hW.alike hK, hD⟩, hS.F ht9⟩) hS.2.2 dX3_add_70
      refine lv_aload_n hx hb dX3_add_17 rfl (lv_at hl 1 rfl) ?_
      refine va_get (D := D) (ci := 3) (C := RX3) (T := TX3) (N := 2) hx hb hts iX3 hown hK hP 0 rfl rfl 0 (by decide) (hts _ k_f_X3_9) (fun _ h9 => h9) rfl dX3_add_18 ?_
      refine lv_iload_n hx hb dX3_add_21 rfl (lv_at hl 0 rfl) ?_
      refine lv_iconst (v := nI 1) hx hb dX3_add_22 (by decide) ?_
      refine lv_isub hx hb dX3_add_23 ?_
      refine t_i (pk_sub (by omega)) ?_
      refine lv_aload_n hx hb dX3_add_24 rfl (lv_at hl 1 rfl) ?_
      refine va_get (D := D) (ci := 3) (C := RX3) (T := TX3) (N := 2) hx hb hts iX3 hown hK hP 0 rfl rfl 0 (by decide) (hts _ k_f_X3_9) (fun _ h9 => h9) rfl dX3_add_25 ?_
      refine lv_iload_n hx hb dX3_add_28 rfl (lv_at hl 0 rfl) ?_
      refine n_iald hx hb hK hP 1 0 rfl rfl (i := i) (n := 20) (by omega) (by decide) dX3_add_29 ?_
      refine n_iast hx hb hK hP hD hS 1 0 rfl rfl (i := i - 1) (n := 20) (by omega) (by decide) dX3_add_30 (fun H locs hP hD hS => ?_)
      have hP : va_P D vwCl (WH K h hm (upd f' (i - 1) (f' i)) (nI s0)) H := hP
      have hD : va_D A (WH K h hm (upd f' (i - 1) (f' i)) (nI s0)) := hD
      refine lv_iinc (v := nI (i + 1)) (lv' := [(2, .int (nI (i + 1))), (0, .ref h), (1, .int x)]) hx hb dX3_add_31 hl (k := 0) rfl (nI_add i 1) (by decide) rfl (fun ls hl => ?_)
      refine lv_goto (tgt := 11) hx hb dX3_add_34 (by decide) ?_
      have hlo2 : ∀ j, j + 1 < i + 1 → (upd f' (i - 1) (f' i)) j = f (j + 1) := fun j hj => by
        by_cases q : j = i - 1
        · subst q; refine (if_pos rfl).trans ((hhi i (by omega)).trans (congrArg f (by omega)))
        · exact (if_neg q).trans (hlo j (by omega))
      have hhi2 : ∀ j, i + 1 ≤ j + 1 → (upd f' (i - 1) (f' i)) j = f j := fun j hj => (if_neg (by omega)).trans (hhi j (by omega))
      exact ih11 (i + 1) (upd f' (i - 1) (f' i)) _ _ _ (by omega) (by omega) (by omega) hlo2 hhi2 hP hD hS (lv_sub hl [0, 1, 2] rfl)
  exact L11 _ 1 f _ _ _ (Nat.lt_succ_self _) (by decide) (by decide) (fun j h => absurd h (by omega)) (fun j _ => rfl) hP hD hS (lv_sub hl [0, 1, 2] rfl)
