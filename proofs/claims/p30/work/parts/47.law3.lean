/-! the law: shifts -/
noncomputable abbrev DD (d : Nat → Nat → Int32) (a b : Nat) : Int := dD (gF d) (gN d) b (gN d - 1) a
theorem ger_at {d : Nat → Nat → Int32} {k : Nat} (h : k < gN d) : ger d (nI k) := ⟨k, h, rfl⟩
theorem g31 {d : Nat → Nat → Int32} {k : Nat} (h : k < gN d) : k < 2147483648 := by have := gN_le d; omega
theorem rs_gear_at {d : Nat → Nat → Int32} {k : Nat} (h : k < gN d) : rs_gear d (nI k) = (0, ((gF d k : Nat) : Int)) := by
  unfold rs_gear
  rw [cI_f (fun z => z (ger_at h)), nI_tt (g31 h)]
theorem rs_fewest_at {d : Nat → Nat → Int32} {a b : Nat} (ha : a < gN d) (hb : b < gN d) : rs_fewest d (nI a) (nI b) = (0, DD d a b) := by
  unfold rs_fewest
  rw [cI_f (fun z => z ⟨ger_at ha, ger_at hb⟩), nI_tt (g31 ha), nI_tt (g31 hb)]
theorem rs_shift_no {d : Nat → Nat → Int32} {a b : Nat} {x : Int32} (ha : a < gN d) (hb : b < gN d) (hx : x.toInt < 0 ∨ DD d a b < x.toInt) : rs_shift d (nI a) (nI b) x = (0, -1) := by
  unfold rs_shift
  rw [cI_f (fun z => z ⟨ger_at ha, ger_at hb⟩), nI_tt (g31 ha), nI_tt (g31 hb), cI_t hx]
theorem rs_shift_at {d : Nat → Nat → Int32} {a b k n : Nat} (ha : a < gN d) (hb : b < gN d) (hn : DD d a b = (n : Int)) (hk : k ≤ n) : rs_shift d (nI a) (nI b) (nI k) = (0, ((wkF (gF d) (gN d) (dD (gF d) (gN d) b (gN d - 1)) a k : Nat) : Int)) := by
  have h1 := (dD_range (gF d) (gN d) b (gN d - 1) a).2
  have h2 := gN_le d
  have hn' : dD (gF d) (gN d) b (gN d - 1) a = (n : Int) := hn
  have hkI : (nI k).toInt = (k : Int) := nI_toIntI (by omega)
  unfold rs_shift
  rw [cI_f (fun z => z ⟨ger_at ha, ger_at hb⟩), nI_tt (g31 ha), nI_tt (g31 hb), cI_f (by omega), nI_tt (by omega)]
theorem DD_le {d : Nat → Nat → Int32} {a b n : Nat} (ha : a < gN d) (hn : DD d a b = (n : Int)) : n ≤ 63 := by
  have h1 := (dD_range (gF d) (gN d) b (gN d - 1) a).2
  have h2 := gN_le d
  have hn' : dD (gF d) (gN d) b (gN d - 1) a = (n : Int) := hn
  omega
theorem DD_cases {d : Nat → Nat → Int32} (a b : Nat) : DD d a b = -1 ∨ ∃ n : Nat, DD d a b = (n : Int) := by
  have h1 := (dD_range (gF d) (gN d) b (gN d - 1) a).1
  have h1 : -1 ≤ DD d a b := h1
  by_cases q : DD d a b = -1
  · exact Or.inl q
  · exact Or.inr ⟨(DD d a b).toNat, by omega⟩
theorem shift_facts {d : Nat → Nat → Int32} {a b n k : Nat} (ha : a < gN d) (hb : b < gN d) (hn : DD d a b = (n : Int)) (hk : k ≤ n) : ∃ g, g < gN d ∧ rs_shift d (nI a) (nI b) (nI k) = (0, (g : Int)) ∧ rs_fewest d (nI g) (nI b) = (0, ((n - k : Nat) : Int)) ∧ (k = 0 → g = a) ∧ (k = n → g = b) ∧ (1 ≤ k → ∃ g1, g1 < gN d ∧ rs_shift d (nI a) (nI b) (nI (k - 1)) = (0, (g1 : Int)) ∧ nbr (gF d g1) (gF d g)) := by
  obtain ⟨h1, h2, h3⟩ := wkF_on (G := gF d) (n := gN d) (last := b) (S := gN d - 1) ha hn k hk
  refine ⟨wkF (gF d) (gN d) (dD (gF d) (gN d) b (gN d - 1)) a k, h1, rs_shift_at ha hb hn hk, ?_, fun z => by subst z; rfl, fun z => ?_, fun z => ?_⟩
  · rw [rs_fewest_at h1 hb]
    show (0, dD (gF d) (gN d) b (gN d - 1) _) = _
    rw [h2]
    congr 1
    omega
  · have : dD (gF d) (gN d) b (gN d - 1) (wkF (gF d) (gN d) (dD (gF d) (gN d) b (gN d - 1)) a k) = 0 := by rw [h2, z]; omega
    exact (dD_zero _ h1).mp this
  · obtain ⟨g1, -, -⟩ := wkF_on (G := gF d) (n := gN d) (last := b) (S := gN d - 1) ha hn (k - 1) (by omega)
    exact ⟨_, g1, rs_shift_at ha hb hn (by omega), h3 z⟩
theorem DD_symm {d : Nat → Nat → Int32} {a b : Nat} (ha : a < gN d) (hb : b < gN d) : DD d b a = DD d a b := (dD_symm _ ha hb).symm
theorem DD_zero {d : Nat → Nat → Int32} {a b : Nat} (ha : a < gN d) : DD d a b = 0 ↔ a = b := dD_zero _ ha
theorem DD_near {d : Nat → Nat → Int32} {a b : Nat} (ha : a < gN d) (hb : b < gN d) (hne : ¬ a = b) (h : nbr (gF d a) (gF d b)) : 0 ≤ DD d a b := dD_near (by omega) ha hb h
set_option maxHeartbeats 4000000 in
set_option maxRecDepth 100000 in
theorem c_L_shifts (l : Launch) (hlf : l.stackTraces = false) (D : va_G) (K : Nat → ClassId) (ad q q1 q2 g r r2 : Nat → Nat) (v : CV) (i : CI)  (sz : Nat) (hI : IV v) (hJ : II v.1 i)  : Met l yL_shifts (.code yL_shifts cL_shifts 8 (some .boolean) :: TB) ({ frames := 8, cells := 150529, slots := 903174, locals := 173 } : Room) (va_Pc [.ref (ad 0)] (cPM D K (WX K ad q q1 q2 g r r2 v i) sz)) (va_Qi (fun (z : Int32) (u : CV × CI) => z = nI 1 ∧ u.1 = v ∧ II u.1.1 u.2) (fun (u : CV × CI) t => cB D K (va_A (WX K ad q q1 q2 g r r2 v i) sz) (WX K ad q q1 q2 g r r2 u.1 u.2) t) (va_A (WX K ad q q1 q2 g r r2 v i) sz)) 150529 903174 (va_A (WX K ad q q1 q2 g r r2 v i) sz) := by
  refine Met.ofW (cc := cL_shifts) (maxL := 8) (ret := (some .boolean)) (by decide) rfl ?_
  intro p e s m args below meth c s₁ B hml hv
  obtain ⟨rfl, ⟨hsz, hP, hK, hD0⟩, hTX, hCL⟩ := hv
  have hx := B.exec
  have hb := B.bytes
  have hr := B.returns
  have hts := hts_tl (atoms_spec (ws := (.code yL_shifts cL_shifts 8 (some .boolean) :: TB)) B.pre)
  have hown : s.vm.findClass RL = some m.cls := findClass_of_methodNamed B.named
  have hlocks := B.notSynchronized
  subst hsz
  have hD := hD0.self (sz := s.heap.size)
  generalize hAe : (va_A (WX K ad q q1 q2 g r r2 v i) s.heap.size) = A at hD hTX ⊢
  have hA : ∀ q : Nat, s.heap.size ≤ q → A q := fun q h => by rw [← hAe]; exact Or.inr h
  have hS : va_S A s.heap s.heap [] := va_S.rf
  clear hAe hD0
  have hP : va_P D vwCl (WX K ad q q1 q2 g r r2 v i) s.heap := hP
  have hD : va_D A (WX K ad q q1 q2 g r r2 v i) := hD
  have hl := lv_entry ([.ref (ad 0)]) (n := 8) (Nat.le_of_ble_eq_true rfl)
  rw [lg_entry_eq]
  generalize (lg_sl ([.ref (ad 0)]) ++ List.replicate (8 - (lg_sl ([.ref (ad 0)])).length) Slot.unset).toArray = ls at hl ⊢
  have hl : lv_has ls 8 [(0, .ref (ad 0))] := hl
  have hg64 := gN_le v.1
  refine lv_aload_n hx hb dL_shifts_0 rfl (lv_at hl 0 rfl) ?_
  refine lv_iconst (v := nI 2) hx hb dL_shifts_1 (by decide) ?_
  have hrs : rs_count v.1 (nI 2) = (0, ((gN v.1 : Nat) : Int)) := (rs_count2 v.1)
  have hFc := freeAll hD hS hA
  refine vx_calli (vx_runV (As := [.int (nI 2)]) (rest := []) ⟨hx, hb, hml, hown, hts⟩ (c_X6_count l hlf D K ad q q1 q2 g r r2 v i (nI 2) s.heap.size hI hJ) (cwV 1 hts (TB_V k_m_L_55 k_im_X6_count k_se_X6_count k_in_X6 k_co_X6_count (fun _ h => h)) rfl rfl rfl (by decide +kernel) ⟨Nat.le_of_ble_eq_true rfl, Nat.le_of_ble_eq_true rfl⟩) ⟨cPT_blind, va_recv hK hP (ci := 6) (q0 := 0) rfl rfl, cPT_of hP hK hD hTX hS hFc⟩ rfl rfl hl.1 rfl (lv_room (Nat.le_of_ble_eq_true rfl)) dL_shifts_2 ⟨(Nat.le_of_ble_eq_true rfl), (Nat.le_of_ble_eq_true rfl)⟩) hS (fun q _ h => hFc q h) hFc (fun q _ h => hFc q h) (fun E ce q9 u9 t9 H locs ht9 hal hpx hB hz1 hk1 hS hce hcv hcl => ?_) (fun rz u9 t9 H locs ht9 hal hw hB hz1 hk1 hS => ?_)
  · exact absurd hB.1.1 (by rw [hrs]; exact Nat.lt_irrefl 0)
  obtain ⟨v9, i9⟩ := u9
  obtain ⟨hP1, hK1, hD1⟩ := hB
  rw [ht9] at hP1
  have hP2 := hP1
  have hD2 := hD1.weaken (fun _ _ _ h => hFc _ h)
  obtain ⟨hv9, hJ9, hr9⟩ := hw
  have hv9 : v9 = v := hv9
  dsimp only at hJ9 hr9
  rw [hv9] at hP2 hD2 hJ9
  dsimp only at hP2 hD2
  have hJ : II v.1 i9 := hJ9
  have hP : va_P D vwCl (WX K ad q q1 q2 g r r2 v i9) H := hP2
  have hD : va_D A (WX K ad q q1 q2 g r r2 v i9) := hD2
  have hz : rz.toInt = ((gN v.1 : Nat) : Int) := (Prod.mk.inj (hr9.symm.trans hrs)).2
  refine t_i ((i32_eq rz (nI (gN v.1))).mpr (by rw [nI_toIntI (by omega)]; exact hz)) ?_
  refine lv_istore_n (lv' := [(1, .int (nI (gN v.1))), (0, .ref (ad 0))]) hx hb dL_shifts_5 rfl hl (by decide) rfl (fun ls hl => ?_)
  refine lv_iconst (v := nI 0) hx hb dL_shifts_6 (by decide) ?_
  refine lv_istore_n (lv' := [(2, .int (nI 0)), (1, .int (nI (gN v.1))), (0, .ref (ad 0))]) hx hb dL_shifts_7 rfl hl (by decide) rfl (fun ls hl => ?_)
  refine W.widen (k := 1 + 0 * 2352) (n := 6 + 0 * 14112) (by omega) (by omega) ?_
  have L8 : ∀ (fuel : Nat) (i : CI) (a : Nat) (H : Heap) (locs : List Loc) (ls : Array Slot), gN v.1 - a < fuel → (II v.1 i) → (a ≤ gN v.1) → va_P D vwCl (WX K ad q q1 q2 g r r2 v i) H → va_D A (WX K ad q q1 q2 g r r2 v i) → va_S A s.heap H locs → lv_has ls 8 [(0, .ref (ad 0)), (1, .int (nI (gN v.1))), (2, .int (nI a))] → W p l e ({ frames := 8, cells := 150529, slots := 903174, locals := 173 } : Room) s m [.ref (ad 0)].toArray below meth c H locs (1 + a * 2352) (6 + a * 14112) (MQ below (va_Qi (fun (z : Int32) (u : CV × CI) => z = nI 1 ∧ u.1 = v ∧ II u.1.1 u.2) (fun (u : CV × CI) t => cB D K A (WX K ad q q1 q2 g r r2 u.1 u.2) t) A) [.ref (ad 0)].toArray s 150529 903174 A) (F0 m 8 ls []) := by
    intro fuel
    induction fuel with
    | zero =>
      intro i a H locs ls hfu
      exact absurd hfu (Nat.not_lt_zero _)
    | succ fuel ih8 =>
      intro i a H locs ls hfu hJ ha hP hD hS hl
      refine lv_iload_n hx hb dL_shifts_8 rfl (lv_at hl 2 rfl) ?_
      refine lv_iload_n hx hb dL_shifts_9 rfl (lv_at hl 1 rfl) ?_
      refine b_icmp_ge hx hb (nI_toIntI (by omega)) (nI_toIntI (by omega)) dL_shifts_10 (tgt := 293) (by decide) (fun c10 => ?_) (fun c10 => ?_)
      · refine lv_iconst (v := nI 1) hx hb dL_shifts_293 (by decide) ?_
        refine W.widen (k := 150529) (n := 903174) (by omega) (by omega) ?_
        exact W.zret (v := nI 1) hx hb hr (by decide) (fun t9 ht9 hW => ⟨⟨nI 1, (v, i), rfl, ⟨rfl, rfl, hJ⟩, by rw [ht9]; exact hP, va_K.moved hW.alike hK, hD⟩, hS.F ht9⟩) hS.2.2 dL_shifts_294
      refine lv_iconst (v := nI 0) hx hb dL_shifts_13 (by decide) ?_
      refine lv_istore_n (lv' := [(3, .int (nI 0)), (0, .ref (ad 0)), (1, .int (nI (gN v.1))), (2, .int (nI a))]) hx hb dL_shifts_14 rfl hl (by decide) rfl (fun ls hl => ?_)
      refine W.widen (k := 1 + a * 2352 + 0 * 392) (n := 6 + a * 14112 + 0 * 2352) (by omega) (by omega) ?_
      have ha1 : a < gN v.1 := by omega
      have L15 : ∀ (fuel : Nat) (i : CI) (b : Nat) (H : Heap) (locs : List Loc) (ls : Array Slot), 6 - b < fuel → (II v.1 i) → (b ≤ 6) → va_P D vwCl (WX K ad q q1 q2 g r r2 v i) H → va_D A (WX K ad q q1 q2 g r r2 v i) → va_S A s.heap H locs → lv_has ls 8 [(0, .ref (ad 0)), (1, .int (nI (gN v.1))), (2, .int (nI a)), (3, .int (nI b))] → W p l e ({ frames := 8, cells := 150529, slots := 903174, locals := 173 } : Room) s m [.ref (ad 0)].toArray below meth c H locs (1 + a * 2352 + b * 392) (6 + a * 14112 + b * 2352) (MQ below (va_Qi (fun (z : Int32) (u : CV × CI) => z = nI 1 ∧ u.1 = v ∧ II u.1.1 u.2) (fun (u : CV × CI) t => cB D K A (WX K ad q q1 q2 g r r2 u.1 u.2) t) A) [.ref (ad 0)].toArray s 150529 903174 A) (F0 m 15 ls []) := by
        intro fuel
        induction fuel with
        | zero =>
          intro i b H locs ls hfu
          exact absurd hfu (Nat.not_lt_zero _)
        | succ fuel ih15 =>
          intro i b H locs ls hfu hJ hb6 hP hD hS hl
          refine lv_iload_n hx hb dL_shifts_15 rfl (lv_at hl 3 rfl) ?_
          refine lv_iload_n hx hb dL_shifts_16 rfl (lv_at hl 1 rfl) ?_
          refine b_icmp_ge hx hb (nI_toIntI (by omega)) (nI_toIntI (by omega)) dL_shifts_17 (tgt := 287) (by decide) (fun c17 => ?_) (fun c17 => ?_)
          · refine lv_iinc (v := nI (a + 1)) (lv' := [(2, .int (nI (a + 1))), (0, .ref (ad 0)), (1, .int (nI (gN v.1))), (3, .int (nI b))]) hx hb dL_shifts_287 hl (k := 2) rfl (nI_add a 1) (by decide) rfl (fun ls hl => ?_)
            refine lv_goto (tgt := 8) hx hb dL_shifts_290 (by decide) ?_
            refine W.widen (k := 1 + (a + 1) * 2352) (n := 6 + (a + 1) * 14112) (by omega) (by omega) ?_
            exact ih8 i (a + 1) _ _ _ (by omega) hJ (by omega) hP hD hS (lv_sub hl [1, 2, 0] rfl)
          refine lv_iload_n hx hb dL_shifts_20 rfl (lv_at hl 3 rfl) ?_
          refine lv_bipush (v := nI 6) hx hb dL_shifts_21 (by decide) ?_
          refine b_icmp_ge hx hb (nI_toIntI (by omega)) (nI_toIntI (by omega)) dL_shifts_23 (tgt := 287) (by decide) (fun c23 => ?_) (fun c23 => ?_)
          · refine lv_iinc (v := nI (a + 1)) (lv' := [(2, .int (nI (a + 1))), (0, .ref (ad 0)), (1, .int (nI (gN v.1))), (3, .int (nI b))]) hx hb dL_shifts_287 hl (k := 2) rfl (nI_add a 1) (by decide) rfl (fun ls hl => ?_)
            refine lv_goto (tgt := 8) hx hb dL_shifts_290 (by decide) ?_
            refine W.widen (k := 1 + (a + 1) * 2352) (n := 6 + (a + 1) * 14112) (by omega) (by omega) ?_
            exact ih8 i (a + 1) _ _ _ (by omega) hJ (by omega) hP hD hS (lv_sub hl [1, 2, 0] rfl)
          refine lv_aload_n hx hb dL_shifts_26 rfl (lv_at hl 0 rfl) ?_
          refine lv_iload_n hx hb dL_shifts_27 rfl (lv_at hl 2 rfl) ?_
          refine lv_iload_n hx hb dL_shifts_28 rfl (lv_at hl 3 rfl) ?_
          have hb1 : b < gN v.1 := by omega
          have hsy := DD_symm (d := v.1) ha1 hb1
          have hz0 := DD_zero (d := v.1) (b := b) ha1
          have hrs : rs_fewest v.1 (nI a) (nI b) = (0, DD v.1 a b) := (rs_fewest_at ha1 hb1)
          have hFc := freeAll hD hS hA
          refine vx_calli (vx_runV (As := [.int (nI a), .int (nI b)]) (rest := []) ⟨hx, hb, hml, hown, hts⟩ (c_X6_fewestShifts l hlf D K ad q q1 q2 g r r2 v i (nI a) (nI b) H.size hI hJ) (cwV 2 hts (TB_V k_m_L_124 k_im_X6_fewestShifts k_se_X6_fewestShifts k_in_X6 k_co_X6_fewestShifts (fun _ h => h)) rfl rfl rfl (by decide +kernel) ⟨Nat.le_of_ble_eq_true rfl, Nat.le_of_ble_eq_true rfl⟩) ⟨cPT_blind, va_recv hK hP (ci := 6) (q0 := 0) rfl rfl, cPT_of hP hK hD hTX hS hFc⟩ rfl rfl hl.1 rfl (lv_room (Nat.le_of_ble_eq_true rfl)) dL_shifts_29 ⟨(show (1 + a * 2352 + b * 392) + 1 ≤ 150529 by omega), (show (6 + a * 14112 + b * 2352) + 6 ≤ 903174 by omega)⟩) hS (fun q _ h => hFc q h) hFc (fun q _ h => hFc q h) (fun E ce q9 u9 t9 H locs ht9 hal hpx hB hz1 hk1 hS hce hcv hcl => ?_) (fun rz u9 t9 H locs ht9 hal hw hB hz1 hk1 hS => ?_)
          · exact absurd hB.1.1 (by rw [hrs]; exact Nat.lt_irrefl 0)
          obtain ⟨v9, i9⟩ := u9
          obtain ⟨hP1, hK1, hD1⟩ := hB
          rw [ht9] at hP1
          have hP2 := hP1
          have hD2 := hD1.weaken (fun _ _ _ h => hFc _ h)
          obtain ⟨hv9, hJ9, hr9⟩ := hw
          have hv9 : v9 = v := hv9
          dsimp only at hJ9 hr9
          rw [hv9] at hP2 hD2 hJ9
          dsimp only at hP2 hD2
          have hJ : II v.1 i9 := hJ9
          have hP : va_P D vwCl (WX K ad q q1 q2 g r r2 v i9) H := hP2
          have hD : va_D A (WX K ad q q1 q2 g r r2 v i9) := hD2
          have hz : rz.toInt = DD v.1 a b := (Prod.mk.inj (hr9.symm.trans hrs)).2
          rcases DD_cases (d := v.1) a b with hn | ⟨n, hn⟩
          · refine t_i ((i32_eq rz (-1)).mpr (by rw [hz, hn]; decide)) ?_
            refine lv_istore (lv' := [(4, .int (-1)), (0, .ref (ad 0)), (1, .int (nI (gN v.1))), (2, .int (nI a)), (3, .int (nI b))]) hx hb dL_shifts_32 hl (by decide) rfl (fun ls hl => ?_)
            refine lv_iload hx hb dL_shifts_34 (lv_at hl 0 rfl) ?_
            refine lv_aload_n hx hb dL_shifts_36 rfl (lv_at hl 1 rfl) ?_
            refine lv_iload_n hx hb dL_shifts_37 rfl (lv_at hl 4 rfl) ?_
            refine lv_iload_n hx hb dL_shifts_38 rfl (lv_at hl 3 rfl) ?_
            have hrs : rs_fewest v.1 (nI b) (nI a) = (0, (-1)) := ((rs_fewest_at hb1 ha1).trans (by rw [hsy, hn]))
            have hFc := freeAll hD hS hA
            refine vx_calli (vx_runV (As := [.int (nI b), .int (nI a)]) (rest := [.int (-1)]) ⟨hx, hb, hml, hown, hts⟩ (c_X6_fewestShifts l hlf D K ad q q1 q2 g r r2 v i9 (nI b) (nI a) H.size hI hJ) (cwV 2 hts (TB_V k_m_L_124 k_im_X6_fewestShifts k_se_X6_fewestShifts k_in_X6 k_co_X6_fewestShifts (fun _ h => h)) rfl rfl rfl (by decide +kernel) ⟨Nat.le_of_ble_eq_true rfl, Nat.le_of_ble_eq_true rfl⟩) ⟨cPT_blind, va_recv hK hP (ci := 6) (q0 := 0) rfl rfl, cPT_of hP hK hD hTX hS hFc⟩ rfl rfl hl.1 rfl (lv_room (Nat.le_of_ble_eq_true rfl)) dL_shifts_39 ⟨(show ((1 + a * 2352 + b * 392) + 1) + 1 ≤ 150529 by omega), (show ((6 + a * 14112 + b * 2352) + 6) + 6 ≤ 903174 by omega)⟩) hS (fun q _ h => hFc q h) hFc (fun q _ h => hFc q h) (fun E ce q9 u9 t9 H locs ht9 hal hpx hB hz1 hk1 hS hce hcv hcl => ?_) (fun rz u9 t9 H locs ht9 hal hw hB hz1 hk1 hS => ?_)
            · exact absurd hB.1.1 (by rw [hrs]; exact Nat.lt_irrefl 0)
            obtain ⟨v9, i9⟩ := u9
            obtain ⟨hP1, hK1, hD1⟩ := hB
            rw [ht9] at hP1
            have hP2 := hP1
            have hD2 := hD1.weaken (fun _ _ _ h => hFc _ h)
            obtain ⟨hv9, hJ9, hr9⟩ := hw
            have hv9 : v9 = v := hv9
            dsimp only at hJ9 hr9
            rw [hv9] at hP2 hD2 hJ9
            dsimp only at hP2 hD2
            have hJ : II v.1 i9 := hJ9
            have hP : va_P D vwCl (WX K ad q q1 q2 g r r2 v i9) H := hP2
            have hD : va_D A (WX K ad q q1 q2 g r r2 v i9) := hD2
            have hz : rz.toInt = (-1) := (Prod.mk.inj (hr9.symm.trans hrs)).2
            refine t_i ((i32_eq rz (-1)).mpr (by rw [hz]; decide)) ?_
            refine b_icmp_ne hx hb (show (-1 : Int32).toInt = -1 by decide) (show (-1 : Int32).toInt = -1 by decide) dL_shifts_42 (tgt := 93) (by decide) (fun c42 => absurd c42 (by omega)) (fun c42 => ?_)
            suffices h68 : W p l e ({ frames := 8, cells := 150529, slots := 903174, locals := 173 } : Room) s m [.ref (ad 0)].toArray below meth c H locs (((1 + a * 2352 + b * 392) + 1) + 1) (((6 + a * 14112 + b * 2352) + 6) + 6) (MQ below (va_Qi (fun (z : Int32) (u : CV × CI) => z = nI 1 ∧ u.1 = v ∧ II u.1.1 u.2) (fun (u : CV × CI) t => cB D K A (WX K ad q q1 q2 g r r2 u.1 u.2) t) A) [.ref (ad 0)].toArray s 150529 903174 A) (F0 m 68 ls []) by
              refine lv_iload hx hb dL_shifts_45 (lv_at hl 0 rfl) ?_
              refine b_if_ne hx hb (show (-1 : Int32).toInt = -1 by decide) dL_shifts_47 (tgt := 54) (by decide) (fun c47 => ?_) (fun c47 => absurd c47 (by decide))
              refine lv_iconst (v := nI 0) hx hb dL_shifts_54 (by decide) ?_
              refine lv_iload_n hx hb dL_shifts_55 rfl (lv_at hl 3 rfl) ?_
              refine lv_iload_n hx hb dL_shifts_56 rfl (lv_at hl 4 rfl) ?_
              refine b_icmp_ne hx hb (nI_toIntI (by omega)) (nI_toIntI (by omega)) dL_shifts_57 (tgt := 64) (by decide) (fun c57 => ?_) (fun c57 => absurd c57 (by omega))
              refine lv_iconst (v := nI 0) hx hb dL_shifts_64 (by decide) ?_
              refine b_icmp_ne hx hb (nI_toIntI (by omega)) (nI_toIntI (by omega)) dL_shifts_65 (tgt := 93) (by decide) (fun c65 => absurd c65 (by omega)) (fun c65 => ?_)
              exact h68
            refine lv_aload_n hx hb dL_shifts_68 rfl (lv_at hl 1 rfl) ?_
            refine lv_iload_n hx hb dL_shifts_69 rfl (lv_at hl 3 rfl) ?_
            refine lv_iload_n hx hb dL_shifts_70 rfl (lv_at hl 4 rfl) ?_
            refine lv_iload hx hb dL_shifts_71 (lv_at hl 0 rfl) ?_
            refine lv_iconst (v := nI 1) hx hb dL_shifts_73 (by decide) ?_
            refine lv_iadd hx hb dL_shifts_74 ?_
            refine t_i (show (-1) + nI 1 = nI 0 by decide) ?_
            have hrs : rs_shift v.1 (nI a) (nI b) (nI 0) = (0, -1) := (rs_shift_no ha1 hb1 (Or.inr (by rw [hn, nI_toIntI (by omega)]; omega)))
            have hFc := freeAll hD hS hA
            refine vx_calli (vx_runV (As := [.int (nI a), .int (nI b), .int (nI 0)]) (rest := []) ⟨hx, hb, hml, hown, hts⟩ (c_X6_shift l hlf D K ad q q1 q2 g r r2 v i9 (nI a) (nI b) (nI 0) H.size hI hJ) (cwV 3 hts (TB_V k_m_L_127 k_im_X6_shift k_se_X6_shift k_in_X6 k_co_X6_shift (fun _ h => h)) rfl rfl rfl (by decide +kernel) ⟨Nat.le_of_ble_eq_true rfl, Nat.le_of_ble_eq_true rfl⟩) ⟨cPT_blind, va_recv hK hP (ci := 6) (q0 := 0) rfl rfl, cPT_of hP hK hD hTX hS hFc⟩ rfl rfl hl.1 rfl (lv_room (Nat.le_of_ble_eq_true rfl)) dL_shifts_75 ⟨(show (((1 + a * 2352 + b * 392) + 1) + 1) + 1 ≤ 150529 by omega), (show (((6 + a * 14112 + b * 2352) + 6) + 6) + 6 ≤ 903174 by omega)⟩) hS (fun q _ h => hFc q h) hFc (fun q _ h => hFc q h) (fun E ce q9 u9 t9 H locs ht9 hal hpx hB hz1 hk1 hS hce hcv hcl => ?_) (fun rz u9 t9 H locs ht9 hal hw hB hz1 hk1 hS => ?_)
            · exact absurd hB.1.1 (by rw [hrs]; exact Nat.lt_irrefl 0)
            obtain ⟨v9, i9⟩ := u9
            obtain ⟨hP1, hK1, hD1⟩ := hB
            rw [ht9] at hP1
            have hP2 := hP1
            have hD2 := hD1.weaken (fun _ _ _ h => hFc _ h)
            obtain ⟨hv9, hJ9, hr9⟩ := hw
            have hv9 : v9 = v := hv9
            dsimp only at hJ9 hr9
            rw [hv9] at hP2 hD2 hJ9
            dsimp only at hP2 hD2
            have hJ : II v.1 i9 := hJ9
            have hP : va_P D vwCl (WX K ad q q1 q2 g r r2 v i9) H := hP2
            have hD : va_D A (WX K ad q q1 q2 g r r2 v i9) := hD2
            have hz : rz.toInt = -1 := (Prod.mk.inj (hr9.symm.trans hrs)).2
            refine t_i ((i32_eq rz (-1)).mpr (by rw [hz]; decide)) ?_
            refine lv_iconst (v := (-1)) hx hb dL_shifts_78 (by decide) ?_
            refine b_icmp_ne hx hb (show (-1 : Int32).toInt = -1 by decide) (show (-1 : Int32).toInt = -1 by decide) dL_shifts_79 (tgt := 93) (by decide) (fun c79 => absurd c79 (by omega)) (fun c79 => ?_)
            refine lv_aload_n hx hb dL_shifts_82 rfl (lv_at hl 1 rfl) ?_
            refine lv_iload_n hx hb dL_shifts_83 rfl (lv_at hl 3 rfl) ?_
            refine lv_iload_n hx hb dL_shifts_84 rfl (lv_at hl 4 rfl) ?_
            refine lv_iconst (v := (-1)) hx hb dL_shifts_85 (by decide) ?_
            have hrs : rs_shift v.1 (nI a) (nI b) (-1) = (0, -1) := (rs_shift_no ha1 hb1 (Or.inl (by decide)))
            have hFc := freeAll hD hS hA
            refine vx_calli (vx_runV (As := [.int (nI a), .int (nI b), .int (-1)]) (rest := []) ⟨hx, hb, hml, hown, hts⟩ (c_X6_shift l hlf D K ad q q1 q2 g r r2 v i9 (nI a) (nI b) (-1) H.size hI hJ) (cwV 3 hts (TB_V k_m_L_127 k_im_X6_shift k_se_X6_shift k_in_X6 k_co_X6_shift (fun _ h => h)) rfl rfl rfl (by decide +kernel) ⟨Nat.le_of_ble_eq_true rfl, Nat.le_of_ble_eq_true rfl⟩) ⟨cPT_blind, va_recv hK hP (ci := 6) (q0 := 0) rfl rfl, cPT_of hP hK hD hTX hS hFc⟩ rfl rfl hl.1 rfl (lv_room (Nat.le_of_ble_eq_true rfl)) dL_shifts_86 ⟨(show ((((1 + a * 2352 + b * 392) + 1) + 1) + 1) + 1 ≤ 150529 by omega), (show ((((6 + a * 14112 + b * 2352) + 6) + 6) + 6) + 6 ≤ 903174 by omega)⟩) hS (fun q _ h => hFc q h) hFc (fun q _ h => hFc q h) (fun E ce q9 u9 t9 H locs ht9 hal hpx hB hz1 hk1 hS hce hcv hcl => ?_) (fun rz u9 t9 H locs ht9 hal hw hB hz1 hk1 hS => ?_)
            · exact absurd hB.1.1 (by rw [hrs]; exact Nat.lt_irrefl 0)
            obtain ⟨v9, i9⟩ := u9
            obtain ⟨hP1, hK1, hD1⟩ := hB
            rw [ht9] at hP1
            have hP2 := hP1
            have hD2 := hD1.weaken (fun _ _ _ h => hFc _ h)
            obtain ⟨hv9, hJ9, hr9⟩ := hw
            have hv9 : v9 = v := hv9
            dsimp only at hJ9 hr9
            rw [hv9] at hP2 hD2 hJ9
            dsimp only at hP2 hD2
            have hJ : II v.1 i9 := hJ9
            have hP : va_P D vwCl (WX K ad q q1 q2 g r r2 v i9) H := hP2
            have hD : va_D A (WX K ad q q1 q2 g r r2 v i9) := hD2
            have hz : rz.toInt = -1 := (Prod.mk.inj (hr9.symm.trans hrs)).2
            refine t_i ((i32_eq rz (-1)).mpr (by rw [hz]; decide)) ?_
            refine lv_iconst (v := (-1)) hx hb dL_shifts_89 (by decide) ?_
            refine b_icmp_eq hx hb (show (-1 : Int32).toInt = -1 by decide) (show (-1 : Int32).toInt = -1 by decide) dL_shifts_90 (tgt := 95) (by decide) (fun c90 => ?_) (fun c90 => absurd c90 (by omega))
            refine lv_iconst (v := nI 0) hx hb dL_shifts_95 (by decide) ?_
            refine lv_istore (lv' := [(5, .int (nI 0)), (4, .int (-1)), (0, .ref (ad 0)), (1, .int (nI (gN v.1))), (2, .int (nI a)), (3, .int (nI b))]) hx hb dL_shifts_96 hl (by decide) rfl (fun ls hl => ?_)
            refine lv_iload hx hb dL_shifts_98 (lv_at hl 0 rfl) ?_
            refine lv_iload hx hb dL_shifts_100 (lv_at hl 1 rfl) ?_
            refine b_icmp_gt hx hb (nI_toIntI (by omega)) (show (-1 : Int32).toInt = -1 by decide) dL_shifts_102 (tgt := 229) (by decide) (fun c102 => ?_) (fun c102 => absurd c102 (by decide))
            refine lv_iload hx hb dL_shifts_229 (lv_at hl 1 rfl) ?_
            refine b_if_ge hx hb (show (-1 : Int32).toInt = -1 by decide) dL_shifts_231 (tgt := 281) (by decide) (fun c231 => absurd c231 (by decide)) (fun c231 => ?_)
            refine lv_iload_n hx hb dL_shifts_234 rfl (lv_at hl 4 rfl) ?_
            refine lv_iload_n hx hb dL_shifts_235 rfl (lv_at hl 5 rfl) ?_
            refine b_icmp_eq hx hb (nI_toIntI (by omega)) (nI_toIntI (by omega)) dL_shifts_236 (tgt := 281) (by decide) (fun c236 => absurd c236 (by omega)) (fun c236 => ?_)
            refine lv_aload_n hx hb dL_shifts_239 rfl (lv_at hl 2 rfl) ?_
            refine lv_iload_n hx hb dL_shifts_240 rfl (lv_at hl 4 rfl) ?_
            have hrs : rs_gear v.1 (nI a) = (0, ((gF v.1 a : Nat) : Int)) := (rs_gear_at ha1)
            have hFc := freeAll hD hS hA
            refine vx_calli (vx_runV (As := [.int (nI a)]) (rest := []) ⟨hx, hb, hml, hown, hts⟩ (c_X6_gear l hlf D K ad q q1 q2 g r r2 v i9 (nI a) H.size hI hJ) (cwV 1 hts (TB_V k_m_L_58 k_im_X6_gear k_se_X6_gear k_in_X6 k_co_X6_gear (fun _ h => h)) rfl rfl rfl (by decide +kernel) ⟨Nat.le_of_ble_eq_true rfl, Nat.le_of_ble_eq_true rfl⟩) ⟨cPT_blind, va_recv hK hP (ci := 6) (q0 := 0) rfl rfl, cPT_of hP hK hD hTX hS hFc⟩ rfl rfl hl.1 rfl (lv_room (Nat.le_of_ble_eq_true rfl)) dL_shifts_241 ⟨(show (((((1 + a * 2352 + b * 392) + 1) + 1) + 1) + 1) + 1 ≤ 150529 by omega), (show (((((6 + a * 14112 + b * 2352) + 6) + 6) + 6) + 6) + 6 ≤ 903174 by omega)⟩) hS (fun q _ h => hFc q h) hFc (fun q _ h => hFc q h) (fun E ce q9 u9 t9 H locs ht9 hal hpx hB hz1 hk1 hS hce hcv hcl => ?_) (fun rz u9 t9 H locs ht9 hal hw hB hz1 hk1 hS => ?_)
            · exact absurd hB.1.1 (by rw [hrs]; exact Nat.lt_irrefl 0)
            obtain ⟨v9, i9⟩ := u9
            obtain ⟨hP1, hK1, hD1⟩ := hB
            rw [ht9] at hP1
            have hP2 := hP1
            have hD2 := hD1.weaken (fun _ _ _ h => hFc _ h)
            obtain ⟨hv9, hJ9, hr9⟩ := hw
            have hv9 : v9 = v := hv9
            dsimp only at hJ9 hr9
            rw [hv9] at hP2 hD2 hJ9
            dsimp only at hP2 hD2
            have hJ : II v.1 i9 := hJ9
            have hP : va_P D vwCl (WX K ad q q1 q2 g r r2 v i9) H := hP2
            have hD : va_D A (WX K ad q q1 q2 g r r2 v i9) := hD2
            have hz : rz.toInt = ((gF v.1 a : Nat) : Int) := (Prod.mk.inj (hr9.symm.trans hrs)).2
            have h64a := (gF_isG ha1).2
            refine t_i ((i32_eq rz (nI (gF v.1 a))).mpr (by rw [nI_toIntI (by omega)]; exact hz)) ?_
            refine lv_aload_n hx hb dL_shifts_244 rfl (lv_at hl 2 rfl) ?_
            refine lv_iload_n hx hb dL_shifts_245 rfl (lv_at hl 5 rfl) ?_
            have hrs : rs_gear v.1 (nI b) = (0, ((gF v.1 b : Nat) : Int)) := (rs_gear_at hb1)
            have hFc := freeAll hD hS hA
            refine vx_calli (vx_runV (As := [.int (nI b)]) (rest := [.int (nI (gF v.1 a))]) ⟨hx, hb, hml, hown, hts⟩ (c_X6_gear l hlf D K ad q q1 q2 g r r2 v i9 (nI b) H.size hI hJ) (cwV 1 hts (TB_V k_m_L_58 k_im_X6_gear k_se_X6_gear k_in_X6 k_co_X6_gear (fun _ h => h)) rfl rfl rfl (by decide +kernel) ⟨Nat.le_of_ble_eq_true rfl, Nat.le_of_ble_eq_true rfl⟩) ⟨cPT_blind, va_recv hK hP (ci := 6) (q0 := 0) rfl rfl, cPT_of hP hK hD hTX hS hFc⟩ rfl rfl hl.1 rfl (lv_room (Nat.le_of_ble_eq_true rfl)) dL_shifts_246 ⟨(show ((((((1 + a * 2352 + b * 392) + 1) + 1) + 1) + 1) + 1) + 1 ≤ 150529 by omega), (show ((((((6 + a * 14112 + b * 2352) + 6) + 6) + 6) + 6) + 6) + 6 ≤ 903174 by omega)⟩) hS (fun q _ h => hFc q h) hFc (fun q _ h => hFc q h) (fun E ce q9 u9 t9 H locs ht9 hal hpx hB hz1 hk1 hS hce hcv hcl => ?_) (fun rz u9 t9 H locs ht9 hal hw hB hz1 hk1 hS => ?_)
            · exact absurd hB.1.1 (by rw [hrs]; exact Nat.lt_irrefl 0)
            obtain ⟨v9, i9⟩ := u9
            obtain ⟨hP1, hK1, hD1⟩ := hB
            rw [ht9] at hP1
            have hP2 := hP1
            have hD2 := hD1.weaken (fun _ _ _ h => hFc _ h)
            obtain ⟨hv9, hJ9, hr9⟩ := hw
            have hv9 : v9 = v := hv9
            dsimp only at hJ9 hr9
            rw [hv9] at hP2 hD2 hJ9
            dsimp only at hP2 hD2
            have hJ : II v.1 i9 := hJ9
            have hP : va_P D vwCl (WX K ad q q1 q2 g r r2 v i9) H := hP2
            have hD : va_D A (WX K ad q q1 q2 g r r2 v i9) := hD2
            have hz : rz.toInt = ((gF v.1 b : Nat) : Int) := (Prod.mk.inj (hr9.symm.trans hrs)).2
            have h64b := (gF_isG hb1).2
            refine t_i ((i32_eq rz (nI (gF v.1 b))).mpr (by rw [nI_toIntI (by omega)]; exact hz)) ?_
            refine lv_iconst (v := (-1)) hx hb dL_shifts_249 (by decide) ?_
            refine lv_ixor hx hb dL_shifts_250 ?_
            refine lv_iand hx hb dL_shifts_251 ?_
            refine t_i (w_anN (gF v.1 a) h64a (gF v.1 b) h64b) ?_
            refine va_calli (va_runS (As := [.int (nI (anN (gF v.1 a) (gF v.1 b)))]) (rest := []) ⟨hx, hb, hml, hown, hts⟩ (c_L_ones l (anN (gF v.1 a) (gF v.1 b)) (anN_lt _ h64a _ h64b)) (va_cwS 1 hts (TB_S k_m_L_131 k_st_L_ones k_in_L k_co_L_ones (fun _ h => h)) rfl rfl rfl (by decide +kernel) ⟨Nat.le_of_ble_eq_true rfl, Nat.le_of_ble_eq_true rfl⟩) ⟨tP_blind, tP_of⟩ rfl rfl hl.1 rfl (lv_room (Nat.le_of_ble_eq_true rfl)) dL_shifts_252 ⟨(show (((((((1 + a * 2352 + b * 392) + 1) + 1) + 1) + 1) + 1) + 1) + 0 ≤ 150529 by omega), (show (((((((6 + a * 14112 + b * 2352) + 6) + 6) + 6) + 6) + 6) + 6) + 0 ≤ 903174 by omega)⟩) hS (fun q _ h => absurd h id) (fun q h => absurd h id) (fun ro u9 t9 H locs ht9 hvm hw hB hz1 hk1 hS => ?_)
            have hP := P_same hP hk1
            have hpc252 := pcn_le (anN (gF v.1 a) (gF v.1 b))
            refine t_i hw ?_
            refine lv_iconst (v := nI 1) hx hb dL_shifts_255 (by decide) ?_
            refine b_icmp_ne hx hb (nI_toIntI (by omega)) (nI_toIntI (by omega)) dL_shifts_256 (tgt := 281) (by decide) (fun c256 => ?_) (fun c256 => ?_)
            · refine lv_iinc (v := nI (b + 1)) (lv' := [(3, .int (nI (b + 1))), (5, .int (nI 0)), (4, .int (-1)), (0, .ref (ad 0)), (1, .int (nI (gN v.1))), (2, .int (nI a))]) hx hb dL_shifts_281 hl (k := 5) rfl (nI_add b 1) (by decide) rfl (fun ls hl => ?_)
              refine lv_goto (tgt := 15) hx hb dL_shifts_284 (by decide) ?_
              refine W.widen (k := 1 + a * 2352 + (b + 1) * 392) (n := 6 + a * 14112 + (b + 1) * 2352) (by omega) (by omega) ?_
              exact ih15 i9 (b + 1) _ _ _ (by omega) hJ (by omega) hP hD hS (lv_sub hl [3, 4, 5, 0] rfl)
            refine lv_aload_n hx hb dL_shifts_259 rfl (lv_at hl 2 rfl) ?_
            refine lv_iload_n hx hb dL_shifts_260 rfl (lv_at hl 5 rfl) ?_
            have hrs : rs_gear v.1 (nI b) = (0, ((gF v.1 b : Nat) : Int)) := (rs_gear_at hb1)
            have hFc := freeAll hD hS hA
            refine vx_calli (vx_runV (As := [.int (nI b)]) (rest := []) ⟨hx, hb, hml, hown, hts⟩ (c_X6_gear l hlf D K ad q q1 q2 g r r2 v i9 (nI b) H.size hI hJ) (cwV 1 hts (TB_V k_m_L_58 k_im_X6_gear k_se_X6_gear k_in_X6 k_co_X6_gear (fun _ h => h)) rfl rfl rfl (by decide +kernel) ⟨Nat.le_of_ble_eq_true rfl, Nat.le_of_ble_eq_true rfl⟩) ⟨cPT_blind, va_recv hK hP (ci := 6) (q0 := 0) rfl rfl, cPT_of hP hK hD hTX hS hFc⟩ rfl rfl hl.1 rfl (lv_room (Nat.le_of_ble_eq_true rfl)) dL_shifts_261 ⟨(show ((((((((1 + a * 2352 + b * 392) + 1) + 1) + 1) + 1) + 1) + 1) + 0) + 1 ≤ 150529 by omega), (show ((((((((6 + a * 14112 + b * 2352) + 6) + 6) + 6) + 6) + 6) + 6) + 0) + 6 ≤ 903174 by omega)⟩) hS (fun q _ h => hFc q h) hFc (fun q _ h => hFc q h) (fun E ce q9 u9 t9 H locs ht9 hal hpx hB hz1 hk1 hS hce hcv hcl => ?_) (fun rz u9 t9 H locs ht9 hal hw hB hz1 hk1 hS => ?_)
            · exact absurd hB.1.1 (by rw [hrs]; exact Nat.lt_irrefl 0)
            obtain ⟨v9, i9⟩ := u9
            obtain ⟨hP1, hK1, hD1⟩ := hB
            rw [ht9] at hP1
            have hP2 := hP1
            have hD2 := hD1.weaken (fun _ _ _ h => hFc _ h)
            obtain ⟨hv9, hJ9, hr9⟩ := hw
            have hv9 : v9 = v := hv9
            dsimp only at hJ9 hr9
            rw [hv9] at hP2 hD2 hJ9
            dsimp only at hP2 hD2
            have hJ : II v.1 i9 := hJ9
            have hP : va_P D vwCl (WX K ad q q1 q2 g r r2 v i9) H := hP2
            have hD : va_D A (WX K ad q q1 q2 g r r2 v i9) := hD2
            have hz : rz.toInt = ((gF v.1 b : Nat) : Int) := (Prod.mk.inj (hr9.symm.trans hrs)).2
            have h64b := (gF_isG hb1).2
            refine t_i ((i32_eq rz (nI (gF v.1 b))).mpr (by rw [nI_toIntI (by omega)]; exact hz)) ?_
            refine lv_aload_n hx hb dL_shifts_264 rfl (lv_at hl 2 rfl) ?_
            refine lv_iload_n hx hb dL_shifts_265 rfl (lv_at hl 4 rfl) ?_
            have hrs : rs_gear v.1 (nI a) = (0, ((gF v.1 a : Nat) : Int)) := (rs_gear_at ha1)
            have hFc := freeAll hD hS hA
            refine vx_calli (vx_runV (As := [.int (nI a)]) (rest := [.int (nI (gF v.1 b))]) ⟨hx, hb, hml, hown, hts⟩ (c_X6_gear l hlf D K ad q q1 q2 g r r2 v i9 (nI a) H.size hI hJ) (cwV 1 hts (TB_V k_m_L_58 k_im_X6_gear k_se_X6_gear k_in_X6 k_co_X6_gear (fun _ h => h)) rfl rfl rfl (by decide +kernel) ⟨Nat.le_of_ble_eq_true rfl, Nat.le_of_ble_eq_true rfl⟩) ⟨cPT_blind, va_recv hK hP (ci := 6) (q0 := 0) rfl rfl, cPT_of hP hK hD hTX hS hFc⟩ rfl rfl hl.1 rfl (lv_room (Nat.le_of_ble_eq_true rfl)) dL_shifts_266 ⟨(show (((((((((1 + a * 2352 + b * 392) + 1) + 1) + 1) + 1) + 1) + 1) + 0) + 1) + 1 ≤ 150529 by omega), (show (((((((((6 + a * 14112 + b * 2352) + 6) + 6) + 6) + 6) + 6) + 6) + 0) + 6) + 6 ≤ 903174 by omega)⟩) hS (fun q _ h => hFc q h) hFc (fun q _ h => hFc q h) (fun E ce q9 u9 t9 H locs ht9 hal hpx hB hz1 hk1 hS hce hcv hcl => ?_) (fun rz u9 t9 H locs ht9 hal hw hB hz1 hk1 hS => ?_)
            · exact absurd hB.1.1 (by rw [hrs]; exact Nat.lt_irrefl 0)
            obtain ⟨v9, i9⟩ := u9
            obtain ⟨hP1, hK1, hD1⟩ := hB
            rw [ht9] at hP1
            have hP2 := hP1
            have hD2 := hD1.weaken (fun _ _ _ h => hFc _ h)
            obtain ⟨hv9, hJ9, hr9⟩ := hw
            have hv9 : v9 = v := hv9
            dsimp only at hJ9 hr9
            rw [hv9] at hP2 hD2 hJ9
            dsimp only at hP2 hD2
            have hJ : II v.1 i9 := hJ9
            have hP : va_P D vwCl (WX K ad q q1 q2 g r r2 v i9) H := hP2
            have hD : va_D A (WX K ad q q1 q2 g r r2 v i9) := hD2
            have hz : rz.toInt = ((gF v.1 a : Nat) : Int) := (Prod.mk.inj (hr9.symm.trans hrs)).2
            have h64a := (gF_isG ha1).2
            refine t_i ((i32_eq rz (nI (gF v.1 a))).mpr (by rw [nI_toIntI (by omega)]; exact hz)) ?_
            refine lv_iconst (v := (-1)) hx hb dL_shifts_269 (by decide) ?_
            refine lv_ixor hx hb dL_shifts_270 ?_
            refine lv_iand hx hb dL_shifts_271 ?_
            refine t_i (w_anN (gF v.1 b) h64b (gF v.1 a) h64a) ?_
            refine va_calli (va_runS (As := [.int (nI (anN (gF v.1 b) (gF v.1 a)))]) (rest := []) ⟨hx, hb, hml, hown, hts⟩ (c_L_ones l (anN (gF v.1 b) (gF v.1 a)) (anN_lt _ h64b _ h64a)) (va_cwS 1 hts (TB_S k_m_L_131 k_st_L_ones k_in_L k_co_L_ones (fun _ h => h)) rfl rfl rfl (by decide +kernel) ⟨Nat.le_of_ble_eq_true rfl, Nat.le_of_ble_eq_true rfl⟩) ⟨tP_blind, tP_of⟩ rfl rfl hl.1 rfl (lv_room (Nat.le_of_ble_eq_true rfl)) dL_shifts_272 ⟨(show ((((((((((1 + a * 2352 + b * 392) + 1) + 1) + 1) + 1) + 1) + 1) + 0) + 1) + 1) + 0 ≤ 150529 by omega), (show ((((((((((6 + a * 14112 + b * 2352) + 6) + 6) + 6) + 6) + 6) + 6) + 0) + 6) + 6) + 0 ≤ 903174 by omega)⟩) hS (fun q _ h => absurd h id) (fun q h => absurd h id) (fun ro u9 t9 H locs ht9 hvm hw hB hz1 hk1 hS => ?_)
            have hP := P_same hP hk1
            have hpc272 := pcn_le (anN (gF v.1 b) (gF v.1 a))
            refine t_i hw ?_
            refine lv_iconst (v := nI 1) hx hb dL_shifts_275 (by decide) ?_
            refine b_icmp_ne hx hb (nI_toIntI (by omega)) (nI_toIntI (by omega)) dL_shifts_276 (tgt := 281) (by decide) (fun c276 => ?_) (fun c276 => ?_)
            · refine lv_iinc (v := nI (b + 1)) (lv' := [(3, .int (nI (b + 1))), (5, .int (nI 0)), (4, .int (-1)), (0, .ref (ad 0)), (1, .int (nI (gN v.1))), (2, .int (nI a))]) hx hb dL_shifts_281 hl (k := 5) rfl (nI_add b 1) (by decide) rfl (fun ls hl => ?_)
              refine lv_goto (tgt := 15) hx hb dL_shifts_284 (by decide) ?_
              refine W.widen (k := 1 + a * 2352 + (b + 1) * 392) (n := 6 + a * 14112 + (b + 1) * 2352) (by omega) (by omega) ?_
              exact ih15 i9 (b + 1) _ _ _ (by omega) hJ (by omega) hP hD hS (lv_sub hl [3, 4, 5, 0] rfl)
            exact absurd (DD_near ha1 hb1 (by omega) ⟨by omega, by omega⟩) (by rw [hn]; decide)
          · have hn63 := DD_le ha1 hn
            refine t_i ((i32_eq rz (nI n)).mpr (by rw [nI_toIntI (by omega), hz, hn])) ?_
            refine lv_istore (lv' := [(4, .int (nI n)), (0, .ref (ad 0)), (1, .int (nI (gN v.1))), (2, .int (nI a)), (3, .int (nI b))]) hx hb dL_shifts_32 hl (by decide) rfl (fun ls hl => ?_)
            refine lv_iload hx hb dL_shifts_34 (lv_at hl 0 rfl) ?_
            refine lv_aload_n hx hb dL_shifts_36 rfl (lv_at hl 1 rfl) ?_
            refine lv_iload_n hx hb dL_shifts_37 rfl (lv_at hl 4 rfl) ?_
            refine lv_iload_n hx hb dL_shifts_38 rfl (lv_at hl 3 rfl) ?_
            have hrs : rs_fewest v.1 (nI b) (nI a) = (0, ((n : Nat) : Int)) := ((rs_fewest_at hb1 ha1).trans (by rw [hsy, hn]))
            have hFc := freeAll hD hS hA
            refine vx_calli (vx_runV (As := [.int (nI b), .int (nI a)]) (rest := [.int (nI n)]) ⟨hx, hb, hml, hown, hts⟩ (c_X6_fewestShifts l hlf D K ad q q1 q2 g r r2 v i9 (nI b) (nI a) H.size hI hJ) (cwV 2 hts (TB_V k_m_L_124 k_im_X6_fewestShifts k_se_X6_fewestShifts k_in_X6 k_co_X6_fewestShifts (fun _ h => h)) rfl rfl rfl (by decide +kernel) ⟨Nat.le_of_ble_eq_true rfl, Nat.le_of_ble_eq_true rfl⟩) ⟨cPT_blind, va_recv hK hP (ci := 6) (q0 := 0) rfl rfl, cPT_of hP hK hD hTX hS hFc⟩ rfl rfl hl.1 rfl (lv_room (Nat.le_of_ble_eq_true rfl)) dL_shifts_39 ⟨(show ((1 + a * 2352 + b * 392) + 1) + 1 ≤ 150529 by omega), (show ((6 + a * 14112 + b * 2352) + 6) + 6 ≤ 903174 by omega)⟩) hS (fun q _ h => hFc q h) hFc (fun q _ h => hFc q h) (fun E ce q9 u9 t9 H locs ht9 hal hpx hB hz1 hk1 hS hce hcv hcl => ?_) (fun rz u9 t9 H locs ht9 hal hw hB hz1 hk1 hS => ?_)
            · exact absurd hB.1.1 (by rw [hrs]; exact Nat.lt_irrefl 0)
            obtain ⟨v9, i9⟩ := u9
            obtain ⟨hP1, hK1, hD1⟩ := hB
            rw [ht9] at hP1
            have hP2 := hP1
            have hD2 := hD1.weaken (fun _ _ _ h => hFc _ h)
            obtain ⟨hv9, hJ9, hr9⟩ := hw
            have hv9 : v9 = v := hv9
            dsimp only at hJ9 hr9
            rw [hv9] at hP2 hD2 hJ9
            dsimp only at hP2 hD2
            have hJ : II v.1 i9 := hJ9
            have hP : va_P D vwCl (WX K ad q q1 q2 g r r2 v i9) H := hP2
            have hD : va_D A (WX K ad q q1 q2 g r r2 v i9) := hD2
            have hz : rz.toInt = ((n : Nat) : Int) := (Prod.mk.inj (hr9.symm.trans hrs)).2
            refine t_i ((i32_eq rz (nI n)).mpr (by rw [nI_toIntI (by omega)]; exact hz)) ?_
            refine b_icmp_ne hx hb (nI_toIntI (by omega)) (nI_toIntI (by omega)) dL_shifts_42 (tgt := 93) (by decide) (fun c42 => absurd c42 (by omega)) (fun c42 => ?_)
            suffices h68 : W p l e ({ frames := 8, cells := 150529, slots := 903174, locals := 173 } : Room) s m [.ref (ad 0)].toArray below meth c H locs (((1 + a * 2352 + b * 392) + 1) + 1) (((6 + a * 14112 + b * 2352) + 6) + 6) (MQ below (va_Qi (fun (z : Int32) (u : CV × CI) => z = nI 1 ∧ u.1 = v ∧ II u.1.1 u.2) (fun (u : CV × CI) t => cB D K A (WX K ad q q1 q2 g r r2 u.1 u.2) t) A) [.ref (ad 0)].toArray s 150529 903174 A) (F0 m 68 ls []) by
              by_cases hab : a = b
              · refine lv_iload hx hb dL_shifts_45 (lv_at hl 0 rfl) ?_
                refine b_if_ne hx hb (nI_toIntI (by omega)) dL_shifts_47 (tgt := 54) (by decide) (fun c47 => absurd c47 (by omega)) (fun c47 => ?_)
                refine lv_iconst (v := nI 1) hx hb dL_shifts_50 (by decide) ?_
                refine lv_goto (tgt := 55) hx hb dL_shifts_51 (by decide) ?_
                refine lv_iload_n hx hb dL_shifts_55 rfl (lv_at hl 3 rfl) ?_
                refine lv_iload_n hx hb dL_shifts_56 rfl (lv_at hl 4 rfl) ?_
                refine b_icmp_ne hx hb (nI_toIntI (by omega)) (nI_toIntI (by omega)) dL_shifts_57 (tgt := 64) (by decide) (fun c57 => absurd c57 (by omega)) (fun c57 => ?_)
                refine lv_iconst (v := nI 1) hx hb dL_shifts_60 (by decide) ?_
                refine lv_goto (tgt := 65) hx hb dL_shifts_61 (by decide) ?_
                refine b_icmp_ne hx hb (nI_toIntI (by omega)) (nI_toIntI (by omega)) dL_shifts_65 (tgt := 93) (by decide) (fun c65 => absurd c65 (by omega)) (fun c65 => ?_)
                exact h68
              · refine lv_iload hx hb dL_shifts_45 (lv_at hl 0 rfl) ?_
                refine b_if_ne hx hb (nI_toIntI (by omega)) dL_shifts_47 (tgt := 54) (by decide) (fun c47 => ?_) (fun c47 => absurd c47 (by omega))
                refine lv_iconst (v := nI 0) hx hb dL_shifts_54 (by decide) ?_
                refine lv_iload_n hx hb dL_shifts_55 rfl (lv_at hl 3 rfl) ?_
                refine lv_iload_n hx hb dL_shifts_56 rfl (lv_at hl 4 rfl) ?_
                refine b_icmp_ne hx hb (nI_toIntI (by omega)) (nI_toIntI (by omega)) dL_shifts_57 (tgt := 64) (by decide) (fun c57 => ?_) (fun c57 => absurd c57 (by omega))
                refine lv_iconst (v := nI 0) hx hb dL_shifts_64 (by decide) ?_
                refine b_icmp_ne hx hb (nI_toIntI (by omega)) (nI_toIntI (by omega)) dL_shifts_65 (tgt := 93) (by decide) (fun c65 => absurd c65 (by omega)) (fun c65 => ?_)
                exact h68
            refine lv_aload_n hx hb dL_shifts_68 rfl (lv_at hl 1 rfl) ?_
            refine lv_iload_n hx hb dL_shifts_69 rfl (lv_at hl 3 rfl) ?_
            refine lv_iload_n hx hb dL_shifts_70 rfl (lv_at hl 4 rfl) ?_
            refine lv_iload hx hb dL_shifts_71 (lv_at hl 0 rfl) ?_
            refine lv_iconst (v := nI 1) hx hb dL_shifts_73 (by decide) ?_
            refine lv_iadd hx hb dL_shifts_74 ?_
            refine t_i (nI_add _ _) ?_
            have hrs : rs_shift v.1 (nI a) (nI b) (nI (n + 1)) = (0, -1) := (rs_shift_no ha1 hb1 (Or.inr (by rw [hn, nI_toIntI (by omega)]; omega)))
            have hFc := freeAll hD hS hA
            refine vx_calli (vx_runV (As := [.int (nI a), .int (nI b), .int (nI (n + 1))]) (rest := []) ⟨hx, hb, hml, hown, hts⟩ (c_X6_shift l hlf D K ad q q1 q2 g r r2 v i9 (nI a) (nI b) (nI (n + 1)) H.size hI hJ) (cwV 3 hts (TB_V k_m_L_127 k_im_X6_shift k_se_X6_shift k_in_X6 k_co_X6_shift (fun _ h => h)) rfl rfl rfl (by decide +kernel) ⟨Nat.le_of_ble_eq_true rfl, Nat.le_of_ble_eq_true rfl⟩) ⟨cPT_blind, va_recv hK hP (ci := 6) (q0 := 0) rfl rfl, cPT_of hP hK hD hTX hS hFc⟩ rfl rfl hl.1 rfl (lv_room (Nat.le_of_ble_eq_true rfl)) dL_shifts_75 ⟨(show (((1 + a * 2352 + b * 392) + 1) + 1) + 1 ≤ 150529 by omega), (show (((6 + a * 14112 + b * 2352) + 6) + 6) + 6 ≤ 903174 by omega)⟩) hS (fun q _ h => hFc q h) hFc (fun q _ h => hFc q h) (fun E ce q9 u9 t9 H locs ht9 hal hpx hB hz1 hk1 hS hce hcv hcl => ?_) (fun rz u9 t9 H locs ht9 hal hw hB hz1 hk1 hS => ?_)
            · exact absurd hB.1.1 (by rw [hrs]; exact Nat.lt_irrefl 0)
            obtain ⟨v9, i9⟩ := u9
            obtain ⟨hP1, hK1, hD1⟩ := hB
            rw [ht9] at hP1
            have hP2 := hP1
            have hD2 := hD1.weaken (fun _ _ _ h => hFc _ h)
            obtain ⟨hv9, hJ9, hr9⟩ := hw
            have hv9 : v9 = v := hv9
            dsimp only at hJ9 hr9
            rw [hv9] at hP2 hD2 hJ9
            dsimp only at hP2 hD2
            have hJ : II v.1 i9 := hJ9
            have hP : va_P D vwCl (WX K ad q q1 q2 g r r2 v i9) H := hP2
            have hD : va_D A (WX K ad q q1 q2 g r r2 v i9) := hD2
            have hz : rz.toInt = -1 := (Prod.mk.inj (hr9.symm.trans hrs)).2
            refine t_i ((i32_eq rz (-1)).mpr (by rw [hz]; decide)) ?_
            refine lv_iconst (v := (-1)) hx hb dL_shifts_78 (by decide) ?_
            refine b_icmp_ne hx hb (show (-1 : Int32).toInt = -1 by decide) (show (-1 : Int32).toInt = -1 by decide) dL_shifts_79 (tgt := 93) (by decide) (fun c79 => absurd c79 (by omega)) (fun c79 => ?_)
            refine lv_aload_n hx hb dL_shifts_82 rfl (lv_at hl 1 rfl) ?_
            refine lv_iload_n hx hb dL_shifts_83 rfl (lv_at hl 3 rfl) ?_
            refine lv_iload_n hx hb dL_shifts_84 rfl (lv_at hl 4 rfl) ?_
            refine lv_iconst (v := (-1)) hx hb dL_shifts_85 (by decide) ?_
            have hrs : rs_shift v.1 (nI a) (nI b) (-1) = (0, -1) := (rs_shift_no ha1 hb1 (Or.inl (by decide)))
            have hFc := freeAll hD hS hA
            refine vx_calli (vx_runV (As := [.int (nI a), .int (nI b), .int (-1)]) (rest := []) ⟨hx, hb, hml, hown, hts⟩ (c_X6_shift l hlf D K ad q q1 q2 g r r2 v i9 (nI a) (nI b) (-1) H.size hI hJ) (cwV 3 hts (TB_V k_m_L_127 k_im_X6_shift k_se_X6_shift k_in_X6 k_co_X6_shift (fun _ h => h)) rfl rfl rfl (by decide +kernel) ⟨Nat.le_of_ble_eq_true rfl, Nat.le_of_ble_eq_true rfl⟩) ⟨cPT_blind, va_recv hK hP (ci := 6) (q0 := 0) rfl rfl, cPT_of hP hK hD hTX hS hFc⟩ rfl rfl hl.1 rfl (lv_room (Nat.le_of_ble_eq_true rfl)) dL_shifts_86 ⟨(show ((((1 + a * 2352 + b * 392) + 1) + 1) + 1) + 1 ≤ 150529 by omega), (show ((((6 + a * 14112 + b * 2352) + 6) + 6) + 6) + 6 ≤ 903174 by omega)⟩) hS (fun q _ h => hFc q h) hFc (fun q _ h => hFc q h) (fun E ce q9 u9 t9 H locs ht9 hal hpx hB hz1 hk1 hS hce hcv hcl => ?_) (fun rz u9 t9 H locs ht9 hal hw hB hz1 hk1 hS => ?_)
            · exact absurd hB.1.1 (by rw [hrs]; exact Nat.lt_irrefl 0)
            obtain ⟨v9, i9⟩ := u9
            obtain ⟨hP1, hK1, hD1⟩ := hB
            rw [ht9] at hP1
            have hP2 := hP1
            have hD2 := hD1.weaken (fun _ _ _ h => hFc _ h)
            obtain ⟨hv9, hJ9, hr9⟩ := hw
            have hv9 : v9 = v := hv9
            dsimp only at hJ9 hr9
            rw [hv9] at hP2 hD2 hJ9
            dsimp only at hP2 hD2
            have hJ : II v.1 i9 := hJ9
            have hP : va_P D vwCl (WX K ad q q1 q2 g r r2 v i9) H := hP2
            have hD : va_D A (WX K ad q q1 q2 g r r2 v i9) := hD2
            have hz : rz.toInt = -1 := (Prod.mk.inj (hr9.symm.trans hrs)).2
            refine t_i ((i32_eq rz (-1)).mpr (by rw [hz]; decide)) ?_
            refine lv_iconst (v := (-1)) hx hb dL_shifts_89 (by decide) ?_
            refine b_icmp_eq hx hb (show (-1 : Int32).toInt = -1 by decide) (show (-1 : Int32).toInt = -1 by decide) dL_shifts_90 (tgt := 95) (by decide) (fun c90 => ?_) (fun c90 => absurd c90 (by omega))
            refine lv_iconst (v := nI 0) hx hb dL_shifts_95 (by decide) ?_
            refine lv_istore (lv' := [(5, .int (nI 0)), (4, .int (nI n)), (0, .ref (ad 0)), (1, .int (nI (gN v.1))), (2, .int (nI a)), (3, .int (nI b))]) hx hb dL_shifts_96 hl (by decide) rfl (fun ls hl => ?_)
            refine W.widen (k := 5 + a * 2352 + b * 392 + 0 * 6) (n := 30 + a * 14112 + b * 2352 + 0 * 36) (by omega) (by omega) ?_
            have L98 : ∀ (fuel : Nat) (i : CI) (k : Nat) (H : Heap) (locs : List Loc) (ls : Array Slot), n + 1 - k < fuel → (II v.1 i) → (k ≤ n + 1) → va_P D vwCl (WX K ad q q1 q2 g r r2 v i) H → va_D A (WX K ad q q1 q2 g r r2 v i) → va_S A s.heap H locs → lv_has ls 8 [(0, .ref (ad 0)), (1, .int (nI (gN v.1))), (2, .int (nI a)), (3, .int (nI b)), (4, .int (nI n)), (5, .int (nI k))] → W p l e ({ frames := 8, cells := 150529, slots := 903174, locals := 173 } : Room) s m [.ref (ad 0)].toArray below meth c H locs (5 + a * 2352 + b * 392 + k * 6) (30 + a * 14112 + b * 2352 + k * 36) (MQ below (va_Qi (fun (z : Int32) (u : CV × CI) => z = nI 1 ∧ u.1 = v ∧ II u.1.1 u.2) (fun (u : CV × CI) t => cB D K A (WX K ad q q1 q2 g r r2 u.1 u.2) t) A) [.ref (ad 0)].toArray s 150529 903174 A) (F0 m 98 ls []) := by
              intro fuel
              induction fuel with
              | zero =>
                intro i k H locs ls hfu
                exact absurd hfu (Nat.not_lt_zero _)
              | succ fuel ih98 =>
                intro i k H locs ls hfu hJ hkn hP hD hS hl
                refine lv_iload hx hb dL_shifts_98 (lv_at hl 5 rfl) ?_
                refine lv_iload hx hb dL_shifts_100 (lv_at hl 4 rfl) ?_
                refine b_icmp_gt hx hb (nI_toIntI (by omega)) (nI_toIntI (by omega)) dL_shifts_102 (tgt := 229) (by decide) (fun c102 => ?_) (fun c102 => ?_)
                · refine lv_iload hx hb dL_shifts_229 (lv_at hl 4 rfl) ?_
                  refine b_if_ge hx hb (nI_toIntI (by omega)) dL_shifts_231 (tgt := 281) (by decide) (fun c231 => ?_) (fun c231 => absurd c231 (by omega))
                  refine lv_iinc (v := nI (b + 1)) (lv' := [(3, .int (nI (b + 1))), (0, .ref (ad 0)), (1, .int (nI (gN v.1))), (2, .int (nI a)), (4, .int (nI n)), (5, .int (nI k))]) hx hb dL_shifts_281 hl (k := 3) rfl (nI_add b 1) (by decide) rfl (fun ls hl => ?_)
                  refine lv_goto (tgt := 15) hx hb dL_shifts_284 (by decide) ?_
                  refine W.widen (k := 1 + a * 2352 + (b + 1) * 392) (n := 6 + a * 14112 + (b + 1) * 2352) (by omega) (by omega) ?_
                  exact ih15 i (b + 1) _ _ _ (by omega) hJ (by omega) hP hD hS (lv_sub hl [1, 2, 3, 0] rfl)
                refine lv_aload_n hx hb dL_shifts_105 rfl (lv_at hl 0 rfl) ?_
                refine lv_iload_n hx hb dL_shifts_106 rfl (lv_at hl 2 rfl) ?_
                refine lv_iload_n hx hb dL_shifts_107 rfl (lv_at hl 3 rfl) ?_
                refine lv_iload hx hb dL_shifts_108 (lv_at hl 5 rfl) ?_
                obtain ⟨gk, hg1, hg2, hg3, hg4, hg5, hg6⟩ := shift_facts ha1 hb1 hn (show k ≤ n by omega)
                have hrs : rs_shift v.1 (nI a) (nI b) (nI k) = (0, ((gk : Nat) : Int)) := hg2
                have hFc := freeAll hD hS hA
                refine vx_calli (vx_runV (As := [.int (nI a), .int (nI b), .int (nI k)]) (rest := []) ⟨hx, hb, hml, hown, hts⟩ (c_X6_shift l hlf D K ad q q1 q2 g r r2 v i (nI a) (nI b) (nI k) H.size hI hJ) (cwV 3 hts (TB_V k_m_L_127 k_im_X6_shift k_se_X6_shift k_in_X6 k_co_X6_shift (fun _ h => h)) rfl rfl rfl (by decide +kernel) ⟨Nat.le_of_ble_eq_true rfl, Nat.le_of_ble_eq_true rfl⟩) ⟨cPT_blind, va_recv hK hP (ci := 6) (q0 := 0) rfl rfl, cPT_of hP hK hD hTX hS hFc⟩ rfl rfl hl.1 rfl (lv_room (Nat.le_of_ble_eq_true rfl)) dL_shifts_110 ⟨(show (5 + a * 2352 + b * 392 + k * 6) + 1 ≤ 150529 by omega), (show (30 + a * 14112 + b * 2352 + k * 36) + 6 ≤ 903174 by omega)⟩) hS (fun q _ h => hFc q h) hFc (fun q _ h => hFc q h) (fun E ce q9 u9 t9 H locs ht9 hal hpx hB hz1 hk1 hS hce hcv hcl => ?_) (fun rz u9 t9 H locs ht9 hal hw hB hz1 hk1 hS => ?_)
                · exact absurd hB.1.1 (by rw [hrs]; exact Nat.lt_irrefl 0)
                obtain ⟨v9, i9⟩ := u9
                obtain ⟨hP1, hK1, hD1⟩ := hB
                rw [ht9] at hP1
                have hP2 := hP1
                have hD2 := hD1.weaken (fun _ _ _ h => hFc _ h)
                obtain ⟨hv9, hJ9, hr9⟩ := hw
                have hv9 : v9 = v := hv9
                dsimp only at hJ9 hr9
                rw [hv9] at hP2 hD2 hJ9
                dsimp only at hP2 hD2
                have hJ : II v.1 i9 := hJ9
                have hP : va_P D vwCl (WX K ad q q1 q2 g r r2 v i9) H := hP2
                have hD : va_D A (WX K ad q q1 q2 g r r2 v i9) := hD2
                have hz : rz.toInt = ((gk : Nat) : Int) := (Prod.mk.inj (hr9.symm.trans hrs)).2
                refine t_i ((i32_eq rz (nI gk)).mpr (by rw [nI_toIntI (by omega)]; exact hz)) ?_
                refine lv_istore (lv' := [(6, .int (nI gk)), (0, .ref (ad 0)), (1, .int (nI (gN v.1))), (2, .int (nI a)), (3, .int (nI b)), (4, .int (nI n)), (5, .int (nI k))]) hx hb dL_shifts_113 hl (by decide) rfl (fun ls hl => ?_)
                refine lv_iload hx hb dL_shifts_115 (lv_at hl 0 rfl) ?_
                refine b_if_lt hx hb (nI_toIntI (by omega)) dL_shifts_117 (tgt := 159) (by decide) (fun c117 => absurd c117 (by omega)) (fun c117 => ?_)
                refine lv_aload_n hx hb dL_shifts_120 rfl (lv_at hl 1 rfl) ?_
                refine lv_iload hx hb dL_shifts_121 (lv_at hl 0 rfl) ?_
                refine lv_iload_n hx hb dL_shifts_123 rfl (lv_at hl 4 rfl) ?_
                have hrs : rs_fewest v.1 (nI gk) (nI b) = (0, ((n - k : Nat) : Int)) := hg3
                have hFc := freeAll hD hS hA
                refine vx_calli (vx_runV (As := [.int (nI gk), .int (nI b)]) (rest := []) ⟨hx, hb, hml, hown, hts⟩ (c_X6_fewestShifts l hlf D K ad q q1 q2 g r r2 v i9 (nI gk) (nI b) H.size hI hJ) (cwV 2 hts (TB_V k_m_L_124 k_im_X6_fewestShifts k_se_X6_fewestShifts k_in_X6 k_co_X6_fewestShifts (fun _ h => h)) rfl rfl rfl (by decide +kernel) ⟨Nat.le_of_ble_eq_true rfl, Nat.le_of_ble_eq_true rfl⟩) ⟨cPT_blind, va_recv hK hP (ci := 6) (q0 := 0) rfl rfl, cPT_of hP hK hD hTX hS hFc⟩ rfl rfl hl.1 rfl (lv_room (Nat.le_of_ble_eq_true rfl)) dL_shifts_124 ⟨(show ((5 + a * 2352 + b * 392 + k * 6) + 1) + 1 ≤ 150529 by omega), (show ((30 + a * 14112 + b * 2352 + k * 36) + 6) + 6 ≤ 903174 by omega)⟩) hS (fun q _ h => hFc q h) hFc (fun q _ h => hFc q h) (fun E ce q9 u9 t9 H locs ht9 hal hpx hB hz1 hk1 hS hce hcv hcl => ?_) (fun rz u9 t9 H locs ht9 hal hw hB hz1 hk1 hS => ?_)
                · exact absurd hB.1.1 (by rw [hrs]; exact Nat.lt_irrefl 0)
                obtain ⟨v9, i9⟩ := u9
                obtain ⟨hP1, hK1, hD1⟩ := hB
                rw [ht9] at hP1
                have hP2 := hP1
                have hD2 := hD1.weaken (fun _ _ _ h => hFc _ h)
                obtain ⟨hv9, hJ9, hr9⟩ := hw
                have hv9 : v9 = v := hv9
                dsimp only at hJ9 hr9
                rw [hv9] at hP2 hD2 hJ9
                dsimp only at hP2 hD2
                have hJ : II v.1 i9 := hJ9
                have hP : va_P D vwCl (WX K ad q q1 q2 g r r2 v i9) H := hP2
                have hD : va_D A (WX K ad q q1 q2 g r r2 v i9) := hD2
                have hz : rz.toInt = ((n - k : Nat) : Int) := (Prod.mk.inj (hr9.symm.trans hrs)).2
                refine t_i ((i32_eq rz (nI (n - k))).mpr (by rw [nI_toIntI (by omega)]; exact hz)) ?_
                refine lv_iload hx hb dL_shifts_127 (lv_at hl 5 rfl) ?_
                refine lv_iload hx hb dL_shifts_129 (lv_at hl 6 rfl) ?_
                refine lv_isub hx hb dL_shifts_131 ?_
                refine t_i (pk_sub (by omega)) ?_
                refine b_icmp_ne hx hb (nI_toIntI (by omega)) (nI_toIntI (by omega)) dL_shifts_132 (tgt := 159) (by decide) (fun c132 => absurd c132 (by omega)) (fun c132 => ?_)
                suffices h161 : W p l e ({ frames := 8, cells := 150529, slots := 903174, locals := 173 } : Room) s m [.ref (ad 0)].toArray below meth c H locs (((5 + a * 2352 + b * 392 + k * 6) + 1) + 1) (((30 + a * 14112 + b * 2352 + k * 36) + 6) + 6) (MQ below (va_Qi (fun (z : Int32) (u : CV × CI) => z = nI 1 ∧ u.1 = v ∧ II u.1.1 u.2) (fun (u : CV × CI) t => cB D K A (WX K ad q q1 q2 g r r2 u.1 u.2) t) A) [.ref (ad 0)].toArray s 150529 903174 A) (F0 m 161 ls []) by
                  by_cases hk0 : k = 0
                  · by_cases hkn2 : k = n
                    · refine lv_iload hx hb dL_shifts_135 (lv_at hl 6 rfl) ?_
                      refine b_if_ne hx hb (nI_toIntI (by omega)) dL_shifts_137 (tgt := 146) (by decide) (fun c137 => absurd c137 (by omega)) (fun c137 => ?_)
                      refine lv_iload hx hb dL_shifts_140 (lv_at hl 0 rfl) ?_
                      refine lv_iload_n hx hb dL_shifts_142 rfl (lv_at hl 3 rfl) ?_
                      refine b_icmp_ne hx hb (nI_toIntI (by omega)) (nI_toIntI (by omega)) dL_shifts_143 (tgt := 159) (by decide) (fun c143 => absurd c143 (by have := hg4 hk0; omega)) (fun c143 => ?_)
                      refine lv_iload hx hb dL_shifts_146 (lv_at hl 6 rfl) ?_
                      refine lv_iload hx hb dL_shifts_148 (lv_at hl 5 rfl) ?_
                      refine b_icmp_ne hx hb (nI_toIntI (by omega)) (nI_toIntI (by omega)) dL_shifts_150 (tgt := 161) (by decide) (fun c150 => absurd c150 (by omega)) (fun c150 => ?_)
                      refine lv_iload hx hb dL_shifts_153 (lv_at hl 0 rfl) ?_
                      refine lv_iload_n hx hb dL_shifts_155 rfl (lv_at hl 4 rfl) ?_
                      refine b_icmp_eq hx hb (nI_toIntI (by omega)) (nI_toIntI (by omega)) dL_shifts_156 (tgt := 161) (by decide) (fun c156 => ?_) (fun c156 => absurd c156 (by have := hg5 hkn2; omega))
                      exact h161
                    · refine lv_iload hx hb dL_shifts_135 (lv_at hl 6 rfl) ?_
                      refine b_if_ne hx hb (nI_toIntI (by omega)) dL_shifts_137 (tgt := 146) (by decide) (fun c137 => absurd c137 (by omega)) (fun c137 => ?_)
                      refine lv_iload hx hb dL_shifts_140 (lv_at hl 0 rfl) ?_
                      refine lv_iload_n hx hb dL_shifts_142 rfl (lv_at hl 3 rfl) ?_
                      refine b_icmp_ne hx hb (nI_toIntI (by omega)) (nI_toIntI (by omega)) dL_shifts_143 (tgt := 159) (by decide) (fun c143 => absurd c143 (by have := hg4 hk0; omega)) (fun c143 => ?_)
                      refine lv_iload hx hb dL_shifts_146 (lv_at hl 6 rfl) ?_
                      refine lv_iload hx hb dL_shifts_148 (lv_at hl 5 rfl) ?_
                      refine b_icmp_ne hx hb (nI_toIntI (by omega)) (nI_toIntI (by omega)) dL_shifts_150 (tgt := 161) (by decide) (fun c150 => ?_) (fun c150 => absurd c150 (by omega))
                      exact h161
                  · by_cases hkn2 : k = n
                    · refine lv_iload hx hb dL_shifts_135 (lv_at hl 6 rfl) ?_
                      refine b_if_ne hx hb (nI_toIntI (by omega)) dL_shifts_137 (tgt := 146) (by decide) (fun c137 => ?_) (fun c137 => absurd c137 (by omega))
                      refine lv_iload hx hb dL_shifts_146 (lv_at hl 6 rfl) ?_
                      refine lv_iload hx hb dL_shifts_148 (lv_at hl 5 rfl) ?_
                      refine b_icmp_ne hx hb (nI_toIntI (by omega)) (nI_toIntI (by omega)) dL_shifts_150 (tgt := 161) (by decide) (fun c150 => absurd c150 (by omega)) (fun c150 => ?_)
                      refine lv_iload hx hb dL_shifts_153 (lv_at hl 0 rfl) ?_
                      refine lv_iload_n hx hb dL_shifts_155 rfl (lv_at hl 4 rfl) ?_
                      refine b_icmp_eq hx hb (nI_toIntI (by omega)) (nI_toIntI (by omega)) dL_shifts_156 (tgt := 161) (by decide) (fun c156 => ?_) (fun c156 => absurd c156 (by have := hg5 hkn2; omega))
                      exact h161
                    · refine lv_iload hx hb dL_shifts_135 (lv_at hl 6 rfl) ?_
                      refine b_if_ne hx hb (nI_toIntI (by omega)) dL_shifts_137 (tgt := 146) (by decide) (fun c137 => ?_) (fun c137 => absurd c137 (by omega))
                      refine lv_iload hx hb dL_shifts_146 (lv_at hl 6 rfl) ?_
                      refine lv_iload hx hb dL_shifts_148 (lv_at hl 5 rfl) ?_
                      refine b_icmp_ne hx hb (nI_toIntI (by omega)) (nI_toIntI (by omega)) dL_shifts_150 (tgt := 161) (by decide) (fun c150 => ?_) (fun c150 => absurd c150 (by omega))
                      exact h161
                refine lv_iload hx hb dL_shifts_161 (lv_at hl 6 rfl) ?_
                refine b_if_ne hx hb (nI_toIntI (by omega)) dL_shifts_163 (tgt := 169) (by decide) (fun c163 => ?_) (fun c163 => ?_)
                · refine lv_aload_n hx hb dL_shifts_169 rfl (lv_at hl 1 rfl) ?_
                  refine lv_aload_n hx hb dL_shifts_170 rfl (lv_at hl 1 rfl) ?_
                  refine lv_iload_n hx hb dL_shifts_171 rfl (lv_at hl 3 rfl) ?_
                  refine lv_iload_n hx hb dL_shifts_172 rfl (lv_at hl 4 rfl) ?_
                  refine lv_iload hx hb dL_shifts_173 (lv_at hl 6 rfl) ?_
                  refine lv_iconst (v := nI 1) hx hb dL_shifts_175 (by decide) ?_
                  refine lv_isub hx hb dL_shifts_176 ?_
                  refine t_i (pk_sub (by omega)) ?_
                  obtain ⟨g1, hh1, hh2, hh3⟩ := hg6 (by omega)
                  have hrs : rs_shift v.1 (nI a) (nI b) (nI (k - 1)) = (0, ((g1 : Nat) : Int)) := hh2
                  have hFc := freeAll hD hS hA
                  refine vx_calli (vx_runV (As := [.int (nI a), .int (nI b), .int (nI (k - 1))]) (rest := [.ref (ad 0)]) ⟨hx, hb, hml, hown, hts⟩ (c_X6_shift l hlf D K ad q q1 q2 g r r2 v i9 (nI a) (nI b) (nI (k - 1)) H.size hI hJ) (cwV 3 hts (TB_V k_m_L_127 k_im_X6_shift k_se_X6_shift k_in_X6 k_co_X6_shift (fun _ h => h)) rfl rfl rfl (by decide +kernel) ⟨Nat.le_of_ble_eq_true rfl, Nat.le_of_ble_eq_true rfl⟩) ⟨cPT_blind, va_recv hK hP (ci := 6) (q0 := 0) rfl rfl, cPT_of hP hK hD hTX hS hFc⟩ rfl rfl hl.1 rfl (lv_room (Nat.le_of_ble_eq_true rfl)) dL_shifts_177 ⟨(show (((5 + a * 2352 + b * 392 + k * 6) + 1) + 1) + 1 ≤ 150529 by omega), (show (((30 + a * 14112 + b * 2352 + k * 36) + 6) + 6) + 6 ≤ 903174 by omega)⟩) hS (fun q _ h => hFc q h) hFc (fun q _ h => hFc q h) (fun E ce q9 u9 t9 H locs ht9 hal hpx hB hz1 hk1 hS hce hcv hcl => ?_) (fun rz u9 t9 H locs ht9 hal hw hB hz1 hk1 hS => ?_)
                  · exact absurd hB.1.1 (by rw [hrs]; exact Nat.lt_irrefl 0)
                  obtain ⟨v9, i9⟩ := u9
                  obtain ⟨hP1, hK1, hD1⟩ := hB
                  rw [ht9] at hP1
                  have hP2 := hP1
                  have hD2 := hD1.weaken (fun _ _ _ h => hFc _ h)
                  obtain ⟨hv9, hJ9, hr9⟩ := hw
                  have hv9 : v9 = v := hv9
                  dsimp only at hJ9 hr9
                  rw [hv9] at hP2 hD2 hJ9
                  dsimp only at hP2 hD2
                  have hJ : II v.1 i9 := hJ9
                  have hP : va_P D vwCl (WX K ad q q1 q2 g r r2 v i9) H := hP2
                  have hD : va_D A (WX K ad q q1 q2 g r r2 v i9) := hD2
                  have hz : rz.toInt = ((g1 : Nat) : Int) := (Prod.mk.inj (hr9.symm.trans hrs)).2
                  refine t_i ((i32_eq rz (nI g1)).mpr (by rw [nI_toIntI (by omega)]; exact hz)) ?_
                  have hrs : rs_gear v.1 (nI g1) = (0, ((gF v.1 g1 : Nat) : Int)) := (rs_gear_at hh1)
                  have hFc := freeAll hD hS hA
                  refine vx_calli (vx_runV (As := [.int (nI g1)]) (rest := []) ⟨hx, hb, hml, hown, hts⟩ (c_X6_gear l hlf D K ad q q1 q2 g r r2 v i9 (nI g1) H.size hI hJ) (cwV 1 hts (TB_V k_m_L_58 k_im_X6_gear k_se_X6_gear k_in_X6 k_co_X6_gear (fun _ h => h)) rfl rfl rfl (by decide +kernel) ⟨Nat.le_of_ble_eq_true rfl, Nat.le_of_ble_eq_true rfl⟩) ⟨cPT_blind, va_recv hK hP (ci := 6) (q0 := 0) rfl rfl, cPT_of hP hK hD hTX hS hFc⟩ rfl rfl hl.1 rfl (lv_room (Nat.le_of_ble_eq_true rfl)) dL_shifts_180 ⟨(show ((((5 + a * 2352 + b * 392 + k * 6) + 1) + 1) + 1) + 1 ≤ 150529 by omega), (show ((((30 + a * 14112 + b * 2352 + k * 36) + 6) + 6) + 6) + 6 ≤ 903174 by omega)⟩) hS (fun q _ h => hFc q h) hFc (fun q _ h => hFc q h) (fun E ce q9 u9 t9 H locs ht9 hal hpx hB hz1 hk1 hS hce hcv hcl => ?_) (fun rz u9 t9 H locs ht9 hal hw hB hz1 hk1 hS => ?_)
                  · exact absurd hB.1.1 (by rw [hrs]; exact Nat.lt_irrefl 0)
                  obtain ⟨v9, i9⟩ := u9
                  obtain ⟨hP1, hK1, hD1⟩ := hB
                  rw [ht9] at hP1
                  have hP2 := hP1
                  have hD2 := hD1.weaken (fun _ _ _ h => hFc _ h)
                  obtain ⟨hv9, hJ9, hr9⟩ := hw
                  have hv9 : v9 = v := hv9
                  dsimp only at hJ9 hr9
                  rw [hv9] at hP2 hD2 hJ9
                  dsimp only at hP2 hD2
                  have hJ : II v.1 i9 := hJ9
                  have hP : va_P D vwCl (WX K ad q q1 q2 g r r2 v i9) H := hP2
                  have hD : va_D A (WX K ad q q1 q2 g r r2 v i9) := hD2
                  have hz : rz.toInt = ((gF v.1 g1 : Nat) : Int) := (Prod.mk.inj (hr9.symm.trans hrs)).2
                  have h64g1 := (gF_isG hh1).2
                  refine t_i ((i32_eq rz (nI (gF v.1 g1))).mpr (by rw [nI_toIntI (by omega)]; exact hz)) ?_
                  refine lv_istore (lv' := [(7, .int (nI (gF v.1 g1))), (6, .int (nI gk)), (0, .ref (ad 0)), (1, .int (nI (gN v.1))), (2, .int (nI a)), (3, .int (nI b)), (4, .int (nI n)), (5, .int (nI k))]) hx hb dL_shifts_183 hl (by decide) rfl (fun ls hl => ?_)
                  refine lv_iload hx hb dL_shifts_185 (lv_at hl 0 rfl) ?_
                  refine lv_aload_n hx hb dL_shifts_187 rfl (lv_at hl 2 rfl) ?_
                  refine lv_iload hx hb dL_shifts_188 (lv_at hl 1 rfl) ?_
                  have hrs : rs_gear v.1 (nI gk) = (0, ((gF v.1 gk : Nat) : Int)) := (rs_gear_at hg1)
                  have hFc := freeAll hD hS hA
                  refine vx_calli (vx_runV (As := [.int (nI gk)]) (rest := [.int (nI (gF v.1 g1))]) ⟨hx, hb, hml, hown, hts⟩ (c_X6_gear l hlf D K ad q q1 q2 g r r2 v i9 (nI gk) H.size hI hJ) (cwV 1 hts (TB_V k_m_L_58 k_im_X6_gear k_se_X6_gear k_in_X6 k_co_X6_gear (fun _ h => h)) rfl rfl rfl (by decide +kernel) ⟨Nat.le_of_ble_eq_true rfl, Nat.le_of_ble_eq_true rfl⟩) ⟨cPT_blind, va_recv hK hP (ci := 6) (q0 := 0) rfl rfl, cPT_of hP hK hD hTX hS hFc⟩ rfl rfl hl.1 rfl (lv_room (Nat.le_of_ble_eq_true rfl)) dL_shifts_190 ⟨(show (((((5 + a * 2352 + b * 392 + k * 6) + 1) + 1) + 1) + 1) + 1 ≤ 150529 by omega), (show (((((30 + a * 14112 + b * 2352 + k * 36) + 6) + 6) + 6) + 6) + 6 ≤ 903174 by omega)⟩) hS (fun q _ h => hFc q h) hFc (fun q _ h => hFc q h) (fun E ce q9 u9 t9 H locs ht9 hal hpx hB hz1 hk1 hS hce hcv hcl => ?_) (fun rz u9 t9 H locs ht9 hal hw hB hz1 hk1 hS => ?_)
                  · exact absurd hB.1.1 (by rw [hrs]; exact Nat.lt_irrefl 0)
                  obtain ⟨v9, i9⟩ := u9
                  obtain ⟨hP1, hK1, hD1⟩ := hB
                  rw [ht9] at hP1
                  have hP2 := hP1
                  have hD2 := hD1.weaken (fun _ _ _ h => hFc _ h)
                  obtain ⟨hv9, hJ9, hr9⟩ := hw
                  have hv9 : v9 = v := hv9
                  dsimp only at hJ9 hr9
                  rw [hv9] at hP2 hD2 hJ9
                  dsimp only at hP2 hD2
                  have hJ : II v.1 i9 := hJ9
                  have hP : va_P D vwCl (WX K ad q q1 q2 g r r2 v i9) H := hP2
                  have hD : va_D A (WX K ad q q1 q2 g r r2 v i9) := hD2
                  have hz : rz.toInt = ((gF v.1 gk : Nat) : Int) := (Prod.mk.inj (hr9.symm.trans hrs)).2
                  have h64gk := (gF_isG hg1).2
                  refine t_i ((i32_eq rz (nI (gF v.1 gk))).mpr (by rw [nI_toIntI (by omega)]; exact hz)) ?_
                  refine lv_iconst (v := (-1)) hx hb dL_shifts_193 (by decide) ?_
                  refine lv_ixor hx hb dL_shifts_194 ?_
                  refine lv_iand hx hb dL_shifts_195 ?_
                  refine t_i (w_anN (gF v.1 g1) h64g1 (gF v.1 gk) h64gk) ?_
                  refine va_calli (va_runS (As := [.int (nI (anN (gF v.1 g1) (gF v.1 gk)))]) (rest := []) ⟨hx, hb, hml, hown, hts⟩ (c_L_ones l (anN (gF v.1 g1) (gF v.1 gk)) (anN_lt _ h64g1 _ h64gk)) (va_cwS 1 hts (TB_S k_m_L_131 k_st_L_ones k_in_L k_co_L_ones (fun _ h => h)) rfl rfl rfl (by decide +kernel) ⟨Nat.le_of_ble_eq_true rfl, Nat.le_of_ble_eq_true rfl⟩) ⟨tP_blind, tP_of⟩ rfl rfl hl.1 rfl (lv_room (Nat.le_of_ble_eq_true rfl)) dL_shifts_196 ⟨(show ((((((5 + a * 2352 + b * 392 + k * 6) + 1) + 1) + 1) + 1) + 1) + 0 ≤ 150529 by omega), (show ((((((30 + a * 14112 + b * 2352 + k * 36) + 6) + 6) + 6) + 6) + 6) + 0 ≤ 903174 by omega)⟩) hS (fun q _ h => absurd h id) (fun q h => absurd h id) (fun ro u9 t9 H locs ht9 hvm hw hB hz1 hk1 hS => ?_)
                  have hP := P_same hP hk1
                  refine t_i (hw.trans (congrArg nI hh3.1)) ?_
                  refine lv_iconst (v := nI 1) hx hb dL_shifts_199 (by decide) ?_
                  refine b_icmp_ne hx hb (nI_toIntI (by omega)) (nI_toIntI (by omega)) dL_shifts_200 (tgt := 221) (by decide) (fun c200 => absurd c200 (by omega)) (fun c200 => ?_)
                  refine lv_aload_n hx hb dL_shifts_203 rfl (lv_at hl 2 rfl) ?_
                  refine lv_iload hx hb dL_shifts_204 (lv_at hl 1 rfl) ?_
                  have hrs : rs_gear v.1 (nI gk) = (0, ((gF v.1 gk : Nat) : Int)) := (rs_gear_at hg1)
                  have hFc := freeAll hD hS hA
                  refine vx_calli (vx_runV (As := [.int (nI gk)]) (rest := []) ⟨hx, hb, hml, hown, hts⟩ (c_X6_gear l hlf D K ad q q1 q2 g r r2 v i9 (nI gk) H.size hI hJ) (cwV 1 hts (TB_V k_m_L_58 k_im_X6_gear k_se_X6_gear k_in_X6 k_co_X6_gear (fun _ h => h)) rfl rfl rfl (by decide +kernel) ⟨Nat.le_of_ble_eq_true rfl, Nat.le_of_ble_eq_true rfl⟩) ⟨cPT_blind, va_recv hK hP (ci := 6) (q0 := 0) rfl rfl, cPT_of hP hK hD hTX hS hFc⟩ rfl rfl hl.1 rfl (lv_room (Nat.le_of_ble_eq_true rfl)) dL_shifts_206 ⟨(show (((((((5 + a * 2352 + b * 392 + k * 6) + 1) + 1) + 1) + 1) + 1) + 0) + 1 ≤ 150529 by omega), (show (((((((30 + a * 14112 + b * 2352 + k * 36) + 6) + 6) + 6) + 6) + 6) + 0) + 6 ≤ 903174 by omega)⟩) hS (fun q _ h => hFc q h) hFc (fun q _ h => hFc q h) (fun E ce q9 u9 t9 H locs ht9 hal hpx hB hz1 hk1 hS hce hcv hcl => ?_) (fun rz u9 t9 H locs ht9 hal hw hB hz1 hk1 hS => ?_)
                  · exact absurd hB.1.1 (by rw [hrs]; exact Nat.lt_irrefl 0)
                  obtain ⟨v9, i9⟩ := u9
                  obtain ⟨hP1, hK1, hD1⟩ := hB
                  rw [ht9] at hP1
                  have hP2 := hP1
                  have hD2 := hD1.weaken (fun _ _ _ h => hFc _ h)
                  obtain ⟨hv9, hJ9, hr9⟩ := hw
                  have hv9 : v9 = v := hv9
                  dsimp only at hJ9 hr9
                  rw [hv9] at hP2 hD2 hJ9
                  dsimp only at hP2 hD2
                  have hJ : II v.1 i9 := hJ9
                  have hP : va_P D vwCl (WX K ad q q1 q2 g r r2 v i9) H := hP2
                  have hD : va_D A (WX K ad q q1 q2 g r r2 v i9) := hD2
                  have hz : rz.toInt = ((gF v.1 gk : Nat) : Int) := (Prod.mk.inj (hr9.symm.trans hrs)).2
                  have h64gk := (gF_isG hg1).2
                  refine t_i ((i32_eq rz (nI (gF v.1 gk))).mpr (by rw [nI_toIntI (by omega)]; exact hz)) ?_
                  refine lv_iload hx hb dL_shifts_209 (lv_at hl 0 rfl) ?_
                  refine lv_iconst (v := (-1)) hx hb dL_shifts_211 (by decide) ?_
                  refine lv_ixor hx hb dL_shifts_212 ?_
                  refine lv_iand hx hb dL_shifts_213 ?_
                  refine t_i (w_anN (gF v.1 gk) h64gk (gF v.1 g1) h64g1) ?_
                  refine va_calli (va_runS (As := [.int (nI (anN (gF v.1 gk) (gF v.1 g1)))]) (rest := []) ⟨hx, hb, hml, hown, hts⟩ (c_L_ones l (anN (gF v.1 gk) (gF v.1 g1)) (anN_lt _ h64gk _ h64g1)) (va_cwS 1 hts (TB_S k_m_L_131 k_st_L_ones k_in_L k_co_L_ones (fun _ h => h)) rfl rfl rfl (by decide +kernel) ⟨Nat.le_of_ble_eq_true rfl, Nat.le_of_ble_eq_true rfl⟩) ⟨tP_blind, tP_of⟩ rfl rfl hl.1 rfl (lv_room (Nat.le_of_ble_eq_true rfl)) dL_shifts_214 ⟨(show ((((((((5 + a * 2352 + b * 392 + k * 6) + 1) + 1) + 1) + 1) + 1) + 0) + 1) + 0 ≤ 150529 by omega), (show ((((((((30 + a * 14112 + b * 2352 + k * 36) + 6) + 6) + 6) + 6) + 6) + 0) + 6) + 0 ≤ 903174 by omega)⟩) hS (fun q _ h => absurd h id) (fun q h => absurd h id) (fun ro u9 t9 H locs ht9 hvm hw hB hz1 hk1 hS => ?_)
                  have hP := P_same hP hk1
                  refine t_i (hw.trans (congrArg nI hh3.2)) ?_
                  refine lv_iconst (v := nI 1) hx hb dL_shifts_217 (by decide) ?_
                  refine b_icmp_eq hx hb (nI_toIntI (by omega)) (nI_toIntI (by omega)) dL_shifts_218 (tgt := 223) (by decide) (fun c218 => ?_) (fun c218 => absurd c218 (by omega))
                  refine lv_iinc (v := nI (k + 1)) (lv' := [(5, .int (nI (k + 1))), (7, .int (nI (gF v.1 g1))), (6, .int (nI gk)), (0, .ref (ad 0)), (1, .int (nI (gN v.1))), (2, .int (nI a)), (3, .int (nI b)), (4, .int (nI n))]) hx hb dL_shifts_223 hl (k := 7) rfl (nI_add k 1) (by decide) rfl (fun ls hl => ?_)
                  refine lv_goto (tgt := 98) hx hb dL_shifts_226 (by decide) ?_
                  refine W.widen (k := 5 + a * 2352 + b * 392 + (k + 1) * 6) (n := 30 + a * 14112 + b * 2352 + (k + 1) * 36) (by omega) (by omega) ?_
                  exact ih98 i9 (k + 1) _ _ _ (by omega) hJ (by omega) hP hD hS (lv_sub hl [3, 4, 5, 6, 7, 0] rfl)
                refine lv_goto (tgt := 223) hx hb dL_shifts_166 (by decide) ?_
                refine lv_iinc (v := nI (k + 1)) (lv' := [(5, .int (nI (k + 1))), (6, .int (nI gk)), (0, .ref (ad 0)), (1, .int (nI (gN v.1))), (2, .int (nI a)), (3, .int (nI b)), (4, .int (nI n))]) hx hb dL_shifts_223 hl (k := 6) rfl (nI_add k 1) (by decide) rfl (fun ls hl => ?_)
                refine lv_goto (tgt := 98) hx hb dL_shifts_226 (by decide) ?_
                refine W.widen (k := 5 + a * 2352 + b * 392 + (k + 1) * 6) (n := 30 + a * 14112 + b * 2352 + (k + 1) * 36) (by omega) (by omega) ?_
                exact ih98 i9 (k + 1) _ _ _ (by omega) hJ (by omega) hP hD hS (lv_sub hl [2, 3, 4, 5, 6, 0] rfl)
            exact L98 _ i9 0 _ _ _ (Nat.lt_succ_self _) hJ (Nat.zero_le _) hP hD hS (lv_sub hl [2, 3, 4, 5, 1, 0] rfl)
      exact L15 _ i 0 _ _ _ (Nat.lt_succ_self _) hJ (Nat.zero_le _) hP hD hS (lv_sub hl [1, 2, 3, 0] rfl)
  exact L8 _ i9 0 _ _ _ (Nat.lt_succ_self _) hJ (Nat.zero_le _) hP hD hS (lv_sub hl [2, 1, 0] rfl)
