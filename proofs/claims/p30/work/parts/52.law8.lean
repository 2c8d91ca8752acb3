/-! the law: what is saved and restored -/
section SV
theorem EqD_refl (d : Nat → Nat → Int32) : EqD d d := ⟨fun _ _ _ _ => rfl, fun _ _ _ _ _ => rfl, rfl, rfl, rfl⟩
theorem EqD_trans {a b c : Nat → Nat → Int32} (h : EqD a b) (k : EqD b c) : EqD a c := ⟨fun x j p q => (h.1 x j p q).trans (k.1 x j p q), fun x j p q r => (h.2.1 x j p q r).trans (k.2.1 x j p q r), h.2.2.1.trans k.2.2.1, h.2.2.2.1.trans k.2.2.2.1, h.2.2.2.2.trans k.2.2.2.2⟩
theorem spM_EqD {u o : Nat → Nat → Int32} (h : DV o) (he : EqD u o) : spM u = spM o := by
  obtain ⟨e1, e2, e3, e4, e5⟩ := he
  have hn := DV_n h
  have hm := DV_m h
  have d0 : dn u 8 0 = dn o 8 0 := dn_keep e3
  have d1 : dn u 8 1 = dn o 8 1 := dn_keep e4
  funext g i j
  unfold spM
  rw [d0, d1]
  by_cases q0 : i = 0
  · rw [if_pos q0, if_pos q0]
  · rw [if_neg q0, if_neg q0]
    by_cases q1 : i < 4
    · rw [if_pos q1, if_pos q1]
      by_cases q2 : i - 1 < dn o 8 0
      · rw [if_pos q2, if_pos q2]
        unfold setc
        rw [dn_keep (e1 0 (i - 1) (by decide) (by omega)), dn_keep (e1 1 (i - 1) (by decide) (by omega)), dn_keep (e1 2 (i - 1) (by decide) (by omega)), dn_keep (e1 3 (i - 1) (by decide) (by omega)), dn_keep (e1 4 (i - 1) (by decide) (by omega))]
      · rw [if_neg q2, if_neg q2]
    · rw [if_neg q1, if_neg q1]
      by_cases q2 : i - 4 < dn o 8 1 ∧ g.testBit (i - 4) = true
      · rw [if_pos q2, if_pos q2]
        unfold elc
        rw [dn_keep (e2 5 (i - 4) (by decide) (by decide) (by omega)), dn_keep (e2 6 (i - 4) (by decide) (by decide) (by omega)), e2 6 (i - 4) (by decide) (by decide) (by omega)]
      · rw [if_neg q2, if_neg q2]
theorem stM_of {u o : Nat → Nat → Int32} (h : spM u = spM o) : stM u = stM o := funext fun g => by
  unfold stM
  show stC (HS (spM u g) 10) = stC (HS (spM o g) 10)
  rw [h]
theorem w_x1 : ∀ t, t < 64 → nI t ^^^ nI 1 = nI (t ^^^ 1) := by decide +kernel
theorem x1_lt : ∀ m, m < 7 → 1 ≤ m → ∀ t, t < 64 → t < 2 ^ m → t ^^^ 1 < 2 ^ m := by decide +kernel
theorem rs_save_at {k : Nat} (h : k ≤ 1) : rs_save (nI k) = (0, 0) := by unfold rs_save; rw [cI_f (fun z => z (prt_at h))]
theorem nI10 : ¬ nI 1 = nI 0 := by decide
theorem rs_restore0 {v : CV} (h : v.2.2.2.1 = nI 1) : rs_restore v (nI 0) = (0, 0) := by
  unfold rs_restore
  rw [cI_f (fun z => z (prt_at (by decide))), cI_f (fun z => by
    rcases z with z | z
    · exact nI10 (h.symm.trans z.2)
    · exact z.1 (by decide))]
theorem rs_restore1 {v : CV} (h : v.2.2.2.2.1 = nI 1) : rs_restore v (nI 1) = (0, 0) := by
  unfold rs_restore
  rw [cI_f (fun z => z (prt_at (by decide))), cI_f (fun z => by
    rcases z with z | z
    · exact absurd z.1 (by decide)
    · exact nI10 (h.symm.trans z.2))]
theorem rs_cap {d : Nat → Nat → Int32} {k c : Nat} (hk : k < dn d 8 1) (h6 : k < 6) (h1 : 1 ≤ c) (h2 : c ≤ 10000) : rs_setCapacity d (nI k) (nI c) = (0, (d 7 k).toInt) := by
  have hc : (nI c).toInt = (c : Int) := nI_toIntI (by omega)
  unfold rs_setCapacity
  rw [cI_f (fun z => z (elm_at hk)), cI_f (by omega), nI_tt (by omega)]
theorem shf_at {k : Nat} (h : k < 6) : shf (nI k) := ⟨k, h, rfl⟩
theorem rs_set_at {d : Nat → Nat → Int32} {a b c s r : Nat} (ha : a < 6) (hb : b < 6) (hc : c < 6) (h1 : a ≠ b) (h2 : a ≠ c) (h3 : b ≠ c) (h4 : 10 ≤ s) (h5 : s ≤ 40) (h6 : s < r) (h7 : r ≤ 100) (h8 : dn d 8 0 < 3) : rs_addSet d (nI a) (nI b) (nI c) (nI s) (nI r) = (0, ((dn d 8 0 + 1 : Nat) : Int)) := by
  have e1 : (nI s).toInt = (s : Int) := nI_toIntI (by omega)
  have e2 : (nI r).toInt = (r : Int) := nI_toIntI (by omega)
  unfold rs_addSet
  rw [cI_f (fun z => z ⟨shf_at ha, shf_at hb, shf_at hc⟩), cI_f (fun z => by
    rcases z with z | z | z
    · exact h1 ((nI_eq (by omega) (by omega)).mp z)
    · exact h2 ((nI_eq (by omega) (by omega)).mp z)
    · exact h3 ((nI_eq (by omega) (by omega)).mp z)), cI_f (by omega), cI_f (by omega), cI_f (by omega), Int.natCast_add]
  rfl
theorem rs_brake_at {d : Nat → Nat → Int32} {a : Nat} (ha : a < 6) (h8 : dn d 8 1 < 6) : rs_addBrake d (nI a) = (0, ((dn d 8 1 : Nat) : Int)) := by
  unfold rs_addBrake
  rw [cI_f (fun z => z (shf_at ha)), cI_f (by omega)]
theorem rs_clutch_at {d : Nat → Nat → Int32} {a b : Nat} (ha : a < 6) (hb : b < 6) (h1 : a ≠ b) (h8 : dn d 8 1 < 6) : rs_addClutch d (nI a) (nI b) = (0, ((dn d 8 1 : Nat) : Int)) := by
  unfold rs_addClutch
  rw [cI_f (fun z => z ⟨shf_at ha, shf_at hb⟩), cI_f (fun z => h1 ((nI_eq (by omega) (by omega)).mp z)), cI_f (by omega)]
end SV
set_option maxHeartbeats 4000000 in
set_option maxRecDepth 100000 in
theorem c_L_saved (l : Launch) (hlf : l.stackTraces = false) (D : va_G) (K : Nat → ClassId) (ad q q1 q2 g r r2 : Nat → Nat) (v : CV) (i : CI) (me : Nat) (sz : Nat) (hI : IV v) (hJ : II v.1 i) (hme : me = dn v.1 8 1) (hme1 : 1 ≤ me) (hf1 : v.2.2.2.2.1 = nI 1) (hsp : spM v.2.2.1 = spM v.1) (hsm : dn v.2.2.1 8 1 = dn v.1 8 1) (hs0 : v.2.2.1 8 2 = nI 0) (hc9 : ¬ (v.1 7 0).toInt = 9999) : Met l yL_saved (.code yL_saved cL_saved 4 (some .boolean) :: TB) ({ frames := 9, cells := 14, slots := 84, locals := 191 } : Room) (va_Pc [.ref (ad 0), .int (nI me)] (cPM D K (WX K ad q q1 q2 g r r2 v i) sz)) (va_Qi (fun (z : Int32) (u : CV × CI) => z = nI 1) (fun (u : CV × CI) t => cB D K (va_A (WX K ad q q1 q2 g r r2 v i) sz) (WX K ad q q1 q2 g r r2 u.1 u.2) t) (va_A (WX K ad q q1 q2 g r r2 v i) sz)) 14 84 (va_A (WX K ad q q1 q2 g r r2 v i) sz) := by
  refine Met.ofW (cc := cL_saved) (maxL := 4) (ret := (some .boolean)) (by decide) rfl ?_
  intro p e s m args below meth c s₁ B hml hv
  obtain ⟨rfl, ⟨hsz, hP, hK, hD0⟩, hTX, hCL⟩ := hv
  have hx := B.exec
  have hb := B.bytes
  have hr := B.returns
  have hts := hts_tl (atoms_spec (ws := (.code yL_saved cL_saved 4 (some .boolean) :: TB)) B.pre)
  have hown : s.vm.findClass RL = some m.cls := findClass_of_methodNamed B.named
  have hlocks := B.notSynchronized
  subst hsz
  have hD := hD0.self (sz := s.heap.size)
  generalize hAe : (va_A (WX K ad q q1 q2 g r r2 v i) s.heap.size) = A at hD hTX ⊢
  have hA : ∀ q : Nat, s.heap.size ≤ q → A q := fun q h => by rw [← hAe]; exact Or.inr h
  have hS : va_S A s.heap s.heap [] := va_S.rf
  clear hAe hD0
  have hP : va_P D vwCl (WX K ad q q1 q2 g r r2 v i) s.heap := hP
  have hD : va_D A (WX K ad q q1 q2 g r r2 v i) := hD
  have hl := lv_entry ([.ref (ad 0), .int (nI me)]) (n := 4) (Nat.le_of_ble_eq_true rfl)
  rw [lg_entry_eq]
  generalize (lg_sl ([.ref (ad 0), .int (nI me)]) ++ List.replicate (4 - (lg_sl ([.ref (ad 0), .int (nI me)])).length) Slot.unset).toArray = ls at hl ⊢
  have hl : lv_has ls 4 [(0, .ref (ad 0)), (1, .int (nI me))] := hl
  have hm6 := DV_m hI.1
  obtain ⟨hgl, hge2, hp64, hge64⟩ := DV_g hI.1
  have hg64 := gN_le v.1
  have hI0 := hI
  have hn3 := DV_n hI.1
  have hx1 := x1_lt (dn v.1 8 1) (by omega) (by omega) (dn v.1 8 2) hge64 hgl
  have hx64 : dn v.1 8 2 ^^^ 1 < 64 := by omega
  refine lv_aload_n hx hb dL_saved_0 rfl (lv_at hl 0 rfl) ?_
  have hFc := freeAll hD hS hA
  refine va_calli (va_runV (As := []) (rest := []) ⟨hx, hb, hml, hown, hts⟩ (c_X6_engaged l D K ad q q1 q2 g r r2 v i  s.heap.size hI hJ) (cwV 0 hts (TB_V k_m_L_51 k_im_X6_engaged k_se_X6_engaged k_in_X6 k_co_X6_engaged (fun _ h => h)) rfl rfl rfl (by decide +kernel) ⟨Nat.le_of_ble_eq_true rfl, Nat.le_of_ble_eq_true rfl⟩) ⟨cP_blind, va_recv hK hP (ci := 6) (q0 := 0) rfl rfl, cP_of hP hK hD⟩ rfl rfl hl.1 rfl (lv_room (Nat.le_of_ble_eq_true rfl)) dL_saved_1 ⟨(Nat.le_of_ble_eq_true rfl), (Nat.le_of_ble_eq_true rfl)⟩) hS (fun q _ h => hFc q h) hFc (fun rz u9 t9 H locs ht9 hal hw hB hz1 hk1 hS => ?_)
  obtain ⟨v9, i9⟩ := u9
  obtain ⟨hP1, hK1, hD1⟩ := hB
  rw [ht9] at hP1
  have hP2 := hP1
  have hD2 := hD1.weaken (fun _ _ _ h => hFc _ h)
  obtain ⟨hv9, hJ9, hr9⟩ := hw
  have hv9 : v9 = v := hv9
  dsimp only at hJ9 hr9
  rw [hv9] at hP2 hD2 hJ9
  dsimp only at hP2 hD2
  have hJ : II v.1 i9 := hJ9
  have hP : va_P D vwCl (WX K ad q q1 q2 g r r2 v i9) H := hP2
  have hD : va_D A (WX K ad q q1 q2 g r r2 v i9) := hD2
  refine t_i (hr9.trans hge2) ?_
  refine lv_istore_n (lv' := [(2, .int (nI (dn v.1 8 2))), (0, .ref (ad 0)), (1, .int (nI me))]) hx hb dL_saved_4 rfl hl (by decide) rfl (fun ls hl => ?_)
  refine lv_aload_n hx hb dL_saved_5 rfl (lv_at hl 1 rfl) ?_
  refine lv_iconst (v := nI 2) hx hb dL_saved_6 (by decide) ?_
  have hrs : rs_count v.1 (nI 2) = (0, ((gN v.1 : Nat) : Int)) := (rs_count2 v.1)
  have hFc := freeAll hD hS hA
  refine vx_calli (vx_runV (As := [.int (nI 2)]) (rest := []) ⟨hx, hb, hml, hown, hts⟩ (c_X6_count l hlf D K ad q q1 q2 g r r2 v i9 (nI 2) H.size hI hJ) (cwV 1 hts (TB_V k_m_L_55 k_im_X6_count k_se_X6_count k_in_X6 k_co_X6_count (fun _ h => h)) rfl rfl rfl (by decide +kernel) ⟨Nat.le_of_ble_eq_true rfl, Nat.le_of_ble_eq_true rfl⟩) ⟨cPT_blind, va_recv hK hP (ci := 6) (q0 := 0) rfl rfl, cPT_of hP hK hD hTX hS hFc⟩ rfl rfl hl.1 rfl (lv_room (Nat.le_of_ble_eq_true rfl)) dL_saved_7 ⟨(Nat.le_of_ble_eq_true rfl), (Nat.le_of_ble_eq_true rfl)⟩) hS (fun q _ h => hFc q h) hFc (fun q _ h => hFc q h) (fun E ce q9 u9 t9 H locs ht9 hal hpx hB hz1 hk1 hS hce hcv hcl => ?_) (fun rz u9 t9 H locs ht9 hal hw hB hz1 hk1 hS => ?_)
  · exact absurd hB.1.1 (by rw [hrs]; exact Nat.lt_irrefl 0)
  obtain ⟨v9, i9⟩ := u9
  obtain ⟨hP1, hK1, hD1⟩ := hB
  rw [ht9] at hP1
  have hP2 := hP1
  have hD2 := hD1.weaken (fun _ _ _ h => hFc _ h)
  obtain ⟨hv9, hJ9, hr9⟩ := hw
  have hv9 : v9 = v := hv9
  dsimp only at hJ9 hr9
  rw [hv9] at hP2 hD2 hJ9
  dsimp only at hP2 hD2
  have hJ : II v.1 i9 := hJ9
  have hP : va_P D vwCl (WX K ad q q1 q2 g r r2 v i9) H := hP2
  have hD : va_D A (WX K ad q q1 q2 g r r2 v i9) := hD2
  have hz : rz.toInt = ((gN v.1 : Nat) : Int) := (Prod.mk.inj (hr9.symm.trans hrs)).2
  refine t_i ((i32_eq rz (nI (gN v.1))).mpr (by rw [nI_toIntI (by omega)]; exact hz)) ?_
  refine lv_istore_n (lv' := [(3, .int (nI (gN v.1))), (2, .int (nI (dn v.1 8 2))), (0, .ref (ad 0)), (1, .int (nI me))]) hx hb dL_saved_10 rfl hl (by decide) rfl (fun ls hl => ?_)
  refine lv_aload_n hx hb dL_saved_11 rfl (lv_at hl 2 rfl) ?_
  refine lv_iconst (v := nI 0) hx hb dL_saved_12 (by decide) ?_
  have hrs : rs_save (nI 0) = (0, 0) := (rs_save_at (by decide))
  have hFc := freeAll hD hS hA
  refine vx_callv (vx_runV (As := [.int (nI 0)]) (rest := []) ⟨hx, hb, hml, hown, hts⟩ (c_X6_save l hlf D K ad q q1 q2 g r r2 v i9 (nI 0) H.size hI hJ) (cwV 1 hts (TB_V k_m_L_40 k_im_X6_save k_se_X6_save k_in_X6 k_co_X6_save (fun _ h => h)) rfl rfl rfl (by decide +kernel) ⟨Nat.le_of_ble_eq_true rfl, Nat.le_of_ble_eq_true rfl⟩) ⟨cPT_blind, va_recv hK hP (ci := 6) (q0 := 0) rfl rfl, cPT_of hP hK hD hTX hS hFc⟩ rfl rfl hl.1 rfl (lv_room (Nat.le_of_ble_eq_true rfl)) dL_saved_13 ⟨(Nat.le_of_ble_eq_true rfl), (Nat.le_of_ble_eq_true rfl)⟩) hS (fun q _ h => hFc q h) hFc (fun q _ h => hFc q h) (fun E ce q9 u9 t9 H locs ht9 hal hpx hB hz1 hk1 hS hce hcv hcl => ?_) (fun u9 t9 H locs ht9 hal hw hB hz1 hk1 hS => ?_)
  · exact absurd hB.1.1 (by rw [hrs]; exact Nat.lt_irrefl 0)
  obtain ⟨vx1, i9⟩ := u9
  obtain ⟨hP1, hK1, hD1⟩ := hB
  rw [ht9] at hP1
  have hP2 := hP1
  have hD2 := hD1.weaken (fun _ _ _ h => hFc _ h)
  dsimp only at hw
  obtain ⟨hsv, hI9, hJ9, hr9⟩ := hw
  obtain ⟨hv1, hv2, hv3⟩ := hsv
  obtain ⟨hs1, hs2, hs3, hs4⟩ : EqD vx1.2.1 v.1 ∧ vx1.2.2.1 = v.2.2.1 ∧ vx1.2.2.2.1 = nI 1 ∧ vx1.2.2.2.2.1 = nI 1 := by
    rcases hv3 with ⟨-, a, b9, c9, d9⟩ | ⟨a, -⟩
    · exact ⟨a, b9, c9, d9.trans hf1⟩
    · exact absurd (by decide) a
  have hI := hI9
  have hJ := hJ9
  have hP : va_P D vwCl (WX K ad q q1 q2 g r r2 vx1 i9) H := hP2
  have hD : va_D A (WX K ad q q1 q2 g r r2 vx1 i9) := hD2
  refine lv_aload_n hx hb dL_saved_16 rfl (lv_at hl 2 rfl) ?_
  refine lv_iload_n hx hb dL_saved_17 rfl (lv_at hl 1 rfl) ?_
  refine lv_iconst (v := nI 1) hx hb dL_saved_18 (by decide) ?_
  refine lv_ixor hx hb dL_saved_19 ?_
  refine t_i (w_x1 _ hge64) ?_
  have hE0 := EG_refl hI
  have hdn : dn vx1.1 8 1 = dn v.1 8 1 := by rw [hv1]
  have hx1b : dn v.1 8 2 ^^^ 1 < 2 ^ dn vx1.1 8 1 := by rw [hdn]; exact hx1
  have hrs : rs_select vx1.1 (nI (dn v.1 8 2 ^^^ 1)) = (0, ((dn vx1.1 8 2 : Nat) : Int)) := (rsE_select hI hE0 hx1b)
  have hFc := freeAll hD hS hA
  refine vx_calli (vx_runV (As := [.int (nI (dn v.1 8 2 ^^^ 1))]) (rest := []) ⟨hx, hb, hml, hown, hts⟩ (c_X6_select l hlf D K ad q q1 q2 g r r2 vx1 i9 (nI (dn v.1 8 2 ^^^ 1)) H.size hI hJ) (cwV 1 hts (TB_V k_m_L_61 k_im_X6_select k_se_X6_select k_in_X6 k_co_X6_select (fun _ h => h)) rfl rfl rfl (by decide +kernel) ⟨Nat.le_of_ble_eq_true rfl, Nat.le_of_ble_eq_true rfl⟩) ⟨cPT_blind, va_recv hK hP (ci := 6) (q0 := 0) rfl rfl, cPT_of hP hK hD hTX hS hFc⟩ rfl rfl hl.1 rfl (lv_room (Nat.le_of_ble_eq_true rfl)) dL_saved_20 ⟨(Nat.le_of_ble_eq_true rfl), (Nat.le_of_ble_eq_true rfl)⟩) hS (fun q _ h => hFc q h) hFc (fun q _ h => hFc q h) (fun E ce q9 u9 t9 H locs ht9 hal hpx hB hz1 hk1 hS hce hcv hcl => ?_) (fun rz u9 t9 H locs ht9 hal hw hB hz1 hk1 hS => ?_)
  · exact absurd hB.1.1 (by rw [hrs]; exact Nat.lt_irrefl 0)
  obtain ⟨vx2, i9⟩ := u9
  obtain ⟨hP1, hK1, hD1⟩ := hB
  rw [ht9] at hP1
  have hP2 := hP1
  have hD2 := hD1.weaken (fun _ _ _ h => hFc _ h)
  dsimp only at hw
  obtain ⟨⟨z1, hch⟩, hI9, hJ9, hr9⟩ := hw
  have hE9 := EG_chg hI hE0 hx1b hch
  obtain ⟨-, hE1, hE2, hE3, hE4, hE5⟩ := hE9
  have hs1 : EqD vx2.2.1 v.1 := by rw [hE2]; exact hs1
  have hs2 : vx2.2.2.1 = v.2.2.1 := hE3.trans hs2
  have hs3 : vx2.2.2.2.1 = nI 1 := hE4.trans hs3
  have hs4 : vx2.2.2.2.2.1 = nI 1 := hE5.trans hs4
  have hd1 : dn vx2.1 8 1 = dn v.1 8 1 := by rw [hE1]; exact hdn
  have hd0 : dn vx2.1 8 0 = dn v.1 8 0 := by rw [hE1]; show dn vx1.1 8 0 = _; rw [hv1]
  have hI := hI9
  have hJ := hJ9
  have hP : va_P D vwCl (WX K ad q q1 q2 g r r2 vx2 i9) H := hP2
  have hD : va_D A (WX K ad q q1 q2 g r r2 vx2 i9) := hD2
  refine lv_pop hx hb dL_saved_23 rfl ?_
  refine lv_aload_n hx hb dL_saved_24 rfl (lv_at hl 2 rfl) ?_
  refine lv_iconst (v := nI 0) hx hb dL_saved_25 (by decide) ?_
  refine lv_sipush (v := nI 9999) hx hb dL_saved_26 (by decide) ?_
  have hrs : rs_setCapacity vx2.1 (nI 0) (nI 9999) = (0, (vx2.1 7 0).toInt) := (rs_cap (by omega) (by decide) (by decide) (by decide))
  have hFc := freeAll hD hS hA
  refine vx_calli (vx_runV (As := [.int (nI 0), .int (nI 9999)]) (rest := []) ⟨hx, hb, hml, hown, hts⟩ (c_X6_setCapacity l hlf D K ad q q1 q2 g r r2 vx2 i9 (nI 0) (nI 9999) H.size hI hJ) (cwV 2 hts (TB_V k_m_L_37 k_im_X6_setCapacity k_se_X6_setCapacity k_in_X6 k_co_X6_setCapacity (fun _ h => h)) rfl rfl rfl (by decide +kernel) ⟨Nat.le_of_ble_eq_true rfl, Nat.le_of_ble_eq_true rfl⟩) ⟨cPT_blind, va_recv hK hP (ci := 6) (q0 := 0) rfl rfl, cPT_of hP hK hD hTX hS hFc⟩ rfl rfl hl.1 rfl (lv_room (Nat.le_of_ble_eq_true rfl)) dL_saved_29 ⟨(Nat.le_of_ble_eq_true rfl), (Nat.le_of_ble_eq_true rfl)⟩) hS (fun q _ h => hFc q h) hFc (fun q _ h => hFc q h) (fun E ce q9 u9 t9 H locs ht9 hal hpx hB hz1 hk1 hS hce hcv hcl => ?_) (fun rz u9 t9 H locs ht9 hal hw hB hz1 hk1 hS => ?_)
  · exact absurd hB.1.1 (by rw [hrs]; exact Nat.lt_irrefl 0)
  obtain ⟨vx3, i9⟩ := u9
  obtain ⟨hP1, hK1, hD1⟩ := hB
  rw [ht9] at hP1
  have hP2 := hP1
  have hD2 := hD1.weaken (fun _ _ _ h => hFc _ h)
  dsimp only at hw
  obtain ⟨he9, hI9, hJ9, hr9⟩ := hw
  have hs1 : EqD vx3.2.1 v.1 := by rw [he9]; exact hs1
  have hs2 : vx3.2.2.1 = v.2.2.1 := by rw [he9]; exact hs2
  have hs3 : vx3.2.2.2.1 = nI 1 := by rw [he9]; exact hs3
  have hs4 : vx3.2.2.2.2.1 = nI 1 := by rw [he9]; exact hs4
  have hdn1 : dn vx3.1 8 1 = dn v.1 8 1 := by rw [he9]; exact hd1
  have hdn0 : dn vx3.1 8 0 = dn v.1 8 0 := by rw [he9]; exact hd0
  have hI := hI9
  have hJ := hJ9
  have hP : va_P D vwCl (WX K ad q q1 q2 g r r2 vx3 i9) H := hP2
  have hD : va_D A (WX K ad q q1 q2 g r r2 vx3 i9) := hD2
  refine lv_pop hx hb dL_saved_32 rfl ?_
  suffices h66 : ∀ (vw : CV) (i : CI) (H : Heap) (locs : List Loc), IV vw → II vw.1 i → EqD vw.2.1 v.1 → vw.2.2.1 = v.2.2.1 → vw.2.2.2.1 = nI 1 → vw.2.2.2.2.1 = nI 1 → va_P D vwCl (WX K ad q q1 q2 g r r2 vw i) H → va_D A (WX K ad q q1 q2 g r r2 vw i) → va_S A s.heap H locs → W p l e ({ frames := 9, cells := 14, slots := 84, locals := 191 } : Room) s m [.ref (ad 0), .int (nI me)].toArray below meth c H locs 7 42 (MQ below (va_Qi (fun (z : Int32) (u : CV × CI) => z = nI 1) (fun (u : CV × CI) t => cB D K A (WX K ad q q1 q2 g r r2 u.1 u.2) t) A) [.ref (ad 0), .int (nI me)].toArray s 14 84 A) (F0 m 66 ls []) by
    refine lv_aload_n hx hb dL_saved_33 rfl (lv_at hl 2 rfl) ?_
    refine lv_iconst (v := nI 0) hx hb dL_saved_34 (by decide) ?_
    have hrs : rs_count vx3.1 (nI 0) = (0, ((dn v.1 8 0 : Nat) : Int)) := (rs_count0 hdn0)
    have hFc := freeAll hD hS hA
    refine vx_calli (vx_runV (As := [.int (nI 0)]) (rest := []) ⟨hx, hb, hml, hown, hts⟩ (c_X6_count l hlf D K ad q q1 q2 g r r2 vx3 i9 (nI 0) H.size hI hJ) (cwV 1 hts (TB_V k_m_L_55 k_im_X6_count k_se_X6_count k_in_X6 k_co_X6_count (fun _ h => h)) rfl rfl rfl (by decide +kernel) ⟨Nat.le_of_ble_eq_true rfl, Nat.le_of_ble_eq_true rfl⟩) ⟨cPT_blind, va_recv hK hP (ci := 6) (q0 := 0) rfl rfl, cPT_of hP hK hD hTX hS hFc⟩ rfl rfl hl.1 rfl (lv_room (Nat.le_of_ble_eq_true rfl)) dL_saved_35 ⟨(Nat.le_of_ble_eq_true rfl), (Nat.le_of_ble_eq_true rfl)⟩) hS (fun q _ h => hFc q h) hFc (fun q _ h => hFc q h) (fun E ce q9 u9 t9 H locs ht9 hal hpx hB hz1 hk1 hS hce hcv hcl => ?_) (fun rz u9 t9 H locs ht9 hal hw hB hz1 hk1 hS => ?_)
    · exact absurd hB.1.1 (by rw [hrs]; exact Nat.lt_irrefl 0)
    obtain ⟨v9, i9⟩ := u9
    obtain ⟨hP1, hK1, hD1⟩ := hB
    rw [ht9] at hP1
    have hP2 := hP1
    have hD2 := hD1.weaken (fun _ _ _ h => hFc _ h)
    obtain ⟨hv9, hJ9, hr9⟩ := hw
    have hv9 : v9 = vx3 := hv9
    dsimp only at hJ9 hr9
    rw [hv9] at hP2 hD2 hJ9
    dsimp only at hP2 hD2
    have hJ : II vx3.1 i9 := hJ9
    have hP : va_P D vwCl (WX K ad q q1 q2 g r r2 vx3 i9) H := hP2
    have hD : va_D A (WX K ad q q1 q2 g r r2 vx3 i9) := hD2
    have hz : rz.toInt = ((dn v.1 8 0 : Nat) : Int) := (Prod.mk.inj (hr9.symm.trans hrs)).2
    refine t_i ((i32_eq rz (nI (dn v.1 8 0))).mpr (by rw [nI_toIntI (by omega)]; exact hz)) ?_
    refine lv_iconst (v := nI 3) hx hb dL_saved_38 (by decide) ?_
    refine b_icmp_ge hx hb (nI_toIntI (by omega)) (nI_toIntI (by omega)) dL_saved_39 (tgt := 54) (by decide) (fun c39 => ?_) (fun c39 => ?_)
    · refine lv_iload_n hx hb dL_saved_54 rfl (lv_at hl 3 rfl) ?_
      refine lv_bipush (v := nI 6) hx hb dL_saved_55 (by decide) ?_
      refine b_icmp_ge hx hb (nI_toIntI (by omega)) (nI_toIntI (by omega)) dL_saved_57 (tgt := 66) (by decide) (fun c57 => ?_) (fun c57 => ?_)
      · exact W.widen (k := 7) (n := 42) (Nat.le_of_ble_eq_true rfl) (Nat.le_of_ble_eq_true rfl) (h66 vx3 i9 _ _ hI hJ hs1 hs2 hs3 hs4 hP hD hS)
      refine lv_aload_n hx hb dL_saved_60 rfl (lv_at hl 2 rfl) ?_
      refine lv_iconst (v := nI 5) hx hb dL_saved_61 (by decide) ?_
      have hrs : rs_addBrake vx3.1 (nI 5) = (0, ((dn vx3.1 8 1 : Nat) : Int)) := (rs_brake_at (by decide) (by omega))
      have hFc := freeAll hD hS hA
      refine vx_calli (vx_runV (As := [.int (nI 5)]) (rest := []) ⟨hx, hb, hml, hown, hts⟩ (c_X6_addBrake l hlf D K ad q q1 q2 g r r2 vx3 i9 (nI 5) H.size hI hJ) (cwV 1 hts (TB_V k_m_L_30 k_im_X6_addBrake k_se_X6_addBrake k_in_X6 k_co_X6_addBrake (fun _ h => h)) rfl rfl rfl (by decide +kernel) ⟨Nat.le_of_ble_eq_true rfl, Nat.le_of_ble_eq_true rfl⟩) ⟨cPT_blind, va_recv hK hP (ci := 6) (q0 := 0) rfl rfl, cPT_of hP hK hD hTX hS hFc⟩ rfl rfl hl.1 rfl (lv_room (Nat.le_of_ble_eq_true rfl)) dL_saved_62 ⟨(Nat.le_of_ble_eq_true rfl), (Nat.le_of_ble_eq_true rfl)⟩) hS (fun q _ h => hFc q h) hFc (fun q _ h => hFc q h) (fun E ce q9 u9 t9 H locs ht9 hal hpx hB hz1 hk1 hS hce hcv hcl => ?_) (fun rz u9 t9 H locs ht9 hal hw hB hz1 hk1 hS => ?_)
      · exact absurd hB.1.1 (by rw [hrs]; exact Nat.lt_irrefl 0)
      obtain ⟨vx4, i9⟩ := u9
      obtain ⟨hP1, hK1, hD1⟩ := hB
      rw [ht9] at hP1
      have hP2 := hP1
      have hD2 := hD1.weaken (fun _ _ _ h => hFc _ h)
      dsimp only at hw
      obtain ⟨he9, hI9, hJ9, hr9⟩ := hw
      have hs1 : EqD vx4.2.1 v.1 := by rw [he9]; exact hs1
      have hs2 : vx4.2.2.1 = v.2.2.1 := by rw [he9]; exact hs2
      have hs3 : vx4.2.2.2.1 = nI 1 := by rw [he9]; exact hs3
      have hs4 : vx4.2.2.2.2.1 = nI 1 := by rw [he9]; exact hs4
      have hI := hI9
      have hJ := hJ9
      have hP : va_P D vwCl (WX K ad q q1 q2 g r r2 vx4 i9) H := hP2
      have hD : va_D A (WX K ad q q1 q2 g r r2 vx4 i9) := hD2
      refine lv_pop hx hb dL_saved_65 rfl ?_
      exact W.widen (k := 7) (n := 42) (Nat.le_of_ble_eq_true rfl) (Nat.le_of_ble_eq_true rfl) (h66 vx4 i9 _ _ hI hJ hs1 hs2 hs3 hs4 hP hD hS)
    refine lv_aload_n hx hb dL_saved_42 rfl (lv_at hl 2 rfl) ?_
    refine lv_iconst (v := nI 1) hx hb dL_saved_43 (by decide) ?_
    refine lv_iconst (v := nI 3) hx hb dL_saved_44 (by decide) ?_
    refine lv_iconst (v := nI 5) hx hb dL_saved_45 (by decide) ?_
    refine lv_bipush (v := nI 12) hx hb dL_saved_46 (by decide) ?_
    refine lv_bipush (v := nI 34) hx hb dL_saved_48 (by decide) ?_
    have hrs : rs_addSet vx3.1 (nI 1) (nI 3) (nI 5) (nI 12) (nI 34) = (0, ((dn vx3.1 8 0 + 1 : Nat) : Int)) := (rs_set_at (by decide) (by decide) (by decide) (by decide) (by decide) (by decide) (by decide) (by decide) (by decide) (by decide) (by omega))
    have hFc := freeAll hD hS hA
    refine vx_calli (vx_runV (As := [.int (nI 1), .int (nI 3), .int (nI 5), .int (nI 12), .int (nI 34)]) (rest := []) ⟨hx, hb, hml, hown, hts⟩ (c_X6_addSet l hlf D K ad q q1 q2 g r r2 vx3 i9 (nI 1) (nI 3) (nI 5) (nI 12) (nI 34) H.size hI hJ) (cwV 5 hts (TB_V k_m_L_26 k_im_X6_addSet k_se_X6_addSet k_in_X6 k_co_X6_addSet (fun _ h => h)) rfl rfl rfl (by decide +kernel) ⟨Nat.le_of_ble_eq_true rfl, Nat.le_of_ble_eq_true rfl⟩) ⟨cPT_blind, va_recv hK hP (ci := 6) (q0 := 0) rfl rfl, cPT_of hP hK hD hTX hS hFc⟩ rfl rfl hl.1 rfl (lv_room (Nat.le_of_ble_eq_true rfl)) dL_saved_50 ⟨(Nat.le_of_ble_eq_true rfl), (Nat.le_of_ble_eq_true rfl)⟩) hS (fun q _ h => hFc q h) hFc (fun q _ h => hFc q h) (fun E ce q9 u9 t9 H locs ht9 hal hpx hB hz1 hk1 hS hce hcv hcl => ?_) (fun rz u9 t9 H locs ht9 hal hw hB hz1 hk1 hS => ?_)
    · exact absurd hB.1.1 (by rw [hrs]; exact Nat.lt_irrefl 0)
    obtain ⟨vx5, i9⟩ := u9
    obtain ⟨hP1, hK1, hD1⟩ := hB
    rw [ht9] at hP1
    have hP2 := hP1
    have hD2 := hD1.weaken (fun _ _ _ h => hFc _ h)
    dsimp only at hw
    obtain ⟨he9, hI9, hJ9, hr9⟩ := hw
    have hs1 : EqD vx5.2.1 v.1 := by rw [he9]; exact hs1
    have hs2 : vx5.2.2.1 = v.2.2.1 := by rw [he9]; exact hs2
    have hs3 : vx5.2.2.2.1 = nI 1 := by rw [he9]; exact hs3
    have hs4 : vx5.2.2.2.2.1 = nI 1 := by rw [he9]; exact hs4
    have hdn1 : dn vx5.1 8 1 = dn v.1 8 1 := by rw [he9]; exact hdn1
    have hI := hI9
    have hJ := hJ9
    have hP : va_P D vwCl (WX K ad q q1 q2 g r r2 vx5 i9) H := hP2
    have hD : va_D A (WX K ad q q1 q2 g r r2 vx5 i9) := hD2
    refine lv_pop hx hb dL_saved_53 rfl ?_
    refine lv_iload_n hx hb dL_saved_54 rfl (lv_at hl 3 rfl) ?_
    refine lv_bipush (v := nI 6) hx hb dL_saved_55 (by decide) ?_
    refine b_icmp_ge hx hb (nI_toIntI (by omega)) (nI_toIntI (by omega)) dL_saved_57 (tgt := 66) (by decide) (fun c57 => ?_) (fun c57 => ?_)
    · exact W.widen (k := 7) (n := 42) (Nat.le_of_ble_eq_true rfl) (Nat.le_of_ble_eq_true rfl) (h66 vx5 i9 _ _ hI hJ hs1 hs2 hs3 hs4 hP hD hS)
    refine lv_aload_n hx hb dL_saved_60 rfl (lv_at hl 2 rfl) ?_
    refine lv_iconst (v := nI 5) hx hb dL_saved_61 (by decide) ?_
    have hrs : rs_addBrake vx5.1 (nI 5) = (0, ((dn vx5.1 8 1 : Nat) : Int)) := (rs_brake_at (by decide) (by omega))
    have hFc := freeAll hD hS hA
    refine vx_calli (vx_runV (As := [.int (nI 5)]) (rest := []) ⟨hx, hb, hml, hown, hts⟩ (c_X6_addBrake l hlf D K ad q q1 q2 g r r2 vx5 i9 (nI 5) H.size hI hJ) (cwV 1 hts (TB_V k_m_L_30 k_im_X6_addBrake k_se_X6_addBrake k_in_X6 k_co_X6_addBrake (fun _ h => h)) rfl rfl rfl (by decide +kernel) ⟨Nat.le_of_ble_eq_true rfl, Nat.le_of_ble_eq_true rfl⟩) ⟨cPT_blind, va_recv hK hP (ci := 6) (q0 := 0) rfl rfl, cPT_of hP hK hD hTX hS hFc⟩ rfl rfl hl.1 rfl (lv_room (Nat.le_of_ble_eq_true rfl)) dL_saved_62 ⟨(Nat.le_of_ble_eq_true rfl), (Nat.le_of_ble_eq_true rfl)⟩) hS (fun q _ h => hFc q h) hFc (fun q _ h => hFc q h) (fun E ce q9 u9 t9 H locs ht9 hal hpx hB hz1 hk1 hS hce hcv hcl => ?_) (fun rz u9 t9 H locs ht9 hal hw hB hz1 hk1 hS => ?_)
    · exact absurd hB.1.1 (by rw [hrs]; exact Nat.lt_irrefl 0)
    obtain ⟨vx6, i9⟩ := u9
    obtain ⟨hP1, hK1, hD1⟩ := hB
    rw [ht9] at hP1
    have hP2 := hP1
    have hD2 := hD1.weaken (fun _ _ _ h => hFc _ h)
    dsimp only at hw
    obtain ⟨he9, hI9, hJ9, hr9⟩ := hw
    have hs1 : EqD vx6.2.1 v.1 := by rw [he9]; exact hs1
    have hs2 : vx6.2.2.1 = v.2.2.1 := by rw [he9]; exact hs2
    have hs3 : vx6.2.2.2.1 = nI 1 := by rw [he9]; exact hs3
    have hs4 : vx6.2.2.2.2.1 = nI 1 := by rw [he9]; exact hs4
    have hI := hI9
    have hJ := hJ9
    have hP : va_P D vwCl (WX K ad q q1 q2 g r r2 vx6 i9) H := hP2
    have hD : va_D A (WX K ad q q1 q2 g r r2 vx6 i9) := hD2
    refine lv_pop hx hb dL_saved_65 rfl ?_
    exact W.widen (k := 7) (n := 42) (Nat.le_of_ble_eq_true rfl) (Nat.le_of_ble_eq_true rfl) (h66 vx6 i9 _ _ hI hJ hs1 hs2 hs3 hs4 hP hD hS)
  intro vw i H locs hI hJ hs1 hs2 hs3 hs4 hP hD hS
  refine lv_aload_n hx hb dL_saved_66 rfl (lv_at hl 2 rfl) ?_
  refine lv_iconst (v := nI 0) hx hb dL_saved_67 (by decide) ?_
  have hrs : rs_restore vw (nI 0) = (0, 0) := (rs_restore0 hs3)
  have hFc := freeAll hD hS hA
  refine vx_callv (vx_runV (As := [.int (nI 0)]) (rest := []) ⟨hx, hb, hml, hown, hts⟩ (c_X6_restore l hlf D K ad q q1 q2 g r r2 vw i (nI 0) H.size hI hJ) (cwV 1 hts (TB_V k_m_L_134 k_im_X6_restore k_se_X6_restore k_in_X6 k_co_X6_restore (fun _ h => h)) rfl rfl rfl (by decide +kernel) ⟨Nat.le_of_ble_eq_true rfl, Nat.le_of_ble_eq_true rfl⟩) ⟨cPT_blind, va_recv hK hP (ci := 6) (q0 := 0) rfl rfl, cPT_of hP hK hD hTX hS hFc⟩ rfl rfl hl.1 rfl (lv_room (Nat.le_of_ble_eq_true rfl)) dL_saved_68 ⟨(Nat.le_of_ble_eq_true rfl), (Nat.le_of_ble_eq_true rfl)⟩) hS (fun q _ h => hFc q h) hFc (fun q _ h => hFc q h) (fun E ce q9 u9 t9 H locs ht9 hal hpx hB hz1 hk1 hS hce hcv hcl => ?_) (fun u9 t9 H locs ht9 hal hw hB hz1 hk1 hS => ?_)
  · exact absurd hB.1.1 (by rw [hrs]; exact Nat.lt_irrefl 0)
  obtain ⟨vx7, i9⟩ := u9
  obtain ⟨hP1, hK1, hD1⟩ := hB
  rw [ht9] at hP1
  have hP2 := hP1
  have hD2 := hD1.weaken (fun _ _ _ h => hFc _ h)
  dsimp only at hw
  obtain ⟨hrs9, hI9, hJ9, hr9⟩ := hw
  obtain ⟨hv1, hv2, hv3, hv4, hh0, hv6⟩ := hrs9
  have hqq : EqD vx7.1 v.1 := by
    rcases hv6 with ⟨-, a⟩ | ⟨a, -⟩
    · exact EqD_trans a hs1
    · exact absurd (by decide) a
  have hs2 : vx7.2.2.1 = v.2.2.1 := hv2.trans hs2
  have hs4 : vx7.2.2.2.2.1 = nI 1 := hv4.trans hs4
  have hI := hI9
  have hJ := hJ9
  have hP : va_P D vwCl (WX K ad q q1 q2 g r r2 vx7 i9) H := hP2
  have hD : va_D A (WX K ad q q1 q2 g r r2 vx7 i9) := hD2
  refine lv_aload_n hx hb dL_saved_71 rfl (lv_at hl 2 rfl) ?_
  have hFc := freeAll hD hS hA
  refine va_calli (va_runV (As := []) (rest := []) ⟨hx, hb, hml, hown, hts⟩ (c_X6_engaged l D K ad q q1 q2 g r r2 vx7 i9  H.size hI hJ) (cwV 0 hts (TB_V k_m_L_51 k_im_X6_engaged k_se_X6_engaged k_in_X6 k_co_X6_engaged (fun _ h => h)) rfl rfl rfl (by decide +kernel) ⟨Nat.le_of_ble_eq_true rfl, Nat.le_of_ble_eq_true rfl⟩) ⟨cP_blind, va_recv hK hP (ci := 6) (q0 := 0) rfl rfl, cP_of hP hK hD⟩ rfl rfl hl.1 rfl (lv_room (Nat.le_of_ble_eq_true rfl)) dL_saved_72 ⟨(Nat.le_of_ble_eq_true rfl), (Nat.le_of_ble_eq_true rfl)⟩) hS (fun q _ h => hFc q h) hFc (fun rz u9 t9 H locs ht9 hal hw hB hz1 hk1 hS => ?_)
  obtain ⟨v9, i9⟩ := u9
  obtain ⟨hP1, hK1, hD1⟩ := hB
  rw [ht9] at hP1
  have hP2 := hP1
  have hD2 := hD1.weaken (fun _ _ _ h => hFc _ h)
  obtain ⟨hv9, hJ9, hr9⟩ := hw
  have hv9 : v9 = vx7 := hv9
  dsimp only at hJ9 hr9
  rw [hv9] at hP2 hD2 hJ9
  dsimp only at hP2 hD2
  have hJ : II vx7.1 i9 := hJ9
  have hP : va_P D vwCl (WX K ad q q1 q2 g r r2 vx7 i9) H := hP2
  have hD : va_D A (WX K ad q q1 q2 g r r2 vx7 i9) := hD2
  refine t_i (hr9.trans (hqq.2.2.2.2.trans hge2)) ?_
  refine lv_iload_n hx hb dL_saved_75 rfl (lv_at hl 1 rfl) ?_
  refine b_icmp_ne hx hb (nI_toIntI (by omega)) (nI_toIntI (by omega)) dL_saved_76 (tgt := 116) (by decide) (fun c76 => absurd c76 (by omega)) (fun c76 => ?_)
  refine lv_aload_n hx hb dL_saved_79 rfl (lv_at hl 2 rfl) ?_
  refine lv_iconst (v := nI 2) hx hb dL_saved_80 (by decide) ?_
  have hrs : rs_count vx7.1 (nI 2) = (0, ((gN v.1 : Nat) : Int)) := ((rs_count2 vx7.1).trans (by rw [gN_congr (spM_EqD hI0.1 hqq) (dn_keep hqq.2.2.2.1)]))
  have hFc := freeAll hD hS hA
  refine vx_calli (vx_runV (As := [.int (nI 2)]) (rest := []) ⟨hx, hb, hml, hown, hts⟩ (c_X6_count l hlf D K ad q q1 q2 g r r2 vx7 i9 (nI 2) H.size hI hJ) (cwV 1 hts (TB_V k_m_L_55 k_im_X6_count k_se_X6_count k_in_X6 k_co_X6_count (fun _ h => h)) rfl rfl rfl (by decide +kernel) ⟨Nat.le_of_ble_eq_true rfl, Nat.le_of_ble_eq_true rfl⟩) ⟨cPT_blind, va_recv hK hP (ci := 6) (q0 := 0) rfl rfl, cPT_of hP hK hD hTX hS hFc⟩ rfl rfl hl.1 rfl (lv_room (Nat.le_of_ble_eq_true rfl)) dL_saved_81 ⟨(Nat.le_of_ble_eq_true rfl), (Nat.le_of_ble_eq_true rfl)⟩) hS (fun q _ h => hFc q h) hFc (fun q _ h => hFc q h) (fun E ce q9 u9 t9 H locs ht9 hal hpx hB hz1 hk1 hS hce hcv hcl => ?_) (fun rz u9 t9 H locs ht9 hal hw hB hz1 hk1 hS => ?_)
  · exact absurd hB.1.1 (by rw [hrs]; exact Nat.lt_irrefl 0)
  obtain ⟨v9, i9⟩ := u9
  obtain ⟨hP1, hK1, hD1⟩ := hB
  rw [ht9] at hP1
  have hP2 := hP1
  have hD2 := hD1.weaken (fun _ _ _ h => hFc _ h)
  obtain ⟨hv9, hJ9, hr9⟩ := hw
  have hv9 : v9 = vx7 := hv9
  dsimp only at hJ9 hr9
  rw [hv9] at hP2 hD2 hJ9
  dsimp only at hP2 hD2
  have hJ : II vx7.1 i9 := hJ9
  have hP : va_P D vwCl (WX K ad q q1 q2 g r r2 vx7 i9) H := hP2
  have hD : va_D A (WX K ad q q1 q2 g r r2 vx7 i9) := hD2
  have hz : rz.toInt = ((gN v.1 : Nat) : Int) := (Prod.mk.inj (hr9.symm.trans hrs)).2
  refine t_i ((i32_eq rz (nI (gN v.1))).mpr (by rw [nI_toIntI (by omega)]; exact hz)) ?_
  refine lv_iload_n hx hb dL_saved_84 rfl (lv_at hl 0 rfl) ?_
  refine b_icmp_ne hx hb (nI_toIntI (by omega)) (nI_toIntI (by omega)) dL_saved_85 (tgt := 116) (by decide) (fun c85 => absurd c85 (by omega)) (fun c85 => ?_)
  refine lv_aload_n hx hb dL_saved_88 rfl (lv_at hl 2 rfl) ?_
  refine lv_iconst (v := nI 1) hx hb dL_saved_89 (by decide) ?_
  have hrs : rs_count vx7.1 (nI 1) = (0, ((me : Nat) : Int)) := (rs_count1 ((dn_keep hqq.2.2.2.1).trans hme.symm))
  have hFc := freeAll hD hS hA
  refine vx_calli (vx_runV (As := [.int (nI 1)]) (rest := []) ⟨hx, hb, hml, hown, hts⟩ (c_X6_count l hlf D K ad q q1 q2 g r r2 vx7 i9 (nI 1) H.size hI hJ) (cwV 1 hts (TB_V k_m_L_55 k_im_X6_count k_se_X6_count k_in_X6 k_co_X6_count (fun _ h => h)) rfl rfl rfl (by decide +kernel) ⟨Nat.le_of_ble_eq_true rfl, Nat.le_of_ble_eq_true rfl⟩) ⟨cPT_blind, va_recv hK hP (ci := 6) (q0 := 0) rfl rfl, cPT_of hP hK hD hTX hS hFc⟩ rfl rfl hl.1 rfl (lv_room (Nat.le_of_ble_eq_true rfl)) dL_saved_90 ⟨(Nat.le_of_ble_eq_true rfl), (Nat.le_of_ble_eq_true rfl)⟩) hS (fun q _ h => hFc q h) hFc (fun q _ h => hFc q h) (fun E ce q9 u9 t9 H locs ht9 hal hpx hB hz1 hk1 hS hce hcv hcl => ?_) (fun rz u9 t9 H locs ht9 hal hw hB hz1 hk1 hS => ?_)
  · exact absurd hB.1.1 (by rw [hrs]; exact Nat.lt_irrefl 0)
  obtain ⟨v9, i9⟩ := u9
  obtain ⟨hP1, hK1, hD1⟩ := hB
  rw [ht9] at hP1
  have hP2 := hP1
  have hD2 := hD1.weaken (fun _ _ _ h => hFc _ h)
  obtain ⟨hv9, hJ9, hr9⟩ := hw
  have hv9 : v9 = vx7 := hv9
  dsimp only at hJ9 hr9
  rw [hv9] at hP2 hD2 hJ9
  dsimp only at hP2 hD2
  have hJ : II vx7.1 i9 := hJ9
  have hP : va_P D vwCl (WX K ad q q1 q2 g r r2 vx7 i9) H := hP2
  have hD : va_D A (WX K ad q q1 q2 g r r2 vx7 i9) := hD2
  have hz : rz.toInt = ((me : Nat) : Int) := (Prod.mk.inj (hr9.symm.trans hrs)).2
  refine t_i ((i32_eq rz (nI me)).mpr (by rw [nI_toIntI (by omega)]; exact hz)) ?_
  refine lv_iload_n hx hb dL_saved_93 rfl (lv_at hl 3 rfl) ?_
  refine b_icmp_ne hx hb (nI_toIntI (by omega)) (nI_toIntI (by omega)) dL_saved_94 (tgt := 116) (by decide) (fun c94 => absurd c94 (by omega)) (fun c94 => ?_)
  refine lv_aload_n hx hb dL_saved_97 rfl (lv_at hl 2 rfl) ?_
  have hFc := freeAll hD hS hA
  refine va_calli (va_runV (As := []) (rest := []) ⟨hx, hb, hml, hown, hts⟩ (c_X6_undo l D K ad q q1 q2 g r r2 vx7 i9  H.size hI hJ) (cwV 0 hts (TB_V k_m_L_79 k_im_X6_undo k_se_X6_undo k_in_X6 k_co_X6_undo (fun _ h => h)) rfl rfl rfl (by decide +kernel) ⟨Nat.le_of_ble_eq_true rfl, Nat.le_of_ble_eq_true rfl⟩) ⟨cP_blind, va_recv hK hP (ci := 6) (q0 := 0) rfl rfl, cP_of hP hK hD⟩ rfl rfl hl.1 rfl (lv_room (Nat.le_of_ble_eq_true rfl)) dL_saved_98 ⟨(Nat.le_of_ble_eq_true rfl), (Nat.le_of_ble_eq_true rfl)⟩) hS (fun q _ h => hFc q h) hFc (fun rz u9 t9 H locs ht9 hal hw hB hz1 hk1 hS => ?_)
  obtain ⟨v9, i9⟩ := u9
  obtain ⟨hP1, hK1, hD1⟩ := hB
  rw [ht9] at hP1
  have hP2 := hP1
  have hD2 := hD1.weaken (fun _ _ _ h => hFc _ h)
  obtain ⟨hI9, hJ9, hh9⟩ := hw
  rcases hh9 with ⟨-, hz, hv9⟩ | ⟨hz, -⟩
  rotate_left
  · exact absurd hh0 (by omega)
  have hv9 : v9 = vx7 := hv9
  dsimp only at hJ9
  rw [hv9] at hP2 hD2 hJ9
  dsimp only at hP2 hD2
  have hJ : II vx7.1 i9 := hJ9
  have hP : va_P D vwCl (WX K ad q q1 q2 g r r2 vx7 i9) H := hP2
  have hD : va_D A (WX K ad q q1 q2 g r r2 vx7 i9) := hD2
  refine t_i hz ?_
  refine b_if_ne hx hb (nI_toIntI (by omega)) dL_saved_101 (tgt := 116) (by decide) (fun c101 => absurd c101 (by omega)) (fun c101 => ?_)
  refine lv_aload_n hx hb dL_saved_104 rfl (lv_at hl 2 rfl) ?_
  refine lv_iconst (v := nI 0) hx hb dL_saved_105 (by decide) ?_
  refine lv_iconst (v := nI 5) hx hb dL_saved_106 (by decide) ?_
  have hrs : rs_setCapacity vx7.1 (nI 0) (nI 5) = (0, (vx7.1 7 0).toInt) := (rs_cap (by rw [dn_keep hqq.2.2.2.1]; omega) (by decide) (by decide) (by decide))
  have hFc := freeAll hD hS hA
  refine vx_calli (vx_runV (As := [.int (nI 0), .int (nI 5)]) (rest := []) ⟨hx, hb, hml, hown, hts⟩ (c_X6_setCapacity l hlf D K ad q q1 q2 g r r2 vx7 i9 (nI 0) (nI 5) H.size hI hJ) (cwV 2 hts (TB_V k_m_L_37 k_im_X6_setCapacity k_se_X6_setCapacity k_in_X6 k_co_X6_setCapacity (fun _ h => h)) rfl rfl rfl (by decide +kernel) ⟨Nat.le_of_ble_eq_true rfl, Nat.le_of_ble_eq_true rfl⟩) ⟨cPT_blind, va_recv hK hP (ci := 6) (q0 := 0) rfl rfl, cPT_of hP hK hD hTX hS hFc⟩ rfl rfl hl.1 rfl (lv_room (Nat.le_of_ble_eq_true rfl)) dL_saved_107 ⟨(Nat.le_of_ble_eq_true rfl), (Nat.le_of_ble_eq_true rfl)⟩) hS (fun q _ h => hFc q h) hFc (fun q _ h => hFc q h) (fun E ce q9 u9 t9 H locs ht9 hal hpx hB hz1 hk1 hS hce hcv hcl => ?_) (fun rz u9 t9 H locs ht9 hal hw hB hz1 hk1 hS => ?_)
  · exact absurd hB.1.1 (by rw [hrs]; exact Nat.lt_irrefl 0)
  obtain ⟨vx8, i9⟩ := u9
  obtain ⟨hP1, hK1, hD1⟩ := hB
  rw [ht9] at hP1
  have hP2 := hP1
  have hD2 := hD1.weaken (fun _ _ _ h => hFc _ h)
  dsimp only at hw
  obtain ⟨he9, hI9, hJ9, hr9⟩ := hw
  have hz : rz.toInt = (vx7.1 7 0).toInt := (Prod.mk.inj (hr9.symm.trans hrs)).2
  rw [hqq.2.1 7 0 (by decide) (by decide) (by decide)] at hz
  have hs2 : vx8.2.2.1 = v.2.2.1 := by rw [he9]; exact hs2
  have hs4 : vx8.2.2.2.2.1 = nI 1 := by rw [he9]; exact hs4
  have hI := hI9
  have hJ := hJ9
  have hP : va_P D vwCl (WX K ad q q1 q2 g r r2 vx8 i9) H := hP2
  have hD : va_D A (WX K ad q q1 q2 g r r2 vx8 i9) := hD2
  refine lv_sipush (v := nI 9999) hx hb dL_saved_110 (by decide) ?_
  refine b_icmp_ne hx hb rfl (nI_toIntI (by omega)) dL_saved_113 (tgt := 118) (by decide) (fun c113 => ?_) (fun c113 => absurd c113 (by omega))
  refine lv_aload_n hx hb dL_saved_118 rfl (lv_at hl 2 rfl) ?_
  refine lv_iconst (v := nI 1) hx hb dL_saved_119 (by decide) ?_
  have hrs : rs_restore vx8 (nI 1) = (0, 0) := (rs_restore1 hs4)
  have hFc := freeAll hD hS hA
  refine vx_callv (vx_runV (As := [.int (nI 1)]) (rest := []) ⟨hx, hb, hml, hown, hts⟩ (c_X6_restore l hlf D K ad q q1 q2 g r r2 vx8 i9 (nI 1) H.size hI hJ) (cwV 1 hts (TB_V k_m_L_134 k_im_X6_restore k_se_X6_restore k_in_X6 k_co_X6_restore (fun _ h => h)) rfl rfl rfl (by decide +kernel) ⟨Nat.le_of_ble_eq_true rfl, Nat.le_of_ble_eq_true rfl⟩) ⟨cPT_blind, va_recv hK hP (ci := 6) (q0 := 0) rfl rfl, cPT_of hP hK hD hTX hS hFc⟩ rfl rfl hl.1 rfl (lv_room (Nat.le_of_ble_eq_true rfl)) dL_saved_120 ⟨(Nat.le_of_ble_eq_true rfl), (Nat.le_of_ble_eq_true rfl)⟩) hS (fun q _ h => hFc q h) hFc (fun q _ h => hFc q h) (fun E ce q9 u9 t9 H locs ht9 hal hpx hB hz1 hk1 hS hce hcv hcl => ?_) (fun u9 t9 H locs ht9 hal hw hB hz1 hk1 hS => ?_)
  · exact absurd hB.1.1 (by rw [hrs]; exact Nat.lt_irrefl 0)
  obtain ⟨vx9, i9⟩ := u9
  obtain ⟨hP1, hK1, hD1⟩ := hB
  rw [ht9] at hP1
  have hP2 := hP1
  have hD2 := hD1.weaken (fun _ _ _ h => hFc _ h)
  dsimp only at hw
  obtain ⟨hrs9, hI9, hJ9, hr9⟩ := hw
  obtain ⟨hv1, hv2, hv3, hv4, hh0, hv6⟩ := hrs9
  have hq2 : EqD vx9.1 v.2.2.1 := by
    rcases hv6 with ⟨a, -⟩ | ⟨-, a⟩
    · exact absurd a (by decide)
    · rw [← hs2]; exact a
  have hspq : spM vx9.1 = spM v.1 := (spM_EqD hI0.2.2.1 hq2).trans hsp
  have hsmq : dn vx9.1 8 1 = dn v.1 8 1 := (dn_keep hq2.2.2.2.1).trans hsm
  have hgeq : dn vx9.1 8 2 = 0 := dn_of (hq2.2.2.2.2.trans hs0) (by decide)
  have hI := hI9
  have hJ := hJ9
  have hP : va_P D vwCl (WX K ad q q1 q2 g r r2 vx9 i9) H := hP2
  have hD : va_D A (WX K ad q q1 q2 g r r2 vx9 i9) := hD2
  refine lv_aload_n hx hb dL_saved_123 rfl (lv_at hl 2 rfl) ?_
  have hFc := freeAll hD hS hA
  refine va_calli (va_runV (As := []) (rest := []) ⟨hx, hb, hml, hown, hts⟩ (c_X6_engaged l D K ad q q1 q2 g r r2 vx9 i9  H.size hI hJ) (cwV 0 hts (TB_V k_m_L_51 k_im_X6_engaged k_se_X6_engaged k_in_X6 k_co_X6_engaged (fun _ h => h)) rfl rfl rfl (by decide +kernel) ⟨Nat.le_of_ble_eq_true rfl, Nat.le_of_ble_eq_true rfl⟩) ⟨cP_blind, va_recv hK hP (ci := 6) (q0 := 0) rfl rfl, cP_of hP hK hD⟩ rfl rfl hl.1 rfl (lv_room (Nat.le_of_ble_eq_true rfl)) dL_saved_124 ⟨(Nat.le_of_ble_eq_true rfl), (Nat.le_of_ble_eq_true rfl)⟩) hS (fun q _ h => hFc q h) hFc (fun rz u9 t9 H locs ht9 hal hw hB hz1 hk1 hS => ?_)
  obtain ⟨v9, i9⟩ := u9
  obtain ⟨hP1, hK1, hD1⟩ := hB
  rw [ht9] at hP1
  have hP2 := hP1
  have hD2 := hD1.weaken (fun _ _ _ h => hFc _ h)
  obtain ⟨hv9, hJ9, hr9⟩ := hw
  have hv9 : v9 = vx9 := hv9
  dsimp only at hJ9 hr9
  rw [hv9] at hP2 hD2 hJ9
  dsimp only at hP2 hD2
  have hJ : II vx9.1 i9 := hJ9
  have hP : va_P D vwCl (WX K ad q q1 q2 g r r2 vx9 i9) H := hP2
  have hD : va_D A (WX K ad q q1 q2 g r r2 vx9 i9) := hD2
  refine t_i (hr9.trans (hq2.2.2.2.2.trans hs0)) ?_
  refine b_if_ne hx hb (nI_toIntI (by omega)) dL_saved_127 (tgt := 158) (by decide) (fun c127 => absurd c127 (by omega)) (fun c127 => ?_)
  refine lv_aload_n hx hb dL_saved_130 rfl (lv_at hl 2 rfl) ?_
  have hFc := freeAll hD hS hA
  refine va_calli (va_runV (As := []) (rest := []) ⟨hx, hb, hml, hown, hts⟩ (c_X6_state l D K ad q q1 q2 g r r2 vx9 i9  H.size hI hJ) (cwV 0 hts (TB_V k_m_L_91 k_im_X6_state k_se_X6_state k_in_X6 k_co_X6_state (fun _ h => h)) rfl rfl rfl (by decide +kernel) ⟨Nat.le_of_ble_eq_true rfl, Nat.le_of_ble_eq_true rfl⟩) ⟨cP_blind, va_recv hK hP (ci := 6) (q0 := 0) rfl rfl, cP_of hP hK hD⟩ rfl rfl hl.1 rfl (lv_room (Nat.le_of_ble_eq_true rfl)) dL_saved_131 ⟨(Nat.le_of_ble_eq_true rfl), (Nat.le_of_ble_eq_true rfl)⟩) hS (fun q _ h => hFc q h) hFc (fun rz u9 t9 H locs ht9 hal hw hB hz1 hk1 hS => ?_)
  obtain ⟨v9, i9⟩ := u9
  obtain ⟨hP1, hK1, hD1⟩ := hB
  rw [ht9] at hP1
  have hP2 := hP1
  have hD2 := hD1.weaken (fun _ _ _ h => hFc _ h)
  obtain ⟨hv9, hJ9, hr9⟩ := hw
  have hv9 : v9 = vx9 := hv9
  dsimp only at hJ9 hr9
  rw [hv9] at hP2 hD2 hJ9
  dsimp only at hP2 hD2
  have hJ : II vx9.1 i9 := hJ9
  have hP : va_P D vwCl (WX K ad q q1 q2 g r r2 vx9 i9) H := hP2
  have hD : va_D A (WX K ad q q1 q2 g r r2 vx9 i9) := hD2
  rw [hgeq] at hr9
  rcases still_state hI.1 with hst | hst
  · refine t_i ((i32_eq rz (nI 0)).mpr (by rw [nI_toIntI (by decide), hr9, hst])) ?_
    refine lv_iconst (v := nI 2) hx hb dL_saved_134 (by decide) ?_
    refine lv_iconst (v := nI 2) hx hb dL_saved_135 (by decide) ?_
    refine lv_aload_n hx hb dL_saved_136 rfl (lv_at hl 2 rfl) ?_
    have hFc := freeAll hD hS hA
    refine va_calli (va_runS (As := [.ref (ad 0)]) (rest := [.int (nI 2), .int (nI 2), .int (nI 0)]) ⟨hx, hb, hml, hown, hts⟩ (c_L_zero l hlf D K ad q q1 q2 g r r2 vx9 i9  H.size hI hJ ) (va_cwS 1 hts (TB_S k_m_L_137 k_st_L_zero k_in_L k_co_L_zero (fun _ h => h)) rfl rfl rfl (by decide +kernel) ⟨Nat.le_of_ble_eq_true rfl, Nat.le_of_ble_eq_true rfl⟩) ⟨cPM_blind, cPM_of hP hK hD hTX hCL hS hFc⟩ rfl rfl hl.1 rfl (lv_room (Nat.le_of_ble_eq_true rfl)) dL_saved_137 ⟨(Nat.le_of_ble_eq_true rfl), (Nat.le_of_ble_eq_true rfl)⟩) hS (fun q _ h => hFc q h) hFc (fun rz u9 t9 H locs ht9 hal hw hB hz1 hk1 hS => ?_)
    obtain ⟨v9, i9⟩ := u9
    obtain ⟨hP1, hK1, hD1⟩ := hB
    rw [ht9] at hP1
    have hP2 := hP1
    have hD2 := hD1.weaken (fun _ _ _ h => hFc _ h)
    obtain ⟨hz, hv9, hJ9⟩ := hw
    have hv9 : v9 = vx9 := hv9
    dsimp only at hJ9 hz
    rw [hv9] at hP2 hD2 hJ9
    dsimp only at hP2 hD2
    have hJ : II vx9.1 i9 := hJ9
    have hP : va_P D vwCl (WX K ad q q1 q2 g r r2 vx9 i9) H := hP2
    have hD : va_D A (WX K ad q q1 q2 g r r2 vx9 i9) := hD2
    refine t_i (hz.trans (bI_t hst).symm) ?_
    refine lv_imul hx hb dL_saved_140 ?_
    refine t_i (pk_mul _ _) ?_
    refine lv_isub hx hb dL_saved_141 ?_
    refine t_i (pk_sub (by omega)) ?_
    refine b_icmp_ne hx hb (nI_toIntI (by omega)) (nI_toIntI (by omega)) dL_saved_142 (tgt := 158) (by decide) (fun c142 => absurd c142 (by omega)) (fun c142 => ?_)
    refine lv_aload_n hx hb dL_saved_145 rfl (lv_at hl 2 rfl) ?_
    refine lv_iconst (v := nI 2) hx hb dL_saved_146 (by decide) ?_
    have hrs : rs_count vx9.1 (nI 2) = (0, ((gN v.1 : Nat) : Int)) := ((rs_count2 vx9.1).trans (by rw [gN_congr hspq hsmq]))
    have hFc := freeAll hD hS hA
    refine vx_calli (vx_runV (As := [.int (nI 2)]) (rest := []) ⟨hx, hb, hml, hown, hts⟩ (c_X6_count l hlf D K ad q q1 q2 g r r2 vx9 i9 (nI 2) H.size hI hJ) (cwV 1 hts (TB_V k_m_L_55 k_im_X6_count k_se_X6_count k_in_X6 k_co_X6_count (fun _ h => h)) rfl rfl rfl (by decide +kernel) ⟨Nat.le_of_ble_eq_true rfl, Nat.le_of_ble_eq_true rfl⟩) ⟨cPT_blind, va_recv hK hP (ci := 6) (q0 := 0) rfl rfl, cPT_of hP hK hD hTX hS hFc⟩ rfl rfl hl.1 rfl (lv_room (Nat.le_of_ble_eq_true rfl)) dL_saved_147 ⟨(Nat.le_of_ble_eq_true rfl), (Nat.le_of_ble_eq_true rfl)⟩) hS (fun q _ h => hFc q h) hFc (fun q _ h => hFc q h) (fun E ce q9 u9 t9 H locs ht9 hal hpx hB hz1 hk1 hS hce hcv hcl => ?_) (fun rz u9 t9 H locs ht9 hal hw hB hz1 hk1 hS => ?_)
    · exact absurd hB.1.1 (by rw [hrs]; exact Nat.lt_irrefl 0)
    obtain ⟨v9, i9⟩ := u9
    obtain ⟨hP1, hK1, hD1⟩ := hB
    rw [ht9] at hP1
    have hP2 := hP1
    have hD2 := hD1.weaken (fun _ _ _ h => hFc _ h)
    obtain ⟨hv9, hJ9, hr9⟩ := hw
    have hv9 : v9 = vx9 := hv9
    dsimp only at hJ9 hr9
    rw [hv9] at hP2 hD2 hJ9
    dsimp only at hP2 hD2
    have hJ : II vx9.1 i9 := hJ9
    have hP : va_P D vwCl (WX K ad q q1 q2 g r r2 vx9 i9) H := hP2
    have hD : va_D A (WX K ad q q1 q2 g r r2 vx9 i9) := hD2
    have hz : rz.toInt = ((gN v.1 : Nat) : Int) := (Prod.mk.inj (hr9.symm.trans hrs)).2
    refine t_i ((i32_eq rz (nI (gN v.1))).mpr (by rw [nI_toIntI (by omega)]; exact hz)) ?_
    refine lv_iload_n hx hb dL_saved_150 rfl (lv_at hl 0 rfl) ?_
    refine b_icmp_ne hx hb (nI_toIntI (by omega)) (nI_toIntI (by omega)) dL_saved_151 (tgt := 158) (by decide) (fun c151 => absurd c151 (by omega)) (fun c151 => ?_)
    refine lv_iconst (v := nI 1) hx hb dL_saved_154 (by decide) ?_
    refine lv_goto (tgt := 159) hx hb dL_saved_155 (by decide) ?_
    refine W.widen (k := 14) (n := 84) (Nat.le_of_ble_eq_true rfl) (Nat.le_of_ble_eq_true rfl) ?_
    exact W.zret (v := nI 1) hx hb hr (by decide) (fun t9 ht9 hW => ⟨⟨nI 1, (vx9, i9), rfl, rfl, by rw [ht9]; exact hP, va_K.moved hW.alike hK, hD⟩, hS.F ht9⟩) hS.2.2 dL_saved_159
  · refine t_i ((i32_eq rz (nI 2)).mpr (by rw [nI_toIntI (by decide), hr9, hst])) ?_
    refine lv_iconst (v := nI 2) hx hb dL_saved_134 (by decide) ?_
    refine lv_iconst (v := nI 2) hx hb dL_saved_135 (by decide) ?_
    refine lv_aload_n hx hb dL_saved_136 rfl (lv_at hl 2 rfl) ?_
    have hFc := freeAll hD hS hA
    refine va_calli (va_runS (As := [.ref (ad 0)]) (rest := [.int (nI 2), .int (nI 2), .int (nI 2)]) ⟨hx, hb, hml, hown, hts⟩ (c_L_zero l hlf D K ad q q1 q2 g r r2 vx9 i9  H.size hI hJ ) (va_cwS 1 hts (TB_S k_m_L_137 k_st_L_zero k_in_L k_co_L_zero (fun _ h => h)) rfl rfl rfl (by decide +kernel) ⟨Nat.le_of_ble_eq_true rfl, Nat.le_of_ble_eq_true rfl⟩) ⟨cPM_blind, cPM_of hP hK hD hTX hCL hS hFc⟩ rfl rfl hl.1 rfl (lv_room (Nat.le_of_ble_eq_true rfl)) dL_saved_137 ⟨(Nat.le_of_ble_eq_true rfl), (Nat.le_of_ble_eq_true rfl)⟩) hS (fun q _ h => hFc q h) hFc (fun rz u9 t9 H locs ht9 hal hw hB hz1 hk1 hS => ?_)
    obtain ⟨v9, i9⟩ := u9
    obtain ⟨hP1, hK1, hD1⟩ := hB
    rw [ht9] at hP1
    have hP2 := hP1
    have hD2 := hD1.weaken (fun _ _ _ h => hFc _ h)
    obtain ⟨hz, hv9, hJ9⟩ := hw
    have hv9 : v9 = vx9 := hv9
    dsimp only at hJ9 hz
    rw [hv9] at hP2 hD2 hJ9
    dsimp only at hP2 hD2
    have hJ : II vx9.1 i9 := hJ9
    have hP : va_P D vwCl (WX K ad q q1 q2 g r r2 vx9 i9) H := hP2
    have hD : va_D A (WX K ad q q1 q2 g r r2 vx9 i9) := hD2
    refine t_i (hz.trans (bI_f (by rw [hst]; decide)).symm) ?_
    refine lv_imul hx hb dL_saved_140 ?_
    refine t_i (pk_mul _ _) ?_
    refine lv_isub hx hb dL_saved_141 ?_
    refine t_i (pk_sub (by omega)) ?_
    refine b_icmp_ne hx hb (nI_toIntI (by omega)) (nI_toIntI (by omega)) dL_saved_142 (tgt := 158) (by decide) (fun c142 => absurd c142 (by omega)) (fun c142 => ?_)
    refine lv_aload_n hx hb dL_saved_145 rfl (lv_at hl 2 rfl) ?_
    refine lv_iconst (v := nI 2) hx hb dL_saved_146 (by decide) ?_
    have hrs : rs_count vx9.1 (nI 2) = (0, ((gN v.1 : Nat) : Int)) := ((rs_count2 vx9.1).trans (by rw [gN_congr hspq hsmq]))
    have hFc := freeAll hD hS hA
    refine vx_calli (vx_runV (As := [.int (nI 2)]) (rest := []) ⟨hx, hb, hml, hown, hts⟩ (c_X6_count l hlf D K ad q q1 q2 g r r2 vx9 i9 (nI 2) H.size hI hJ) (cwV 1 hts (TB_V k_m_L_55 k_im_X6_count k_se_X6_count k_in_X6 k_co_X6_count (fun _ h => h)) rfl rfl rfl (by decide +kernel) ⟨Nat.le_of_ble_eq_true rfl, Nat.le_of_ble_eq_true rfl⟩) ⟨cPT_blind, va_recv hK hP (ci := 6) (q0 := 0) rfl rfl, cPT_of hP hK hD hTX hS hFc⟩ rfl rfl hl.1 rfl (lv_room (Nat.le_of_ble_eq_true rfl)) dL_saved_147 ⟨(Nat.le_of_ble_eq_true rfl), (Nat.le_of_ble_eq_true rfl)⟩) hS (fun q _ h => hFc q h) hFc (fun q _ h => hFc q h) (fun E ce q9 u9 t9 H locs ht9 hal hpx hB hz1 hk1 hS hce hcv hcl => ?_) (fun rz u9 t9 H locs ht9 hal hw hB hz1 hk1 hS => ?_)
    · exact absurd hB.1.1 (by rw [hrs]; exact Nat.lt_irrefl 0)
    obtain ⟨v9, i9⟩ := u9
    obtain ⟨hP1, hK1, hD1⟩ := hB
    rw [ht9] at hP1
    have hP2 := hP1
    have hD2 := hD1.weaken (fun _ _ _ h => hFc _ h)
    obtain ⟨hv9, hJ9, hr9⟩ := hw
    have hv9 : v9 = vx9 := hv9
    dsimp only at hJ9 hr9
    rw [hv9] at hP2 hD2 hJ9
    dsimp only at hP2 hD2
    have hJ : II vx9.1 i9 := hJ9
    have hP : va_P D vwCl (WX K ad q q1 q2 g r r2 vx9 i9) H := hP2
    have hD : va_D A (WX K ad q q1 q2 g r r2 vx9 i9) := hD2
    have hz : rz.toInt = ((gN v.1 : Nat) : Int) := (Prod.mk.inj (hr9.symm.trans hrs)).2
    refine t_i ((i32_eq rz (nI (gN v.1))).mpr (by rw [nI_toIntI (by omega)]; exact hz)) ?_
    refine lv_iload_n hx hb dL_saved_150 rfl (lv_at hl 0 rfl) ?_
    refine b_icmp_ne hx hb (nI_toIntI (by omega)) (nI_toIntI (by omega)) dL_saved_151 (tgt := 158) (by decide) (fun c151 => absurd c151 (by omega)) (fun c151 => ?_)
    refine lv_iconst (v := nI 1) hx hb dL_saved_154 (by decide) ?_
    refine lv_goto (tgt := 159) hx hb dL_saved_155 (by decide) ?_
    refine W.widen (k := 14) (n := 84) (Nat.le_of_ble_eq_true rfl) (Nat.le_of_ble_eq_true rfl) ?_
    exact W.zret (v := nI 1) hx hb hr (by decide) (fun t9 ht9 hW => ⟨⟨nI 1, (vx9, i9), rfl, rfl, by rw [ht9]; exact hP, va_K.moved hW.alike hK, hD⟩, hS.F ht9⟩) hS.2.2 dL_saved_159
