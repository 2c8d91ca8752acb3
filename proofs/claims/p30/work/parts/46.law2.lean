/-! the law: refusals, torques that are determined, gear 0 -/
theorem DV_m {d : Nat → Nat → Int32} (h : DV d) : dn d 8 1 ≤ 6 := by
  obtain ⟨n, m, g, h1, h2, h3, e0, e1, e2, hs, he⟩ := h
  rw [dn_of e1 (by omega)]
  exact h2
theorem DV_n {d : Nat → Nat → Int32} (h : DV d) : dn d 8 0 ≤ 3 := by
  obtain ⟨n, m, g, h1, h2, h3, e0, e1, e2, hs, he⟩ := h
  rw [dn_of e0 (by omega)]
  exact h1
theorem DV_g {d : Nat → Nat → Int32} (h : DV d) : dn d 8 2 < 2 ^ dn d 8 1 ∧ d 8 2 = nI (dn d 8 2) ∧ 2 ^ dn d 8 1 ≤ 64 ∧ dn d 8 2 < 64 := by
  obtain ⟨n, m, g, h1, h2, h3, e0, e1, e2, hs, he⟩ := h
  have h6 : 2 ^ m ≤ 64 := Nat.pow_le_pow_right (show 0 < 2 by decide) h2
  rw [dn_of e1 (by omega), dn_of e2 (by omega)]
  exact ⟨h3, e2, h6, by omega⟩
/-- an engaged element's torque is determined -/
def dtT (d : Nat → Nat → Int32) (k : Nat) : Prop := Solv (TQ d (dn d 8 2)) ∧ DetS (TQ d (dn d 8 2)) (4 + k)
theorem nI_tt {k : Nat} (h : k < 2147483648) : (nI k).toInt.toNat = k := by rw [nI_toIntI h]; omega
theorem elm_at {d : Nat → Nat → Int32} {k : Nat} (h : k < dn d 8 1) : elm d (nI k) := ⟨k, h, rfl⟩
theorem msk_at {d : Nat → Nat → Int32} {z : Nat} (h : z < 2 ^ dn d 8 1) : msk d (nI z) := ⟨z, h, rfl⟩
theorem prt_at {k : Nat} (h : k ≤ 1) : prt (nI k) := ⟨k, h, rfl⟩
theorem rs_torque_at {d : Nat → Nat → Int32} {k : Nat} (h : k < dn d 8 1) (h6 : k < 6) (hb : (dn d 8 2).testBit k = true) : rs_torque d (nI k) (nI 0) = cI (¬ dtT d k) (3, 0) (0, vN (TQ d (dn d 8 2)) (4 + k)) := by
  unfold rs_torque
  rw [cI_f (fun z => z (elm_at h)), cI_f (fun z => z (prt_at (by decide))), nI_tt (by omega), cI_f (fun z => z hb)]
  rfl
theorem rs_torque_1 {d : Nat → Nat → Int32} {k : Nat} (h : k < dn d 8 1) (h6 : k < 6) (hb : (dn d 8 2).testBit k = true) (hd : dtT d k) : rs_torque d (nI k) (nI 1) = (0, vD (TQ d (dn d 8 2)) (4 + k)) := by
  unfold rs_torque
  rw [cI_f (fun z => z (elm_at h)), cI_f (fun z => z (prt_at (by decide))), nI_tt (by omega), cI_f (fun z => z hb), cI_f (fun z => z hd)]
  rfl
theorem rs_index0 (d : Nat → Nat → Int32) : ∃ t : Int, rs_indexOf d (nI 0) = (0, t) ∧ (0 ≤ t ↔ stM d 0 = 0) := by
  have h0 : (nI 0).toInt = 0 := by decide
  have hm : msk d (nI 0) := msk_at (Nat.two_pow_pos _)
  by_cases h : ∃ k, k < gN d ∧ (gF d k : Int) = (nI 0).toInt
  · refine ⟨_, by unfold rs_indexOf; rw [cI_f (fun z => z hm), cI_t h], fun _ => ?_, fun _ => Int.natCast_nonneg _⟩
    obtain ⟨k, hk, hz⟩ := h
    exact gF_zero.mp ⟨k, hk, by omega⟩
  · refine ⟨_, by unfold rs_indexOf; rw [cI_f (fun z => z hm), cI_f h], fun z => absurd z (by decide), fun z => ?_⟩
    obtain ⟨k, hk, hz⟩ := gF_zero.mpr z
    exact absurd ⟨k, hk, by omega⟩ h
theorem rs_count0 {d : Nat → Nat → Int32} {n : Nat} (h : dn d 8 0 = n) : rs_count d (nI 0) = (0, (n : Int)) := by
  have h0 : (nI 0).toInt = 0 := by decide
  unfold rs_count
  rw [cI_f (by omega), cI_t h0, h]
theorem rs_count1 {d : Nat → Nat → Int32} {n : Nat} (h : dn d 8 1 = n) : rs_count d (nI 1) = (0, (n : Int)) := by
  have h0 : (nI 1).toInt = 1 := by decide
  unfold rs_count
  rw [cI_f (by omega), cI_f (by omega), cI_t h0, h]
theorem rs_count2 (d : Nat → Nat → Int32) : rs_count d (nI 2) = (0, (gN d : Int)) := by
  have h0 : (nI 2).toInt = 2 := by decide
  unfold rs_count
  rw [cI_f (by omega), cI_f (by omega), cI_f (by omega)]
section FA
variable {x : Int32} (d : Nat → Nat → Int32) (h : x.toInt < 0 ∨ 20000 ≤ x.toInt)
theorem far_neg {k : Nat} (hk : k < 1000000) : ((-1) - nI k).toInt < 0 := by
  rw [Int32.toInt_sub, nI_toIntI (by omega), show (-1 : Int32).toInt = -1 by decide, Int.bmod_eq_of_le (by omega) (by omega)]
  omega
theorem far_shf (h : x.toInt < 0 ∨ 20000 ≤ x.toInt) : ¬ shf x := fun z => by have z := shf_iff.mp z; omega
theorem far_brake (h : x.toInt < 0 ∨ 20000 ≤ x.toInt) : (rs_addBrake d x).1 = 1 := by unfold rs_addBrake; rw [cI_t (far_shf h)]
theorem far_clutch (h : x.toInt < 0 ∨ 20000 ≤ x.toInt) : (rs_addClutch d (nI 0) x).1 = 1 := by unfold rs_addClutch; rw [cI_t (fun z => far_shf h z.2)]
theorem far_set (h : x.toInt < 0 ∨ 20000 ≤ x.toInt) : (rs_addSet d (nI 0) (nI 1) (nI 2) (nI 10) x).1 = 2 := by
  have h10 : (nI 10).toInt = 10 := by decide
  unfold rs_addSet
  rw [cI_f (fun z => z ⟨⟨0, by decide, rfl⟩, ⟨1, by decide, rfl⟩, ⟨2, by decide, rfl⟩⟩), cI_f (by decide), cI_f (by omega), cI_t (by omega)]
theorem far_slip (h : x.toInt < 0 ∨ 20000 ≤ x.toInt) : (rs_slipping d x).1 = 1 := by unfold rs_slipping; rw [cI_t (by omega)]
theorem far_mask {d : Nat → Nat → Int32} (hm : d 8 1 = nI 0) (h : x.toInt < 0 ∨ 20000 ≤ x.toInt) : (rs_select d x).1 = 1 := by
  unfold rs_select
  rw [cI_t (fun z => by
    obtain ⟨k, hk, rfl⟩ := z
    rw [dn_of hm (by decide)] at hk
    rw [nI_toIntI (by omega)] at h
    omega)]
theorem far_speed (h : x.toInt < 0 ∨ 20000 ≤ x.toInt) : (rs_speed d x x).1 = 1 := by unfold rs_speed; rw [cI_t (far_shf h)]
theorem far_gear (h : x.toInt < 0 ∨ 20000 ≤ x.toInt) : (rs_gear d x).1 = 1 := by
  unfold rs_gear
  rw [cI_t (fun z => by
    obtain ⟨k, hk, rfl⟩ := z
    have := gN_le d
    rw [nI_toIntI (by omega)] at h
    omega)]
theorem far_slot (v : CV) (h : x.toInt < 0 ∨ 20000 ≤ x.toInt) : (rs_restore v x).1 = 1 := by unfold rs_restore; rw [cI_t (fun z => by have z := prt_iff.mp z; omega)]
end FA
set_option maxHeartbeats 4000000 in
set_option maxRecDepth 100000 in
theorem c_L_noBrake (l : Launch) (hlf : l.stackTraces = false) (D : va_G) (K : Nat → ClassId) (ad q q1 q2 g r r2 : Nat → Nat) (v : CV) (i : CI) (x : Int32) (sz : Nat) (hI : IV v) (hJ : II v.1 i) (hrs : (rs_addBrake v.1 x).1 = 1) : Met l yL_noBrake (.codeWith yL_noBrake cL_noBrake 3 (some .boolean) [(0, 7, 8, 141)] :: TB) ({ frames := 8, cells := 1, slots := 6, locals := 171 } : Room) (va_Pc [.ref (ad 0), .int x] (cPM D K (WX K ad q q1 q2 g r r2 v i) sz)) (va_Qi (fun (z : Int32) (u : CV × CI) => z = nI 1 ∧ u.1 = v ∧ II u.1.1 u.2) (fun (u : CV × CI) t => cB D K (va_A (WX K ad q q1 q2 g r r2 v i) sz) (WX K ad q q1 q2 g r r2 u.1 u.2) t) (va_A (WX K ad q q1 q2 g r r2 v i) sz)) 1 6 (va_A (WX K ad q q1 q2 g r r2 v i) sz) := by
  refine Met.ofWH (cc := cL_noBrake) (maxL := 3) (ret := (some .boolean)) (hh := [(0, 7, 8, 141)]) (by decide) rfl ?_
  intro p e s m args below meth c s₁ B hml hv
  obtain ⟨rfl, ⟨hsz, hP, hK, hD0⟩, hTX, hCL⟩ := hv
  have hx := B.exec
  have hb := B.bytes
  have hr := B.returns
  have hts := hts_tl (atoms_spec (ws := (.codeWith yL_noBrake cL_noBrake 3 (some .boolean) [(0, 7, 8, 141)] :: TB)) B.pre)
  have hxt := vx_table (x := yL_noBrake) B (atoms_spec (ws := (.codeWith yL_noBrake cL_noBrake 3 (some .boolean) [(0, 7, 8, 141)] :: TB)) B.pre _ List.mem_cons_self)
  have hown : s.vm.findClass RL = some m.cls := findClass_of_methodNamed B.named
  have hlocks := B.notSynchronized
  subst hsz
  have hD := hD0.self (sz := s.heap.size)
  generalize hAe : (va_A (WX K ad q q1 q2 g r r2 v i) s.heap.size) = A at hD hTX ⊢
  have hA : ∀ q : Nat, s.heap.size ≤ q → A q := fun q h => by rw [← hAe]; exact Or.inr h
  have hS : va_S A s.heap s.heap [] := va_S.rf
  clear hAe hD0
  have hP : va_P D vwCl (WX K ad q q1 q2 g r r2 v i) s.heap := hP
  have hD : va_D A (WX K ad q q1 q2 g r r2 v i) := hD
  have hl := lv_entry ([.ref (ad 0), .int x]) (n := 3) (Nat.le_of_ble_eq_true rfl)
  rw [lg_entry_eq]
  generalize (lg_sl ([.ref (ad 0), .int x]) ++ List.replicate (3 - (lg_sl ([.ref (ad 0), .int x])).length) Slot.unset).toArray = ls at hl ⊢
  have hl : lv_has ls 3 [(0, .ref (ad 0)), (1, .int x)] := hl
  refine lv_aload_n hx hb dL_noBrake_0 rfl (lv_at hl 0 rfl) ?_
  refine lv_iload_n hx hb dL_noBrake_1 rfl (lv_at hl 1 rfl) ?_
  have hFc := freeAll hD hS hA
  refine vx_calli (vx_runV (As := [.int x]) (rest := []) ⟨hx, hb, hml, hown, hts⟩ (c_X6_addBrake l hlf D K ad q q1 q2 g r r2 v i x s.heap.size hI hJ) (cwV 1 hts (TB_V k_m_L_30 k_im_X6_addBrake k_se_X6_addBrake k_in_X6 k_co_X6_addBrake (fun _ h => h)) rfl rfl rfl (by decide +kernel) ⟨Nat.le_of_ble_eq_true rfl, Nat.le_of_ble_eq_true rfl⟩) ⟨cPT_blind, va_recv hK hP (ci := 6) (q0 := 0) rfl rfl, cPT_of hP hK hD hTX hS hFc⟩ rfl rfl hl.1 rfl (lv_room (Nat.le_of_ble_eq_true rfl)) dL_noBrake_2 ⟨(Nat.le_of_ble_eq_true rfl), (Nat.le_of_ble_eq_true rfl)⟩) hS (fun q _ h => hFc q h) hFc (fun q _ h => hFc q h) (fun E ce q9 u9 t9 H locs ht9 hal hpx hB hz1 hk1 hS hce hcv hcl => ?_) (fun rz u9 t9 H locs ht9 hal hw hB hz1 hk1 hS => ?_)
  · obtain ⟨v9, i9⟩ := u9
    obtain ⟨hv9, hJ9⟩ := hpx
    have hv9 : v9 = v := hv9
    obtain ⟨hexc, hP1, hK1, hD1⟩ := hB
    rw [ht9] at hP1
    have hP2 := hP1
    have hD2 := hD1.weaken (fun _ _ _ h => hFc _ h)
    have hJ9 : II v9.1 i9 := hJ9
    rw [hv9] at hP2 hD2 hJ9
    dsimp only at hP2 hD2
    have hJ : II v.1 i9 := hJ9
    have hP : va_P D vwCl (WX K ad q q1 q2 g r r2 v i9) H := hP2
    have hD : va_D A (WX K ad q q1 q2 g r r2 v i9) := hD2
    rcases exc2 hexc with ⟨hk, rfl⟩ | ⟨hk, rfl⟩
    · refine vx_catch (own := RL) (name := eIO) (E := eIO) hown [] ⟨0, 7, 8, 141⟩ [] hxt (fun z h => absurd h List.not_mem_nil) (by decide) (by decide) (hts _ k_cl_L_141) (dc_use rfl hCL.1) hce hcv hcl ?_
      refine lv_astore_n (lv' := [(2, .ref q9), (0, .ref (ad 0)), (1, .int x)]) hx hb dL_noBrake_8 rfl hl (by decide) rfl (fun ls hl => ?_)
      refine lv_iconst (v := nI 1) hx hb dL_noBrake_9 (by decide) ?_
      refine W.widen (k := 1) (n := 6) (Nat.le_of_ble_eq_true rfl) (Nat.le_of_ble_eq_true rfl) ?_
      exact W.zret (v := nI 1) hx hb hr (by decide) (fun t9 ht9 hW => ⟨⟨nI 1, (v, i9), rfl, ⟨rfl, rfl, hJ⟩, by rw [ht9]; exact hP, va_K.moved hW.alike hK, hD⟩, hS.F ht9⟩) hS.2.2 dL_noBrake_10
    · exact absurd (hk.symm.trans hrs) (by decide)
  obtain ⟨v9, i9⟩ := u9
  obtain ⟨hP1, hK1, hD1⟩ := hB
  rw [ht9] at hP1
  have hP2 := hP1
  have hD2 := hD1.weaken (fun _ _ _ h => hFc _ h)
  exact absurd (show (0 : Nat) = 1 from (congrArg Prod.fst hw.2.2.2).symm.trans hrs) (by decide)
set_option maxHeartbeats 4000000 in
set_option maxRecDepth 100000 in
theorem c_L_noClutch (l : Launch) (hlf : l.stackTraces = false) (D : va_G) (K : Nat → ClassId) (ad q q1 q2 g r r2 : Nat → Nat) (v : CV) (i : CI) (x : Int32) (sz : Nat) (hI : IV v) (hJ : II v.1 i) (hrs : (rs_addClutch v.1 (nI 0) x).1 = 1) : Met l yL_noClutch (.codeWith yL_noClutch cL_noClutch 3 (some .boolean) [(0, 8, 9, 141)] :: TB) ({ frames := 8, cells := 1, slots := 6, locals := 172 } : Room) (va_Pc [.ref (ad 0), .int x] (cPM D K (WX K ad q q1 q2 g r r2 v i) sz)) (va_Qi (fun (z : Int32) (u : CV × CI) => z = nI 1 ∧ u.1 = v ∧ II u.1.1 u.2) (fun (u : CV × CI) t => cB D K (va_A (WX K ad q q1 q2 g r r2 v i) sz) (WX K ad q q1 q2 g r r2 u.1 u.2) t) (va_A (WX K ad q q1 q2 g r r2 v i) sz)) 1 6 (va_A (WX K ad q q1 q2 g r r2 v i) sz) := by
  refine Met.ofWH (cc := cL_noClutch) (maxL := 3) (ret := (some .boolean)) (hh := [(0, 8, 9, 141)]) (by decide) rfl ?_
  intro p e s m args below meth c s₁ B hml hv
  obtain ⟨rfl, ⟨hsz, hP, hK, hD0⟩, hTX, hCL⟩ := hv
  have hx := B.exec
  have hb := B.bytes
  have hr := B.returns
  have hts := hts_tl (atoms_spec (ws := (.codeWith yL_noClutch cL_noClutch 3 (some .boolean) [(0, 8, 9, 141)] :: TB)) B.pre)
  have hxt := vx_table (x := yL_noClutch) B (atoms_spec (ws := (.codeWith yL_noClutch cL_noClutch 3 (some .boolean) [(0, 8, 9, 141)] :: TB)) B.pre _ List.mem_cons_self)
  have hown : s.vm.findClass RL = some m.cls := findClass_of_methodNamed B.named
  have hlocks := B.notSynchronized
  subst hsz
  have hD := hD0.self (sz := s.heap.size)
  generalize hAe : (va_A (WX K ad q q1 q2 g r r2 v i) s.heap.size) = A at hD hTX ⊢
  have hA : ∀ q : Nat, s.heap.size ≤ q → A q := fun q h => by rw [← hAe]; exact Or.inr h
  have hS : va_S A s.heap s.heap [] := va_S.rf
  clear hAe hD0
  have hP : va_P D vwCl (WX K ad q q1 q2 g r r2 v i) s.heap := hP
  have hD : va_D A (WX K ad q q1 q2 g r r2 v i) := hD
  have hl := lv_entry ([.ref (ad 0), .int x]) (n := 3) (Nat.le_of_ble_eq_true rfl)
  rw [lg_entry_eq]
  generalize (lg_sl ([.ref (ad 0), .int x]) ++ List.replicate (3 - (lg_sl ([.ref (ad 0), .int x])).length) Slot.unset).toArray = ls at hl ⊢
  have hl : lv_has ls 3 [(0, .ref (ad 0)), (1, .int x)] := hl
  refine lv_aload_n hx hb dL_noClutch_0 rfl (lv_at hl 0 rfl) ?_
  refine lv_iconst (v := nI 0) hx hb dL_noClutch_1 (by decide) ?_
  refine lv_iload_n hx hb dL_noClutch_2 rfl (lv_at hl 1 rfl) ?_
  have hFc := freeAll hD hS hA
  refine vx_calli (vx_runV (As := [.int (nI 0), .int x]) (rest := []) ⟨hx, hb, hml, hown, hts⟩ (c_X6_addClutch l hlf D K ad q q1 q2 g r r2 v i (nI 0) x s.heap.size hI hJ) (cwV 2 hts (TB_V k_m_L_34 k_im_X6_addClutch k_se_X6_addClutch k_in_X6 k_co_X6_addClutch (fun _ h => h)) rfl rfl rfl (by decide +kernel) ⟨Nat.le_of_ble_eq_true rfl, Nat.le_of_ble_eq_true rfl⟩) ⟨cPT_blind, va_recv hK hP (ci := 6) (q0 := 0) rfl rfl, cPT_of hP hK hD hTX hS hFc⟩ rfl rfl hl.1 rfl (lv_room (Nat.le_of_ble_eq_true rfl)) dL_noClutch_3 ⟨(Nat.le_of_ble_eq_true rfl), (Nat.le_of_ble_eq_true rfl)⟩) hS (fun q _ h => hFc q h) hFc (fun q _ h => hFc q h) (fun E ce q9 u9 t9 H locs ht9 hal hpx hB hz1 hk1 hS hce hcv hcl => ?_) (fun rz u9 t9 H locs ht9 hal hw hB hz1 hk1 hS => ?_)
  · obtain ⟨v9, i9⟩ := u9
    obtain ⟨hv9, hJ9⟩ := hpx
    have hv9 : v9 = v := hv9
    obtain ⟨hexc, hP1, hK1, hD1⟩ := hB
    rw [ht9] at hP1
    have hP2 := hP1
    have hD2 := hD1.weaken (fun _ _ _ h => hFc _ h)
    have hJ9 : II v9.1 i9 := hJ9
    rw [hv9] at hP2 hD2 hJ9
    dsimp only at hP2 hD2
    have hJ : II v.1 i9 := hJ9
    have hP : va_P D vwCl (WX K ad q q1 q2 g r r2 v i9) H := hP2
    have hD : va_D A (WX K ad q q1 q2 g r r2 v i9) := hD2
    rcases exc3 hexc with ⟨hk, rfl⟩ | ⟨hk, rfl⟩ | ⟨hk, rfl⟩
    · refine vx_catch (own := RL) (name := eIO) (E := eIO) hown [] ⟨0, 8, 9, 141⟩ [] hxt (fun z h => absurd h List.not_mem_nil) (by decide) (by decide) (hts _ k_cl_L_141) (dc_use rfl hCL.1) hce hcv hcl ?_
      refine lv_astore_n (lv' := [(2, .ref q9), (0, .ref (ad 0)), (1, .int x)]) hx hb dL_noClutch_9 rfl hl (by decide) rfl (fun ls hl => ?_)
      refine lv_iconst (v := nI 1) hx hb dL_noClutch_10 (by decide) ?_
      refine W.widen (k := 1) (n := 6) (Nat.le_of_ble_eq_true rfl) (Nat.le_of_ble_eq_true rfl) ?_
      exact W.zret (v := nI 1) hx hb hr (by decide) (fun t9 ht9 hW => ⟨⟨nI 1, (v, i9), rfl, ⟨rfl, rfl, hJ⟩, by rw [ht9]; exact hP, va_K.moved hW.alike hK, hD⟩, hS.F ht9⟩) hS.2.2 dL_noClutch_11
    · exact absurd (hk.symm.trans hrs) (by decide)
    · exact absurd (hk.symm.trans hrs) (by decide)
  obtain ⟨v9, i9⟩ := u9
  obtain ⟨hP1, hK1, hD1⟩ := hB
  rw [ht9] at hP1
  have hP2 := hP1
  have hD2 := hD1.weaken (fun _ _ _ h => hFc _ h)
  exact absurd (show (0 : Nat) = 1 from (congrArg Prod.fst hw.2.2.2).symm.trans hrs) (by decide)
set_option maxHeartbeats 4000000 in
set_option maxRecDepth 100000 in
theorem c_L_noSet (l : Launch) (hlf : l.stackTraces = false) (D : va_G) (K : Nat → ClassId) (ad q q1 q2 g r r2 : Nat → Nat) (v : CV) (i : CI) (x : Int32) (sz : Nat) (hI : IV v) (hJ : II v.1 i) (hrs : (rs_addSet v.1 (nI 0) (nI 1) (nI 2) (nI 10) x).1 = 2) : Met l yL_noSet (.codeWith yL_noSet cL_noSet 3 (some .boolean) [(0, 12, 13, 143)] :: TB) ({ frames := 8, cells := 1, slots := 6, locals := 175 } : Room) (va_Pc [.ref (ad 0), .int x] (cPM D K (WX K ad q q1 q2 g r r2 v i) sz)) (va_Qi (fun (z : Int32) (u : CV × CI) => z = nI 1 ∧ u.1 = v ∧ II u.1.1 u.2) (fun (u : CV × CI) t => cB D K (va_A (WX K ad q q1 q2 g r r2 v i) sz) (WX K ad q q1 q2 g r r2 u.1 u.2) t) (va_A (WX K ad q q1 q2 g r r2 v i) sz)) 1 6 (va_A (WX K ad q q1 q2 g r r2 v i) sz) := by
  refine Met.ofWH (cc := cL_noSet) (maxL := 3) (ret := (some .boolean)) (hh := [(0, 12, 13, 143)]) (by decide) rfl ?_
  intro p e s m args below meth c s₁ B hml hv
  obtain ⟨rfl, ⟨hsz, hP, hK, hD0⟩, hTX, hCL⟩ := hv
  have hx := B.exec
  have hb := B.bytes
  have hr := B.returns
  have hts := hts_tl (atoms_spec (ws := (.codeWith yL_noSet cL_noSet 3 (some .boolean) [(0, 12, 13, 143)] :: TB)) B.pre)
  have hxt := vx_table (x := yL_noSet) B (atoms_spec (ws := (.codeWith yL_noSet cL_noSet 3 (some .boolean) [(0, 12, 13, 143)] :: TB)) B.pre _ List.mem_cons_self)
  have hown : s.vm.findClass RL = some m.cls := findClass_of_methodNamed B.named
  have hlocks := B.notSynchronized
  subst hsz
  have hD := hD0.self (sz := s.heap.size)
  generalize hAe : (va_A (WX K ad q q1 q2 g r r2 v i) s.heap.size) = A at hD hTX ⊢
  have hA : ∀ q : Nat, s.heap.size ≤ q → A q := fun q h => by rw [← hAe]; exact Or.inr h
  have hS : va_S A s.heap s.heap [] := va_S.rf
  clear hAe hD0
  have hP : va_P D vwCl (WX K ad q q1 q2 g r r2 v i) s.heap := hP
  have hD : va_D A (WX K ad q q1 q2 g r r2 v i) := hD
  have hl := lv_entry ([.ref (ad 0), .int x]) (n := 3) (Nat.le_of_ble_eq_true rfl)
  rw [lg_entry_eq]
  generalize (lg_sl ([.ref (ad 0), .int x]) ++ List.replicate (3 - (lg_sl ([.ref (ad 0), .int x])).length) Slot.unset).toArray = ls at hl ⊢
  have hl : lv_has ls 3 [(0, .ref (ad 0)), (1, .int x)] := hl
  refine lv_aload_n hx hb dL_noSet_0 rfl (lv_at hl 0 rfl) ?_
  refine lv_iconst (v := nI 0) hx hb dL_noSet_1 (by decide) ?_
  refine lv_iconst (v := nI 1) hx hb dL_noSet_2 (by decide) ?_
  refine lv_iconst (v := nI 2) hx hb dL_noSet_3 (by decide) ?_
  refine lv_bipush (v := nI 10) hx hb dL_noSet_4 (by decide) ?_
  refine lv_iload_n hx hb dL_noSet_6 rfl (lv_at hl 1 rfl) ?_
  have hFc := freeAll hD hS hA
  refine vx_calli (vx_runV (As := [.int (nI 0), .int (nI 1), .int (nI 2), .int (nI 10), .int x]) (rest := []) ⟨hx, hb, hml, hown, hts⟩ (c_X6_addSet l hlf D K ad q q1 q2 g r r2 v i (nI 0) (nI 1) (nI 2) (nI 10) x s.heap.size hI hJ) (cwV 5 hts (TB_V k_m_L_26 k_im_X6_addSet k_se_X6_addSet k_in_X6 k_co_X6_addSet (fun _ h => h)) rfl rfl rfl (by decide +kernel) ⟨Nat.le_of_ble_eq_true rfl, Nat.le_of_ble_eq_true rfl⟩) ⟨cPT_blind, va_recv hK hP (ci := 6) (q0 := 0) rfl rfl, cPT_of hP hK hD hTX hS hFc⟩ rfl rfl hl.1 rfl (lv_room (Nat.le_of_ble_eq_true rfl)) dL_noSet_7 ⟨(Nat.le_of_ble_eq_true rfl), (Nat.le_of_ble_eq_true rfl)⟩) hS (fun q _ h => hFc q h) hFc (fun q _ h => hFc q h) (fun E ce q9 u9 t9 H locs ht9 hal hpx hB hz1 hk1 hS hce hcv hcl => ?_) (fun rz u9 t9 H locs ht9 hal hw hB hz1 hk1 hS => ?_)
  · obtain ⟨v9, i9⟩ := u9
    obtain ⟨hv9, hJ9⟩ := hpx
    have hv9 : v9 = v := hv9
    obtain ⟨hexc, hP1, hK1, hD1⟩ := hB
    rw [ht9] at hP1
    have hP2 := hP1
    have hD2 := hD1.weaken (fun _ _ _ h => hFc _ h)
    have hJ9 : II v9.1 i9 := hJ9
    rw [hv9] at hP2 hD2 hJ9
    dsimp only at hP2 hD2
    have hJ : II v.1 i9 := hJ9
    have hP : va_P D vwCl (WX K ad q q1 q2 g r r2 v i9) H := hP2
    have hD : va_D A (WX K ad q q1 q2 g r r2 v i9) := hD2
    rcases exc3 hexc with ⟨hk, rfl⟩ | ⟨hk, rfl⟩ | ⟨hk, rfl⟩
    · exact absurd (hk.symm.trans hrs) (by decide)
    · refine vx_catch (own := RL) (name := eIA) (E := eIA) hown [] ⟨0, 12, 13, 143⟩ [] hxt (fun z h => absurd h List.not_mem_nil) (by decide) (by decide) (hts _ k_cl_L_143) (dc_use rfl hCL.2.1) hce hcv hcl ?_
      refine lv_astore_n (lv' := [(2, .ref q9), (0, .ref (ad 0)), (1, .int x)]) hx hb dL_noSet_13 rfl hl (by decide) rfl (fun ls hl => ?_)
      refine lv_iconst (v := nI 1) hx hb dL_noSet_14 (by decide) ?_
      refine W.widen (k := 1) (n := 6) (Nat.le_of_ble_eq_true rfl) (Nat.le_of_ble_eq_true rfl) ?_
      exact W.zret (v := nI 1) hx hb hr (by decide) (fun t9 ht9 hW => ⟨⟨nI 1, (v, i9), rfl, ⟨rfl, rfl, hJ⟩, by rw [ht9]; exact hP, va_K.moved hW.alike hK, hD⟩, hS.F ht9⟩) hS.2.2 dL_noSet_15
    · exact absurd (hk.symm.trans hrs) (by decide)
  obtain ⟨v9, i9⟩ := u9
  obtain ⟨hP1, hK1, hD1⟩ := hB
  rw [ht9] at hP1
  have hP2 := hP1
  have hD2 := hD1.weaken (fun _ _ _ h => hFc _ h)
  exact absurd (show (0 : Nat) = 2 from (congrArg Prod.fst hw.2.2.2).symm.trans hrs) (by decide)
set_option maxHeartbeats 4000000 in
set_option maxRecDepth 100000 in
theorem c_L_noSlip (l : Launch) (hlf : l.stackTraces = false) (D : va_G) (K : Nat → ClassId) (ad q q1 q2 g r r2 : Nat → Nat) (v : CV) (i : CI) (x : Int32) (sz : Nat) (hI : IV v) (hJ : II v.1 i) (hrs : (rs_slipping v.1 x).1 = 1) : Met l yL_noSlip (.codeWith yL_noSlip cL_noSlip 3 (some .boolean) [(0, 7, 8, 143)] :: TB) ({ frames := 8, cells := 1, slots := 6, locals := 173 } : Room) (va_Pc [.ref (ad 0), .int x] (cPM D K (WX K ad q q1 q2 g r r2 v i) sz)) (va_Qi (fun (z : Int32) (u : CV × CI) => z = nI 1 ∧ u.1 = v ∧ II u.1.1 u.2) (fun (u : CV × CI) t => cB D K (va_A (WX K ad q q1 q2 g r r2 v i) sz) (WX K ad q q1 q2 g r r2 u.1 u.2) t) (va_A (WX K ad q q1 q2 g r r2 v i) sz)) 1 6 (va_A (WX K ad q q1 q2 g r r2 v i) sz) := by
  refine Met.ofWH (cc := cL_noSlip) (maxL := 3) (ret := (some .boolean)) (hh := [(0, 7, 8, 143)]) (by decide) rfl ?_
  intro p e s m args below meth c s₁ B hml hv
  obtain ⟨rfl, ⟨hsz, hP, hK, hD0⟩, hTX, hCL⟩ := hv
  have hx := B.exec
  have hb := B.bytes
  have hr := B.returns
  have hts := hts_tl (atoms_spec (ws := (.codeWith yL_noSlip cL_noSlip 3 (some .boolean) [(0, 7, 8, 143)] :: TB)) B.pre)
  have hxt := vx_table (x := yL_noSlip) B (atoms_spec (ws := (.codeWith yL_noSlip cL_noSlip 3 (some .boolean) [(0, 7, 8, 143)] :: TB)) B.pre _ List.mem_cons_self)
  have hown : s.vm.findClass RL = some m.cls := findClass_of_methodNamed B.named
  have hlocks := B.notSynchronized
  subst hsz
  have hD := hD0.self (sz := s.heap.size)
  generalize hAe : (va_A (WX K ad q q1 q2 g r r2 v i) s.heap.size) = A at hD hTX ⊢
  have hA : ∀ q : Nat, s.heap.size ≤ q → A q := fun q h => by rw [← hAe]; exact Or.inr h
  have hS : va_S A s.heap s.heap [] := va_S.rf
  clear hAe hD0
  have hP : va_P D vwCl (WX K ad q q1 q2 g r r2 v i) s.heap := hP
  have hD : va_D A (WX K ad q q1 q2 g r r2 v i) := hD
  have hl := lv_entry ([.ref (ad 0), .int x]) (n := 3) (Nat.le_of_ble_eq_true rfl)
  rw [lg_entry_eq]
  generalize (lg_sl ([.ref (ad 0), .int x]) ++ List.replicate (3 - (lg_sl ([.ref (ad 0), .int x])).length) Slot.unset).toArray = ls at hl ⊢
  have hl : lv_has ls 3 [(0, .ref (ad 0)), (1, .int x)] := hl
  refine lv_aload_n hx hb dL_noSlip_0 rfl (lv_at hl 0 rfl) ?_
  refine lv_iload_n hx hb dL_noSlip_1 rfl (lv_at hl 1 rfl) ?_
  have hFc := freeAll hD hS hA
  refine vx_calli (vx_runV (As := [.int x]) (rest := []) ⟨hx, hb, hml, hown, hts⟩ (c_X6_slipping l hlf D K ad q q1 q2 g r r2 v i x s.heap.size hI hJ) (cwV 1 hts (TB_V k_m_L_101 k_im_X6_slipping k_se_X6_slipping k_in_X6 k_co_X6_slipping (fun _ h => h)) rfl rfl rfl (by decide +kernel) ⟨Nat.le_of_ble_eq_true rfl, Nat.le_of_ble_eq_true rfl⟩) ⟨cPT_blind, va_recv hK hP (ci := 6) (q0 := 0) rfl rfl, cPT_of hP hK hD hTX hS hFc⟩ rfl rfl hl.1 rfl (lv_room (Nat.le_of_ble_eq_true rfl)) dL_noSlip_2 ⟨(Nat.le_of_ble_eq_true rfl), (Nat.le_of_ble_eq_true rfl)⟩) hS (fun q _ h => hFc q h) hFc (fun q _ h => hFc q h) (fun E ce q9 u9 t9 H locs ht9 hal hpx hB hz1 hk1 hS hce hcv hcl => ?_) (fun rz u9 t9 H locs ht9 hal hw hB hz1 hk1 hS => ?_)
  · obtain ⟨v9, i9⟩ := u9
    obtain ⟨hv9, hJ9⟩ := hpx
    have hv9 : v9 = v := hv9
    obtain ⟨hexc, hP1, hK1, hD1⟩ := hB
    rw [ht9] at hP1
    have hP2 := hP1
    have hD2 := hD1.weaken (fun _ _ _ h => hFc _ h)
    have hJ9 : II v9.1 i9 := hJ9
    rw [hv9] at hP2 hD2 hJ9
    dsimp only at hP2 hD2
    have hJ : II v.1 i9 := hJ9
    have hP : va_P D vwCl (WX K ad q q1 q2 g r r2 v i9) H := hP2
    have hD : va_D A (WX K ad q q1 q2 g r r2 v i9) := hD2
    obtain ⟨hk, rfl⟩ := exc1 hexc
    refine vx_catch (own := RL) (name := eIA) (E := eIA) hown [] ⟨0, 7, 8, 143⟩ [] hxt (fun z h => absurd h List.not_mem_nil) (by decide) (by decide) (hts _ k_cl_L_143) (dc_use rfl hCL.2.1) hce hcv hcl ?_
    refine lv_astore_n (lv' := [(2, .ref q9), (0, .ref (ad 0)), (1, .int x)]) hx hb dL_noSlip_8 rfl hl (by decide) rfl (fun ls hl => ?_)
    refine lv_iconst (v := nI 1) hx hb dL_noSlip_9 (by decide) ?_
    refine W.widen (k := 1) (n := 6) (Nat.le_of_ble_eq_true rfl) (Nat.le_of_ble_eq_true rfl) ?_
    exact W.zret (v := nI 1) hx hb hr (by decide) (fun t9 ht9 hW => ⟨⟨nI 1, (v, i9), rfl, ⟨rfl, rfl, hJ⟩, by rw [ht9]; exact hP, va_K.moved hW.alike hK, hD⟩, hS.F ht9⟩) hS.2.2 dL_noSlip_10
  obtain ⟨v9, i9⟩ := u9
  obtain ⟨hP1, hK1, hD1⟩ := hB
  rw [ht9] at hP1
  have hP2 := hP1
  have hD2 := hD1.weaken (fun _ _ _ h => hFc _ h)
  exact absurd (show (0 : Nat) = 1 from (congrArg Prod.fst hw.2.2).symm.trans hrs) (by decide)
set_option maxHeartbeats 4000000 in
set_option maxRecDepth 100000 in
theorem c_L_noMask (l : Launch) (hlf : l.stackTraces = false) (D : va_G) (K : Nat → ClassId) (ad q q1 q2 g r r2 : Nat → Nat) (v : CV) (i : CI) (x : Int32) (sz : Nat) (hI : IV v) (hJ : II v.1 i) (hrs : (rs_select v.1 x).1 = 1) : Met l yL_noMask (.codeWith yL_noMask cL_noMask 3 (some .boolean) [(0, 7, 8, 143)] :: TB) ({ frames := 8, cells := 1, slots := 6, locals := 172 } : Room) (va_Pc [.ref (ad 0), .int x] (cPM D K (WX K ad q q1 q2 g r r2 v i) sz)) (va_Qi (fun (z : Int32) (u : CV × CI) => z = nI 1 ∧ u.1 = v ∧ II u.1.1 u.2) (fun (u : CV × CI) t => cB D K (va_A (WX K ad q q1 q2 g r r2 v i) sz) (WX K ad q q1 q2 g r r2 u.1 u.2) t) (va_A (WX K ad q q1 q2 g r r2 v i) sz)) 1 6 (va_A (WX K ad q q1 q2 g r r2 v i) sz) := by
  refine Met.ofWH (cc := cL_noMask) (maxL := 3) (ret := (some .boolean)) (hh := [(0, 7, 8, 143)]) (by decide) rfl ?_
  intro p e s m args below meth c s₁ B hml hv
  obtain ⟨rfl, ⟨hsz, hP, hK, hD0⟩, hTX, hCL⟩ := hv
  have hx := B.exec
  have hb := B.bytes
  have hr := B.returns
  have hts := hts_tl (atoms_spec (ws := (.codeWith yL_noMask cL_noMask 3 (some .boolean) [(0, 7, 8, 143)] :: TB)) B.pre)
  have hxt := vx_table (x := yL_noMask) B (atoms_spec (ws := (.codeWith yL_noMask cL_noMask 3 (some .boolean) [(0, 7, 8, 143)] :: TB)) B.pre _ List.mem_cons_self)
  have hown : s.vm.findClass RL = some m.cls := findClass_of_methodNamed B.named
  have hlocks := B.notSynchronized
  subst hsz
  have hD := hD0.self (sz := s.heap.size)
  generalize hAe : (va_A (WX K ad q q1 q2 g r r2 v i) s.heap.size) = A at hD hTX ⊢
  have hA : ∀ q : Nat, s.heap.size ≤ q → A q := fun q h => by rw [← hAe]; exact Or.inr h
  have hS : va_S A s.heap s.heap [] := va_S.rf
  clear hAe hD0
  have hP : va_P D vwCl (WX K ad q q1 q2 g r r2 v i) s.heap := hP
  have hD : va_D A (WX K ad q q1 q2 g r r2 v i) := hD
  have hl := lv_entry ([.ref (ad 0), .int x]) (n := 3) (Nat.le_of_ble_eq_true rfl)
  rw [lg_entry_eq]
  generalize (lg_sl ([.ref (ad 0), .int x]) ++ List.replicate (3 - (lg_sl ([.ref (ad 0), .int x])).length) Slot.unset).toArray = ls at hl ⊢
  have hl : lv_has ls 3 [(0, .ref (ad 0)), (1, .int x)] := hl
  refine lv_aload_n hx hb dL_noMask_0 rfl (lv_at hl 0 rfl) ?_
  refine lv_iload_n hx hb dL_noMask_1 rfl (lv_at hl 1 rfl) ?_
  have hFc := freeAll hD hS hA
  refine vx_calli (vx_runV (As := [.int x]) (rest := []) ⟨hx, hb, hml, hown, hts⟩ (c_X6_select l hlf D K ad q q1 q2 g r r2 v i x s.heap.size hI hJ) (cwV 1 hts (TB_V k_m_L_61 k_im_X6_select k_se_X6_select k_in_X6 k_co_X6_select (fun _ h => h)) rfl rfl rfl (by decide +kernel) ⟨Nat.le_of_ble_eq_true rfl, Nat.le_of_ble_eq_true rfl⟩) ⟨cPT_blind, va_recv hK hP (ci := 6) (q0 := 0) rfl rfl, cPT_of hP hK hD hTX hS hFc⟩ rfl rfl hl.1 rfl (lv_room (Nat.le_of_ble_eq_true rfl)) dL_noMask_2 ⟨(Nat.le_of_ble_eq_true rfl), (Nat.le_of_ble_eq_true rfl)⟩) hS (fun q _ h => hFc q h) hFc (fun q _ h => hFc q h) (fun E ce q9 u9 t9 H locs ht9 hal hpx hB hz1 hk1 hS hce hcv hcl => ?_) (fun rz u9 t9 H locs ht9 hal hw hB hz1 hk1 hS => ?_)
  · obtain ⟨v9, i9⟩ := u9
    obtain ⟨hv9, hJ9⟩ := hpx
    have hv9 : v9 = v := hv9
    obtain ⟨hexc, hP1, hK1, hD1⟩ := hB
    rw [ht9] at hP1
    have hP2 := hP1
    have hD2 := hD1.weaken (fun _ _ _ h => hFc _ h)
    have hJ9 : II v9.1 i9 := hJ9
    rw [hv9] at hP2 hD2 hJ9
    dsimp only at hP2 hD2
    have hJ : II v.1 i9 := hJ9
    have hP : va_P D vwCl (WX K ad q q1 q2 g r r2 v i9) H := hP2
    have hD : va_D A (WX K ad q q1 q2 g r r2 v i9) := hD2
    obtain ⟨hk, rfl⟩ := exc1 hexc
    refine vx_catch (own := RL) (name := eIA) (E := eIA) hown [] ⟨0, 7, 8, 143⟩ [] hxt (fun z h => absurd h List.not_mem_nil) (by decide) (by decide) (hts _ k_cl_L_143) (dc_use rfl hCL.2.1) hce hcv hcl ?_
    refine lv_astore_n (lv' := [(2, .ref q9), (0, .ref (ad 0)), (1, .int x)]) hx hb dL_noMask_8 rfl hl (by decide) rfl (fun ls hl => ?_)
    refine lv_iconst (v := nI 1) hx hb dL_noMask_9 (by decide) ?_
    refine W.widen (k := 1) (n := 6) (Nat.le_of_ble_eq_true rfl) (Nat.le_of_ble_eq_true rfl) ?_
    exact W.zret (v := nI 1) hx hb hr (by decide) (fun t9 ht9 hW => ⟨⟨nI 1, (v, i9), rfl, ⟨rfl, rfl, hJ⟩, by rw [ht9]; exact hP, va_K.moved hW.alike hK, hD⟩, hS.F ht9⟩) hS.2.2 dL_noMask_10
  obtain ⟨v9, i9⟩ := u9
  obtain ⟨hP1, hK1, hD1⟩ := hB
  rw [ht9] at hP1
  have hP2 := hP1
  have hD2 := hD1.weaken (fun _ _ _ h => hFc _ h)
  exact absurd (show (0 : Nat) = 1 from (congrArg Prod.fst hw.2.2.2).symm.trans hrs) (by decide)
set_option maxHeartbeats 4000000 in
set_option maxRecDepth 100000 in
theorem c_L_noSpeed (l : Launch) (hlf : l.stackTraces = false) (D : va_G) (K : Nat → ClassId) (ad q q1 q2 g r r2 : Nat → Nat) (v : CV) (i : CI) (x : Int32) (sz : Nat) (hI : IV v) (hJ : II v.1 i) (hrs : (rs_speed v.1 x x).1 = 1) : Met l yL_noSpeed (.codeWith yL_noSpeed cL_noSpeed 3 (some .boolean) [(0, 8, 9, 141)] :: TB) ({ frames := 8, cells := 1, slots := 6, locals := 172 } : Room) (va_Pc [.ref (ad 0), .int x] (cPM D K (WX K ad q q1 q2 g r r2 v i) sz)) (va_Qi (fun (z : Int32) (u : CV × CI) => z = nI 1 ∧ u.1 = v ∧ II u.1.1 u.2) (fun (u : CV × CI) t => cB D K (va_A (WX K ad q q1 q2 g r r2 v i) sz) (WX K ad q q1 q2 g r r2 u.1 u.2) t) (va_A (WX K ad q q1 q2 g r r2 v i) sz)) 1 6 (va_A (WX K ad q q1 q2 g r r2 v i) sz) := by
  refine Met.ofWH (cc := cL_noSpeed) (maxL := 3) (ret := (some .boolean)) (hh := [(0, 8, 9, 141)]) (by decide) rfl ?_
  intro p e s m args below meth c s₁ B hml hv
  obtain ⟨rfl, ⟨hsz, hP, hK, hD0⟩, hTX, hCL⟩ := hv
  have hx := B.exec
  have hb := B.bytes
  have hr := B.returns
  have hts := hts_tl (atoms_spec (ws := (.codeWith yL_noSpeed cL_noSpeed 3 (some .boolean) [(0, 8, 9, 141)] :: TB)) B.pre)
  have hxt := vx_table (x := yL_noSpeed) B (atoms_spec (ws := (.codeWith yL_noSpeed cL_noSpeed 3 (some .boolean) [(0, 8, 9, 141)] :: TB)) B.pre _ List.mem_cons_self)
  have hown : s.vm.findClass RL = some m.cls := findClass_of_methodNamed B.named
  have hlocks := B.notSynchronized
  subst hsz
  have hD := hD0.self (sz := s.heap.size)
  generalize hAe : (va_A (WX K ad q q1 q2 g r r2 v i) s.heap.size) = A at hD hTX ⊢
  have hA : ∀ q : Nat, s.heap.size ≤ q → A q := fun q h => by rw [← hAe]; exact Or.inr h
  have hS : va_S A s.heap s.heap [] := va_S.rf
  clear hAe hD0
  have hP : va_P D vwCl (WX K ad q q1 q2 g r r2 v i) s.heap := hP
  have hD : va_D A (WX K ad q q1 q2 g r r2 v i) := hD
  have hl := lv_entry ([.ref (ad 0), .int x]) (n := 3) (Nat.le_of_ble_eq_true rfl)
  rw [lg_entry_eq]
  generalize (lg_sl ([.ref (ad 0), .int x]) ++ List.replicate (3 - (lg_sl ([.ref (ad 0), .int x])).length) Slot.unset).toArray = ls at hl ⊢
  have hl : lv_has ls 3 [(0, .ref (ad 0)), (1, .int x)] := hl
  refine lv_aload_n hx hb dL_noSpeed_0 rfl (lv_at hl 0 rfl) ?_
  refine lv_iload_n hx hb dL_noSpeed_1 rfl (lv_at hl 1 rfl) ?_
  refine lv_iload_n hx hb dL_noSpeed_2 rfl (lv_at hl 1 rfl) ?_
  have hFc := freeAll hD hS hA
  refine vx_calll (vx_runV (As := [.int x, .int x]) (rest := []) ⟨hx, hb, hml, hown, hts⟩ (c_X6_speed l hlf D K ad q q1 q2 g r r2 v i x x s.heap.size hI hJ) (cwV 2 hts (TB_V k_m_L_145 k_im_X6_speed k_se_X6_speed k_in_X6 k_co_X6_speed (fun _ h => h)) rfl rfl rfl (by decide +kernel) ⟨Nat.le_of_ble_eq_true rfl, Nat.le_of_ble_eq_true rfl⟩) ⟨cPT_blind, va_recv hK hP (ci := 6) (q0 := 0) rfl rfl, cPT_of hP hK hD hTX hS hFc⟩ rfl rfl hl.1 rfl (lv_room (Nat.le_of_ble_eq_true rfl)) dL_noSpeed_3 ⟨(Nat.le_of_ble_eq_true rfl), (Nat.le_of_ble_eq_true rfl)⟩) hS (fun q _ h => hFc q h) hFc (fun q _ h => hFc q h) (fun E ce q9 u9 t9 H locs ht9 hal hpx hB hz1 hk1 hS hce hcv hcl => ?_) (fun rz u9 t9 H locs ht9 hal hw hB hz1 hk1 hS => ?_)
  · obtain ⟨v9, i9⟩ := u9
    obtain ⟨hv9, hJ9⟩ := hpx
    have hv9 : v9 = v := hv9
    obtain ⟨hexc, hP1, hK1, hD1⟩ := hB
    rw [ht9] at hP1
    have hP2 := hP1
    have hD2 := hD1.weaken (fun _ _ _ h => hFc _ h)
    have hJ9 : II v9.1 i9 := hJ9
    rw [hv9] at hP2 hD2 hJ9
    dsimp only at hP2 hD2
    have hJ : II v.1 i9 := hJ9
    have hP : va_P D vwCl (WX K ad q q1 q2 g r r2 v i9) H := hP2
    have hD : va_D A (WX K ad q q1 q2 g r r2 v i9) := hD2
    rcases exc3 hexc with ⟨hk, rfl⟩ | ⟨hk, rfl⟩ | ⟨hk, rfl⟩
    · refine vx_catch (own := RL) (name := eIO) (E := eIO) hown [] ⟨0, 8, 9, 141⟩ [] hxt (fun z h => absurd h List.not_mem_nil) (by decide) (by decide) (hts _ k_cl_L_141) (dc_use rfl hCL.1) hce hcv hcl ?_
      refine lv_astore_n (lv' := [(2, .ref q9), (0, .ref (ad 0)), (1, .int x)]) hx hb dL_noSpeed_9 rfl hl (by decide) rfl (fun ls hl => ?_)
      refine lv_iconst (v := nI 1) hx hb dL_noSpeed_10 (by decide) ?_
      refine W.widen (k := 1) (n := 6) (Nat.le_of_ble_eq_true rfl) (Nat.le_of_ble_eq_true rfl) ?_
      exact W.zret (v := nI 1) hx hb hr (by decide) (fun t9 ht9 hW => ⟨⟨nI 1, (v, i9), rfl, ⟨rfl, rfl, hJ⟩, by rw [ht9]; exact hP, va_K.moved hW.alike hK, hD⟩, hS.F ht9⟩) hS.2.2 dL_noSpeed_11
    · exact absurd (hk.symm.trans hrs) (by decide)
    · exact absurd (hk.symm.trans hrs) (by decide)
  obtain ⟨v9, i9⟩ := u9
  obtain ⟨hP1, hK1, hD1⟩ := hB
  rw [ht9] at hP1
  have hP2 := hP1
  have hD2 := hD1.weaken (fun _ _ _ h => hFc _ h)
  exact absurd (show (0 : Nat) = 1 from (congrArg Prod.fst hw.2.2).symm.trans hrs) (by decide)
set_option maxHeartbeats 4000000 in
set_option maxRecDepth 100000 in
theorem c_L_noGear (l : Launch) (hlf : l.stackTraces = false) (D : va_G) (K : Nat → ClassId) (ad q q1 q2 g r r2 : Nat → Nat) (v : CV) (i : CI) (x : Int32) (sz : Nat) (hI : IV v) (hJ : II v.1 i) (hrs : (rs_gear v.1 x).1 = 1) : Met l yL_noGear (.codeWith yL_noGear cL_noGear 3 (some .boolean) [(0, 7, 8, 141)] :: TB) ({ frames := 8, cells := 1, slots := 6, locals := 171 } : Room) (va_Pc [.ref (ad 0), .int x] (cPM D K (WX K ad q q1 q2 g r r2 v i) sz)) (va_Qi (fun (z : Int32) (u : CV × CI) => z = nI 1 ∧ u.1 = v ∧ II u.1.1 u.2) (fun (u : CV × CI) t => cB D K (va_A (WX K ad q q1 q2 g r r2 v i) sz) (WX K ad q q1 q2 g r r2 u.1 u.2) t) (va_A (WX K ad q q1 q2 g r r2 v i) sz)) 1 6 (va_A (WX K ad q q1 q2 g r r2 v i) sz) := by
  refine Met.ofWH (cc := cL_noGear) (maxL := 3) (ret := (some .boolean)) (hh := [(0, 7, 8, 141)]) (by decide) rfl ?_
  intro p e s m args below meth c s₁ B hml hv
  obtain ⟨rfl, ⟨hsz, hP, hK, hD0⟩, hTX, hCL⟩ := hv
  have hx := B.exec
  have hb := B.bytes
  have hr := B.returns
  have hts := hts_tl (atoms_spec (ws := (.codeWith yL_noGear cL_noGear 3 (some .boolean) [(0, 7, 8, 141)] :: TB)) B.pre)
  have hxt := vx_table (x := yL_noGear) B (atoms_spec (ws := (.codeWith yL_noGear cL_noGear 3 (some .boolean) [(0, 7, 8, 141)] :: TB)) B.pre _ List.mem_cons_self)
  have hown : s.vm.findClass RL = some m.cls := findClass_of_methodNamed B.named
  have hlocks := B.notSynchronized
  subst hsz
  have hD := hD0.self (sz := s.heap.size)
  generalize hAe : (va_A (WX K ad q q1 q2 g r r2 v i) s.heap.size) = A at hD hTX ⊢
  have hA : ∀ q : Nat, s.heap.size ≤ q → A q := fun q h => by rw [← hAe]; exact Or.inr h
  have hS : va_S A s.heap s.heap [] := va_S.rf
  clear hAe hD0
  have hP : va_P D vwCl (WX K ad q q1 q2 g r r2 v i) s.heap := hP
  have hD : va_D A (WX K ad q q1 q2 g r r2 v i) := hD
  have hl := lv_entry ([.ref (ad 0), .int x]) (n := 3) (Nat.le_of_ble_eq_true rfl)
  rw [lg_entry_eq]
  generalize (lg_sl ([.ref (ad 0), .int x]) ++ List.replicate (3 - (lg_sl ([.ref (ad 0), .int x])).length) Slot.unset).toArray = ls at hl ⊢
  have hl : lv_has ls 3 [(0, .ref (ad 0)), (1, .int x)] := hl
  refine lv_aload_n hx hb dL_noGear_0 rfl (lv_at hl 0 rfl) ?_
  refine lv_iload_n hx hb dL_noGear_1 rfl (lv_at hl 1 rfl) ?_
  have hFc := freeAll hD hS hA
  refine vx_calli (vx_runV (As := [.int x]) (rest := []) ⟨hx, hb, hml, hown, hts⟩ (c_X6_gear l hlf D K ad q q1 q2 g r r2 v i x s.heap.size hI hJ) (cwV 1 hts (TB_V k_m_L_58 k_im_X6_gear k_se_X6_gear k_in_X6 k_co_X6_gear (fun _ h => h)) rfl rfl rfl (by decide +kernel) ⟨Nat.le_of_ble_eq_true rfl, Nat.le_of_ble_eq_true rfl⟩) ⟨cPT_blind, va_recv hK hP (ci := 6) (q0 := 0) rfl rfl, cPT_of hP hK hD hTX hS hFc⟩ rfl rfl hl.1 rfl (lv_room (Nat.le_of_ble_eq_true rfl)) dL_noGear_2 ⟨(Nat.le_of_ble_eq_true rfl), (Nat.le_of_ble_eq_true rfl)⟩) hS (fun q _ h => hFc q h) hFc (fun q _ h => hFc q h) (fun E ce q9 u9 t9 H locs ht9 hal hpx hB hz1 hk1 hS hce hcv hcl => ?_) (fun rz u9 t9 H locs ht9 hal hw hB hz1 hk1 hS => ?_)
  · obtain ⟨v9, i9⟩ := u9
    obtain ⟨hv9, hJ9⟩ := hpx
    have hv9 : v9 = v := hv9
    obtain ⟨hexc, hP1, hK1, hD1⟩ := hB
    rw [ht9] at hP1
    have hP2 := hP1
    have hD2 := hD1.weaken (fun _ _ _ h => hFc _ h)
    have hJ9 : II v9.1 i9 := hJ9
    rw [hv9] at hP2 hD2 hJ9
    dsimp only at hP2 hD2
    have hJ : II v.1 i9 := hJ9
    have hP : va_P D vwCl (WX K ad q q1 q2 g r r2 v i9) H := hP2
    have hD : va_D A (WX K ad q q1 q2 g r r2 v i9) := hD2
    obtain ⟨hk, rfl⟩ := exc1 hexc
    refine vx_catch (own := RL) (name := eIO) (E := eIO) hown [] ⟨0, 7, 8, 141⟩ [] hxt (fun z h => absurd h List.not_mem_nil) (by decide) (by decide) (hts _ k_cl_L_141) (dc_use rfl hCL.1) hce hcv hcl ?_
    refine lv_astore_n (lv' := [(2, .ref q9), (0, .ref (ad 0)), (1, .int x)]) hx hb dL_noGear_8 rfl hl (by decide) rfl (fun ls hl => ?_)
    refine lv_iconst (v := nI 1) hx hb dL_noGear_9 (by decide) ?_
    refine W.widen (k := 1) (n := 6) (Nat.le_of_ble_eq_true rfl) (Nat.le_of_ble_eq_true rfl) ?_
    exact W.zret (v := nI 1) hx hb hr (by decide) (fun t9 ht9 hW => ⟨⟨nI 1, (v, i9), rfl, ⟨rfl, rfl, hJ⟩, by rw [ht9]; exact hP, va_K.moved hW.alike hK, hD⟩, hS.F ht9⟩) hS.2.2 dL_noGear_10
  obtain ⟨v9, i9⟩ := u9
  obtain ⟨hP1, hK1, hD1⟩ := hB
  rw [ht9] at hP1
  have hP2 := hP1
  have hD2 := hD1.weaken (fun _ _ _ h => hFc _ h)
  exact absurd (show (0 : Nat) = 1 from (congrArg Prod.fst hw.2.2).symm.trans hrs) (by decide)
set_option maxHeartbeats 4000000 in
set_option maxRecDepth 100000 in
theorem c_L_noSlot (l : Launch) (hlf : l.stackTraces = false) (D : va_G) (K : Nat → ClassId) (ad q q1 q2 g r r2 : Nat → Nat) (v : CV) (i : CI) (x : Int32) (sz : Nat) (hI : IV v) (hJ : II v.1 i) (hrs : (rs_restore v x).1 = 1) : Met l yL_noSlot (.codeWith yL_noSlot cL_noSlot 3 (some .boolean) [(0, 6, 7, 143)] :: TB) ({ frames := 8, cells := 1, slots := 6, locals := 171 } : Room) (va_Pc [.ref (ad 0), .int x] (cPM D K (WX K ad q q1 q2 g r r2 v i) sz)) (va_Qi (fun (z : Int32) (u : CV × CI) => z = nI 1 ∧ u.1 = v ∧ II u.1.1 u.2) (fun (u : CV × CI) t => cB D K (va_A (WX K ad q q1 q2 g r r2 v i) sz) (WX K ad q q1 q2 g r r2 u.1 u.2) t) (va_A (WX K ad q q1 q2 g r r2 v i) sz)) 1 6 (va_A (WX K ad q q1 q2 g r r2 v i) sz) := by
  refine Met.ofWH (cc := cL_noSlot) (maxL := 3) (ret := (some .boolean)) (hh := [(0, 6, 7, 143)]) (by decide) rfl ?_
  intro p e s m args below meth c s₁ B hml hv
  obtain ⟨rfl, ⟨hsz, hP, hK, hD0⟩, hTX, hCL⟩ := hv
  have hx := B.exec
  have hb := B.bytes
  have hr := B.returns
  have hts := hts_tl (atoms_spec (ws := (.codeWith yL_noSlot cL_noSlot 3 (some .boolean) [(0, 6, 7, 143)] :: TB)) B.pre)
  have hxt := vx_table (x := yL_noSlot) B (atoms_spec (ws := (.codeWith yL_noSlot cL_noSlot 3 (some .boolean) [(0, 6, 7, 143)] :: TB)) B.pre _ List.mem_cons_self)
  have hown : s.vm.findClass RL = some m.cls := findClass_of_methodNamed B.named
  have hlocks := B.notSynchronized
  subst hsz
  have hD := hD0.self (sz := s.heap.size)
  generalize hAe : (va_A (WX K ad q q1 q2 g r r2 v i) s.heap.size) = A at hD hTX ⊢
  have hA : ∀ q : Nat, s.heap.size ≤ q → A q := fun q h => by rw [← hAe]; exact Or.inr h
  have hS : va_S A s.heap s.heap [] := va_S.rf
  clear hAe hD0
  have hP : va_P D vwCl (WX K ad q q1 q2 g r r2 v i) s.heap := hP
  have hD : va_D A (WX K ad q q1 q2 g r r2 v i) := hD
  have hl := lv_entry ([.ref (ad 0), .int x]) (n := 3) (Nat.le_of_ble_eq_true rfl)
  rw [lg_entry_eq]
  generalize (lg_sl ([.ref (ad 0), .int x]) ++ List.replicate (3 - (lg_sl ([.ref (ad 0), .int x])).length) Slot.unset).toArray = ls at hl ⊢
  have hl : lv_has ls 3 [(0, .ref (ad 0)), (1, .int x)] := hl
  refine lv_aload_n hx hb dL_noSlot_0 rfl (lv_at hl 0 rfl) ?_
  refine lv_iload_n hx hb dL_noSlot_1 rfl (lv_at hl 1 rfl) ?_
  have hFc := freeAll hD hS hA
  refine vx_callv (vx_runV (As := [.int x]) (rest := []) ⟨hx, hb, hml, hown, hts⟩ (c_X6_restore l hlf D K ad q q1 q2 g r r2 v i x s.heap.size hI hJ) (cwV 1 hts (TB_V k_m_L_134 k_im_X6_restore k_se_X6_restore k_in_X6 k_co_X6_restore (fun _ h => h)) rfl rfl rfl (by decide +kernel) ⟨Nat.le_of_ble_eq_true rfl, Nat.le_of_ble_eq_true rfl⟩) ⟨cPT_blind, va_recv hK hP (ci := 6) (q0 := 0) rfl rfl, cPT_of hP hK hD hTX hS hFc⟩ rfl rfl hl.1 rfl (lv_room (Nat.le_of_ble_eq_true rfl)) dL_noSlot_2 ⟨(Nat.le_of_ble_eq_true rfl), (Nat.le_of_ble_eq_true rfl)⟩) hS (fun q _ h => hFc q h) hFc (fun q _ h => hFc q h) (fun E ce q9 u9 t9 H locs ht9 hal hpx hB hz1 hk1 hS hce hcv hcl => ?_) (fun u9 t9 H locs ht9 hal hw hB hz1 hk1 hS => ?_)
  · obtain ⟨v9, i9⟩ := u9
    obtain ⟨hv9, hJ9⟩ := hpx
    have hv9 : v9 = v := hv9
    obtain ⟨hexc, hP1, hK1, hD1⟩ := hB
    rw [ht9] at hP1
    have hP2 := hP1
    have hD2 := hD1.weaken (fun _ _ _ h => hFc _ h)
    have hJ9 : II v9.1 i9 := hJ9
    rw [hv9] at hP2 hD2 hJ9
    dsimp only at hP2 hD2
    have hJ : II v.1 i9 := hJ9
    have hP : va_P D vwCl (WX K ad q q1 q2 g r r2 v i9) H := hP2
    have hD : va_D A (WX K ad q q1 q2 g r r2 v i9) := hD2
    rcases exc2 hexc with ⟨hk, rfl⟩ | ⟨hk, rfl⟩
    · refine vx_catch (own := RL) (name := eIA) (E := eIA) hown [] ⟨0, 6, 7, 143⟩ [] hxt (fun z h => absurd h List.not_mem_nil) (by decide) (by decide) (hts _ k_cl_L_143) (dc_use rfl hCL.2.1) hce hcv hcl ?_
      refine lv_astore_n (lv' := [(2, .ref q9), (0, .ref (ad 0)), (1, .int x)]) hx hb dL_noSlot_7 rfl hl (by decide) rfl (fun ls hl => ?_)
      refine lv_iconst (v := nI 1) hx hb dL_noSlot_8 (by decide) ?_
      refine W.widen (k := 1) (n := 6) (Nat.le_of_ble_eq_true rfl) (Nat.le_of_ble_eq_true rfl) ?_
      exact W.zret (v := nI 1) hx hb hr (by decide) (fun t9 ht9 hW => ⟨⟨nI 1, (v, i9), rfl, ⟨rfl, rfl, hJ⟩, by rw [ht9]; exact hP, va_K.moved hW.alike hK, hD⟩, hS.F ht9⟩) hS.2.2 dL_noSlot_9
    · exact absurd (hk.symm.trans hrs) (by decide)
  obtain ⟨v9, i9⟩ := u9
  obtain ⟨hP1, hK1, hD1⟩ := hB
  rw [ht9] at hP1
  have hP2 := hP1
  have hD2 := hD1.weaken (fun _ _ _ h => hFc _ h)
  exact absurd (show (0 : Nat) = 1 from (congrArg Prod.fst hw.2.2.2).symm.trans hrs) (by decide)
set_option maxHeartbeats 4000000 in
set_option maxRecDepth 100000 in
theorem c_L_hasTorque (l : Launch) (hlf : l.stackTraces = false) (D : va_G) (K : Nat → ClassId) (ad q q1 q2 g r r2 : Nat → Nat) (v : CV) (i : CI) (k : Nat) (sz : Nat) (hI : IV v) (hJ : II v.1 i) (hk9 : k < dn v.1 8 1) (hb9 : (dn v.1 8 2).testBit k = true) : Met l yL_hasTorque (.codeWith yL_hasTorque cL_hasTorque 3 (some .boolean) [(0, 8, 9, 89)] :: TB) ({ frames := 8, cells := 1, slots := 6, locals := 172 } : Room) (va_Pc [.ref (ad 0), .int (nI k)] (cPM D K (WX K ad q q1 q2 g r r2 v i) sz)) (va_Qi (fun (z : Int32) (u : CV × CI) => z = bI (dtT v.1 k) ∧ u.1 = v ∧ II u.1.1 u.2) (fun (u : CV × CI) t => cB D K (va_A (WX K ad q q1 q2 g r r2 v i) sz) (WX K ad q q1 q2 g r r2 u.1 u.2) t) (va_A (WX K ad q q1 q2 g r r2 v i) sz)) 1 6 (va_A (WX K ad q q1 q2 g r r2 v i) sz) := by
  refine Met.ofWH (cc := cL_hasTorque) (maxL := 3) (ret := (some .boolean)) (hh := [(0, 8, 9, 89)]) (by decide) rfl ?_
  intro p e s m args below meth c s₁ B hml hv
  obtain ⟨rfl, ⟨hsz, hP, hK, hD0⟩, hTX, hCL⟩ := hv
  have hx := B.exec
  have hb := B.bytes
  have hr := B.returns
  have hts := hts_tl (atoms_spec (ws := (.codeWith yL_hasTorque cL_hasTorque 3 (some .boolean) [(0, 8, 9, 89)] :: TB)) B.pre)
  have hxt := vx_table (x := yL_hasTorque) B (atoms_spec (ws := (.codeWith yL_hasTorque cL_hasTorque 3 (some .boolean) [(0, 8, 9, 89)] :: TB)) B.pre _ List.mem_cons_self)
  have hown : s.vm.findClass RL = some m.cls := findClass_of_methodNamed B.named
  have hlocks := B.notSynchronized
  subst hsz
  have hD := hD0.self (sz := s.heap.size)
  generalize hAe : (va_A (WX K ad q q1 q2 g r r2 v i) s.heap.size) = A at hD hTX ⊢
  have hA : ∀ q : Nat, s.heap.size ≤ q → A q := fun q h => by rw [← hAe]; exact Or.inr h
  have hS : va_S A s.heap s.heap [] := va_S.rf
  clear hAe hD0
  have hP : va_P D vwCl (WX K ad q q1 q2 g r r2 v i) s.heap := hP
  have hD : va_D A (WX K ad q q1 q2 g r r2 v i) := hD
  have hl := lv_entry ([.ref (ad 0), .int (nI k)]) (n := 3) (Nat.le_of_ble_eq_true rfl)
  rw [lg_entry_eq]
  generalize (lg_sl ([.ref (ad 0), .int (nI k)]) ++ List.replicate (3 - (lg_sl ([.ref (ad 0), .int (nI k)])).length) Slot.unset).toArray = ls at hl ⊢
  have hl : lv_has ls 3 [(0, .ref (ad 0)), (1, .int (nI k))] := hl
  refine lv_aload_n hx hb dL_hasTorque_0 rfl (lv_at hl 0 rfl) ?_
  refine lv_iload_n hx hb dL_hasTorque_1 rfl (lv_at hl 1 rfl) ?_
  refine lv_iconst (v := nI 0) hx hb dL_hasTorque_2 (by decide) ?_
  have hm6 := DV_m hI.1
  have hrt : rs_torque v.1 (nI k) (nI 0) = cI (¬ dtT v.1 k) (3, 0) (0, vN (TQ v.1 (dn v.1 8 2)) (4 + k)) := rs_torque_at hk9 (by omega) hb9
  by_cases hdt : dtT v.1 k
  · have hrs : rs_torque v.1 (nI k) (nI 0) = (0, vN (TQ v.1 (dn v.1 8 2)) (4 + k)) := hrt.trans (cI_f (fun z => z hdt))
    have hFc := freeAll hD hS hA
    refine vx_calll (vx_runV (As := [.int (nI k), .int (nI 0)]) (rest := []) ⟨hx, hb, hml, hown, hts⟩ (c_X6_torque l hlf D K ad q q1 q2 g r r2 v i (nI k) (nI 0) s.heap.size hI hJ) (cwV 2 hts (TB_V k_m_L_85 k_im_X6_torque k_se_X6_torque k_in_X6 k_co_X6_torque (fun _ h => h)) rfl rfl rfl (by decide +kernel) ⟨Nat.le_of_ble_eq_true rfl, Nat.le_of_ble_eq_true rfl⟩) ⟨cPT_blind, va_recv hK hP (ci := 6) (q0 := 0) rfl rfl, cPT_of hP hK hD hTX hS hFc⟩ rfl rfl hl.1 rfl (lv_room (Nat.le_of_ble_eq_true rfl)) dL_hasTorque_3 ⟨(Nat.le_of_ble_eq_true rfl), (Nat.le_of_ble_eq_true rfl)⟩) hS (fun q _ h => hFc q h) hFc (fun q _ h => hFc q h) (fun E ce q9 u9 t9 H locs ht9 hal hpx hB hz1 hk1 hS hce hcv hcl => ?_) (fun rz u9 t9 H locs ht9 hal hw hB hz1 hk1 hS => ?_)
    · exact absurd hB.1.1 (by rw [hrs]; exact Nat.lt_irrefl 0)
    obtain ⟨v9, i9⟩ := u9
    obtain ⟨hP1, hK1, hD1⟩ := hB
    rw [ht9] at hP1
    have hP2 := hP1
    have hD2 := hD1.weaken (fun _ _ _ h => hFc _ h)
    obtain ⟨hv9, hJ9, hr9⟩ := hw
    have hv9 : v9 = v := hv9
    dsimp only at hJ9
    rw [hv9] at hP2 hD2 hJ9
    dsimp only at hP2 hD2
    have hJ : II v.1 i9 := hJ9
    have hP : va_P D vwCl (WX K ad q q1 q2 g r r2 v i9) H := hP2
    have hD : va_D A (WX K ad q q1 q2 g r r2 v i9) := hD2
    refine lv_pop2_2 hx hb dL_hasTorque_6 rfl ?_
    refine lv_iconst (v := nI 1) hx hb dL_hasTorque_7 (by decide) ?_
    refine W.widen (k := 1) (n := 6) (Nat.le_of_ble_eq_true rfl) (Nat.le_of_ble_eq_true rfl) ?_
    exact W.zret (v := nI 1) hx hb hr (by decide) (fun t9 ht9 hW => ⟨⟨nI 1, (v, i9), rfl, ⟨bI_t hdt, rfl, hJ⟩, by rw [ht9]; exact hP, va_K.moved hW.alike hK, hD⟩, hS.F ht9⟩) hS.2.2 dL_hasTorque_8
  · have hrs : (rs_torque v.1 (nI k) (nI 0)).1 = 3 := congrArg Prod.fst (hrt.trans (cI_t hdt))
    have hFc := freeAll hD hS hA
    refine vx_calll (vx_runV (As := [.int (nI k), .int (nI 0)]) (rest := []) ⟨hx, hb, hml, hown, hts⟩ (c_X6_torque l hlf D K ad q q1 q2 g r r2 v i (nI k) (nI 0) s.heap.size hI hJ) (cwV 2 hts (TB_V k_m_L_85 k_im_X6_torque k_se_X6_torque k_in_X6 k_co_X6_torque (fun _ h => h)) rfl rfl rfl (by decide +kernel) ⟨Nat.le_of_ble_eq_true rfl, Nat.le_of_ble_eq_true rfl⟩) ⟨cPT_blind, va_recv hK hP (ci := 6) (q0 := 0) rfl rfl, cPT_of hP hK hD hTX hS hFc⟩ rfl rfl hl.1 rfl (lv_room (Nat.le_of_ble_eq_true rfl)) dL_hasTorque_3 ⟨(Nat.le_of_ble_eq_true rfl), (Nat.le_of_ble_eq_true rfl)⟩) hS (fun q _ h => hFc q h) hFc (fun q _ h => hFc q h) (fun E ce q9 u9 t9 H locs ht9 hal hpx hB hz1 hk1 hS hce hcv hcl => ?_) (fun rz u9 t9 H locs ht9 hal hw hB hz1 hk1 hS => ?_)
    · obtain ⟨v9, i9⟩ := u9
      obtain ⟨hv9, hJ9⟩ := hpx
      have hv9 : v9 = v := hv9
      obtain ⟨hexc, hP1, hK1, hD1⟩ := hB
      rw [ht9] at hP1
      have hP2 := hP1
      have hD2 := hD1.weaken (fun _ _ _ h => hFc _ h)
      have hJ9 : II v9.1 i9 := hJ9
      rw [hv9] at hP2 hD2 hJ9
      dsimp only at hP2 hD2
      have hJ : II v.1 i9 := hJ9
      have hP : va_P D vwCl (WX K ad q q1 q2 g r r2 v i9) H := hP2
      have hD : va_D A (WX K ad q q1 q2 g r r2 v i9) := hD2
      rcases exc3 hexc with ⟨hk, rfl⟩ | ⟨hk, rfl⟩ | ⟨hk, rfl⟩
      · exact absurd (hk.symm.trans hrs) (by decide)
      · exact absurd (hk.symm.trans hrs) (by decide)
      · refine vx_catch (own := RL) (name := eIS) (E := eIS) hown [] ⟨0, 8, 9, 89⟩ [] hxt (fun z h => absurd h List.not_mem_nil) (by decide) (by decide) (hts _ k_cl_L_89) (dc_use rfl hCL.2.2) hce hcv hcl ?_
        refine lv_astore_n (lv' := [(2, .ref q9), (0, .ref (ad 0)), (1, .int (nI k))]) hx hb dL_hasTorque_9 rfl hl (by decide) rfl (fun ls hl => ?_)
        refine lv_iconst (v := nI 0) hx hb dL_hasTorque_10 (by decide) ?_
        refine W.widen (k := 1) (n := 6) (Nat.le_of_ble_eq_true rfl) (Nat.le_of_ble_eq_true rfl) ?_
        exact W.zret (v := nI 0) hx hb hr (by decide) (fun t9 ht9 hW => ⟨⟨nI 0, (v, i9), rfl, ⟨bI_f hdt, rfl, hJ⟩, by rw [ht9]; exact hP, va_K.moved hW.alike hK, hD⟩, hS.F ht9⟩) hS.2.2 dL_hasTorque_11
    obtain ⟨v9, i9⟩ := u9
    obtain ⟨hP1, hK1, hD1⟩ := hB
    rw [ht9] at hP1
    have hP2 := hP1
    have hD2 := hD1.weaken (fun _ _ _ h => hFc _ h)
    exact absurd (show (0 : Nat) = 3 from (congrArg Prod.fst hw.2.2).symm.trans hrs) (by decide)
set_option maxHeartbeats 4000000 in
set_option maxRecDepth 100000 in
theorem c_L_zero (l : Launch) (hlf : l.stackTraces = false) (D : va_G) (K : Nat → ClassId) (ad q q1 q2 g r r2 : Nat → Nat) (v : CV) (i : CI)  (sz : Nat) (hI : IV v) (hJ : II v.1 i)  : Met l yL_zero (.code yL_zero cL_zero 1 (some .int) :: TB) ({ frames := 8, cells := 1, slots := 6, locals := 171 } : Room) (va_Pc [.ref (ad 0)] (cPM D K (WX K ad q q1 q2 g r r2 v i) sz)) (va_Qi (fun (z : Int32) (u : CV × CI) => z = bI (stM v.1 0 = 0) ∧ u.1 = v ∧ II u.1.1 u.2) (fun (u : CV × CI) t => cB D K (va_A (WX K ad q q1 q2 g r r2 v i) sz) (WX K ad q q1 q2 g r r2 u.1 u.2) t) (va_A (WX K ad q q1 q2 g r r2 v i) sz)) 1 6 (va_A (WX K ad q q1 q2 g r r2 v i) sz) := by
  refine Met.ofW (cc := cL_zero) (maxL := 1) (ret := (some .int)) (by decide) rfl ?_
  intro p e s m args below meth c s₁ B hml hv
  obtain ⟨rfl, ⟨hsz, hP, hK, hD0⟩, hTX, hCL⟩ := hv
  have hx := B.exec
  have hb := B.bytes
  have hr := B.returns
  have hts := hts_tl (atoms_spec (ws := (.code yL_zero cL_zero 1 (some .int) :: TB)) B.pre)
  have hown : s.vm.findClass RL = some m.cls := findClass_of_methodNamed B.named
  have hlocks := B.notSynchronized
  subst hsz
  have hD := hD0.self (sz := s.heap.size)
  generalize hAe : (va_A (WX K ad q q1 q2 g r r2 v i) s.heap.size) = A at hD hTX ⊢
  have hA : ∀ q : Nat, s.heap.size ≤ q → A q := fun q h => by rw [← hAe]; exact Or.inr h
  have hS : va_S A s.heap s.heap [] := va_S.rf
  clear hAe hD0
  have hP : va_P D vwCl (WX K ad q q1 q2 g r r2 v i) s.heap := hP
  have hD : va_D A (WX K ad q q1 q2 g r r2 v i) := hD
  have hl := lv_entry ([.ref (ad 0)]) (n := 1) (Nat.le_of_ble_eq_true rfl)
  rw [lg_entry_eq]
  generalize (lg_sl ([.ref (ad 0)]) ++ List.replicate (1 - (lg_sl ([.ref (ad 0)])).length) Slot.unset).toArray = ls at hl ⊢
  have hl : lv_has ls 1 [(0, .ref (ad 0))] := hl
  refine lv_aload_n hx hb dL_zero_0 rfl (lv_at hl 0 rfl) ?_
  refine lv_iconst (v := nI 0) hx hb dL_zero_1 (by decide) ?_
  obtain ⟨t, ht, hti⟩ := rs_index0 v.1
  have hrs : rs_indexOf v.1 (nI 0) = (0, t) := ht
  have hFc := freeAll hD hS hA
  refine vx_calli (vx_runV (As := [.int (nI 0)]) (rest := []) ⟨hx, hb, hml, hown, hts⟩ (c_X6_indexOf l hlf D K ad q q1 q2 g r r2 v i (nI 0) s.heap.size hI hJ) (cwV 1 hts (TB_V k_m_L_114 k_im_X6_indexOf k_se_X6_indexOf k_in_X6 k_co_X6_indexOf (fun _ h => h)) rfl rfl rfl (by decide +kernel) ⟨Nat.le_of_ble_eq_true rfl, Nat.le_of_ble_eq_true rfl⟩) ⟨cPT_blind, va_recv hK hP (ci := 6) (q0 := 0) rfl rfl, cPT_of hP hK hD hTX hS hFc⟩ rfl rfl hl.1 rfl (lv_room (Nat.le_of_ble_eq_true rfl)) dL_zero_2 ⟨(Nat.le_of_ble_eq_true rfl), (Nat.le_of_ble_eq_true rfl)⟩) hS (fun q _ h => hFc q h) hFc (fun q _ h => hFc q h) (fun E ce q9 u9 t9 H locs ht9 hal hpx hB hz1 hk1 hS hce hcv hcl => ?_) (fun rz u9 t9 H locs ht9 hal hw hB hz1 hk1 hS => ?_)
  · exact absurd hB.1.1 (by rw [hrs]; exact Nat.lt_irrefl 0)
  obtain ⟨v9, i9⟩ := u9
  obtain ⟨hP1, hK1, hD1⟩ := hB
  rw [ht9] at hP1
  have hP2 := hP1
  have hD2 := hD1.weaken (fun _ _ _ h => hFc _ h)
  obtain ⟨hv9, hJ9, hr9⟩ := hw
  have hv9 : v9 = v := hv9
  dsimp only at hJ9 hr9
  rw [hv9] at hP2 hD2 hJ9
  dsimp only at hP2 hD2
  have hJ : II v.1 i9 := hJ9
  have hP : va_P D vwCl (WX K ad q q1 q2 g r r2 v i9) H := hP2
  have hD : va_D A (WX K ad q q1 q2 g r r2 v i9) := hD2
  have hz : rz.toInt = t := (Prod.mk.inj (hr9.symm.trans hrs)).2
  refine b_if_lt hx hb rfl dL_zero_5 (tgt := 12) (by decide) (fun c5 => ?_) (fun c5 => ?_)
  · refine lv_iconst (v := nI 0) hx hb dL_zero_12 (by decide) ?_
    refine W.widen (k := 1) (n := 6) (Nat.le_of_ble_eq_true rfl) (Nat.le_of_ble_eq_true rfl) ?_
    exact W.iret (v := nI 0) hx hb hr (fun t9 ht9 hW => ⟨⟨nI 0, (v, i9), rfl, ⟨bI_f (fun z => absurd (hti.mpr z) (by omega)), rfl, hJ⟩, by rw [ht9]; exact hP, va_K.moved hW.alike hK, hD⟩, hS.F ht9⟩) hS.2.2 dL_zero_13
  refine lv_iconst (v := nI 1) hx hb dL_zero_8 (by decide) ?_
  refine lv_goto (tgt := 13) hx hb dL_zero_9 (by decide) ?_
  refine W.widen (k := 1) (n := 6) (Nat.le_of_ble_eq_true rfl) (Nat.le_of_ble_eq_true rfl) ?_
  exact W.iret (v := nI 1) hx hb hr (fun t9 ht9 hW => ⟨⟨nI 1, (v, i9), rfl, ⟨bI_t (hti.mp (by omega)), rfl, hJ⟩, by rw [ht9]; exact hP, va_K.moved hW.alike hK, hD⟩, hS.F ht9⟩) hS.2.2 dL_zero_13
set_option maxHeartbeats 4000000 in
set_option maxRecDepth 100000 in
theorem c_L_refused (l : Launch) (hlf : l.stackTraces = false) (D : va_G) (K : Nat → ClassId) (ad q q1 q2 g r r2 : Nat → Nat) (v : CV) (i : CI) (x : Int32) (sz : Nat) (hI : IV v) (hJ : II v.1 i) (hn0 : v.1 8 0 = nI 0) (hm0 : v.1 8 1 = nI 0) (he0 : v.1 8 2 = nI 0) (hh0 : v.2.2.2.2.2.2 = 0) : Met l yL_refused (.code yL_refused cL_refused 3 (some .boolean) :: TB) ({ frames := 9, cells := 10, slots := 60, locals := 197 } : Room) (va_Pc [.ref (ad 0), .int x] (cPM D K (WX K ad q q1 q2 g r r2 v i) sz)) (va_Qi (fun (z : Int32) (u : CV × CI) => z = nI 1 ∧ u.1 = v ∧ II u.1.1 u.2) (fun (u : CV × CI) t => cB D K (va_A (WX K ad q q1 q2 g r r2 v i) sz) (WX K ad q q1 q2 g r r2 u.1 u.2) t) (va_A (WX K ad q q1 q2 g r r2 v i) sz)) 10 60 (va_A (WX K ad q q1 q2 g r r2 v i) sz) := by
  refine Met.ofW (cc := cL_refused) (maxL := 3) (ret := (some .boolean)) (by decide) rfl ?_
  intro p e s m args below meth c s₁ B hml hv
  obtain ⟨rfl, ⟨hsz, hP, hK, hD0⟩, hTX, hCL⟩ := hv
  have hx := B.exec
  have hb := B.bytes
  have hr := B.returns
  have hts := hts_tl (atoms_spec (ws := (.code yL_refused cL_refused 3 (some .boolean) :: TB)) B.pre)
  have hown : s.vm.findClass RL = some m.cls := findClass_of_methodNamed B.named
  have hlocks := B.notSynchronized
  subst hsz
  have hD := hD0.self (sz := s.heap.size)
  generalize hAe : (va_A (WX K ad q q1 q2 g r r2 v i) s.heap.size) = A at hD hTX ⊢
  have hA : ∀ q : Nat, s.heap.size ≤ q → A q := fun q h => by rw [← hAe]; exact Or.inr h
  have hS : va_S A s.heap s.heap [] := va_S.rf
  clear hAe hD0
  have hP : va_P D vwCl (WX K ad q q1 q2 g r r2 v i) s.heap := hP
  have hD : va_D A (WX K ad q q1 q2 g r r2 v i) := hD
  have hl := lv_entry ([.ref (ad 0), .int x]) (n := 3) (Nat.le_of_ble_eq_true rfl)
  rw [lg_entry_eq]
  generalize (lg_sl ([.ref (ad 0), .int x]) ++ List.replicate (3 - (lg_sl ([.ref (ad 0), .int x])).length) Slot.unset).toArray = ls at hl ⊢
  have hl : lv_has ls 3 [(0, .ref (ad 0)), (1, .int x)] := hl
  refine lv_iload_n hx hb dL_refused_0 rfl (lv_at hl 1 rfl) ?_
  refine b_if_ge hx hb rfl dL_refused_1 (tgt := 15) (by decide) (fun c1 => ?_) (fun c1 => ?_)
  · obtain ⟨a, ha, hea⟩ := nI_of (x := x) (fun z => by have z := (i32_lt _ _).mp z; rw [show (0 : Int32).toInt = 0 by decide] at z; omega)
    refine lv_iload_n hx hb dL_refused_15 rfl (lv_at hl 1 rfl) ?_
    refine lv_ldc hx hb hown (hts _ k_kc_L_148) dL_refused_16 ?_
    subst hea
    refine t_i (show (1000000 : Int32) = nI 1000000 from rfl) ?_
    refine lv_irem hx hb dL_refused_18 (nI_ne0 (by omega) (by omega)) ?_
    refine t_i (pk_rem (by omega) (by omega) (by omega)) ?_
    refine lv_sipush (v := nI 20000) hx hb dL_refused_19 (by decide) ?_
    refine lv_iadd hx hb dL_refused_22 ?_
    refine t_i (nI_add _ _) ?_
    have hf : (nI (a % 1000000 + 20000)).toInt < 0 ∨ 20000 ≤ (nI (a % 1000000 + 20000)).toInt := Or.inr (by rw [nI_toIntI (by omega)]; omega)
    obtain ⟨far, hfar⟩ : ∃ y : Int32, y = nI (a % 1000000 + 20000) := ⟨_, rfl⟩
    rw [← hfar] at hf
    refine t_i hfar.symm ?_
    refine lv_istore_n (lv' := [(2, .int far), (0, .ref (ad 0)), (1, .int (nI a))]) hx hb dL_refused_23 rfl hl (by decide) rfl (fun ls hl => ?_)
    refine lv_aload_n hx hb dL_refused_24 rfl (lv_at hl 1 rfl) ?_
    refine lv_iload_n hx hb dL_refused_25 rfl (lv_at hl 0 rfl) ?_
    have hFc := freeAll hD hS hA
    refine va_calli (vx_runSW (As := [.ref (ad 0), .int far]) (rest := []) ⟨hx, hb, hml, hown, hts⟩ (c_L_noBrake l hlf D K ad q q1 q2 g r r2 v i far s.heap.size hI hJ (far_brake v.1 hf)) (vx_cwSW 2 hts (TB_SW k_m_L_149 k_st_L_noBrake k_in_L k_co_L_noBrake (fun _ h => h)) rfl rfl rfl (by decide +kernel) ⟨Nat.le_of_ble_eq_true rfl, Nat.le_of_ble_eq_true rfl⟩) ⟨cPM_blind, cPM_of hP hK hD hTX hCL hS hFc⟩ rfl rfl hl.1 rfl (lv_room (Nat.le_of_ble_eq_true rfl)) dL_refused_26 ⟨(Nat.le_of_ble_eq_true rfl), (Nat.le_of_ble_eq_true rfl)⟩) hS (fun q _ h => hFc q h) hFc (fun rz u9 t9 H locs ht9 hal hw hB hz1 hk1 hS => ?_)
    obtain ⟨v9, i9⟩ := u9
    obtain ⟨hP1, hK1, hD1⟩ := hB
    rw [ht9] at hP1
    have hP2 := hP1
    have hD2 := hD1.weaken (fun _ _ _ h => hFc _ h)
    obtain ⟨hz, hv9, hJ9⟩ := hw
    have hv9 : v9 = v := hv9
    dsimp only at hJ9 hz
    rw [hv9] at hP2 hD2 hJ9
    dsimp only at hP2 hD2
    have hJ : II v.1 i9 := hJ9
    have hP : va_P D vwCl (WX K ad q q1 q2 g r r2 v i9) H := hP2
    have hD : va_D A (WX K ad q q1 q2 g r r2 v i9) := hD2
    refine t_i hz ?_
    refine b_if_eq hx hb (nI_toIntI (by omega)) dL_refused_29 (tgt := 122) (by decide) (fun c29 => absurd c29 (by omega)) (fun c29 => ?_)
    refine lv_aload_n hx hb dL_refused_32 rfl (lv_at hl 1 rfl) ?_
    refine lv_iload_n hx hb dL_refused_33 rfl (lv_at hl 0 rfl) ?_
    have hFc := freeAll hD hS hA
    refine va_calli (vx_runSW (As := [.ref (ad 0), .int far]) (rest := []) ⟨hx, hb, hml, hown, hts⟩ (c_L_noClutch l hlf D K ad q q1 q2 g r r2 v i9 far H.size hI hJ (far_clutch v.1 hf)) (vx_cwSW 2 hts (TB_SW k_m_L_152 k_st_L_noClutch k_in_L k_co_L_noClutch (fun _ h => h)) rfl rfl rfl (by decide +kernel) ⟨Nat.le_of_ble_eq_true rfl, Nat.le_of_ble_eq_true rfl⟩) ⟨cPM_blind, cPM_of hP hK hD hTX hCL hS hFc⟩ rfl rfl hl.1 rfl (lv_room (Nat.le_of_ble_eq_true rfl)) dL_refused_34 ⟨(Nat.le_of_ble_eq_true rfl), (Nat.le_of_ble_eq_true rfl)⟩) hS (fun q _ h => hFc q h) hFc (fun rz u9 t9 H locs ht9 hal hw hB hz1 hk1 hS => ?_)
    obtain ⟨v9, i9⟩ := u9
    obtain ⟨hP1, hK1, hD1⟩ := hB
    rw [ht9] at hP1
    have hP2 := hP1
    have hD2 := hD1.weaken (fun _ _ _ h => hFc _ h)
    obtain ⟨hz, hv9, hJ9⟩ := hw
    have hv9 : v9 = v := hv9
    dsimp only at hJ9 hz
    rw [hv9] at hP2 hD2 hJ9
    dsimp only at hP2 hD2
    have hJ : II v.1 i9 := hJ9
    have hP : va_P D vwCl (WX K ad q q1 q2 g r r2 v i9) H := hP2
    have hD : va_D A (WX K ad q q1 q2 g r r2 v i9) := hD2
    refine t_i hz ?_
    refine b_if_eq hx hb (nI_toIntI (by omega)) dL_refused_37 (tgt := 122) (by decide) (fun c37 => absurd c37 (by omega)) (fun c37 => ?_)
    refine lv_aload_n hx hb dL_refused_40 rfl (lv_at hl 1 rfl) ?_
    refine lv_iload_n hx hb dL_refused_41 rfl (lv_at hl 0 rfl) ?_
    have hFc := freeAll hD hS hA
    refine va_calli (vx_runSW (As := [.ref (ad 0), .int far]) (rest := []) ⟨hx, hb, hml, hown, hts⟩ (c_L_noSet l hlf D K ad q q1 q2 g r r2 v i9 far H.size hI hJ (far_set v.1 hf)) (vx_cwSW 2 hts (TB_SW k_m_L_155 k_st_L_noSet k_in_L k_co_L_noSet (fun _ h => h)) rfl rfl rfl (by decide +kernel) ⟨Nat.le_of_ble_eq_true rfl, Nat.le_of_ble_eq_true rfl⟩) ⟨cPM_blind, cPM_of hP hK hD hTX hCL hS hFc⟩ rfl rfl hl.1 rfl (lv_room (Nat.le_of_ble_eq_true rfl)) dL_refused_42 ⟨(Nat.le_of_ble_eq_true rfl), (Nat.le_of_ble_eq_true rfl)⟩) hS (fun q _ h => hFc q h) hFc (fun rz u9 t9 H locs ht9 hal hw hB hz1 hk1 hS => ?_)
    obtain ⟨v9, i9⟩ := u9
    obtain ⟨hP1, hK1, hD1⟩ := hB
    rw [ht9] at hP1
    have hP2 := hP1
    have hD2 := hD1.weaken (fun _ _ _ h => hFc _ h)
    obtain ⟨hz, hv9, hJ9⟩ := hw
    have hv9 : v9 = v := hv9
    dsimp only at hJ9 hz
    rw [hv9] at hP2 hD2 hJ9
    dsimp only at hP2 hD2
    have hJ : II v.1 i9 := hJ9
    have hP : va_P D vwCl (WX K ad q q1 q2 g r r2 v i9) H := hP2
    have hD : va_D A (WX K ad q q1 q2 g r r2 v i9) := hD2
    refine t_i hz ?_
    refine b_if_eq hx hb (nI_toIntI (by omega)) dL_refused_45 (tgt := 122) (by decide) (fun c45 => absurd c45 (by omega)) (fun c45 => ?_)
    refine lv_aload_n hx hb dL_refused_48 rfl (lv_at hl 1 rfl) ?_
    refine lv_iload_n hx hb dL_refused_49 rfl (lv_at hl 0 rfl) ?_
    have hFc := freeAll hD hS hA
    refine va_calli (vx_runSW (As := [.ref (ad 0), .int far]) (rest := []) ⟨hx, hb, hml, hown, hts⟩ (c_L_noSlip l hlf D K ad q q1 q2 g r r2 v i9 far H.size hI hJ (far_slip v.1 hf)) (vx_cwSW 2 hts (TB_SW k_m_L_158 k_st_L_noSlip k_in_L k_co_L_noSlip (fun _ h => h)) rfl rfl rfl (by decide +kernel) ⟨Nat.le_of_ble_eq_true rfl, Nat.le_of_ble_eq_true rfl⟩) ⟨cPM_blind, cPM_of hP hK hD hTX hCL hS hFc⟩ rfl rfl hl.1 rfl (lv_room (Nat.le_of_ble_eq_true rfl)) dL_refused_50 ⟨(Nat.le_of_ble_eq_true rfl), (Nat.le_of_ble_eq_true rfl)⟩) hS (fun q _ h => hFc q h) hFc (fun rz u9 t9 H locs ht9 hal hw hB hz1 hk1 hS => ?_)
    obtain ⟨v9, i9⟩ := u9
    obtain ⟨hP1, hK1, hD1⟩ := hB
    rw [ht9] at hP1
    have hP2 := hP1
    have hD2 := hD1.weaken (fun _ _ _ h => hFc _ h)
    obtain ⟨hz, hv9, hJ9⟩ := hw
    have hv9 : v9 = v := hv9
    dsimp only at hJ9 hz
    rw [hv9] at hP2 hD2 hJ9
    dsimp only at hP2 hD2
    have hJ : II v.1 i9 := hJ9
    have hP : va_P D vwCl (WX K ad q q1 q2 g r r2 v i9) H := hP2
    have hD : va_D A (WX K ad q q1 q2 g r r2 v i9) := hD2
    refine t_i hz ?_
    refine b_if_eq hx hb (nI_toIntI (by omega)) dL_refused_53 (tgt := 122) (by decide) (fun c53 => absurd c53 (by omega)) (fun c53 => ?_)
    refine lv_aload_n hx hb dL_refused_56 rfl (lv_at hl 1 rfl) ?_
    refine lv_iload_n hx hb dL_refused_57 rfl (lv_at hl 0 rfl) ?_
    have hFc := freeAll hD hS hA
    refine va_calli (vx_runSW (As := [.ref (ad 0), .int far]) (rest := []) ⟨hx, hb, hml, hown, hts⟩ (c_L_noMask l hlf D K ad q q1 q2 g r r2 v i9 far H.size hI hJ (far_mask hm0 hf)) (vx_cwSW 2 hts (TB_SW k_m_L_161 k_st_L_noMask k_in_L k_co_L_noMask (fun _ h => h)) rfl rfl rfl (by decide +kernel) ⟨Nat.le_of_ble_eq_true rfl, Nat.le_of_ble_eq_true rfl⟩) ⟨cPM_blind, cPM_of hP hK hD hTX hCL hS hFc⟩ rfl rfl hl.1 rfl (lv_room (Nat.le_of_ble_eq_true rfl)) dL_refused_58 ⟨(Nat.le_of_ble_eq_true rfl), (Nat.le_of_ble_eq_true rfl)⟩) hS (fun q _ h => hFc q h) hFc (fun rz u9 t9 H locs ht9 hal hw hB hz1 hk1 hS => ?_)
    obtain ⟨v9, i9⟩ := u9
    obtain ⟨hP1, hK1, hD1⟩ := hB
    rw [ht9] at hP1
    have hP2 := hP1
    have hD2 := hD1.weaken (fun _ _ _ h => hFc _ h)
    obtain ⟨hz, hv9, hJ9⟩ := hw
    have hv9 : v9 = v := hv9
    dsimp only at hJ9 hz
    rw [hv9] at hP2 hD2 hJ9
    dsimp only at hP2 hD2
    have hJ : II v.1 i9 := hJ9
    have hP : va_P D vwCl (WX K ad q q1 q2 g r r2 v i9) H := hP2
    have hD : va_D A (WX K ad q q1 q2 g r r2 v i9) := hD2
    refine t_i hz ?_
    refine b_if_eq hx hb (nI_toIntI (by omega)) dL_refused_61 (tgt := 122) (by decide) (fun c61 => absurd c61 (by omega)) (fun c61 => ?_)
    refine lv_aload_n hx hb dL_refused_64 rfl (lv_at hl 1 rfl) ?_
    refine lv_iload_n hx hb dL_refused_65 rfl (lv_at hl 0 rfl) ?_
    have hFc := freeAll hD hS hA
    refine va_calli (vx_runSW (As := [.ref (ad 0), .int far]) (rest := []) ⟨hx, hb, hml, hown, hts⟩ (c_L_noSpeed l hlf D K ad q q1 q2 g r r2 v i9 far H.size hI hJ (far_speed v.1 hf)) (vx_cwSW 2 hts (TB_SW k_m_L_164 k_st_L_noSpeed k_in_L k_co_L_noSpeed (fun _ h => h)) rfl rfl rfl (by decide +kernel) ⟨Nat.le_of_ble_eq_true rfl, Nat.le_of_ble_eq_true rfl⟩) ⟨cPM_blind, cPM_of hP hK hD hTX hCL hS hFc⟩ rfl rfl hl.1 rfl (lv_room (Nat.le_of_ble_eq_true rfl)) dL_refused_66 ⟨(Nat.le_of_ble_eq_true rfl), (Nat.le_of_ble_eq_true rfl)⟩) hS (fun q _ h => hFc q h) hFc (fun rz u9 t9 H locs ht9 hal hw hB hz1 hk1 hS => ?_)
    obtain ⟨v9, i9⟩ := u9
    obtain ⟨hP1, hK1, hD1⟩ := hB
    rw [ht9] at hP1
    have hP2 := hP1
    have hD2 := hD1.weaken (fun _ _ _ h => hFc _ h)
    obtain ⟨hz, hv9, hJ9⟩ := hw
    have hv9 : v9 = v := hv9
    dsimp only at hJ9 hz
    rw [hv9] at hP2 hD2 hJ9
    dsimp only at hP2 hD2
    have hJ : II v.1 i9 := hJ9
    have hP : va_P D vwCl (WX K ad q q1 q2 g r r2 v i9) H := hP2
    have hD : va_D A (WX K ad q q1 q2 g r r2 v i9) := hD2
    refine t_i hz ?_
    refine b_if_eq hx hb (nI_toIntI (by omega)) dL_refused_69 (tgt := 122) (by decide) (fun c69 => absurd c69 (by omega)) (fun c69 => ?_)
    refine lv_aload_n hx hb dL_refused_72 rfl (lv_at hl 1 rfl) ?_
    refine lv_iload_n hx hb dL_refused_73 rfl (lv_at hl 0 rfl) ?_
    have hFc := freeAll hD hS hA
    refine va_calli (vx_runSW (As := [.ref (ad 0), .int far]) (rest := []) ⟨hx, hb, hml, hown, hts⟩ (c_L_noGear l hlf D K ad q q1 q2 g r r2 v i9 far H.size hI hJ (far_gear v.1 hf)) (vx_cwSW 2 hts (TB_SW k_m_L_167 k_st_L_noGear k_in_L k_co_L_noGear (fun _ h => h)) rfl rfl rfl (by decide +kernel) ⟨Nat.le_of_ble_eq_true rfl, Nat.le_of_ble_eq_true rfl⟩) ⟨cPM_blind, cPM_of hP hK hD hTX hCL hS hFc⟩ rfl rfl hl.1 rfl (lv_room (Nat.le_of_ble_eq_true rfl)) dL_refused_74 ⟨(Nat.le_of_ble_eq_true rfl), (Nat.le_of_ble_eq_true rfl)⟩) hS (fun q _ h => hFc q h) hFc (fun rz u9 t9 H locs ht9 hal hw hB hz1 hk1 hS => ?_)
    obtain ⟨v9, i9⟩ := u9
    obtain ⟨hP1, hK1, hD1⟩ := hB
    rw [ht9] at hP1
    have hP2 := hP1
    have hD2 := hD1.weaken (fun _ _ _ h => hFc _ h)
    obtain ⟨hz, hv9, hJ9⟩ := hw
    have hv9 : v9 = v := hv9
    dsimp only at hJ9 hz
    rw [hv9] at hP2 hD2 hJ9
    dsimp only at hP2 hD2
    have hJ : II v.1 i9 := hJ9
    have hP : va_P D vwCl (WX K ad q q1 q2 g r r2 v i9) H := hP2
    have hD : va_D A (WX K ad q q1 q2 g r r2 v i9) := hD2
    refine t_i hz ?_
    refine b_if_eq hx hb (nI_toIntI (by omega)) dL_refused_77 (tgt := 122) (by decide) (fun c77 => absurd c77 (by omega)) (fun c77 => ?_)
    refine lv_aload_n hx hb dL_refused_80 rfl (lv_at hl 1 rfl) ?_
    refine lv_iload_n hx hb dL_refused_81 rfl (lv_at hl 0 rfl) ?_
    have hFc := freeAll hD hS hA
    refine va_calli (vx_runSW (As := [.ref (ad 0), .int far]) (rest := []) ⟨hx, hb, hml, hown, hts⟩ (c_L_noSlot l hlf D K ad q q1 q2 g r r2 v i9 far H.size hI hJ (far_slot v hf)) (vx_cwSW 2 hts (TB_SW k_m_L_170 k_st_L_noSlot k_in_L k_co_L_noSlot (fun _ h => h)) rfl rfl rfl (by decide +kernel) ⟨Nat.le_of_ble_eq_true rfl, Nat.le_of_ble_eq_true rfl⟩) ⟨cPM_blind, cPM_of hP hK hD hTX hCL hS hFc⟩ rfl rfl hl.1 rfl (lv_room (Nat.le_of_ble_eq_true rfl)) dL_refused_82 ⟨(Nat.le_of_ble_eq_true rfl), (Nat.le_of_ble_eq_true rfl)⟩) hS (fun q _ h => hFc q h) hFc (fun rz u9 t9 H locs ht9 hal hw hB hz1 hk1 hS => ?_)
    obtain ⟨v9, i9⟩ := u9
    obtain ⟨hP1, hK1, hD1⟩ := hB
    rw [ht9] at hP1
    have hP2 := hP1
    have hD2 := hD1.weaken (fun _ _ _ h => hFc _ h)
    obtain ⟨hz, hv9, hJ9⟩ := hw
    have hv9 : v9 = v := hv9
    dsimp only at hJ9 hz
    rw [hv9] at hP2 hD2 hJ9
    dsimp only at hP2 hD2
    have hJ : II v.1 i9 := hJ9
    have hP : va_P D vwCl (WX K ad q q1 q2 g r r2 v i9) H := hP2
    have hD : va_D A (WX K ad q q1 q2 g r r2 v i9) := hD2
    refine t_i hz ?_
    refine b_if_eq hx hb (nI_toIntI (by omega)) dL_refused_85 (tgt := 122) (by decide) (fun c85 => absurd c85 (by omega)) (fun c85 => ?_)
    refine lv_aload_n hx hb dL_refused_88 rfl (lv_at hl 1 rfl) ?_
    refine lv_iconst (v := nI 0) hx hb dL_refused_89 (by decide) ?_
    have hrs : rs_count v.1 (nI 0) = (0, ((0 : Nat) : Int)) := (rs_count0 (by rw [dn_of hn0 (by decide)]))
    have hFc := freeAll hD hS hA
    refine vx_calli (vx_runV (As := [.int (nI 0)]) (rest := []) ⟨hx, hb, hml, hown, hts⟩ (c_X6_count l hlf D K ad q q1 q2 g r r2 v i9 (nI 0) H.size hI hJ) (cwV 1 hts (TB_V k_m_L_55 k_im_X6_count k_se_X6_count k_in_X6 k_co_X6_count (fun _ h => h)) rfl rfl rfl (by decide +kernel) ⟨Nat.le_of_ble_eq_true rfl, Nat.le_of_ble_eq_true rfl⟩) ⟨cPT_blind, va_recv hK hP (ci := 6) (q0 := 0) rfl rfl, cPT_of hP hK hD hTX hS hFc⟩ rfl rfl hl.1 rfl (lv_room (Nat.le_of_ble_eq_true rfl)) dL_refused_90 ⟨(Nat.le_of_ble_eq_true rfl), (Nat.le_of_ble_eq_true rfl)⟩) hS (fun q _ h => hFc q h) hFc (fun q _ h => hFc q h) (fun E ce q9 u9 t9 H locs ht9 hal hpx hB hz1 hk1 hS hce hcv hcl => ?_) (fun rz u9 t9 H locs ht9 hal hw hB hz1 hk1 hS => ?_)
    · exact absurd hB.1.1 (by rw [hrs]; exact Nat.lt_irrefl 0)
    obtain ⟨v9, i9⟩ := u9
    obtain ⟨hP1, hK1, hD1⟩ := hB
    rw [ht9] at hP1
    have hP2 := hP1
    have hD2 := hD1.weaken (fun _ _ _ h => hFc _ h)
    obtain ⟨hv9, hJ9, hr9⟩ := hw
    have hv9 : v9 = v := hv9
    dsimp only at hJ9 hr9
    rw [hv9] at hP2 hD2 hJ9
    dsimp only at hP2 hD2
    have hJ : II v.1 i9 := hJ9
    have hP : va_P D vwCl (WX K ad q q1 q2 g r r2 v i9) H := hP2
    have hD : va_D A (WX K ad q q1 q2 g r r2 v i9) := hD2
    have hz : rz.toInt = ((0 : Nat) : Int) := (Prod.mk.inj (hr9.symm.trans hrs)).2
    refine t_i ((i32_eq rz (nI 0)).mpr (by rw [nI_toIntI (by omega)]; exact hz)) ?_
    refine b_if_ne hx hb (nI_toIntI (by omega)) dL_refused_93 (tgt := 122) (by decide) (fun c93 => absurd c93 (by omega)) (fun c93 => ?_)
    refine lv_aload_n hx hb dL_refused_96 rfl (lv_at hl 1 rfl) ?_
    refine lv_iconst (v := nI 1) hx hb dL_refused_97 (by decide) ?_
    have hrs : rs_count v.1 (nI 1) = (0, ((0 : Nat) : Int)) := (rs_count1 (by rw [dn_of hm0 (by decide)]))
    have hFc := freeAll hD hS hA
    refine vx_calli (vx_runV (As := [.int (nI 1)]) (rest := []) ⟨hx, hb, hml, hown, hts⟩ (c_X6_count l hlf D K ad q q1 q2 g r r2 v i9 (nI 1) H.size hI hJ) (cwV 1 hts (TB_V k_m_L_55 k_im_X6_count k_se_X6_count k_in_X6 k_co_X6_count (fun _ h => h)) rfl rfl rfl (by decide +kernel) ⟨Nat.le_of_ble_eq_true rfl, Nat.le_of_ble_eq_true rfl⟩) ⟨cPT_blind, va_recv hK hP (ci := 6) (q0 := 0) rfl rfl, cPT_of hP hK hD hTX hS hFc⟩ rfl rfl hl.1 rfl (lv_room (Nat.le_of_ble_eq_true rfl)) dL_refused_98 ⟨(Nat.le_of_ble_eq_true rfl), (Nat.le_of_ble_eq_true rfl)⟩) hS (fun q _ h => hFc q h) hFc (fun q _ h => hFc q h) (fun E ce q9 u9 t9 H locs ht9 hal hpx hB hz1 hk1 hS hce hcv hcl => ?_) (fun rz u9 t9 H locs ht9 hal hw hB hz1 hk1 hS => ?_)
    · exact absurd hB.1.1 (by rw [hrs]; exact Nat.lt_irrefl 0)
    obtain ⟨v9, i9⟩ := u9
    obtain ⟨hP1, hK1, hD1⟩ := hB
    rw [ht9] at hP1
    have hP2 := hP1
    have hD2 := hD1.weaken (fun _ _ _ h => hFc _ h)
    obtain ⟨hv9, hJ9, hr9⟩ := hw
    have hv9 : v9 = v := hv9
    dsimp only at hJ9 hr9
    rw [hv9] at hP2 hD2 hJ9
    dsimp only at hP2 hD2
    have hJ : II v.1 i9 := hJ9
    have hP : va_P D vwCl (WX K ad q q1 q2 g r r2 v i9) H := hP2
    have hD : va_D A (WX K ad q q1 q2 g r r2 v i9) := hD2
    have hz : rz.toInt = ((0 : Nat) : Int) := (Prod.mk.inj (hr9.symm.trans hrs)).2
    refine t_i ((i32_eq rz (nI 0)).mpr (by rw [nI_toIntI (by omega)]; exact hz)) ?_
    refine b_if_ne hx hb (nI_toIntI (by omega)) dL_refused_101 (tgt := 122) (by decide) (fun c101 => absurd c101 (by omega)) (fun c101 => ?_)
    refine lv_aload_n hx hb dL_refused_104 rfl (lv_at hl 1 rfl) ?_
    have hFc := freeAll hD hS hA
    refine va_calli (va_runV (As := []) (rest := []) ⟨hx, hb, hml, hown, hts⟩ (c_X6_engaged l D K ad q q1 q2 g r r2 v i9  H.size hI hJ) (cwV 0 hts (TB_V k_m_L_51 k_im_X6_engaged k_se_X6_engaged k_in_X6 k_co_X6_engaged (fun _ h => h)) rfl rfl rfl (by decide +kernel) ⟨Nat.le_of_ble_eq_true rfl, Nat.le_of_ble_eq_true rfl⟩) ⟨cP_blind, va_recv hK hP (ci := 6) (q0 := 0) rfl rfl, cP_of hP hK hD⟩ rfl rfl hl.1 rfl (lv_room (Nat.le_of_ble_eq_true rfl)) dL_refused_105 ⟨(Nat.le_of_ble_eq_true rfl), (Nat.le_of_ble_eq_true rfl)⟩) hS (fun q _ h => hFc q h) hFc (fun rz u9 t9 H locs ht9 hal hw hB hz1 hk1 hS => ?_)
    obtain ⟨v9, i9⟩ := u9
    obtain ⟨hP1, hK1, hD1⟩ := hB
    rw [ht9] at hP1
    have hP2 := hP1
    have hD2 := hD1.weaken (fun _ _ _ h => hFc _ h)
    obtain ⟨hv9, hJ9, hr9⟩ := hw
    have hv9 : v9 = v := hv9
    dsimp only at hJ9 hr9
    rw [hv9] at hP2 hD2 hJ9
    dsimp only at hP2 hD2
    have hJ : II v.1 i9 := hJ9
    have hP : va_P D vwCl (WX K ad q q1 q2 g r r2 v i9) H := hP2
    have hD : va_D A (WX K ad q q1 q2 g r r2 v i9) := hD2
    refine t_i (hr9.trans he0) ?_
    refine b_if_ne hx hb (nI_toIntI (by omega)) dL_refused_108 (tgt := 122) (by decide) (fun c108 => absurd c108 (by omega)) (fun c108 => ?_)
    refine lv_aload_n hx hb dL_refused_111 rfl (lv_at hl 1 rfl) ?_
    have hFc := freeAll hD hS hA
    refine va_calli (va_runV (As := []) (rest := []) ⟨hx, hb, hml, hown, hts⟩ (c_X6_undo l D K ad q q1 q2 g r r2 v i9  H.size hI hJ) (cwV 0 hts (TB_V k_m_L_79 k_im_X6_undo k_se_X6_undo k_in_X6 k_co_X6_undo (fun _ h => h)) rfl rfl rfl (by decide +kernel) ⟨Nat.le_of_ble_eq_true rfl, Nat.le_of_ble_eq_true rfl⟩) ⟨cP_blind, va_recv hK hP (ci := 6) (q0 := 0) rfl rfl, cP_of hP hK hD⟩ rfl rfl hl.1 rfl (lv_room (Nat.le_of_ble_eq_true rfl)) dL_refused_112 ⟨(Nat.le_of_ble_eq_true rfl), (Nat.le_of_ble_eq_true rfl)⟩) hS (fun q _ h => hFc q h) hFc (fun rz u9 t9 H locs ht9 hal hw hB hz1 hk1 hS => ?_)
    obtain ⟨v9, i9⟩ := u9
    obtain ⟨hP1, hK1, hD1⟩ := hB
    rw [ht9] at hP1
    have hP2 := hP1
    have hD2 := hD1.weaken (fun _ _ _ h => hFc _ h)
    obtain ⟨hI9, hJ9, hh9⟩ := hw
    rcases hh9 with ⟨-, hz, hv9⟩ | ⟨hz, -⟩
    rotate_left
    · exact absurd hh0 (by omega)
    have hv9 : v9 = v := hv9
    dsimp only at hJ9
    rw [hv9] at hP2 hD2 hJ9
    dsimp only at hP2 hD2
    have hJ : II v.1 i9 := hJ9
    have hP : va_P D vwCl (WX K ad q q1 q2 g r r2 v i9) H := hP2
    have hD : va_D A (WX K ad q q1 q2 g r r2 v i9) := hD2
    refine t_i hz ?_
    refine b_if_ne hx hb (nI_toIntI (by omega)) dL_refused_115 (tgt := 122) (by decide) (fun c115 => absurd c115 (by omega)) (fun c115 => ?_)
    refine lv_iconst (v := nI 1) hx hb dL_refused_118 (by decide) ?_
    refine lv_goto (tgt := 123) hx hb dL_refused_119 (by decide) ?_
    refine W.widen (k := 10) (n := 60) (Nat.le_of_ble_eq_true rfl) (Nat.le_of_ble_eq_true rfl) ?_
    exact W.zret (v := nI 1) hx hb hr (by decide) (fun t9 ht9 hW => ⟨⟨nI 1, (v, i9), rfl, ⟨rfl, rfl, hJ⟩, by rw [ht9]; exact hP, va_K.moved hW.alike hK, hD⟩, hS.F ht9⟩) hS.2.2 dL_refused_123
  refine lv_iconst (v := (-1)) hx hb dL_refused_4 (by decide) ?_
  refine lv_iload_n hx hb dL_refused_5 rfl (lv_at hl 1 rfl) ?_
  refine lv_ldc hx hb hown (hts _ k_kc_L_148) dL_refused_6 ?_
  refine t_i (show (1000000 : Int32) = nI 1000000 from rfl) ?_
  refine va_calli (va_runS (As := [.int x, .int (nI 1000000)]) (rest := [.int (-1)]) ⟨hx, hb, hml, hown, hts⟩ (c_L_up l x 1000000 (by decide) (by decide)) (va_cwS 2 hts (TB_S k_m_L_22 k_st_L_up k_in_L k_co_L_up (fun _ h => h)) rfl rfl rfl (by decide +kernel) ⟨Nat.le_of_ble_eq_true rfl, Nat.le_of_ble_eq_true rfl⟩) ⟨tP_blind, tP_of⟩ rfl rfl hl.1 rfl (lv_room (Nat.le_of_ble_eq_true rfl)) dL_refused_8 ⟨(Nat.le_of_ble_eq_true rfl), (Nat.le_of_ble_eq_true rfl)⟩) hS (fun q _ h => absurd h id) (fun q h => absurd h id) (fun ru u9 t9 H locs ht9 hvm hw hB hz1 hk1 hS => ?_)
  have hP := P_same hP hk1
  obtain ⟨ku, hku, hku2⟩ := hw
  refine t_i hku2 ?_
  refine lv_isub hx hb dL_refused_11 ?_
  refine lv_goto (tgt := 23) hx hb dL_refused_12 (by decide) ?_
  have hf : ((-1) - (nI ku)).toInt < 0 ∨ 20000 ≤ ((-1) - (nI ku)).toInt := Or.inl (far_neg hku)
  obtain ⟨far, hfar⟩ : ∃ y : Int32, y = (-1) - (nI ku) := ⟨_, rfl⟩
  rw [← hfar] at hf
  refine t_i hfar.symm ?_
  refine lv_istore_n (lv' := [(2, .int far), (0, .ref (ad 0)), (1, .int x)]) hx hb dL_refused_23 rfl hl (by decide) rfl (fun ls hl => ?_)
  refine lv_aload_n hx hb dL_refused_24 rfl (lv_at hl 1 rfl) ?_
  refine lv_iload_n hx hb dL_refused_25 rfl (lv_at hl 0 rfl) ?_
  have hFc := freeAll hD hS hA
  refine va_calli (vx_runSW (As := [.ref (ad 0), .int far]) (rest := []) ⟨hx, hb, hml, hown, hts⟩ (c_L_noBrake l hlf D K ad q q1 q2 g r r2 v i far H.size hI hJ (far_brake v.1 hf)) (vx_cwSW 2 hts (TB_SW k_m_L_149 k_st_L_noBrake k_in_L k_co_L_noBrake (fun _ h => h)) rfl rfl rfl (by decide +kernel) ⟨Nat.le_of_ble_eq_true rfl, Nat.le_of_ble_eq_true rfl⟩) ⟨cPM_blind, cPM_of hP hK hD hTX hCL hS hFc⟩ rfl rfl hl.1 rfl (lv_room (Nat.le_of_ble_eq_true rfl)) dL_refused_26 ⟨(Nat.le_of_ble_eq_true rfl), (Nat.le_of_ble_eq_true rfl)⟩) hS (fun q _ h => hFc q h) hFc (fun rz u9 t9 H locs ht9 hal hw hB hz1 hk1 hS => ?_)
  obtain ⟨v9, i9⟩ := u9
  obtain ⟨hP1, hK1, hD1⟩ := hB
  rw [ht9] at hP1
  have hP2 := hP1
  have hD2 := hD1.weaken (fun _ _ _ h => hFc _ h)
  obtain ⟨hz, hv9, hJ9⟩ := hw
  have hv9 : v9 = v := hv9
  dsimp only at hJ9 hz
  rw [hv9] at hP2 hD2 hJ9
  dsimp only at hP2 hD2
  have hJ : II v.1 i9 := hJ9
  have hP : va_P D vwCl (WX K ad q q1 q2 g r r2 v i9) H := hP2
  have hD : va_D A (WX K ad q q1 q2 g r r2 v i9) := hD2
  refine t_i hz ?_
  refine b_if_eq hx hb (nI_toIntI (by omega)) dL_refused_29 (tgt := 122) (by decide) (fun c29 => absurd c29 (by omega)) (fun c29 => ?_)
  refine lv_aload_n hx hb dL_refused_32 rfl (lv_at hl 1 rfl) ?_
  refine lv_iload_n hx hb dL_refused_33 rfl (lv_at hl 0 rfl) ?_
  have hFc := freeAll hD hS hA
  refine va_calli (vx_runSW (As := [.ref (ad 0), .int far]) (rest := []) ⟨hx, hb, hml, hown, hts⟩ (c_L_noClutch l hlf D K ad q q1 q2 g r r2 v i9 far H.size hI hJ (far_clutch v.1 hf)) (vx_cwSW 2 hts (TB_SW k_m_L_152 k_st_L_noClutch k_in_L k_co_L_noClutch (fun _ h => h)) rfl rfl rfl (by decide +kernel) ⟨Nat.le_of_ble_eq_true rfl, Nat.le_of_ble_eq_true rfl⟩) ⟨cPM_blind, cPM_of hP hK hD hTX hCL hS hFc⟩ rfl rfl hl.1 rfl (lv_room (Nat.le_of_ble_eq_true rfl)) dL_refused_34 ⟨(Nat.le_of_ble_eq_true rfl), (Nat.le_of_ble_eq_true rfl)⟩) hS (fun q _ h => hFc q h) hFc (fun rz u9 t9 H locs ht9 hal hw hB hz1 hk1 hS => ?_)
  obtain ⟨v9, i9⟩ := u9
  obtain ⟨hP1, hK1, hD1⟩ := hB
  rw [ht9] at hP1
  have hP2 := hP1
  have hD2 := hD1.weaken (fun _ _ _ h => hFc _ h)
  obtain ⟨hz, hv9, hJ9⟩ := hw
  have hv9 : v9 = v := hv9
  dsimp only at hJ9 hz
  rw [hv9] at hP2 hD2 hJ9
  dsimp only at hP2 hD2
  have hJ : II v.1 i9 := hJ9
  have hP : va_P D vwCl (WX K ad q q1 q2 g r r2 v i9) H := hP2
  have hD : va_D A (WX K ad q q1 q2 g r r2 v i9) := hD2
  refine t_i hz ?_
  refine b_if_eq hx hb (nI_toIntI (by omega)) dL_refused_37 (tgt := 122) (by decide) (fun c37 => absurd c37 (by omega)) (fun c37 => ?_)
  refine lv_aload_n hx hb dL_refused_40 rfl (lv_at hl 1 rfl) ?_
  refine lv_iload_n hx hb dL_refused_41 rfl (lv_at hl 0 rfl) ?_
  have hFc := freeAll hD hS hA
  refine va_calli (vx_runSW (As := [.ref (ad 0), .int far]) (rest := []) ⟨hx, hb, hml, hown, hts⟩ (c_L_noSet l hlf D K ad q q1 q2 g r r2 v i9 far H.size hI hJ (far_set v.1 hf)) (vx_cwSW 2 hts (TB_SW k_m_L_155 k_st_L_noSet k_in_L k_co_L_noSet (fun _ h => h)) rfl rfl rfl (by decide +kernel) ⟨Nat.le_of_ble_eq_true rfl, Nat.le_of_ble_eq_true rfl⟩) ⟨cPM_blind, cPM_of hP hK hD hTX hCL hS hFc⟩ rfl rfl hl.1 rfl (lv_room (Nat.le_of_ble_eq_true rfl)) dL_refused_42 ⟨(Nat.le_of_ble_eq_true rfl), (Nat.le_of_ble_eq_true rfl)⟩) hS (fun q _ h => hFc q h) hFc (fun rz u9 t9 H locs ht9 hal hw hB hz1 hk1 hS => ?_)
  obtain ⟨v9, i9⟩ := u9
  obtain ⟨hP1, hK1, hD1⟩ := hB
  rw [ht9] at hP1
  have hP2 := hP1
  have hD2 := hD1.weaken (fun _ _ _ h => hFc _ h)
  obtain ⟨hz, hv9, hJ9⟩ := hw
  have hv9 : v9 = v := hv9
  dsimp only at hJ9 hz
  rw [hv9] at hP2 hD2 hJ9
  dsimp only at hP2 hD2
  have hJ : II v.1 i9 := hJ9
  have hP : va_P D vwCl (WX K ad q q1 q2 g r r2 v i9) H := hP2
  have hD : va_D A (WX K ad q q1 q2 g r r2 v i9) := hD2
  refine t_i hz ?_
  refine b_if_eq hx hb (nI_toIntI (by omega)) dL_refused_45 (tgt := 122) (by decide) (fun c45 => absurd c45 (by omega)) (fun c45 => ?_)
  refine lv_aload_n hx hb dL_refused_48 rfl (lv_at hl 1 rfl) ?_
  refine lv_iload_n hx hb dL_refused_49 rfl (lv_at hl 0 rfl) ?_
  have hFc := freeAll hD hS hA
  refine va_calli (vx_runSW (As := [.ref (ad 0), .int far]) (rest := []) ⟨hx, hb, hml, hown, hts⟩ (c_L_noSlip l hlf D K ad q q1 q2 g r r2 v i9 far H.size hI hJ (far_slip v.1 hf)) (vx_cwSW 2 hts (TB_SW k_m_L_158 k_st_L_noSlip k_in_L k_co_L_noSlip (fun _ h => h)) rfl rfl rfl (by decide +kernel) ⟨Nat.le_of_ble_eq_true rfl, Nat.le_of_ble_eq_true rfl⟩) ⟨cPM_blind, cPM_of hP hK hD hTX hCL hS hFc⟩ rfl rfl hl.1 rfl (lv_room (Nat.le_of_ble_eq_true rfl)) dL_refused_50 ⟨(Nat.le_of_ble_eq_true rfl), (Nat.le_of_ble_eq_true rfl)⟩) hS (fun q _ h => hFc q h) hFc (fun rz u9 t9 H locs ht9 hal hw hB hz1 hk1 hS => ?_)
  obtain ⟨v9, i9⟩ := u9
  obtain ⟨hP1, hK1, hD1⟩ := hB
  rw [ht9] at hP1
  have hP2 := hP1
  have hD2 := hD1.weaken (fun _ _ _ h => hFc _ h)
  obtain ⟨hz, hv9, hJ9⟩ := hw
  have hv9 : v9 = v := hv9
  dsimp only at hJ9 hz
  rw [hv9] at hP2 hD2 hJ9
  dsimp only at hP2 hD2
  have hJ : II v.1 i9 := hJ9
  have hP : va_P D vwCl (WX K ad q q1 q2 g r r2 v i9) H := hP2
  have hD : va_D A (WX K ad q q1 q2 g r r2 v i9) := hD2
  refine t_i hz ?_
  refine b_if_eq hx hb (nI_toIntI (by omega)) dL_refused_53 (tgt := 122) (by decide) (fun c53 => absurd c53 (by omega)) (fun c53 => ?_)
  refine lv_aload_n hx hb dL_refused_56 rfl (lv_at hl 1 rfl) ?_
  refine lv_iload_n hx hb dL_refused_57 rfl (lv_at hl 0 rfl) ?_
  have hFc := freeAll hD hS hA
  refine va_calli (vx_runSW (As := [.ref (ad 0), .int far]) (rest := []) ⟨hx, hb, hml, hown, hts⟩ (c_L_noMask l hlf D K ad q q1 q2 g r r2 v i9 far H.size hI hJ (far_mask hm0 hf)) (vx_cwSW 2 hts (TB_SW k_m_L_161 k_st_L_noMask k_in_L k_co_L_noMask (fun _ h => h)) rfl rfl rfl (by decide +kernel) ⟨Nat.le_of_ble_eq_true rfl, Nat.le_of_ble_eq_true rfl⟩) ⟨cPM_blind, cPM_of hP hK hD hTX hCL hS hFc⟩ rfl rfl hl.1 rfl (lv_room (Nat.le_of_ble_eq_true rfl)) dL_refused_58 ⟨(Nat.le_of_ble_eq_true rfl), (Nat.le_of_ble_eq_true rfl)⟩) hS (fun q _ h => hFc q h) hFc (fun rz u9 t9 H locs ht9 hal hw hB hz1 hk1 hS => ?_)
  obtain ⟨v9, i9⟩ := u9
  obtain ⟨hP1, hK1, hD1⟩ := hB
  rw [ht9] at hP1
  have hP2 := hP1
  have hD2 := hD1.weaken (fun _ _ _ h => hFc _ h)
  obtain ⟨hz, hv9, hJ9⟩ := hw
  have hv9 : v9 = v := hv9
  dsimp only at hJ9 hz
  rw [hv9] at hP2 hD2 hJ9
  dsimp only at hP2 hD2
  have hJ : II v.1 i9 := hJ9
  have hP : va_P D vwCl (WX K ad q q1 q2 g r r2 v i9) H := hP2
  have hD : va_D A (WX K ad q q1 q2 g r r2 v i9) := hD2
  refine t_i hz ?_
  refine b_if_eq hx hb (nI_toIntI (by omega)) dL_refused_61 (tgt := 122) (by decide) (fun c61 => absurd c61 (by omega)) (fun c61 => ?_)
  refine lv_aload_n hx hb dL_refused_64 rfl (lv_at hl 1 rfl) ?_
  refine lv_iload_n hx hb dL_refused_65 rfl (lv_at hl 0 rfl) ?_
  have hFc := freeAll hD hS hA
  refine va_calli (vx_runSW (As := [.ref (ad 0), .int far]) (rest := []) ⟨hx, hb, hml, hown, hts⟩ (c_L_noSpeed l hlf D K ad q q1 q2 g r r2 v i9 far H.size hI hJ (far_speed v.1 hf)) (vx_cwSW 2 hts (TB_SW k_m_L_164 k_st_L_noSpeed k_in_L k_co_L_noSpeed (fun _ h => h)) rfl rfl rfl (by decide +kernel) ⟨Nat.le_of_ble_eq_true rfl, Nat.le_of_ble_eq_true rfl⟩) ⟨cPM_blind, cPM_of hP hK hD hTX hCL hS hFc⟩ rfl rfl hl.1 rfl (lv_room (Nat.le_of_ble_eq_true rfl)) dL_refused_66 ⟨(Nat.le_of_ble_eq_true rfl), (Nat.le_of_ble_eq_true rfl)⟩) hS (fun q _ h => hFc q h) hFc (fun rz u9 t9 H locs ht9 hal hw hB hz1 hk1 hS => ?_)
  obtain ⟨v9, i9⟩ := u9
  obtain ⟨hP1, hK1, hD1⟩ := hB
  rw [ht9] at hP1
  have hP2 := hP1
  have hD2 := hD1.weaken (fun _ _ _ h => hFc _ h)
  obtain ⟨hz, hv9, hJ9⟩ := hw
  have hv9 : v9 = v := hv9
  dsimp only at hJ9 hz
  rw [hv9] at hP2 hD2 hJ9
  dsimp only at hP2 hD2
  have hJ : II v.1 i9 := hJ9
  have hP : va_P D vwCl (WX K ad q q1 q2 g r r2 v i9) H := hP2
  have hD : va_D A (WX K ad q q1 q2 g r r2 v i9) := hD2
  refine t_i hz ?_
  refine b_if_eq hx hb (nI_toIntI (by omega)) dL_refused_69 (tgt := 122) (by decide) (fun c69 => absurd c69 (by omega)) (fun c69 => ?_)
  refine lv_aload_n hx hb dL_refused_72 rfl (lv_at hl 1 rfl) ?_
  refine lv_iload_n hx hb dL_refused_73 rfl (lv_at hl 0 rfl) ?_
  have hFc := freeAll hD hS hA
  refine va_calli (vx_runSW (As := [.ref (ad 0), .int far]) (rest := []) ⟨hx, hb, hml, hown, hts⟩ (c_L_noGear l hlf D K ad q q1 q2 g r r2 v i9 far H.size hI hJ (far_gear v.1 hf)) (vx_cwSW 2 hts (TB_SW k_m_L_167 k_st_L_noGear k_in_L k_co_L_noGear (fun _ h => h)) rfl rfl rfl (by decide +kernel) ⟨Nat.le_of_ble_eq_true rfl, Nat.le_of_ble_eq_true rfl⟩) ⟨cPM_blind, cPM_of hP hK hD hTX hCL hS hFc⟩ rfl rfl hl.1 rfl (lv_room (Nat.le_of_ble_eq_true rfl)) dL_refused_74 ⟨(Nat.le_of_ble_eq_true rfl), (Nat.le_of_ble_eq_true rfl)⟩) hS (fun q _ h => hFc q h) hFc (fun rz u9 t9 H locs ht9 hal hw hB hz1 hk1 hS => ?_)
  obtain ⟨v9, i9⟩ := u9
  obtain ⟨hP1, hK1, hD1⟩ := hB
  rw [ht9] at hP1
  have hP2 := hP1
  have hD2 := hD1.weaken (fun _ _ _ h => hFc _ h)
  obtain ⟨hz, hv9, hJ9⟩ := hw
  have hv9 : v9 = v := hv9
  dsimp only at hJ9 hz
  rw [hv9] at hP2 hD2 hJ9
  dsimp only at hP2 hD2
  have hJ : II v.1 i9 := hJ9
  have hP : va_P D vwCl (WX K ad q q1 q2 g r r2 v i9) H := hP2
  have hD : va_D A (WX K ad q q1 q2 g r r2 v i9) := hD2
  refine t_i hz ?_
  refine b_if_eq hx hb (nI_toIntI (by omega)) dL_refused_77 (tgt := 122) (by decide) (fun c77 => absurd c77 (by omega)) (fun c77 => ?_)
  refine lv_aload_n hx hb dL_refused_80 rfl (lv_at hl 1 rfl) ?_
  refine lv_iload_n hx hb dL_refused_81 rfl (lv_at hl 0 rfl) ?_
  have hFc := freeAll hD hS hA
  refine va_calli (vx_runSW (As := [.ref (ad 0), .int far]) (rest := []) ⟨hx, hb, hml, hown, hts⟩ (c_L_noSlot l hlf D K ad q q1 q2 g r r2 v i9 far H.size hI hJ (far_slot v hf)) (vx_cwSW 2 hts (TB_SW k_m_L_170 k_st_L_noSlot k_in_L k_co_L_noSlot (fun _ h => h)) rfl rfl rfl (by decide +kernel) ⟨Nat.le_of_ble_eq_true rfl, Nat.le_of_ble_eq_true rfl⟩) ⟨cPM_blind, cPM_of hP hK hD hTX hCL hS hFc⟩ rfl rfl hl.1 rfl (lv_room (Nat.le_of_ble_eq_true rfl)) dL_refused_82 ⟨(Nat.le_of_ble_eq_true rfl), (Nat.le_of_ble_eq_true rfl)⟩) hS (fun q _ h => hFc q h) hFc (fun rz u9 t9 H locs ht9 hal hw hB hz1 hk1 hS => ?_)
  obtain ⟨v9, i9⟩ := u9
  obtain ⟨hP1, hK1, hD1⟩ := hB
  rw [ht9] at hP1
  have hP2 := hP1
  have hD2 := hD1.weaken (fun _ _ _ h => hFc _ h)
  obtain ⟨hz, hv9, hJ9⟩ := hw
  have hv9 : v9 = v := hv9
  dsimp only at hJ9 hz
  rw [hv9] at hP2 hD2 hJ9
  dsimp only at hP2 hD2
  have hJ : II v.1 i9 := hJ9
  have hP : va_P D vwCl (WX K ad q q1 q2 g r r2 v i9) H := hP2
  have hD : va_D A (WX K ad q q1 q2 g r r2 v i9) := hD2
  refine t_i hz ?_
  refine b_if_eq hx hb (nI_toIntI (by omega)) dL_refused_85 (tgt := 122) (by decide) (fun c85 => absurd c85 (by omega)) (fun c85 => ?_)
  refine lv_aload_n hx hb dL_refused_88 rfl (lv_at hl 1 rfl) ?_
  refine lv_iconst (v := nI 0) hx hb dL_refused_89 (by decide) ?_
  have hrs : rs_count v.1 (nI 0) = (0, ((0 : Nat) : Int)) := (rs_count0 (by rw [dn_of hn0 (by decide)]))
  have hFc := freeAll hD hS hA
  refine vx_calli (vx_runV (As := [.int (nI 0)]) (rest := []) ⟨hx, hb, hml, hown, hts⟩ (c_X6_count l hlf D K ad q q1 q2 g r r2 v i9 (nI 0) H.size hI hJ) (cwV 1 hts (TB_V k_m_L_55 k_im_X6_count k_se_X6_count k_in_X6 k_co_X6_count (fun _ h => h)) rfl rfl rfl (by decide +kernel) ⟨Nat.le_of_ble_eq_true rfl, Nat.le_of_ble_eq_true rfl⟩) ⟨cPT_blind, va_recv hK hP (ci := 6) (q0 := 0) rfl rfl, cPT_of hP hK hD hTX hS hFc⟩ rfl rfl hl.1 rfl (lv_room (Nat.le_of_ble_eq_true rfl)) dL_refused_90 ⟨(Nat.le_of_ble_eq_true rfl), (Nat.le_of_ble_eq_true rfl)⟩) hS (fun q _ h => hFc q h) hFc (fun q _ h => hFc q h) (fun E ce q9 u9 t9 H locs ht9 hal hpx hB hz1 hk1 hS hce hcv hcl => ?_) (fun rz u9 t9 H locs ht9 hal hw hB hz1 hk1 hS => ?_)
  · exact absurd hB.1.1 (by rw [hrs]; exact Nat.lt_irrefl 0)
  obtain ⟨v9, i9⟩ := u9
  obtain ⟨hP1, hK1, hD1⟩ := hB
  rw [ht9] at hP1
  have hP2 := hP1
  have hD2 := hD1.weaken (fun _ _ _ h => hFc _ h)
  obtain ⟨hv9, hJ9, hr9⟩ := hw
  have hv9 : v9 = v := hv9
  dsimp only at hJ9 hr9
  rw [hv9] at hP2 hD2 hJ9
  dsimp only at hP2 hD2
  have hJ : II v.1 i9 := hJ9
  have hP : va_P D vwCl (WX K ad q q1 q2 g r r2 v i9) H := hP2
  have hD : va_D A (WX K ad q q1 q2 g r r2 v i9) := hD2
  have hz : rz.toInt = ((0 : Nat) : Int) := (Prod.mk.inj (hr9.symm.trans hrs)).2
  refine t_i ((i32_eq rz (nI 0)).mpr (by rw [nI_toIntI (by omega)]; exact hz)) ?_
  refine b_if_ne hx hb (nI_toIntI (by omega)) dL_refused_93 (tgt := 122) (by decide) (fun c93 => absurd c93 (by omega)) (fun c93 => ?_)
  refine lv_aload_n hx hb dL_refused_96 rfl (lv_at hl 1 rfl) ?_
  refine lv_iconst (v := nI 1) hx hb dL_refused_97 (by decide) ?_
  have hrs : rs_count v.1 (nI 1) = (0, ((0 : Nat) : Int)) := (rs_count1 (by rw [dn_of hm0 (by decide)]))
  have hFc := freeAll hD hS hA
  refine vx_calli (vx_runV (As := [.int (nI 1)]) (rest := []) ⟨hx, hb, hml, hown, hts⟩ (c_X6_count l hlf D K ad q q1 q2 g r r2 v i9 (nI 1) H.size hI hJ) (cwV 1 hts (TB_V k_m_L_55 k_im_X6_count k_se_X6_count k_in_X6 k_co_X6_count (fun _ h => h)) rfl rfl rfl (by decide +kernel) ⟨Nat.le_of_ble_eq_true rfl, Nat.le_of_ble_eq_true rfl⟩) ⟨cPT_blind, va_recv hK hP (ci := 6) (q0 := 0) rfl rfl, cPT_of hP hK hD hTX hS hFc⟩ rfl rfl hl.1 rfl (lv_room (Nat.le_of_ble_eq_true rfl)) dL_refused_98 ⟨(Nat.le_of_ble_eq_true rfl), (Nat.le_of_ble_eq_true rfl)⟩) hS (fun q _ h => hFc q h) hFc (fun q _ h => hFc q h) (fun E ce q9 u9 t9 H locs ht9 hal hpx hB hz1 hk1 hS hce hcv hcl => ?_) (fun rz u9 t9 H locs ht9 hal hw hB hz1 hk1 hS => ?_)
  · exact absurd hB.1.1 (by rw [hrs]; exact Nat.lt_irrefl 0)
  obtain ⟨v9, i9⟩ := u9
  obtain ⟨hP1, hK1, hD1⟩ := hB
  rw [ht9] at hP1
  have hP2 := hP1
  have hD2 := hD1.weaken (fun _ _ _ h => hFc _ h)
  obtain ⟨hv9, hJ9, hr9⟩ := hw
  have hv9 : v9 = v := hv9
  dsimp only at hJ9 hr9
  rw [hv9] at hP2 hD2 hJ9
  dsimp only at hP2 hD2
  have hJ : II v.1 i9 := hJ9
  have hP : va_P D vwCl (WX K ad q q1 q2 g r r2 v i9) H := hP2
  have hD : va_D A (WX K ad q q1 q2 g r r2 v i9) := hD2
  have hz : rz.toInt = ((0 : Nat) : Int) := (Prod.mk.inj (hr9.symm.trans hrs)).2
  refine t_i ((i32_eq rz (nI 0)).mpr (by rw [nI_toIntI (by omega)]; exact hz)) ?_
  refine b_if_ne hx hb (nI_toIntI (by omega)) dL_refused_101 (tgt := 122) (by decide) (fun c101 => absurd c101 (by omega)) (fun c101 => ?_)
  refine lv_aload_n hx hb dL_refused_104 rfl (lv_at hl 1 rfl) ?_
  have hFc := freeAll hD hS hA
  refine va_calli (va_runV (As := []) (rest := []) ⟨hx, hb, hml, hown, hts⟩ (c_X6_engaged l D K ad q q1 q2 g r r2 v i9  H.size hI hJ) (cwV 0 hts (TB_V k_m_L_51 k_im_X6_engaged k_se_X6_engaged k_in_X6 k_co_X6_engaged (fun _ h => h)) rfl rfl rfl (by decide +kernel) ⟨Nat.le_of_ble_eq_true rfl, Nat.le_of_ble_eq_true rfl⟩) ⟨cP_blind, va_recv hK hP (ci := 6) (q0 := 0) rfl rfl, cP_of hP hK hD⟩ rfl rfl hl.1 rfl (lv_room (Nat.le_of_ble_eq_true rfl)) dL_refused_105 ⟨(Nat.le_of_ble_eq_true rfl), (Nat.le_of_ble_eq_true rfl)⟩) hS (fun q _ h => hFc q h) hFc (fun rz u9 t9 H locs ht9 hal hw hB hz1 hk1 hS => ?_)
  obtain ⟨v9, i9⟩ := u9
  obtain ⟨hP1, hK1, hD1⟩ := hB
  rw [ht9] at hP1
  have hP2 := hP1
  have hD2 := hD1.weaken (fun _ _ _ h => hFc _ h)
  obtain ⟨hv9, hJ9, hr9⟩ := hw
  have hv9 : v9 = v := hv9
  dsimp only at hJ9 hr9
  rw [hv9] at hP2 hD2 hJ9
  dsimp only at hP2 hD2
  have hJ : II v.1 i9 := hJ9
  have hP : va_P D vwCl (WX K ad q q1 q2 g r r2 v i9) H := hP2
  have hD : va_D A (WX K ad q q1 q2 g r r2 v i9) := hD2
  refine t_i (hr9.trans he0) ?_
  refine b_if_ne hx hb (nI_toIntI (by omega)) dL_refused_108 (tgt := 122) (by decide) (fun c108 => absurd c108 (by omega)) (fun c108 => ?_)
  refine lv_aload_n hx hb dL_refused_111 rfl (lv_at hl 1 rfl) ?_
  have hFc := freeAll hD hS hA
  refine va_calli (va_runV (As := []) (rest := []) ⟨hx, hb, hml, hown, hts⟩ (c_X6_undo l D K ad q q1 q2 g r r2 v i9  H.size hI hJ) (cwV 0 hts (TB_V k_m_L_79 k_im_X6_undo k_se_X6_undo k_in_X6 k_co_X6_undo (fun _ h => h)) rfl rfl rfl (by decide +kernel) ⟨Nat.le_of_ble_eq_true rfl, Nat.le_of_ble_eq_true rfl⟩) ⟨cP_blind, va_recv hK hP (ci := 6) (q0 := 0) rfl rfl, cP_of hP hK hD⟩ rfl rfl hl.1 rfl (lv_room (Nat.le_of_ble_eq_true rfl)) dL_refused_112 ⟨(Nat.le_of_ble_eq_true rfl), (Nat.le_of_ble_eq_true rfl)⟩) hS (fun q _ h => hFc q h) hFc (fun rz u9 t9 H locs ht9 hal hw hB hz1 hk1 hS => ?_)
  obtain ⟨v9, i9⟩ := u9
  obtain ⟨hP1, hK1, hD1⟩ := hB
  rw [ht9] at hP1
  have hP2 := hP1
  have hD2 := hD1.weaken (fun _ _ _ h => hFc _ h)
  obtain ⟨hI9, hJ9, hh9⟩ := hw
  rcases hh9 with ⟨-, hz, hv9⟩ | ⟨hz, -⟩
  rotate_left
  · exact absurd hh0 (by omega)
  have hv9 : v9 = v := hv9
  dsimp only at hJ9
  rw [hv9] at hP2 hD2 hJ9
  dsimp only at hP2 hD2
  have hJ : II v.1 i9 := hJ9
  have hP : va_P D vwCl (WX K ad q q1 q2 g r r2 v i9) H := hP2
  have hD : va_D A (WX K ad q q1 q2 g r r2 v i9) := hD2
  refine t_i hz ?_
  refine b_if_ne hx hb (nI_toIntI (by omega)) dL_refused_115 (tgt := 122) (by decide) (fun c115 => absurd c115 (by omega)) (fun c115 => ?_)
  refine lv_iconst (v := nI 1) hx hb dL_refused_118 (by decide) ?_
  refine lv_goto (tgt := 123) hx hb dL_refused_119 (by decide) ?_
  refine W.widen (k := 10) (n := 60) (Nat.le_of_ble_eq_true rfl) (Nat.le_of_ble_eq_true rfl) ?_
  exact W.zret (v := nI 1) hx hb hr (by decide) (fun t9 ht9 hW => ⟨⟨nI 1, (v, i9), rfl, ⟨rfl, rfl, hJ⟩, by rw [ht9]; exact hP, va_K.moved hW.alike hK, hD⟩, hS.F ht9⟩) hS.2.2 dL_refused_123
