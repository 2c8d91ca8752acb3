/-! PlanetaryGearboxModel: states, ratios -/
theorem SolvedM.so_eq {S : (Nat → Int) → Prop} {nr nc : Nat} {V : Nat → Nat → Int64} {pv : Nat → Int32} {so : Int32} (h : SolvedM S nr nc V pv so) : so = bI (Solv S) := by
  rcases h.sv01 with e | e
  · rw [e]; exact bI_f (fun z => by rw [h.solv.mpr z] at e; exact absurd e (by decide))
  · rw [e]; exact bI_t (h.solv.mp e)
theorem Lfacts {c p : Int} (hp : p ≠ 0) : Lnum c p * (Nat.gcd p.natAbs c.natAbs : Nat) = (if p < 0 then -c else c) ∧ Lden c p * (Nat.gcd p.natAbs c.natAbs : Nat) = (p.natAbs : Int) ∧ 0 < Nat.gcd p.natAbs c.natAbs := by
  have h1 := dvd_natAbs (Nat.gcd_dvd_left p.natAbs c.natAbs)
  have h2 := dvd_natAbs (Nat.gcd_dvd_right p.natAbs c.natAbs)
  have h3 : 0 < Nat.gcd p.natAbs c.natAbs := Nat.gcd_pos_of_pos_left _ (Int.natAbs_pos.mpr hp)
  unfold Lnum Lden
  generalize Nat.gcd p.natAbs c.natAbs = G at h1 h2 h3 ⊢
  have e1 := Int.ediv_mul_cancel h1
  have e2 := Int.ediv_mul_cancel h2
  refine ⟨?_, ?_, h3⟩
  · split
    · rw [Int.neg_mul, e2]
    · exact e2
  · split
    · rw [Int.neg_mul, e1]; omega
    · rw [e1]; omega
theorem Lnum_0 {c p : Int} (hp : p ≠ 0) : Lnum c p = 0 ↔ (if p < 0 then -c else c) = 0 := by
  obtain ⟨h1, -, h3⟩ := Lfacts (c := c) hp
  constructor
  · intro h; rw [← h1, h]; simp
  · intro h
    rw [h] at h1
    rcases Int.mul_eq_zero.mp h1 with z | z
    · exact z
    · omega
set_option maxHeartbeats 4000000 in
set_option maxRecDepth 100000 in
theorem c_X7_stateOf (l : Launch) (D : va_G) (K : Nat → ClassId) (mm : Nat → Nat) (ta : Nat → Int32) (sl : Nat → Int32) (ss : Nat → Int32) (be : Nat → Int32) (ch : Int32) (th : Int32) (M : Nat → Nat → Int64) (rq : Int32) (cq : Int32) (pv : Nat → Int32) (so : Int32) (st : Nat → Int32) (gs : Int32) (gm : Nat → Int32) (gu : Nat → Int64) (gl : Nat → Int64) (aw : Nat → Int32) (d : Nat → Nat → Int32) (g : Nat) (sz : Nat) (hd : DV d) (hat : AtD ta d) (hg : g < 2147483648) : Met l yX7_stateOf (.code yX7_stateOf cX7_stateOf 2 (some .int) :: TB) ({ frames := 5, cells := 0, slots := 0, locals := 129 } : Room) (va_Pc [.ref (mm 0), .int (nI g)] (cP D K (WM K mm ta sl ss be ch th M rq cq pv so st gs gm gu gl aw) sz)) (va_Qi (fun (z : Int32) (u : ((Nat → Nat → Int64) × (Nat → Int32) × Int32) × Int32) => z = nI (stM d g) ∧ ∃ nr, nr ≤ 10 ∧ u.2 = nI nr ∧ SolvedM (SP d g) nr 6 u.1.1 u.1.2.1 u.1.2.2) (fun (u : ((Nat → Nat → Int64) × (Nat → Int32) × Int32) × Int32) t => cB D K (va_A (WM K mm ta sl ss be ch th M rq cq pv so st gs gm gu gl aw) sz) (WM K mm ta sl ss be ch th u.1.1 u.2 (nI 6) u.1.2.1 u.1.2.2 st gs gm gu gl aw) t) (va_A (WM K mm ta sl ss be ch th M rq cq pv so st gs gm gu gl aw) sz)) 0 0 (va_A (WM K mm ta sl ss be ch th M rq cq pv so st gs gm gu gl aw) sz) := by
  refine Met.ofW (cc := cX7_stateOf) (maxL := 2) (ret := (some .int)) (by decide) rfl ?_
  intro p e s m args below meth c s₁ B hml hv
  obtain ⟨rfl, hsz, hP, hK, hD0⟩ := hv
  have hx := B.exec
  have hb := B.bytes
  have hr := B.returns
  have hts := hts_tl (atoms_spec (ws := (.code yX7_stateOf cX7_stateOf 2 (some .int) :: TB)) B.pre)
  have hown : s.vm.findClass RX7 = some m.cls := findClass_of_methodNamed B.named
  have hlocks := B.notSynchronized
  subst hsz
  have hD := hD0.self (sz := s.heap.size)
  generalize hAe : (va_A (WM K mm ta sl ss be ch th M rq cq pv so st gs gm gu gl aw) s.heap.size) = A at hD ⊢
  have hA : ∀ q : Nat, s.heap.size ≤ q → A q := fun q h => by rw [← hAe]; exact Or.inr h
  have hS : va_S A s.heap s.heap [] := va_S.rf
  have hl := lv_entry ([.ref (mm 0), .int (nI g)]) (n := 2) (Nat.le_of_ble_eq_true rfl)
  rw [lg_entry_eq]
  generalize (lg_sl ([.ref (mm 0), .int (nI g)]) ++ List.replicate (2 - (lg_sl ([.ref (mm 0), .int (nI g)])).length) Slot.unset).toArray = ls at hl ⊢
  have hl : lv_has ls 2 [(0, .ref (mm 0)), (1, .int (nI g))] := hl
  refine lv_aload_n hx hb dX7_stateOf_0 rfl (lv_at hl 0 rfl) ?_
  refine lv_iload_n hx hb dX7_stateOf_1 rfl (lv_at hl 1 rfl) ?_
  have hFc := freeAll hD hS hA
  refine va_callv (va_runV (As := [.int (nI g)]) (rest := []) ⟨hx, hb, hml, hown, hts⟩ (c_X7_laySpeeds l D K mm ta sl ss be ch th M rq cq pv so st gs gm gu gl aw d g s.heap.size hd hat hg) (cwV 1 hts (TB_V k_m_X7_117 k_im_X7_laySpeeds k_se_X7_laySpeeds k_in_X7 k_co_X7_laySpeeds (fun _ h => h)) rfl rfl rfl (by decide +kernel) ⟨Nat.le_of_ble_eq_true rfl, Nat.le_of_ble_eq_true rfl⟩) ⟨cP_blind, va_recv hK hP (ci := 7) (q0 := 0) rfl rfl, cP_of hP hK hD⟩ rfl rfl hl.1 rfl (lv_room (Nat.le_of_ble_eq_true rfl)) dX7_stateOf_2 ⟨Nat.le_of_ble_eq_true rfl, Nat.le_of_ble_eq_true rfl⟩) hS (fun q _ h => hFc q h) hFc (fun u6 t9 H locs ht9 hvm hw hB hz1 hk1 hS => ?_)
  obtain ⟨hP, hK1, hD1⟩ := hB
  rw [ht9] at hP
  have hD := hD1.weaken (fun _ _ _ h => hFc _ h)
  have hP : va_P D vwCl (WM K mm ta sl ss be ch th u6.1.1 u6.2 (nI 6) u6.1.2.1 u6.1.2.2 st gs gm gu gl aw) H := hP
  have hD : va_D A (WM K mm ta sl ss be ch th u6.1.1 u6.2 (nI 6) u6.1.2.1 u6.1.2.2 st gs gm gu gl aw) := hD
  obtain ⟨nr, hnr, hrq9, hs0⟩ := hw
  refine lv_aload_n hx hb dX7_stateOf_5 rfl (lv_at hl 0 rfl) ?_
  refine va_get (D := D) (ci := 7) (C := RX7) (T := TX7) (N := 17) hx hb hts iX7 hown hK hP 0 rfl rfl 10 (by decide) (hts _ k_f_X7_105) (fun _ h9 => h9) rfl dX7_stateOf_6 ?_
  by_cases hso : Solv (SP d g)
  rotate_left
  · refine t_i (hs0.so_eq.trans (bI_f hso).symm) ?_
    refine b_if_ne hx hb (nI_toIntI (by omega)) dX7_stateOf_9 (tgt := 16) (by decide) (fun c9 => absurd c9 (by omega)) (fun c9 => ?_)
    refine lv_iconst (v := nI 3) hx hb dX7_stateOf_12 (by decide) ?_
    refine lv_goto (tgt := 43) hx hb dX7_stateOf_13 (by decide) ?_
    exact W.iret (v := nI 3) hx hb hr (fun t9 ht9 hW => ⟨⟨nI 3, u6, rfl, ⟨(congrArg nI (stC_3 hso)).symm, nr, hnr, hrq9, hs0⟩, by rw [ht9]; exact hP, va_K.moved hW.alike hK, hD⟩, hS.F ht9⟩) hS.2.2 dX7_stateOf_43
  refine t_i (hs0.so_eq.trans (bI_t hso).symm) ?_
  refine b_if_ne hx hb (nI_toIntI (by omega)) dX7_stateOf_9 (tgt := 16) (by decide) (fun c9 => ?_) (fun c9 => absurd c9 (by omega))
  refine lv_aload_n hx hb dX7_stateOf_16 rfl (lv_at hl 0 rfl) ?_
  refine lv_iconst (v := nI 1) hx hb dX7_stateOf_17 (by decide) ?_
  refine va_calli (va_runV (As := [.int (nI 1)]) (rest := []) ⟨hx, hb, hml, hown, hts⟩ (c_X7_isDetermined l D K mm ta sl ss be ch th u6.1.1 u6.2 (nI 6) u6.1.2.1 u6.1.2.2 st gs gm gu gl aw (SP d g) nr 6 1 H.size hnr (by decide) rfl (by decide) hs0) (cwV 1 hts (TB_V k_m_X7_120 k_im_X7_isDetermined k_se_X7_isDetermined k_in_X7 k_co_X7_isDetermined (fun _ h => h)) rfl rfl rfl (by decide +kernel) ⟨Nat.le_of_ble_eq_true rfl, Nat.le_of_ble_eq_true rfl⟩) ⟨cP_blind, va_recv hK hP (ci := 7) (q0 := 0) rfl rfl, cP_of hP hK hD⟩ rfl rfl hl.1 rfl (lv_room (Nat.le_of_ble_eq_true rfl)) dX7_stateOf_18 ⟨Nat.le_of_ble_eq_true rfl, Nat.le_of_ble_eq_true rfl⟩) hS (fun q _ h => absurd h id) (fun q h => absurd h id) (fun dz u9 t9 H locs ht9 hvm hw hB hz1 hk1 hS => ?_)
  have hP := P_same hP hk1
  by_cases hdd : Solv (SP d g) ∧ DetS (SP d g) 1
  rotate_left
  · refine t_i (hw.trans (bI_f hdd).symm) ?_
    refine b_if_ne hx hb (nI_toIntI (by omega)) dX7_stateOf_21 (tgt := 28) (by decide) (fun c21 => absurd c21 (by omega)) (fun c21 => ?_)
    refine lv_iconst (v := nI 2) hx hb dX7_stateOf_24 (by decide) ?_
    refine lv_goto (tgt := 43) hx hb dX7_stateOf_25 (by decide) ?_
    exact W.iret (v := nI 2) hx hb hr (fun t9 ht9 hW => ⟨⟨nI 2, u6, rfl, ⟨(congrArg nI (stC_2 hso (fun z => hdd ⟨hso, z⟩))).symm, nr, hnr, hrq9, hs0⟩, by rw [ht9]; exact hP, va_K.moved hW.alike hK, hD⟩, hS.F ht9⟩) hS.2.2 dX7_stateOf_43
  refine t_i (hw.trans (bI_t hdd).symm) ?_
  obtain ⟨kv, hkv, hpv9, hne9, hb19, hb29, hvn, hvd⟩ := hs0.val hnr (by decide) (by decide) hdd.1 hdd.2
  refine b_if_ne hx hb (nI_toIntI (by omega)) dX7_stateOf_21 (tgt := 28) (by decide) (fun c21 => ?_) (fun c21 => absurd c21 (by omega))
  refine lv_aload_n hx hb dX7_stateOf_28 rfl (lv_at hl 0 rfl) ?_
  refine lv_iconst (v := nI 1) hx hb dX7_stateOf_29 (by decide) ?_
  refine va_calll (va_runV (As := [.int (nI 1)]) (rest := []) ⟨hx, hb, hml, hown, hts⟩ (c_X7_upper l D K mm ta sl ss be ch th u6.1.1 u6.2 (nI 6) u6.1.2.1 u6.1.2.2 st gs gm gu gl aw kv 1 H.size (by omega) (by decide) hpv9 hb19 hb29) (cwV 1 hts (TB_V k_m_X7_123 k_im_X7_upper k_se_X7_upper k_in_X7 k_co_X7_upper (fun _ h => h)) rfl rfl rfl (by decide +kernel) ⟨Nat.le_of_ble_eq_true rfl, Nat.le_of_ble_eq_true rfl⟩) ⟨cP_blind, va_recv hK hP (ci := 7) (q0 := 0) rfl rfl, cP_of hP hK hD⟩ rfl rfl hl.1 rfl (lv_room (Nat.le_of_ble_eq_true rfl)) dX7_stateOf_30 ⟨Nat.le_of_ble_eq_true rfl, Nat.le_of_ble_eq_true rfl⟩) hS (fun q _ h => absurd h id) (fun q h => absurd h id) (fun up u9 t9 H locs ht9 hvm hw hB hz1 hk1 hS => ?_)
  have hP := P_same hP hk1
  have hz0 := Lnum_0 (c := (u6.1.1 kv 10).toInt) hne9
  rw [hvn, ← hw] at hz0
  refine lv_lconst (v := 0) hx hb dX7_stateOf_33 (by decide) ?_
  refine b_lcmp_ne hx hb rfl (show (0 : Int64).toInt = 0 by decide) dX7_stateOf_34 dX7_stateOf_35 (tgt := 42) (by decide) (fun c34 => ?_) (fun c34 => ?_)
  · refine lv_iconst (v := nI 0) hx hb dX7_stateOf_42 (by decide) ?_
    exact W.iret (v := nI 0) hx hb hr (fun t9 ht9 hW => ⟨⟨nI 0, u6, rfl, ⟨(congrArg nI (stC_0 hdd.1 hdd.2 (fun z => by have := hz0.mp z; omega))).symm, nr, hnr, hrq9, hs0⟩, by rw [ht9]; exact hP, va_K.moved hW.alike hK, hD⟩, hS.F ht9⟩) hS.2.2 dX7_stateOf_43
  refine lv_iconst (v := nI 1) hx hb dX7_stateOf_38 (by decide) ?_
  refine lv_goto (tgt := 43) hx hb dX7_stateOf_39 (by decide) ?_
  exact W.iret (v := nI 1) hx hb hr (fun t9 ht9 hW => ⟨⟨nI 1, u6, rfl, ⟨(congrArg nI (stC_1 hdd.1 hdd.2 (hz0.mpr (by omega)))).symm, nr, hnr, hrq9, hs0⟩, by rw [ht9]; exact hP, va_K.moved hW.alike hK, hD⟩, hS.F ht9⟩) hS.2.2 dX7_stateOf_43
