/-! PlanetaryGearbox: the constructor -/
def v0 : CV := ((fun _ _ => 0), (fun _ _ => 0), (fun _ _ => 0), 0, 0, (fun _ => 0), 0)
def i0 : CI := ((fun _ _ => 0), (fun _ => 0), (fun _ => 0), 0, (fun _ _ => 0), (fun _ => 0), (fun _ => 0), 0, (fun _ => 0), (fun _ => 0), (fun _ => 0), (fun _ => 0), (fun _ => 0), 0, 0)
theorem DV_0 : DV (fun _ _ => 0) := ⟨0, 0, 0, by omega, by omega, by decide, rfl, rfl, rfl, fun k hk => absurd hk (Nat.not_lt_zero k), fun e he => absurd he (Nat.not_lt_zero e)⟩
theorem IV_0 : IV v0 := ⟨DV_0, DV_0, DV_0, Or.inl rfl, Or.inl rfl, Nat.zero_le _, fun j hj => absurd hj (Nat.not_lt_zero j)⟩
theorem II_0 : II v0.1 i0 := ⟨Nat.zero_le _, Or.inl rfl, fun z => absurd z (by decide)⟩
theorem pm_ctor {Y0 Y1 Y2 Y3 Y4 Y5 Y6 Y7 Y8 Y9 : va_W} : (Y0 ++ (Y1 ++ (Y2 ++ (Y3 ++ (Y4 ++ (Y5 ++ (Y6 ++ (Y7 ++ (Y8 ++ (Y9)))))))))).Perm (Y0 ++ (Y1 ++ (Y4 ++ (Y5 ++ (Y9 ++ (Y2 ++ (Y3 ++ (Y6 ++ (Y8 ++ (Y7)))))))))) := (List.Perm.trans (List.Perm.refl _) (List.Perm.append_left Y0 (List.Perm.trans (List.Perm.refl _) (List.Perm.append_left Y1 (List.Perm.trans (List.Perm.trans (List.Perm.append_left Y2 (pm_sw)) (pm_sw)) (List.Perm.append_left Y4 (List.Perm.trans (List.Perm.trans (List.Perm.append_left Y2 (pm_sw)) (pm_sw)) (List.Perm.append_left Y5 (List.Perm.trans (List.Perm.trans (List.Perm.append_left Y2 (List.Perm.trans (List.Perm.append_left Y3 (List.Perm.trans (List.Perm.append_left Y6 (List.Perm.trans (List.Perm.append_left Y7 (List.perm_append_comm)) (pm_sw))) (pm_sw))) (pm_sw))) (pm_sw)) (List.Perm.append_left Y9 (List.Perm.trans (List.Perm.refl _) (List.Perm.append_left Y2 (List.Perm.trans (List.Perm.refl _) (List.Perm.append_left Y3 (List.Perm.trans (List.Perm.refl _) (List.Perm.append_left Y6 (List.Perm.trans (List.perm_append_comm) (List.Perm.append_left Y8 (List.Perm.refl _)))))))))))))))))))
set_option maxHeartbeats 4000000 in
set_option maxRecDepth 100000 in
theorem c_X6_init (l : Launch) (D : va_G) (K : Nat → ClassId) (h0 : Nat) (sz : Nat)  : Met l yX6_init (.code yX6_init cX6_init 1 none :: TB) ({ frames := 3, cells := 65, slots := 771, locals := 52 } : Room) (va_Pc [.ref h0] (cPX D K ([(h0, .inr (6, [.null, .null, .null, .int 0, .int 0, .null, .null, .null, .null]))]) sz)) (va_Qv (fun (u : (Nat → Nat) × (Nat → Nat) × (Nat → Nat) × (Nat → Nat) × (Nat → Nat) × (Nat → Nat) × (Nat → Nat)) => u.1 0 = h0) (fun (u : (Nat → Nat) × (Nat → Nat) × (Nat → Nat) × (Nat → Nat) × (Nat → Nat) × (Nat → Nat) × (Nat → Nat)) t => cB D K (va_A ([(h0, .inr (6, [.null, .null, .null, .int 0, .int 0, .null, .null, .null, .null]))]) sz) (WX K u.1 u.2.1 u.2.2.1 u.2.2.2.1 u.2.2.2.2.1 u.2.2.2.2.2.1 u.2.2.2.2.2.2 v0 i0) t) (va_A ([(h0, .inr (6, [.null, .null, .null, .int 0, .int 0, .null, .null, .null, .null]))]) sz)) 65 771 (va_A ([(h0, .inr (6, [.null, .null, .null, .int 0, .int 0, .null, .null, .null, .null]))]) sz) := by
  refine Met.ofW (cc := cX6_init) (maxL := 1) (ret := none) (by decide) rfl ?_
  intro p e s m args below meth c s₁ B hml hv
  obtain ⟨rfl, ⟨hsz, hP, hK, hD0⟩, hCX⟩ := hv
  have hx := B.exec
  have hb := B.bytes
  have hr := B.returns
  have hts := hts_tl (atoms_spec (ws := (.code yX6_init cX6_init 1 none :: TB)) B.pre)
  have hown : s.vm.findClass RX6 = some m.cls := findClass_of_methodNamed B.named
  have hlocks := B.notSynchronized
  have hin : meth.name = "<init>" := (name_of_methodNamed B.named B.method).1
  subst hsz
  have hD := hD0.self (sz := s.heap.size)
  generalize hAe : (va_A ([(h0, .inr (6, [.null, .null, .null, .int 0, .int 0, .null, .null, .null, .null]))]) s.heap.size) = A at hD ⊢
  have hA : ∀ q : Nat, s.heap.size ≤ q → A q := fun q h => by rw [← hAe]; exact Or.inr h
  have hS : va_S A s.heap s.heap [] := va_S.rf
  have hl := lv_entry ([.ref h0]) (n := 1) (Nat.le_of_ble_eq_true rfl)
  rw [lg_entry_eq]
  generalize (lg_sl ([.ref h0]) ++ List.replicate (1 - (lg_sl ([.ref h0])).length) Slot.unset).toArray = ls at hl ⊢
  have hl : lv_has ls 1 [(0, .ref h0)] := hl
  refine lv_aload_n hx hb dX6_init_0 rfl (lv_at hl 0 rfl) ?_
  refine W.objInit hx hb hown (hts _ k_m_X6_3) (hts _ k_im_objectInit) (hts _ k_co_objectInit) rfl (by rw [hml]; exact hl.1) rfl dX6_init_1 (Nat.le_of_ble_eq_true rfl) (Nat.le_of_ble_eq_true rfl) ?_
  refine W.eq (g2 := F0 m 4 ls []) rfl ?_
  refine lv_aload_n hx hb dX6_init_4 rfl (lv_at hl 0 rfl) ?_
  refine va_new (ci := 0) (fs := [.null, .null, .null, .null, .null, .int 0, .null, .null, .null, .int 0, .int 0]) (C := RX0) (T := TX0) (N := 11) hx hb hts iX0 tyX0 tyX0_ok hown (hts _ k_cl_X6_9) (hts _ k_il_X0) (hts _ k_in_X0) hK hP hD hS hA rfl (fun j hj => by rcases (show j = 0 ∨ j = 1 ∨ j = 2 ∨ j = 3 ∨ j = 4 ∨ j = 5 ∨ j = 6 ∨ j = 7 ∨ j = 8 ∨ j = 9 ∨ j = 10 by omega) with rfl | rfl | rfl | rfl | rfl | rfl | rfl | rfl | rfl | rfl | rfl <;> rfl) (Nat.le_of_ble_eq_true rfl) (Nat.le_of_ble_eq_true rfl) dX6_init_5 (fun pa H hP hD hS => ?_)
  have hP := P_perm List.perm_append_comm hP
  have hD := D_perm List.perm_append_comm hD
  have hP : va_P D vwCl ([(pa, .inr (0, [.null, .null, .null, .null, .null, .int 0, .null, .null, .null, .int 0, .int 0]))] ++ ([(h0, .inr (6, [.null, .null, .null, .int 0, .int 0, .null, .null, .null, .null]))])) H := hP
  have hD : va_D A ([(pa, .inr (0, [.null, .null, .null, .null, .null, .int 0, .null, .null, .null, .int 0, .int 0]))] ++ ([(h0, .inr (6, [.null, .null, .null, .int 0, .int 0, .null, .null, .null, .null]))])) := hD
  refine lv_dup hx hb dX6_init_8 rfl ?_
  have hPc := bP0 hP
  have hDc := bD0 hD
  have hFc := bF0 hD hS hA
  refine va_callv (va_runIN (As := []) (rest := [.ref pa, .ref h0]) ⟨hx, hb, hml, hown, hts⟩ (c_X0_init l D K pa H.size) ⟨va_cnB 0 hts (TB_in (fun _ h => h) k_co_X0_init) rfl rfl rfl hCX.2.1 (hts _ k_in_X0) (by decide +kernel) ⟨Nat.le_of_ble_eq_true rfl, Nat.le_of_ble_eq_true rfl⟩, rfl, hts _ k_im_X0_init⟩ ⟨cP_blind, cP_of hPc hK hDc⟩ rfl rfl hl.1 rfl (lv_room (Nat.le_of_ble_eq_true rfl)) dX6_init_9 ⟨Nat.le_of_ble_eq_true rfl, Nat.le_of_ble_eq_true rfl⟩) hS (fun q _ h => hFc q h) hFc (fun u0 t9 H locs ht9 hvm hw hB hz1 hk1 hS => ?_)
  obtain ⟨hP1, hK1, hD1⟩ := hB
  rw [ht9] at hP1
  obtain ⟨hPn, hDn⟩ := bJ0 hP hD hk1 hFc hP1 hD1
  have hw : u0 0 = pa := hw
  subst hw
  have hP := P_perm List.perm_append_comm hPn
  have hD := D_perm List.perm_append_comm hDn
  clear hPn hDn
  have hP : va_P D vwCl ([(h0, .inr (6, [.null, .null, .null, .int 0, .int 0, .null, .null, .null, .null]))] ++ (WD K u0 (fun _ _ => 0))) H := hP
  have hD : va_D A ([(h0, .inr (6, [.null, .null, .null, .int 0, .int 0, .null, .null, .null, .null]))] ++ (WD K u0 (fun _ _ => 0))) := hD
  refine va_putF (D := D) (ci := 6) (v := .ref (u0 0)) (ty := .object "PlanetaryGearbox$Design") (C := RX6) (T := TX6) (N := 9) hx hb hts iX6 tyX6 tyX6_ok nmX6 hown hK hP hD hS 0 rfl rfl 0 (by decide) (hts _ k_f_X6_12) (fun _ h9 => h9) rfl hin rfl (by decide +kernel) rfl rfl (Nat.le_of_ble_eq_true rfl) dX6_init_12 (fun H locs hP hD hS => ?_)
  have hP : va_P D vwCl ([(h0, .inr (6, [.ref (u0 0), .null, .null, .int 0, .int 0, .null, .null, .null, .null]))] ++ (WD K u0 (fun _ _ => 0))) H := hP
  have hD : va_D A ([(h0, .inr (6, [.ref (u0 0), .null, .null, .int 0, .int 0, .null, .null, .null, .null]))] ++ (WD K u0 (fun _ _ => 0))) := hD
  refine lv_aload_n hx hb dX6_init_15 rfl (lv_at hl 0 rfl) ?_
  refine va_new (ci := 0) (fs := [.null, .null, .null, .null, .null, .int 0, .null, .null, .null, .int 0, .int 0]) (C := RX0) (T := TX0) (N := 11) hx hb hts iX0 tyX0 tyX0_ok hown (hts _ k_cl_X6_9) (hts _ k_il_X0) (hts _ k_in_X0) hK hP hD hS hA rfl (fun j hj => by rcases (show j = 0 ∨ j = 1 ∨ j = 2 ∨ j = 3 ∨ j = 4 ∨ j = 5 ∨ j = 6 ∨ j = 7 ∨ j = 8 ∨ j = 9 ∨ j = 10 by omega) with rfl | rfl | rfl | rfl | rfl | rfl | rfl | rfl | rfl | rfl | rfl <;> rfl) (Nat.le_of_ble_eq_true rfl) (Nat.le_of_ble_eq_true rfl) dX6_init_16 (fun pb H hP hD hS => ?_)
  have hP := P_perm List.perm_append_comm hP
  have hD := D_perm List.perm_append_comm hD
  have hP : va_P D vwCl ([(pb, .inr (0, [.null, .null, .null, .null, .null, .int 0, .null, .null, .null, .int 0, .int 0]))] ++ ([(h0, .inr (6, [.ref (u0 0), .null, .null, .int 0, .int 0, .null, .null, .null, .null]))] ++ (WD K u0 (fun _ _ => 0)))) H := hP
  have hD : va_D A ([(pb, .inr (0, [.null, .null, .null, .null, .null, .int 0, .null, .null, .null, .int 0, .int 0]))] ++ ([(h0, .inr (6, [.ref (u0 0), .null, .null, .int 0, .int 0, .null, .null, .null, .null]))] ++ (WD K u0 (fun _ _ => 0)))) := hD
  refine lv_dup hx hb dX6_init_19 rfl ?_
  have hPc := bP0 hP
  have hDc := bD0 hD
  have hFc := bF0 hD hS hA
  refine va_callv (va_runIN (As := []) (rest := [.ref pb, .ref h0]) ⟨hx, hb, hml, hown, hts⟩ (c_X0_init l D K pb H.size) ⟨va_cnB 0 hts (TB_in (fun _ h => h) k_co_X0_init) rfl rfl rfl hCX.2.1 (hts _ k_in_X0) (by decide +kernel) ⟨Nat.le_of_ble_eq_true rfl, Nat.le_of_ble_eq_true rfl⟩, rfl, hts _ k_im_X0_init⟩ ⟨cP_blind, cP_of hPc hK hDc⟩ rfl rfl hl.1 rfl (lv_room (Nat.le_of_ble_eq_true rfl)) dX6_init_20 ⟨Nat.le_of_ble_eq_true rfl, Nat.le_of_ble_eq_true rfl⟩) hS (fun q _ h => hFc q h) hFc (fun u1 t9 H locs ht9 hvm hw hB hz1 hk1 hS => ?_)
  obtain ⟨hP1, hK1, hD1⟩ := hB
  rw [ht9] at hP1
  obtain ⟨hPn, hDn⟩ := bJ0 hP hD hk1 hFc hP1 hD1
  have hw : u1 0 = pb := hw
  subst hw
  have hP := P_perm pm_sw hPn
  have hD := D_perm pm_sw hDn
  clear hPn hDn
  have hP : va_P D vwCl ([(h0, .inr (6, [.ref (u0 0), .null, .null, .int 0, .int 0, .null, .null, .null, .null]))] ++ (WD K u1 (fun _ _ => 0) ++ (WD K u0 (fun _ _ => 0)))) H := hP
  have hD : va_D A ([(h0, .inr (6, [.ref (u0 0), .null, .null, .int 0, .int 0, .null, .null, .null, .null]))] ++ (WD K u1 (fun _ _ => 0) ++ (WD K u0 (fun _ _ => 0)))) := hD
  refine va_putF (D := D) (ci := 6) (v := .ref (u1 0)) (ty := .object "PlanetaryGearbox$Design") (C := RX6) (T := TX6) (N := 9) hx hb hts iX6 tyX6 tyX6_ok nmX6 hown hK hP hD hS 0 rfl rfl 1 (by decide) (hts _ k_f_X6_16) (fun _ h9 => h9) rfl hin rfl (by decide +kernel) rfl rfl (Nat.le_of_ble_eq_true rfl) dX6_init_23 (fun H locs hP hD hS => ?_)
  have hP : va_P D vwCl ([(h0, .inr (6, [.ref (u0 0), .ref (u1 0), .null, .int 0, .int 0, .null, .null, .null, .null]))] ++ (WD K u1 (fun _ _ => 0) ++ (WD K u0 (fun _ _ => 0)))) H := hP
  have hD : va_D A ([(h0, .inr (6, [.ref (u0 0), .ref (u1 0), .null, .int 0, .int 0, .null, .null, .null, .null]))] ++ (WD K u1 (fun _ _ => 0) ++ (WD K u0 (fun _ _ => 0)))) := hD
  refine lv_aload_n hx hb dX6_init_26 rfl (lv_at hl 0 rfl) ?_
  refine va_new (ci := 0) (fs := [.null, .null, .null, .null, .null, .int 0, .null, .null, .null, .int 0, .int 0]) (C := RX0) (T := TX0) (N := 11) hx hb hts iX0 tyX0 tyX0_ok hown (hts _ k_cl_X6_9) (hts _ k_il_X0) (hts _ k_in_X0) hK hP hD hS hA rfl (fun j hj => by rcases (show j = 0 ∨ j = 1 ∨ j = 2 ∨ j = 3 ∨ j = 4 ∨ j = 5 ∨ j = 6 ∨ j = 7 ∨ j = 8 ∨ j = 9 ∨ j = 10 by omega) with rfl | rfl | rfl | rfl | rfl | rfl | rfl | rfl | rfl | rfl | rfl <;> rfl) (Nat.le_of_ble_eq_true rfl) (Nat.le_of_ble_eq_true rfl) dX6_init_27 (fun pc1 H hP hD hS => ?_)
  have hP := P_perm List.perm_append_comm hP
  have hD := D_perm List.perm_append_comm hD
  have hP : va_P D vwCl ([(pc1, .inr (0, [.null, .null, .null, .null, .null, .int 0, .null, .null, .null, .int 0, .int 0]))] ++ ([(h0, .inr (6, [.ref (u0 0), .ref (u1 0), .null, .int 0, .int 0, .null, .null, .null, .null]))] ++ (WD K u1 (fun _ _ => 0) ++ (WD K u0 (fun _ _ => 0))))) H := hP
  have hD : va_D A ([(pc1, .inr (0, [.null, .null, .null, .null, .null, .int 0, .null, .null, .null, .int 0, .int 0]))] ++ ([(h0, .inr (6, [.ref (u0 0), .ref (u1 0), .null, .int 0, .int 0, .null, .null, .null, .null]))] ++ (WD K u1 (fun _ _ => 0) ++ (WD K u0 (fun _ _ => 0))))) := hD
  refine lv_dup hx hb dX6_init_30 rfl ?_
  have hPc := bP0 hP
  have hDc := bD0 hD
  have hFc := bF0 hD hS hA
  refine va_callv (va_runIN (As := []) (rest := [.ref pc1, .ref h0]) ⟨hx, hb, hml, hown, hts⟩ (c_X0_init l D K pc1 H.size) ⟨va_cnB 0 hts (TB_in (fun _ h => h) k_co_X0_init) rfl rfl rfl hCX.2.1 (hts _ k_in_X0) (by decide +kernel) ⟨Nat.le_of_ble_eq_true rfl, Nat.le_of_ble_eq_true rfl⟩, rfl, hts _ k_im_X0_init⟩ ⟨cP_blind, cP_of hPc hK hDc⟩ rfl rfl hl.1 rfl (lv_room (Nat.le_of_ble_eq_true rfl)) dX6_init_31 ⟨Nat.le_of_ble_eq_true rfl, Nat.le_of_ble_eq_true rfl⟩) hS (fun q _ h => hFc q h) hFc (fun u2 t9 H locs ht9 hvm hw hB hz1 hk1 hS => ?_)
  obtain ⟨hP1, hK1, hD1⟩ := hB
  rw [ht9] at hP1
  obtain ⟨hPn, hDn⟩ := bJ0 hP hD hk1 hFc hP1 hD1
  have hw : u2 0 = pc1 := hw
  subst hw
  have hP := P_perm pm_sw hPn
  have hD := D_perm pm_sw hDn
  clear hPn hDn
  have hP : va_P D vwCl ([(h0, .inr (6, [.ref (u0 0), .ref (u1 0), .null, .int 0, .int 0, .null, .null, .null, .null]))] ++ (WD K u2 (fun _ _ => 0) ++ (WD K u1 (fun _ _ => 0) ++ (WD K u0 (fun _ _ => 0))))) H := hP
  have hD : va_D A ([(h0, .inr (6, [.ref (u0 0), .ref (u1 0), .null, .int 0, .int 0, .null, .null, .null, .null]))] ++ (WD K u2 (fun _ _ => 0) ++ (WD K u1 (fun _ _ => 0) ++ (WD K u0 (fun _ _ => 0))))) := hD
  refine va_putF (D := D) (ci := 6) (v := .ref (u2 0)) (ty := .object "PlanetaryGearbox$Design") (C := RX6) (T := TX6) (N := 9) hx hb hts iX6 tyX6 tyX6_ok nmX6 hown hK hP hD hS 0 rfl rfl 2 (by decide) (hts _ k_f_X6_19) (fun _ h9 => h9) rfl hin rfl (by decide +kernel) rfl rfl (Nat.le_of_ble_eq_true rfl) dX6_init_34 (fun H locs hP hD hS => ?_)
  have hP : va_P D vwCl ([(h0, .inr (6, [.ref (u0 0), .ref (u1 0), .ref (u2 0), .int 0, .int 0, .null, .null, .null, .null]))] ++ (WD K u2 (fun _ _ => 0) ++ (WD K u1 (fun _ _ => 0) ++ (WD K u0 (fun _ _ => 0))))) H := hP
  have hD : va_D A ([(h0, .inr (6, [.ref (u0 0), .ref (u1 0), .ref (u2 0), .int 0, .int 0, .null, .null, .null, .null]))] ++ (WD K u2 (fun _ _ => 0) ++ (WD K u1 (fun _ _ => 0) ++ (WD K u0 (fun _ _ => 0))))) := hD
  refine lv_aload_n hx hb dX6_init_37 rfl (lv_at hl 0 rfl) ?_
  refine va_new (ci := 3) (fs := [.null, .int 0]) (C := RX3) (T := TX3) (N := 2) hx hb hts iX3 tyX3 tyX3_ok hown (hts _ k_cl_X6_22) (hts _ k_il_X3) (hts _ k_in_X3) hK hP hD hS hA rfl (fun j hj => by rcases (show j = 0 ∨ j = 1 by omega) with rfl | rfl <;> rfl) (Nat.le_of_ble_eq_true rfl) (Nat.le_of_ble_eq_true rfl) dX6_init_38 (fun pd H hP hD hS => ?_)
  have hP := P_perm List.perm_append_comm hP
  have hD := D_perm List.perm_append_comm hD
  have hP : va_P D vwCl ([(pd, .inr (3, [.null, .int 0]))] ++ ([(h0, .inr (6, [.ref (u0 0), .ref (u1 0), .ref (u2 0), .int 0, .int 0, .null, .null, .null, .null]))] ++ (WD K u2 (fun _ _ => 0) ++ (WD K u1 (fun _ _ => 0) ++ (WD K u0 (fun _ _ => 0)))))) H := hP
  have hD : va_D A ([(pd, .inr (3, [.null, .int 0]))] ++ ([(h0, .inr (6, [.ref (u0 0), .ref (u1 0), .ref (u2 0), .int 0, .int 0, .null, .null, .null, .null]))] ++ (WD K u2 (fun _ _ => 0) ++ (WD K u1 (fun _ _ => 0) ++ (WD K u0 (fun _ _ => 0)))))) := hD
  refine lv_dup hx hb dX6_init_41 rfl ?_
  have hPc := bP0 hP
  have hDc := bD0 hD
  have hFc := bF0 hD hS hA
  refine va_callv (va_runIN (As := []) (rest := [.ref pd, .ref h0]) ⟨hx, hb, hml, hown, hts⟩ (c_X3_init l D K pd H.size) ⟨va_cnB 0 hts (TB_in (fun _ h => h) k_co_X3_init) rfl rfl rfl hCX.2.2.1 (hts _ k_in_X3) (by decide +kernel) ⟨Nat.le_of_ble_eq_true rfl, Nat.le_of_ble_eq_true rfl⟩, rfl, hts _ k_im_X3_init⟩ ⟨cP_blind, cP_of hPc hK hDc⟩ rfl rfl hl.1 rfl (lv_room (Nat.le_of_ble_eq_true rfl)) dX6_init_42 ⟨Nat.le_of_ble_eq_true rfl, Nat.le_of_ble_eq_true rfl⟩) hS (fun q _ h => hFc q h) hFc (fun u3 t9 H locs ht9 hvm hw hB hz1 hk1 hS => ?_)
  obtain ⟨hP1, hK1, hD1⟩ := hB
  rw [ht9] at hP1
  obtain ⟨hPn, hDn⟩ := bJ0 hP hD hk1 hFc hP1 hD1
  have hw : u3 0 = pd := hw
  subst hw
  have hP := P_perm pm_sw hPn
  have hD := D_perm pm_sw hDn
  clear hPn hDn
  have hP : va_P D vwCl ([(h0, .inr (6, [.ref (u0 0), .ref (u1 0), .ref (u2 0), .int 0, .int 0, .null, .null, .null, .null]))] ++ (WH K (u3 0) (u3 1) (fun _ => 0) 0 ++ (WD K u2 (fun _ _ => 0) ++ (WD K u1 (fun _ _ => 0) ++ (WD K u0 (fun _ _ => 0)))))) H := hP
  have hD : va_D A ([(h0, .inr (6, [.ref (u0 0), .ref (u1 0), .ref (u2 0), .int 0, .int 0, .null, .null, .null, .null]))] ++ (WH K (u3 0) (u3 1) (fun _ => 0) 0 ++ (WD K u2 (fun _ _ => 0) ++ (WD K u1 (fun _ _ => 0) ++ (WD K u0 (fun _ _ => 0)))))) := hD
  refine va_putF (D := D) (ci := 6) (v := .ref (u3 0)) (ty := .object "PlanetaryGearbox$History") (C := RX6) (T := TX6) (N := 9) hx hb hts iX6 tyX6 tyX6_ok nmX6 hown hK hP hD hS 0 rfl rfl 5 (by decide) (hts _ k_f_X6_25) (fun _ h9 => h9) rfl hin rfl (by decide +kernel) rfl rfl (Nat.le_of_ble_eq_true rfl) dX6_init_45 (fun H locs hP hD hS => ?_)
  have hP : va_P D vwCl ([(h0, .inr (6, [.ref (u0 0), .ref (u1 0), .ref (u2 0), .int 0, .int 0, .ref (u3 0), .null, .null, .null]))] ++ (WH K (u3 0) (u3 1) (fun _ => 0) 0 ++ (WD K u2 (fun _ _ => 0) ++ (WD K u1 (fun _ _ => 0) ++ (WD K u0 (fun _ _ => 0)))))) H := hP
  have hD : va_D A ([(h0, .inr (6, [.ref (u0 0), .ref (u1 0), .ref (u2 0), .int 0, .int 0, .ref (u3 0), .null, .null, .null]))] ++ (WH K (u3 0) (u3 1) (fun _ => 0) 0 ++ (WD K u2 (fun _ _ => 0) ++ (WD K u1 (fun _ _ => 0) ++ (WD K u0 (fun _ _ => 0)))))) := hD
  refine lv_aload_n hx hb dX6_init_48 rfl (lv_at hl 0 rfl) ?_
  refine va_new (ci := 4) (fs := [.null]) (C := RX4) (T := TX4) (N := 1) hx hb hts iX4 tyX4 tyX4_ok hown (hts _ k_cl_X6_29) (hts _ k_il_X4) (hts _ k_in_X4) hK hP hD hS hA rfl (fun j hj => by rcases (show j = 0 by omega) with rfl <;> rfl) (Nat.le_of_ble_eq_true rfl) (Nat.le_of_ble_eq_true rfl) dX6_init_49 (fun pe H hP hD hS => ?_)
  have hP := P_perm List.perm_append_comm hP
  have hD := D_perm List.perm_append_comm hD
  have hP : va_P D vwCl ([(pe, .inr (4, [.null]))] ++ ([(h0, .inr (6, [.ref (u0 0), .ref (u1 0), .ref (u2 0), .int 0, .int 0, .ref (u3 0), .null, .null, .null]))] ++ (WH K (u3 0) (u3 1) (fun _ => 0) 0 ++ (WD K u2 (fun _ _ => 0) ++ (WD K u1 (fun _ _ => 0) ++ (WD K u0 (fun _ _ => 0))))))) H := hP
  have hD : va_D A ([(pe, .inr (4, [.null]))] ++ ([(h0, .inr (6, [.ref (u0 0), .ref (u1 0), .ref (u2 0), .int 0, .int 0, .ref (u3 0), .null, .null, .null]))] ++ (WH K (u3 0) (u3 1) (fun _ => 0) 0 ++ (WD K u2 (fun _ _ => 0) ++ (WD K u1 (fun _ _ => 0) ++ (WD K u0 (fun _ _ => 0))))))) := hD
  refine lv_dup hx hb dX6_init_52 rfl ?_
  have hPc := bP0 hP
  have hDc := bD0 hD
  have hFc := bF0 hD hS hA
  refine va_callv (va_runIN (As := []) (rest := [.ref pe, .ref h0]) ⟨hx, hb, hml, hown, hts⟩ (c_X4_init l D K pe H.size) ⟨va_cnB 0 hts (TB_in (fun _ h => h) k_co_X4_init) rfl rfl rfl hCX.2.2.2.1 (hts _ k_in_X4) (by decide +kernel) ⟨Nat.le_of_ble_eq_true rfl, Nat.le_of_ble_eq_true rfl⟩, rfl, hts _ k_im_X4_init⟩ ⟨cPX_blind, cPX_of hPc hK hDc hCX⟩ rfl rfl hl.1 rfl (lv_room (Nat.le_of_ble_eq_true rfl)) dX6_init_53 ⟨Nat.le_of_ble_eq_true rfl, Nat.le_of_ble_eq_true rfl⟩) hS (fun q _ h => hFc q h) hFc (fun u4 t9 H locs ht9 hvm hw hB hz1 hk1 hS => ?_)
  obtain ⟨hP1, hK1, hD1⟩ := hB
  rw [ht9] at hP1
  obtain ⟨hPn, hDn⟩ := bJ0 hP hD hk1 hFc hP1 hD1
  obtain ⟨e41, e42, e43, e44, e45⟩ := u4
  have hP := P_perm pm_sw hPn
  have hD := D_perm pm_sw hDn
  clear hPn hDn
  have hP : va_P D vwCl ([(h0, .inr (6, [.ref (u0 0), .ref (u1 0), .ref (u2 0), .int 0, .int 0, .ref (u3 0), .null, .null, .null]))] ++ (([(pe, .inr (4, [.ref e41]))] ++ (WE K e41 e42 e43 e44 e45 (fun _ _ => 0) (fun _ => 0) (fun _ => 0) 0)) ++ (WH K (u3 0) (u3 1) (fun _ => 0) 0 ++ (WD K u2 (fun _ _ => 0) ++ (WD K u1 (fun _ _ => 0) ++ (WD K u0 (fun _ _ => 0))))))) H := hP
  have hD : va_D A ([(h0, .inr (6, [.ref (u0 0), .ref (u1 0), .ref (u2 0), .int 0, .int 0, .ref (u3 0), .null, .null, .null]))] ++ (([(pe, .inr (4, [.ref e41]))] ++ (WE K e41 e42 e43 e44 e45 (fun _ _ => 0) (fun _ => 0) (fun _ => 0) 0)) ++ (WH K (u3 0) (u3 1) (fun _ => 0) 0 ++ (WD K u2 (fun _ _ => 0) ++ (WD K u1 (fun _ _ => 0) ++ (WD K u0 (fun _ _ => 0))))))) := hD
  refine va_putF (D := D) (ci := 6) (v := .ref pe) (ty := .object "PlanetaryGearbox$Speeds") (C := RX6) (T := TX6) (N := 9) hx hb hts iX6 tyX6 tyX6_ok nmX6 hown hK hP hD hS 0 rfl rfl 6 (by decide) (hts _ k_f_X6_32) (fun _ h9 => h9) rfl hin rfl (by decide +kernel) rfl rfl (Nat.le_of_ble_eq_true rfl) dX6_init_56 (fun H locs hP hD hS => ?_)
  have hP : va_P D vwCl ([(h0, .inr (6, [.ref (u0 0), .ref (u1 0), .ref (u2 0), .int 0, .int 0, .ref (u3 0), .ref pe, .null, .null]))] ++ (([(pe, .inr (4, [.ref e41]))] ++ (WE K e41 e42 e43 e44 e45 (fun _ _ => 0) (fun _ => 0) (fun _ => 0) 0)) ++ (WH K (u3 0) (u3 1) (fun _ => 0) 0 ++ (WD K u2 (fun _ _ => 0) ++ (WD K u1 (fun _ _ => 0) ++ (WD K u0 (fun _ _ => 0))))))) H := hP
  have hD : va_D A ([(h0, .inr (6, [.ref (u0 0), .ref (u1 0), .ref (u2 0), .int 0, .int 0, .ref (u3 0), .ref pe, .null, .null]))] ++ (([(pe, .inr (4, [.ref e41]))] ++ (WE K e41 e42 e43 e44 e45 (fun _ _ => 0) (fun _ => 0) (fun _ => 0) 0)) ++ (WH K (u3 0) (u3 1) (fun _ => 0) 0 ++ (WD K u2 (fun _ _ => 0) ++ (WD K u1 (fun _ _ => 0) ++ (WD K u0 (fun _ _ => 0))))))) := hD
  refine lv_aload_n hx hb dX6_init_59 rfl (lv_at hl 0 rfl) ?_
  refine va_new (ci := 5) (fs := [.null]) (C := RX5) (T := TX5) (N := 1) hx hb hts iX5 tyX5 tyX5_ok hown (hts _ k_cl_X6_36) (hts _ k_il_X5) (hts _ k_in_X5) hK hP hD hS hA rfl (fun j hj => by rcases (show j = 0 by omega) with rfl <;> rfl) (Nat.le_of_ble_eq_true rfl) (Nat.le_of_ble_eq_true rfl) dX6_init_60 (fun pf H hP hD hS => ?_)
  have hP := P_perm List.perm_append_comm hP
  have hD := D_perm List.perm_append_comm hD
  have hP : va_P D vwCl ([(pf, .inr (5, [.null]))] ++ ([(h0, .inr (6, [.ref (u0 0), .ref (u1 0), .ref (u2 0), .int 0, .int 0, .ref (u3 0), .ref pe, .null, .null]))] ++ (([(pe, .inr (4, [.ref e41]))] ++ (WE K e41 e42 e43 e44 e45 (fun _ _ => 0) (fun _ => 0) (fun _ => 0) 0)) ++ (WH K (u3 0) (u3 1) (fun _ => 0) 0 ++ (WD K u2 (fun _ _ => 0) ++ (WD K u1 (fun _ _ => 0) ++ (WD K u0 (fun _ _ => 0)))))))) H := hP
  have hD : va_D A ([(pf, .inr (5, [.null]))] ++ ([(h0, .inr (6, [.ref (u0 0), .ref (u1 0), .ref (u2 0), .int 0, .int 0, .ref (u3 0), .ref pe, .null, .null]))] ++ (([(pe, .inr (4, [.ref e41]))] ++ (WE K e41 e42 e43 e44 e45 (fun _ _ => 0) (fun _ => 0) (fun _ => 0) 0)) ++ (WH K (u3 0) (u3 1) (fun _ => 0) 0 ++ (WD K u2 (fun _ _ => 0) ++ (WD K u1 (fun _ _ => 0) ++ (WD K u0 (fun _ _ => 0)))))))) := hD
  refine lv_dup hx hb dX6_init_63 rfl ?_
  have hPc := bP0 hP
  have hDc := bD0 hD
  have hFc := bF0 hD hS hA
  refine va_callv (va_runIN (As := []) (rest := [.ref pf, .ref h0]) ⟨hx, hb, hml, hown, hts⟩ (c_X5_init l D K pf H.size) ⟨va_cnB 0 hts (TB_in (fun _ h => h) k_co_X5_init) rfl rfl rfl hCX.2.2.2.2.2.1 (hts _ k_in_X5) (by decide +kernel) ⟨Nat.le_of_ble_eq_true rfl, Nat.le_of_ble_eq_true rfl⟩, rfl, hts _ k_im_X5_init⟩ ⟨cPX_blind, cPX_of hPc hK hDc hCX⟩ rfl rfl hl.1 rfl (lv_room (Nat.le_of_ble_eq_true rfl)) dX6_init_64 ⟨Nat.le_of_ble_eq_true rfl, Nat.le_of_ble_eq_true rfl⟩) hS (fun q _ h => hFc q h) hFc (fun u5 t9 H locs ht9 hvm hw hB hz1 hk1 hS => ?_)
  obtain ⟨hP1, hK1, hD1⟩ := hB
  rw [ht9] at hP1
  obtain ⟨hPn, hDn⟩ := bJ0 hP hD hk1 hFc hP1 hD1
  obtain ⟨e51, e52, e53, e54, e55⟩ := u5
  have hP := P_perm pm_sw hPn
  have hD := D_perm pm_sw hDn
  clear hPn hDn
  have hP : va_P D vwCl ([(h0, .inr (6, [.ref (u0 0), .ref (u1 0), .ref (u2 0), .int 0, .int 0, .ref (u3 0), .ref pe, .null, .null]))] ++ (([(pf, .inr (5, [.ref e51]))] ++ (WE K e51 e52 e53 e54 e55 (fun _ _ => 0) (fun _ => 0) (fun _ => 0) 0)) ++ (([(pe, .inr (4, [.ref e41]))] ++ (WE K e41 e42 e43 e44 e45 (fun _ _ => 0) (fun _ => 0) (fun _ => 0) 0)) ++ (WH K (u3 0) (u3 1) (fun _ => 0) 0 ++ (WD K u2 (fun _ _ => 0) ++ (WD K u1 (fun _ _ => 0) ++ (WD K u0 (fun _ _ => 0)))))))) H := hP
  have hD : va_D A ([(h0, .inr (6, [.ref (u0 0), .ref (u1 0), .ref (u2 0), .int 0, .int 0, .ref (u3 0), .ref pe, .null, .null]))] ++ (([(pf, .inr (5, [.ref e51]))] ++ (WE K e51 e52 e53 e54 e55 (fun _ _ => 0) (fun _ => 0) (fun _ => 0) 0)) ++ (([(pe, .inr (4, [.ref e41]))] ++ (WE K e41 e42 e43 e44 e45 (fun _ _ => 0) (fun _ => 0) (fun _ => 0) 0)) ++ (WH K (u3 0) (u3 1) (fun _ => 0) 0 ++ (WD K u2 (fun _ _ => 0) ++ (WD K u1 (fun _ _ => 0) ++ (WD K u0 (fun _ _ => 0)))))))) := hD
  refine va_putF (D := D) (ci := 6) (v := .ref pf) (ty := .object "PlanetaryGearbox$Torques") (C := RX6) (T := TX6) (N := 9) hx hb hts iX6 tyX6 tyX6_ok nmX6 hown hK hP hD hS 0 rfl rfl 7 (by decide) (hts _ k_f_X6_39) (fun _ h9 => h9) rfl hin rfl (by decide +kernel) rfl rfl (Nat.le_of_ble_eq_true rfl) dX6_init_67 (fun H locs hP hD hS => ?_)
  have hP : va_P D vwCl ([(h0, .inr (6, [.ref (u0 0), .ref (u1 0), .ref (u2 0), .int 0, .int 0, .ref (u3 0), .ref pe, .ref pf, .null]))] ++ (([(pf, .inr (5, [.ref e51]))] ++ (WE K e51 e52 e53 e54 e55 (fun _ _ => 0) (fun _ => 0) (fun _ => 0) 0)) ++ (([(pe, .inr (4, [.ref e41]))] ++ (WE K e41 e42 e43 e44 e45 (fun _ _ => 0) (fun _ => 0) (fun _ => 0) 0)) ++ (WH K (u3 0) (u3 1) (fun _ => 0) 0 ++ (WD K u2 (fun _ _ => 0) ++ (WD K u1 (fun _ _ => 0) ++ (WD K u0 (fun _ _ => 0)))))))) H := hP
  have hD : va_D A ([(h0, .inr (6, [.ref (u0 0), .ref (u1 0), .ref (u2 0), .int 0, .int 0, .ref (u3 0), .ref pe, .ref pf, .null]))] ++ (([(pf, .inr (5, [.ref e51]))] ++ (WE K e51 e52 e53 e54 e55 (fun _ _ => 0) (fun _ => 0) (fun _ => 0) 0)) ++ (([(pe, .inr (4, [.ref e41]))] ++ (WE K e41 e42 e43 e44 e45 (fun _ _ => 0) (fun _ => 0) (fun _ => 0) 0)) ++ (WH K (u3 0) (u3 1) (fun _ => 0) 0 ++ (WD K u2 (fun _ _ => 0) ++ (WD K u1 (fun _ _ => 0) ++ (WD K u0 (fun _ _ => 0)))))))) := hD
  refine lv_aload_n hx hb dX6_init_70 rfl (lv_at hl 0 rfl) ?_
  refine va_new (ci := 2) (fs := [.null, .null, .null, .null, .null, .int 0, .int 0]) (C := RX2) (T := TX2) (N := 7) hx hb hts iX2 tyX2 tyX2_ok hown (hts _ k_cl_X6_43) (hts _ k_il_X2) (hts _ k_in_X2) hK hP hD hS hA rfl (fun j hj => by rcases (show j = 0 ∨ j = 1 ∨ j = 2 ∨ j = 3 ∨ j = 4 ∨ j = 5 ∨ j = 6 by omega) with rfl | rfl | rfl | rfl | rfl | rfl | rfl <;> rfl) (Nat.le_of_ble_eq_true rfl) (Nat.le_of_ble_eq_true rfl) dX6_init_71 (fun pg H hP hD hS => ?_)
  have hP := P_perm List.perm_append_comm hP
  have hD := D_perm List.perm_append_comm hD
  have hP : va_P D vwCl ([(pg, .inr (2, [.null, .null, .null, .null, .null, .int 0, .int 0]))] ++ ([(h0, .inr (6, [.ref (u0 0), .ref (u1 0), .ref (u2 0), .int 0, .int 0, .ref (u3 0), .ref pe, .ref pf, .null]))] ++ (([(pf, .inr (5, [.ref e51]))] ++ (WE K e51 e52 e53 e54 e55 (fun _ _ => 0) (fun _ => 0) (fun _ => 0) 0)) ++ (([(pe, .inr (4, [.ref e41]))] ++ (WE K e41 e42 e43 e44 e45 (fun _ _ => 0) (fun _ => 0) (fun _ => 0) 0)) ++ (WH K (u3 0) (u3 1) (fun _ => 0) 0 ++ (WD K u2 (fun _ _ => 0) ++ (WD K u1 (fun _ _ => 0) ++ (WD K u0 (fun _ _ => 0))))))))) H := hP
  have hD : va_D A ([(pg, .inr (2, [.null, .null, .null, .null, .null, .int 0, .int 0]))] ++ ([(h0, .inr (6, [.ref (u0 0), .ref (u1 0), .ref (u2 0), .int 0, .int 0, .ref (u3 0), .ref pe, .ref pf, .null]))] ++ (([(pf, .inr (5, [.ref e51]))] ++ (WE K e51 e52 e53 e54 e55 (fun _ _ => 0) (fun _ => 0) (fun _ => 0) 0)) ++ (([(pe, .inr (4, [.ref e41]))] ++ (WE K e41 e42 e43 e44 e45 (fun _ _ => 0) (fun _ => 0) (fun _ => 0) 0)) ++ (WH K (u3 0) (u3 1) (fun _ => 0) 0 ++ (WD K u2 (fun _ _ => 0) ++ (WD K u1 (fun _ _ => 0) ++ (WD K u0 (fun _ _ => 0))))))))) := hD
  refine lv_dup hx hb dX6_init_74 rfl ?_
  have hPc := bP0 hP
  have hDc := bD0 hD
  have hFc := bF0 hD hS hA
  refine va_callv (va_runIN (As := []) (rest := [.ref pg, .ref h0]) ⟨hx, hb, hml, hown, hts⟩ (c_X2_init l D K pg H.size) ⟨va_cnB 0 hts (TB_in (fun _ h => h) k_co_X2_init) rfl rfl rfl hCX.2.2.2.2.2.2.2 (hts _ k_in_X2) (by decide +kernel) ⟨Nat.le_of_ble_eq_true rfl, Nat.le_of_ble_eq_true rfl⟩, rfl, hts _ k_im_X2_init⟩ ⟨cP_blind, cP_of hPc hK hDc⟩ rfl rfl hl.1 rfl (lv_room (Nat.le_of_ble_eq_true rfl)) dX6_init_75 ⟨Nat.le_of_ble_eq_true rfl, Nat.le_of_ble_eq_true rfl⟩) hS (fun q _ h => hFc q h) hFc (fun u6 t9 H locs ht9 hvm hw hB hz1 hk1 hS => ?_)
  obtain ⟨hP1, hK1, hD1⟩ := hB
  rw [ht9] at hP1
  obtain ⟨hPn, hDn⟩ := bJ0 hP hD hk1 hFc hP1 hD1
  have hw : u6 0 = pg := hw
  subst hw
  have hP := P_perm pm_sw hPn
  have hD := D_perm pm_sw hDn
  clear hPn hDn
  have hP : va_P D vwCl ([(h0, .inr (6, [.ref (u0 0), .ref (u1 0), .ref (u2 0), .int 0, .int 0, .ref (u3 0), .ref pe, .ref pf, .null]))] ++ (WG K u6 (fun _ => 0) (fun _ => 0) (fun _ => 0) (fun _ => 0) (fun _ => 0) 0 0 ++ (([(pf, .inr (5, [.ref e51]))] ++ (WE K e51 e52 e53 e54 e55 (fun _ _ => 0) (fun _ => 0) (fun _ => 0) 0)) ++ (([(pe, .inr (4, [.ref e41]))] ++ (WE K e41 e42 e43 e44 e45 (fun _ _ => 0) (fun _ => 0) (fun _ => 0) 0)) ++ (WH K (u3 0) (u3 1) (fun _ => 0) 0 ++ (WD K u2 (fun _ _ => 0) ++ (WD K u1 (fun _ _ => 0) ++ (WD K u0 (fun _ _ => 0))))))))) H := hP
  have hD : va_D A ([(h0, .inr (6, [.ref (u0 0), .ref (u1 0), .ref (u2 0), .int 0, .int 0, .ref (u3 0), .ref pe, .ref pf, .null]))] ++ (WG K u6 (fun _ => 0) (fun _ => 0) (fun _ => 0) (fun _ => 0) (fun _ => 0) 0 0 ++ (([(pf, .inr (5, [.ref e51]))] ++ (WE K e51 e52 e53 e54 e55 (fun _ _ => 0) (fun _ => 0) (fun _ => 0) 0)) ++ (([(pe, .inr (4, [.ref e41]))] ++ (WE K e41 e42 e43 e44 e45 (fun _ _ => 0) (fun _ => 0) (fun _ => 0) 0)) ++ (WH K (u3 0) (u3 1) (fun _ => 0) 0 ++ (WD K u2 (fun _ _ => 0) ++ (WD K u1 (fun _ _ => 0) ++ (WD K u0 (fun _ _ => 0))))))))) := hD
  refine va_putF (D := D) (ci := 6) (v := .ref (u6 0)) (ty := .object "PlanetaryGearbox$GearTable") (C := RX6) (T := TX6) (N := 9) hx hb hts iX6 tyX6 tyX6_ok nmX6 hown hK hP hD hS 0 rfl rfl 8 (by decide) (hts _ k_f_X6_46) (fun _ h9 => h9) rfl hin rfl (by decide +kernel) rfl rfl (Nat.le_of_ble_eq_true rfl) dX6_init_78 (fun H locs hP hD hS => ?_)
  have hP : va_P D vwCl ([(h0, .inr (6, [.ref (u0 0), .ref (u1 0), .ref (u2 0), .int 0, .int 0, .ref (u3 0), .ref pe, .ref pf, .ref (u6 0)]))] ++ (WG K u6 (fun _ => 0) (fun _ => 0) (fun _ => 0) (fun _ => 0) (fun _ => 0) 0 0 ++ (([(pf, .inr (5, [.ref e51]))] ++ (WE K e51 e52 e53 e54 e55 (fun _ _ => 0) (fun _ => 0) (fun _ => 0) 0)) ++ (([(pe, .inr (4, [.ref e41]))] ++ (WE K e41 e42 e43 e44 e45 (fun _ _ => 0) (fun _ => 0) (fun _ => 0) 0)) ++ (WH K (u3 0) (u3 1) (fun _ => 0) 0 ++ (WD K u2 (fun _ _ => 0) ++ (WD K u1 (fun _ _ => 0) ++ (WD K u0 (fun _ _ => 0))))))))) H := hP
  have hD : va_D A ([(h0, .inr (6, [.ref (u0 0), .ref (u1 0), .ref (u2 0), .int 0, .int 0, .ref (u3 0), .ref pe, .ref pf, .ref (u6 0)]))] ++ (WG K u6 (fun _ => 0) (fun _ => 0) (fun _ => 0) (fun _ => 0) (fun _ => 0) 0 0 ++ (([(pf, .inr (5, [.ref e51]))] ++ (WE K e51 e52 e53 e54 e55 (fun _ _ => 0) (fun _ => 0) (fun _ => 0) 0)) ++ (([(pe, .inr (4, [.ref e41]))] ++ (WE K e41 e42 e43 e44 e45 (fun _ _ => 0) (fun _ => 0) (fun _ => 0) 0)) ++ (WH K (u3 0) (u3 1) (fun _ => 0) 0 ++ (WD K u2 (fun _ _ => 0) ++ (WD K u1 (fun _ _ => 0) ++ (WD K u0 (fun _ _ => 0))))))))) := hD
  simp only [List.append_assoc] at hP hD
  have hP := P_perm pm_ctor hP
  have hD := D_perm pm_ctor hD
  have hP : va_P D vwCl (WX K (fun i => List.getD [h0, u3 0, u3 1, pe, e41, e42, e43, e44, pf, e51, e52, e53, e54] i 0) u0 u1 u2 u6 e45 e55 v0 i0) H := hP
  have hD : va_D A (WX K (fun i => List.getD [h0, u3 0, u3 1, pe, e41, e42, e43, e44, pf, e51, e52, e53, e54] i 0) u0 u1 u2 u6 e45 e55 v0 i0) := hD
  exact W.vret hx hb hr (fun t9 ht9 hW => ⟨⟨((fun i => List.getD [h0, u3 0, u3 1, pe, e41, e42, e43, e44, pf, e51, e52, e53, e54] i 0), u0, u1, u2, u6, e45, e55), rfl, rfl, by rw [ht9]; exact hP, va_K.moved hW.alike hK, hD⟩, hS.F ht9⟩) hS.2.2 dX6_init_81
