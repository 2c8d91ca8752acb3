/-! GearTable: onTheWay, refresh -/
theorem bPP1 {D : va_G} {cl : List vw_C} {H : Heap} {X0 X1 X2 Y : va_W} (h : va_P D cl (X0 ++ (X1 ++ (X2 ++ Y))) H) : va_P D cl (X1 ++ X2) H := by
  rw [show X0 ++ (X1 ++ (X2 ++ Y)) = X0 ++ ((X1 ++ X2) ++ Y) by simp only [List.append_assoc]] at h
  exact blkP h
theorem bDP1 {A : Nat → Prop} {X0 X1 X2 Y : va_W} (h : va_D A (X0 ++ (X1 ++ (X2 ++ Y)))) : va_D A (X1 ++ X2) := by
  rw [show X0 ++ (X1 ++ (X2 ++ Y)) = X0 ++ ((X1 ++ X2) ++ Y) by simp only [List.append_assoc]] at h
  exact blkD h
theorem nI_neg {x : Int32} {k : Nat} (h : x = nI k) (hk : k < 2147483648) : x.toInt = (k : Int) := by rw [h]; exact nI_toIntI hk
set_option maxHeartbeats 4000000 in
set_option maxRecDepth 100000 in
theorem c_X2_onTheWay (l : Launch) (D : va_G) (K : Nat → ClassId) (g : Nat → Nat) (ma : Nat → Int32) (nu de : Nat → Int64) (ne di : Nat → Int32) (n : Nat) (fr : Int32) (G : Nat → Nat) (dv : Nat → Int) (i0 : Nat) (x : Int32) (sz : Nat) (hn : n ≤ 64) (hi0 : i0 < n) (hG : ∀ j, j < n → G j < 64 ∧ ma j = nI (G j)) (hdv : ∀ j, j < n → (di j).toInt = dv j) (hst : ∀ j (v : Nat), j < n → dv j = (v : Int) + 1 → ∃ h, h < n ∧ dv h = (v : Int) ∧ nbr (G j) (G h)) : Met l yX2_onTheWay (.code yX2_onTheWay cX2_onTheWay 6 (some .int) :: TB) ({ frames := 3, cells := 0, slots := 0, locals := 64 } : Room) (va_Pc [.ref (g 0), .int (nI i0), .int x] (cP D K (WG K g ma nu de ne di (nI n) fr) sz)) (va_Qi (fun (z : Int32) (_ : Unit) => (∃ k : Nat, k < 2147483648 ∧ x = nI k ∧ (k : Int) ≤ dv i0 ∧ z = nI (wkF G n dv i0 k)) ∨ ((x.toInt < 0 ∨ dv i0 < x.toInt) ∧ z = -1)) (fun _ _ => True) (fun _ => False)) 0 0 (fun _ => False) := by
  refine Met.ofW (cc := cX2_onTheWay) (maxL := 6) (ret := (some .int)) (by decide) rfl ?_
  intro p e s m args below meth c s₁ B hml hv
  obtain ⟨rfl, hsz, hP, hK, hD0⟩ := hv
  have hx := B.exec
  have hb := B.bytes
  have hr := B.returns
  have hts := hts_tl (atoms_spec (ws := (.code yX2_onTheWay cX2_onTheWay 6 (some .int) :: TB)) B.pre)
  have hown : s.vm.findClass RX2 = some m.cls := findClass_of_methodNamed B.named
  have hlocks := B.notSynchronized
  subst hsz
  have hA : ∀ q : Nat, q < s.heap.size → (fun _ : Nat => False) q → False := fun _ _ h => h
  have hS : va_S (fun _ => False) s.heap s.heap [] := va_S.rf
  have hl := lv_entry ([.ref (g 0), .int (nI i0), .int x]) (n := 6) (Nat.le_of_ble_eq_true rfl)
  rw [lg_entry_eq]
  generalize (lg_sl ([.ref (g 0), .int (nI i0), .int x]) ++ List.replicate (6 - (lg_sl ([.ref (g 0), .int (nI i0), .int x])).length) Slot.unset).toArray = ls at hl ⊢
  have hl : lv_has ls 6 [(0, .ref (g 0)), (1, .int (nI i0)), (2, .int x)] := hl
  refine lv_aload_n hx hb dX2_onTheWay_0 rfl (lv_at hl 0 rfl) ?_
  refine lv_iload_n hx hb dX2_onTheWay_1 rfl (lv_at hl 1 rfl) ?_
  refine va_calli (va_runV (As := [.int (nI i0)]) (rest := []) ⟨hx, hb, hml, hown, hts⟩ (c_X2_shiftsLeft l D K g ma nu de ne di n fr i0 s.heap.size hn hi0) (cwV 1 hts (TB_V k_m_X2_71 k_im_X2_shiftsLeft k_se_X2_shiftsLeft k_in_X2 k_co_X2_shiftsLeft (fun _ h => h)) rfl rfl rfl (by decide +kernel) ⟨Nat.le_of_ble_eq_true rfl, Nat.le_of_ble_eq_true rfl⟩) ⟨cP_blind, va_recv hK hP (ci := 2) (q0 := 0) rfl rfl, cP_of hP hK hD0⟩ rfl rfl hl.1 rfl (lv_room (Nat.le_of_ble_eq_true rfl)) dX2_onTheWay_2 ⟨Nat.le_of_ble_eq_true rfl, Nat.le_of_ble_eq_true rfl⟩) hS (fun q _ h => absurd h id) (fun q h => absurd h id) (fun sl u9 t9 H locs ht9 hvm hw hB hz1 hk1 hS => ?_)
  have hP := P_same hP hk1
  subst hw
  have hd0 := hdv i0 hi0
  refine lv_istore_n (lv' := [(3, .int (di i0)), (0, .ref (g 0)), (1, .int (nI i0)), (2, .int x)]) hx hb dX2_onTheWay_5 rfl hl (by decide) rfl (fun ls hl => ?_)
  refine lv_iload_n hx hb dX2_onTheWay_6 rfl (lv_at hl 3 rfl) ?_
  refine b_if_lt hx hb rfl dX2_onTheWay_7 (tgt := 15) (by decide) (fun c7 => ?_) (fun c7 => ?_)
  · refine lv_iconst (v := (-1)) hx hb dX2_onTheWay_15 (by decide) ?_
    exact W.iret (v := (-1)) hx hb hr (fun t9 ht9 hW => ⟨⟨(-1), (), rfl, Or.inr ⟨by first | exact Or.inl c7 | exact Or.inr (by omega), rfl⟩, trivial⟩, hS.F ht9⟩) hS.2.2 dX2_onTheWay_16
  refine lv_iload_n hx hb dX2_onTheWay_10 rfl (lv_at hl 3 rfl) ?_
  refine lv_iload_n hx hb dX2_onTheWay_11 rfl (lv_at hl 0 rfl) ?_
  refine b_icmp_le hx hb rfl rfl dX2_onTheWay_12 (tgt := 17) (by decide) (fun c12 => ?_) (fun c12 => ?_)
  · obtain ⟨ix, hix, hxe⟩ := nI_of (x := x) (by rw [i32_lt]; exact Int.not_lt.mpr c7)
    have hix2 : x.toInt = (ix : Int) := nI_neg hxe (by omega)
    rw [hxe] at hl
    have hub := Int32.toInt_lt (di i0)
    obtain ⟨S9, hS9⟩ : ∃ S9 : Nat, dv i0 = (S9 : Int) := ⟨(dv i0).toNat, by omega⟩
    have hdS : di i0 = nI S9 := (i32_eq _ _).mpr (by rw [hd0, hS9, nI_toIntI (by omega)])
    have hlS : S9 < 2147483648 := by omega
    rw [hdS] at hl
    refine lv_iload_n hx hb dX2_onTheWay_17 rfl (lv_at hl 2 rfl) ?_
    refine lv_istore (lv' := [(4, .int (nI i0)), (3, .int (nI S9)), (0, .ref (g 0)), (1, .int (nI i0)), (2, .int (nI ix))]) hx hb dX2_onTheWay_18 hl (by decide) rfl (fun ls hl => ?_)
    refine lv_iconst (v := nI 0) hx hb dX2_onTheWay_20 (by decide) ?_
    refine lv_istore (lv' := [(5, .int (nI 0)), (4, .int (nI i0)), (3, .int (nI S9)), (0, .ref (g 0)), (1, .int (nI i0)), (2, .int (nI ix))]) hx hb dX2_onTheWay_21 hl (by decide) rfl (fun ls hl => ?_)
    refine W.eq (g2 := F0 m 23 ls []) rfl ?_
    have hl : lv_has ls 6 [(5, .int (nI 0)), (4, .int (nI (wkF G n dv i0 0))), (3, .int (nI S9)), (0, .ref (g 0)), (1, .int (nI i0)), (2, .int (nI ix))] := hl
    have L23 : ∀ (fuel : Nat) (k : Nat) (H : Heap) (locs : List Loc) (ls : Array Slot), ix - k < fuel → (k ≤ ix) → (wkF G n dv i0 k < n) → (dv (wkF G n dv i0 k) = dv i0 - (k : Int)) → va_P D vwCl (WG K g ma nu de ne di (nI n) fr) H → va_S (fun _ => False) s.heap H locs → lv_has ls 6 [(5, .int (nI k)), (4, .int (nI (wkF G n dv i0 k))), (3, .int (nI S9)), (0, .ref (g 0)), (1, .int (nI i0)), (2, .int (nI ix))] → W p l e ({ frames := 3, cells := 0, slots := 0, locals := 64 } : Room) s m [.ref (g 0), .int (nI i0), .int x].toArray below meth c H locs 0 0 (MQ below (va_Qi (fun (z : Int32) (_ : Unit) => (∃ k : Nat, k < 2147483648 ∧ x = nI k ∧ (k : Int) ≤ dv i0 ∧ z = nI (wkF G n dv i0 k)) ∨ ((x.toInt < 0 ∨ dv i0 < x.toInt) ∧ z = -1)) (fun _ _ => True) (fun _ => False)) [.ref (g 0), .int (nI i0), .int x].toArray s 0 0 (fun _ => False)) (F0 m 23 ls []) := by
      intro fuel
      induction fuel with
      | zero =>
        intro k H locs ls hfu
        exact absurd hfu (Nat.not_lt_zero _)
      | succ fuel ih23 =>
        intro k H locs ls hfu hk hwn hwd hP hS hl
        refine lv_iload hx hb dX2_onTheWay_23 (lv_at hl 0 rfl) ?_
        refine lv_iload_n hx hb dX2_onTheWay_25 rfl (lv_at hl 5 rfl) ?_
        refine b_icmp_ge hx hb (nI_toIntI (by omega)) (nI_toIntI (by omega)) dX2_onTheWay_26 (tgt := 49) (by decide) (fun c26 => ?_) (fun c26 => ?_)
        · refine lv_iload hx hb dX2_onTheWay_49 (lv_at hl 1 rfl) ?_
          exact W.iret (v := nI (wkF G n dv i0 k)) hx hb hr (fun t9 ht9 hW => ⟨⟨nI (wkF G n dv i0 k), (), rfl, Or.inl ⟨k, by omega, hxe.trans (congrArg nI (by omega)), by omega, rfl⟩, trivial⟩, hS.F ht9⟩) hS.2.2 dX2_onTheWay_51
        refine lv_aload_n hx hb dX2_onTheWay_29 rfl (lv_at hl 3 rfl) ?_
        refine lv_iload hx hb dX2_onTheWay_30 (lv_at hl 1 rfl) ?_
        refine lv_iload_n hx hb dX2_onTheWay_32 rfl (lv_at hl 2 rfl) ?_
        refine lv_iload hx hb dX2_onTheWay_33 (lv_at hl 0 rfl) ?_
        refine lv_isub hx hb dX2_onTheWay_35 ?_
        refine t_i (pk_sub (by omega)) ?_
        refine lv_iconst (v := nI 1) hx hb dX2_onTheWay_36 (by decide) ?_
        refine lv_isub hx hb dX2_onTheWay_37 ?_
        refine t_i (pk_sub (by omega)) ?_
        refine va_calli (va_runV (As := [.int (nI (wkF G n dv i0 k)), .int (nI (S9 - k - 1))]) (rest := []) ⟨hx, hb, hml, hown, hts⟩ (c_X2_neighbourAt l D K g ma nu de ne di n fr G (wkF G n dv i0 k) (nI (S9 - k - 1)) H.size hn hwn hG) (cwV 2 hts (TB_V k_m_X2_67 k_im_X2_neighbourAt k_se_X2_neighbourAt k_in_X2 k_co_X2_neighbourAt (fun _ h => h)) rfl rfl rfl (by decide +kernel) ⟨Nat.le_of_ble_eq_true rfl, Nat.le_of_ble_eq_true rfl⟩) ⟨cP_blind, va_recv hK hP (ci := 2) (q0 := 0) rfl rfl, cP_of hP hK hD0⟩ rfl rfl hl.1 rfl (lv_room (Nat.le_of_ble_eq_true rfl)) dX2_onTheWay_38 ⟨Nat.le_of_ble_eq_true rfl, Nat.le_of_ble_eq_true rfl⟩) hS (fun q _ h => absurd h id) (fun q h => absurd h id) (fun nb u9 t9 H locs ht9 hvm hw hB hz1 hk1 hS => ?_)
        have hP := P_same hP hk1
        have hdsh : ∀ h, h < n → (di h = nI (S9 - k - 1) ↔ dv h = dv i0 - (k : Int) - 1) := fun h hh => by rw [i32_eq, nI_toIntI (by omega), hdv h hh, hS9]; omega
        rcases hw with ⟨h, hh, rfl, hd9, hnb, hle⟩ | ⟨rfl, hno⟩
        rotate_left
        · exfalso
          obtain ⟨h, hh, hh2, hh3⟩ := hst (wkF G n dv i0 k) (S9 - k - 1) hwn (by rw [hwd, hS9]; omega)
          exact hno h hh ⟨(hdsh h hh).mpr (by rw [hh2, hS9]; omega), hh3⟩
        have hwk : wkF G n dv i0 (k + 1) = h := lstF_eq hh ⟨(hdsh h hh).mp hd9, hnb⟩ (fun j hj z => hle j hj ⟨(hdsh j (by omega)).mpr z.1, z.2⟩)
        have hwd2 : dv h = dv i0 - (k : Int) - 1 := (hdsh h hh).mp hd9
        rw [← hwk] at hh hwd2
        refine t_i (show nI h = nI (wkF G n dv i0 (k + 1)) by rw [hwk]) ?_
        refine lv_istore (lv' := [(4, .int (nI (wkF G n dv i0 (k + 1)))), (5, .int (nI k)), (3, .int (nI S9)), (0, .ref (g 0)), (1, .int (nI i0)), (2, .int (nI ix))]) hx hb dX2_onTheWay_41 hl (by decide) rfl (fun ls hl => ?_)
        refine lv_iinc (v := nI (k + 1)) (lv' := [(5, .int (nI (k + 1))), (4, .int (nI (wkF G n dv i0 (k + 1)))), (3, .int (nI S9)), (0, .ref (g 0)), (1, .int (nI i0)), (2, .int (nI ix))]) hx hb dX2_onTheWay_43 hl (k := 1) rfl (nI_add k 1) (by decide) rfl (fun ls hl => ?_)
        refine lv_goto (tgt := 23) hx hb dX2_onTheWay_46 (by decide) ?_
        exact ih23 (k + 1) _ _ _ (by omega) (by omega) hh (by omega) hP hS (lv_sub hl [0, 1, 2, 3, 4, 5] rfl)
    exact L23 _ 0 _ _ _ (Nat.lt_succ_self _) (Nat.zero_le _) hi0 (by show dv i0 = dv i0 - ((0 : Nat) : Int); omega) hP hS (lv_sub hl [0, 1, 2, 3, 4, 5] rfl)
  refine lv_iconst (v := (-1)) hx hb dX2_onTheWay_15 (by decide) ?_
  exact W.iret (v := (-1)) hx hb hr (fun t9 ht9 hW => ⟨⟨(-1), (), rfl, Or.inr ⟨by first | exact Or.inl c7 | exact Or.inr (by omega), rfl⟩, trivial⟩, hS.F ht9⟩) hS.2.2 dX2_onTheWay_16
set_option maxHeartbeats 4000000 in
set_option maxRecDepth 100000 in
theorem c_X2_refresh (l : Launch) (D : va_G) (K : Nat → ClassId) (g : Nat → Nat) (ma : Nat → Int32) (nu de : Nat → Int64) (ne di : Nat → Int32) (n : Nat) (fr : Int32) (sp a ao ap ab : Nat) (r : Nat → Nat) (M : Nat → Nat → Int64) (pv ip : Nat → Int32) (sv : Int32) (q : Nat → Nat) (d : Nat → Nat → Int32) (sz : Nat) (hn : n ≤ 64) (hd : DV d) (hfr : fr = nI 0 ∨ fr = nI 1) (hT : fr = nI 1 → n = gN d ∧ TabA d (gF d) n ma nu de) : Met l yX2_refresh (.code yX2_refresh cX2_refresh 5 none :: TB) ({ frames := 4, cells := 0, slots := 0, locals := 105 } : Room) (va_Pc [.ref (g 0), .ref (q 0), .ref sp] (cP D K (WG K g ma nu de ne di (nI n) fr ++ ([(sp, .inr (4, [.ref a]))] ++ (WE K a ao ap ab r M pv ip sv ++ (WD K q d)))) sz)) (va_Qv (fun (u : Nat × (Nat → Int32) × (Nat → Int64) × (Nat → Int64) × (Nat → Int32) × (Nat → Nat → Int64) × (Nat → Int32) × (Nat → Int32) × Int32) => u.1 = gN d ∧ TabA d (gF d) u.1 u.2.1 u.2.2.1 u.2.2.2.1) (fun (u : Nat × (Nat → Int32) × (Nat → Int64) × (Nat → Int64) × (Nat → Int32) × (Nat → Nat → Int64) × (Nat → Int32) × (Nat → Int32) × Int32) t => cB D K (va_A (WG K g ma nu de ne di (nI n) fr ++ ([(sp, .inr (4, [.ref a]))] ++ (WE K a ao ap ab r M pv ip sv ++ (WD K q d)))) sz) (WG K g u.2.1 u.2.2.1 u.2.2.2.1 u.2.2.2.2.1 di (nI u.1) (nI 1) ++ ([(sp, .inr (4, [.ref a]))] ++ (WE K a ao ap ab r u.2.2.2.2.2.1 u.2.2.2.2.2.2.1 u.2.2.2.2.2.2.2.1 u.2.2.2.2.2.2.2.2 ++ (WD K q d)))) t) (va_A (WG K g ma nu de ne di (nI n) fr ++ ([(sp, .inr (4, [.ref a]))] ++ (WE K a ao ap ab r M pv ip sv ++ (WD K q d)))) sz)) 0 0 (va_A (WG K g ma nu de ne di (nI n) fr ++ ([(sp, .inr (4, [.ref a]))] ++ (WE K a ao ap ab r M pv ip sv ++ (WD K q d)))) sz) := by
  refine Met.ofW (cc := cX2_refresh) (maxL := 5) (ret := none) (by decide) rfl ?_
  intro p e s m args below meth c s₁ B hml hv
  obtain ⟨rfl, hsz, hP, hK, hD0⟩ := hv
  have hx := B.exec
  have hb := B.bytes
  have hr := B.returns
  have hts := hts_tl (atoms_spec (ws := (.code yX2_refresh cX2_refresh 5 none :: TB)) B.pre)
  have hown : s.vm.findClass RX2 = some m.cls := findClass_of_methodNamed B.named
  have hlocks := B.notSynchronized
  subst hsz
  have hD := hD0.self (sz := s.heap.size)
  generalize hAe : (va_A (WG K g ma nu de ne di (nI n) fr ++ ([(sp, .inr (4, [.ref a]))] ++ (WE K a ao ap ab r M pv ip sv ++ (WD K q d)))) s.heap.size) = A at hD ⊢
  have hA : ∀ q : Nat, s.heap.size ≤ q → A q := fun q h => by rw [← hAe]; exact Or.inr h
  have hS : va_S A s.heap s.heap [] := va_S.rf
  have hl := lv_entry ([.ref (g 0), .ref (q 0), .ref sp]) (n := 5) (Nat.le_of_ble_eq_true rfl)
  rw [lg_entry_eq]
  generalize (lg_sl ([.ref (g 0), .ref (q 0), .ref sp]) ++ List.replicate (5 - (lg_sl ([.ref (g 0), .ref (q 0), .ref sp])).length) Slot.unset).toArray = ls at hl ⊢
  have hl : lv_has ls 5 [(0, .ref (g 0)), (1, .ref (q 0)), (2, .ref sp)] := hl
  obtain ⟨n0, m1, gg, hn0, hm, hgg, h0, h1, h2, hs9, he9⟩ := id hd
  have hm1 : dn d 8 1 = m1 := dn_of h1 (by omega)
  have hp6 : 2 ^ m1 ≤ 64 := Nat.pow_le_pow_right (show 0 < 2 by decide) hm
  refine lv_aload_n hx hb dX2_refresh_0 rfl (lv_at hl 0 rfl) ?_
  refine va_get (D := D) (ci := 2) (C := RX2) (T := TX2) (N := 7) hx hb hts iX2 hown hK hP 0 rfl rfl 6 (by decide) (hts _ k_f_X2_29) (fun _ h9 => h9) rfl dX2_refresh_1 ?_
  rcases hfr with hfr | hfr
  · refine t_i hfr ?_
    refine b_if_eq hx hb (nI_toIntI (by omega)) dX2_refresh_4 (tgt := 8) (by decide) (fun c4 => ?_) (fun c4 => absurd c4 (by omega))
    refine lv_aload_n hx hb dX2_refresh_8 rfl (lv_at hl 0 rfl) ?_
    refine lv_iconst (v := nI 0) hx hb dX2_refresh_9 (by decide) ?_
    refine va_put (D := D) (ci := 2) (v := .int (nI 0)) (ty := .int) (C := RX2) (T := TX2) (N := 7) hx hb hts iX2 tyX2 tyX2_ok nmX2 hown hK hP hD hS 0 rfl rfl 5 (by decide) (hts _ k_f_X2_33) (fun _ h9 => h9) rfl (by decide +kernel) rfl rfl (Nat.le_of_ble_eq_true rfl) dX2_refresh_10 (fun H locs hP hD hS => ?_)
    have hP : va_P D vwCl (WG K g ma nu de ne di (nI 0) fr ++ ([(sp, .inr (4, [.ref a]))] ++ (WE K a ao ap ab r M pv ip sv ++ (WD K q d)))) H := hP
    have hD : va_D A (WG K g ma nu de ne di (nI 0) fr ++ ([(sp, .inr (4, [.ref a]))] ++ (WE K a ao ap ab r M pv ip sv ++ (WD K q d)))) := hD
    refine lv_iconst (v := nI 0) hx hb dX2_refresh_13 (by decide) ?_
    refine lv_istore_n (lv' := [(3, .int (nI 0)), (0, .ref (g 0)), (1, .ref (q 0)), (2, .ref sp)]) hx hb dX2_refresh_14 rfl hl (by decide) rfl (fun ls hl => ?_)
    have L15 : ∀ (fuel : Nat) (t : Nat) (n1 : Nat) (ma1 : Nat → Int32) (nu1 : Nat → Int64) (de1 : Nat → Int64) (ne1 : Nat → Int32) (M1 : Nat → Nat → Int64) (pv1 : Nat → Int32) (ip1 : Nat → Int32) (sv1 : Int32) (H : Heap) (locs : List Loc) (ls : Array Slot), 64 - t < fuel → (t ≤ 64) → (n1 = (gst d t).1) → (TabA d (gst d t).2 n1 ma1 nu1 de1) → (∀ z, z < t → (¬ (ne1 z).toInt = 0 ↔ z < 2 ^ m1 ∧ allN d z)) → va_P D vwCl (WG K g ma1 nu1 de1 ne1 di (nI n1) fr ++ ([(sp, .inr (4, [.ref a]))] ++ (WE K a ao ap ab r M1 pv1 ip1 sv1 ++ (WD K q d)))) H → va_D A (WG K g ma1 nu1 de1 ne1 di (nI n1) fr ++ ([(sp, .inr (4, [.ref a]))] ++ (WE K a ao ap ab r M1 pv1 ip1 sv1 ++ (WD K q d)))) → va_S A s.heap H locs → lv_has ls 5 [(3, .int (nI t)), (0, .ref (g 0)), (1, .ref (q 0)), (2, .ref sp)] → W p l e ({ frames := 4, cells := 0, slots := 0, locals := 105 } : Room) s m [.ref (g 0), .ref (q 0), .ref sp].toArray below meth c H locs 0 0 (MQ below (va_Qv (fun (u : Nat × (Nat → Int32) × (Nat → Int64) × (Nat → Int64) × (Nat → Int32) × (Nat → Nat → Int64) × (Nat → Int32) × (Nat → Int32) × Int32) => u.1 = gN d ∧ TabA d (gF d) u.1 u.2.1 u.2.2.1 u.2.2.2.1) (fun (u : Nat × (Nat → Int32) × (Nat → Int64) × (Nat → Int64) × (Nat → Int32) × (Nat → Nat → Int64) × (Nat → Int32) × (Nat → Int32) × Int32) t => cB D K A (WG K g u.2.1 u.2.2.1 u.2.2.2.1 u.2.2.2.2.1 di (nI u.1) (nI 1) ++ ([(sp, .inr (4, [.ref a]))] ++ (WE K a ao ap ab r u.2.2.2.2.2.1 u.2.2.2.2.2.2.1 u.2.2.2.2.2.2.2.1 u.2.2.2.2.2.2.2.2 ++ (WD K q d)))) t) A) [.ref (g 0), .ref (q 0), .ref sp].toArray s 0 0 A) (F0 m 15 ls []) := by
      intro fuel
      induction fuel with
      | zero =>
        intro t n1 ma1 nu1 de1 ne1 M1 pv1 ip1 sv1 H locs ls hfu
        exact absurd hfu (Nat.not_lt_zero _)
      | succ fuel ih15 =>
        intro t n1 ma1 nu1 de1 ne1 M1 pv1 ip1 sv1 H locs ls hfu ht hn1 hTA hne hP hD hS hl
        refine lv_iload_n hx hb dX2_refresh_15 rfl (lv_at hl 0 rfl) ?_
        refine lv_bipush (v := nI 64) hx hb dX2_refresh_16 (by decide) ?_
        refine b_icmp_ge hx hb (nI_toIntI (by omega)) (nI_toIntI (by omega)) dX2_refresh_18 (tgt := 99) (by decide) (fun c18 => ?_) (fun c18 => ?_)
        · obtain rfl : t = 64 := by omega
          refine lv_aload_n hx hb dX2_refresh_99 rfl (lv_at hl 1 rfl) ?_
          refine lv_iconst (v := nI 1) hx hb dX2_refresh_100 (by decide) ?_
          refine va_put (D := D) (ci := 2) (v := .int (nI 1)) (ty := .boolean) (C := RX2) (T := TX2) (N := 7) hx hb hts iX2 tyX2 tyX2_ok nmX2 hown hK hP hD hS 0 rfl rfl 6 (by decide) (hts _ k_f_X2_29) (fun _ h9 => h9) rfl (by decide +kernel) (by decide) (by decide) (Nat.le_of_ble_eq_true rfl) dX2_refresh_101 (fun H locs hP hD hS => ?_)
          have hP : va_P D vwCl (WG K g ma1 nu1 de1 ne1 di (nI n1) (nI 1) ++ ([(sp, .inr (4, [.ref a]))] ++ (WE K a ao ap ab r M1 pv1 ip1 sv1 ++ (WD K q d)))) H := hP
          have hD : va_D A (WG K g ma1 nu1 de1 ne1 di (nI n1) (nI 1) ++ ([(sp, .inr (4, [.ref a]))] ++ (WE K a ao ap ab r M1 pv1 ip1 sv1 ++ (WD K q d)))) := hD
          exact W.vret hx hb hr (fun t9 ht9 hW => ⟨⟨(n1, ma1, nu1, de1, ne1, M1, pv1, ip1, sv1), rfl, ⟨hn1, hTA⟩, by rw [ht9]; exact hP, va_K.moved hW.alike hK, hD⟩, hS.F ht9⟩) hS.2.2 dX2_refresh_104
        refine lv_aload_n hx hb dX2_refresh_21 rfl (lv_at hl 1 rfl) ?_
        refine va_get (D := D) (ci := 2) (C := RX2) (T := TX2) (N := 7) hx hb hts iX2 hown hK hP 0 rfl rfl 3 (by decide) (hts _ k_f_X2_22) (fun _ h9 => h9) rfl dX2_refresh_22 ?_
        refine lv_iload_n hx hb dX2_refresh_25 rfl (lv_at hl 0 rfl) ?_
        refine lv_iconst (v := nI 0) hx hb dX2_refresh_26 (by decide) ?_
        refine n_zast hx hb hK hP hD hS 4 2 rfl rfl (i := t) (n := 64) (y := nI 0) (by decide) (by omega) (by decide) dX2_refresh_27 (fun H locs hP hD hS => ?_)
        have hP : va_P D vwCl (WG K g ma1 nu1 de1 (upd ne1 t (nI 0)) di (nI n1) fr ++ ([(sp, .inr (4, [.ref a]))] ++ (WE K a ao ap ab r M1 pv1 ip1 sv1 ++ (WD K q d)))) H := hP
        have hD : va_D A (WG K g ma1 nu1 de1 (upd ne1 t (nI 0)) di (nI n1) fr ++ ([(sp, .inr (4, [.ref a]))] ++ (WE K a ao ap ab r M1 pv1 ip1 sv1 ++ (WD K q d)))) := hD
        refine lv_aload_n hx hb dX2_refresh_28 rfl (lv_at hl 2 rfl) ?_
        refine lv_iload_n hx hb dX2_refresh_29 rfl (lv_at hl 0 rfl) ?_
        have hPc := bP3e hP
        have hDc := bD3e hD
        refine va_calli (va_runV (As := [.int (nI t)]) (rest := []) ⟨hx, hb, hml, hown, hts⟩ (c_X0_hasElements l D K q d m1 (nI t) H.size hm h1) (cwV 1 hts (TB_V k_m_X2_37 k_im_X0_hasElements k_se_X0_hasElements k_in_X0 k_co_X0_hasElements (fun _ h => h)) rfl rfl rfl (by decide +kernel) ⟨Nat.le_of_ble_eq_true rfl, Nat.le_of_ble_eq_true rfl⟩) ⟨cP_blind, va_recv hK hPc (ci := 0) (q0 := 0) rfl rfl, cP_of hPc hK hDc⟩ rfl rfl hl.1 rfl (lv_room (Nat.le_of_ble_eq_true rfl)) dX2_refresh_30 ⟨Nat.le_of_ble_eq_true rfl, Nat.le_of_ble_eq_true rfl⟩) hS (fun q _ h => absurd h id) (fun q h => absurd h id) (fun he u9 t9 H locs ht9 hvm hw hB hz1 hk1 hS => ?_)
        have hP := P_same hP hk1
        by_cases hlt : t < 2 ^ m1
        rotate_left
        · refine t_i (hw.trans (bI_f (fun ⟨z, hz, e9⟩ => hlt (by have e8 := (nI_eq (by omega) (by omega)).mp e9; omega))).symm) ?_
          refine b_if_eq hx hb (nI_toIntI (by omega)) dX2_refresh_33 (tgt := 93) (by decide) (fun c33 => ?_) (fun c33 => absurd c33 (by omega))
          refine lv_iinc (v := nI (t + 1)) (lv' := [(3, .int (nI (t + 1))), (0, .ref (g 0)), (1, .ref (q 0)), (2, .ref sp)]) hx hb dX2_refresh_93 hl (k := 0) rfl (nI_add t 1) (by decide) rfl (fun ls hl => ?_)
          refine lv_goto (tgt := 15) hx hb dX2_refresh_96 (by decide) ?_
          have hne2 : ∀ z, z < t + 1 → (¬ ((upd ne1 t (nI 0)) z).toInt = 0 ↔ z < 2 ^ m1 ∧ allN d z) := fun z hz9 => by
            by_cases q9 : t = z
            · subst q9; rw [show (upd ne1 t (nI 0)) t = nI 0 from if_pos rfl]; refine ⟨fun w9 => absurd (by decide) w9, fun w9 => absurd w9.1 hlt⟩
            · rw [show (upd ne1 t (nI 0)) z = ne1 z from if_neg (fun w9 => q9 w9.symm)]; exact hne z (by omega)
          have hg9 := gst_no (d := d) (t := t) (fun z => hlt (by have := z.1; rw [hm1] at this; exact this))
          have hn9b : n1 = (gst d (t + 1)).1 := by rw [hg9]; exact hn1
          have hTA3 : TabA d (gst d (t + 1)).2 n1 ma1 nu1 de1 := by rw [hg9]; exact hTA
          exact ih15 (t + 1) n1 ma1 nu1 de1 (upd ne1 t (nI 0)) M1 pv1 ip1 sv1 _ _ _ (by omega) (by omega) hn9b hTA3 hne2 hP hD hS (lv_sub hl [0, 1, 2, 3] rfl)
        refine t_i (hw.trans (bI_t ⟨t, hlt, rfl⟩).symm) ?_
        refine b_if_eq hx hb (nI_toIntI (by omega)) dX2_refresh_33 (tgt := 93) (by decide) (fun c33 => absurd c33 (by omega)) (fun c33 => ?_)
        refine lv_aload_n hx hb dX2_refresh_36 rfl (lv_at hl 1 rfl) ?_
        refine lv_iload_n hx hb dX2_refresh_37 rfl (lv_at hl 0 rfl) ?_
        have hPc := bP0 hP
        have hDc := bD0 hD
        refine va_calli (va_runV (As := [.int (nI t)]) (rest := []) ⟨hx, hb, hml, hown, hts⟩ (c_X2_areSmallerNeutral l D K g ma1 nu1 de1 (upd ne1 t (nI 0)) di n1 fr t H.size (by omega)) (cwV 1 hts (TB_V k_m_X2_43 k_im_X2_areSmallerNeutral k_se_X2_areSmallerNeutral k_in_X2 k_co_X2_areSmallerNeutral (fun _ h => h)) rfl rfl rfl (by decide +kernel) ⟨Nat.le_of_ble_eq_true rfl, Nat.le_of_ble_eq_true rfl⟩) ⟨cP_blind, va_recv hK hPc (ci := 2) (q0 := 0) rfl rfl, cP_of hPc hK hDc⟩ rfl rfl hl.1 rfl (lv_room (Nat.le_of_ble_eq_true rfl)) dX2_refresh_38 ⟨Nat.le_of_ble_eq_true rfl, Nat.le_of_ble_eq_true rfl⟩) hS (fun q _ h => absurd h id) (fun q h => absurd h id) (fun sn u9 t9 H locs ht9 hvm hw hB hz1 hk1 hS => ?_)
        have hP := P_same hP hk1
        have hsm : (∀ e, e < 6 → t.testBit e = true → ¬ ((upd ne1 t (nI 0)) (cl1 t e)).toInt = 0) ↔ (∀ z, z &&& t = z → z ≠ t → stM d z = 2) := by
          rw [← smaller_iff (by omega)]
          have hpt : ∀ e, e < 6 → t.testBit e = true → (¬ ((upd ne1 t (nI 0)) (cl1 t e)).toInt = 0 ↔ allN d (cl1 t e)) := fun e he hb9 => by
            have hc9 := ((cl1_lt t (by omega) e he).2.1 hb9).1
            rw [show upd ne1 t (nI 0) (cl1 t e) = ne1 (cl1 t e) from if_neg (by omega), hne _ hc9]
            exact ⟨fun z => z.2, fun z => ⟨by omega, z⟩⟩
          exact ⟨fun z e he hb9 => (hpt e he hb9).mp (z e he hb9), fun z e he hb9 => (hpt e he hb9).mpr (z e he hb9)⟩
        have hw := hw.trans (bI_iff hsm)
        by_cases hsn : ∀ z, z &&& t = z → z ≠ t → stM d z = 2
        rotate_left
        · refine t_i (hw.trans (bI_f hsn).symm) ?_
          refine b_if_eq hx hb (nI_toIntI (by omega)) dX2_refresh_41 (tgt := 93) (by decide) (fun c41 => ?_) (fun c41 => absurd c41 (by omega))
          refine lv_iinc (v := nI (t + 1)) (lv' := [(3, .int (nI (t + 1))), (0, .ref (g 0)), (1, .ref (q 0)), (2, .ref sp)]) hx hb dX2_refresh_93 hl (k := 0) rfl (nI_add t 1) (by decide) rfl (fun ls hl => ?_)
          refine lv_goto (tgt := 15) hx hb dX2_refresh_96 (by decide) ?_
          have hne2 : ∀ z, z < t + 1 → (¬ ((upd ne1 t (nI 0)) z).toInt = 0 ↔ z < 2 ^ m1 ∧ allN d z) := fun z hz9 => by
            by_cases q9 : t = z
            · subst q9; rw [show (upd ne1 t (nI 0)) t = nI 0 from if_pos rfl]; refine ⟨fun w9 => absurd (by decide) w9, fun w9 => absurd (allN_iff.mp w9.2).2 hsn⟩
            · rw [show (upd ne1 t (nI 0)) z = ne1 z from if_neg (fun w9 => q9 w9.symm)]; exact hne z (by omega)
          have hg9 := gst_no (d := d) (t := t) (fun z => hsn z.2.2)
          have hn9b : n1 = (gst d (t + 1)).1 := by rw [hg9]; exact hn1
          have hTA3 : TabA d (gst d (t + 1)).2 n1 ma1 nu1 de1 := by rw [hg9]; exact hTA
          exact ih15 (t + 1) n1 ma1 nu1 de1 (upd ne1 t (nI 0)) M1 pv1 ip1 sv1 _ _ _ (by omega) (by omega) hn9b hTA3 hne2 hP hD hS (lv_sub hl [0, 1, 2, 3] rfl)
        refine t_i (hw.trans (bI_t hsn).symm) ?_
        refine b_if_eq hx hb (nI_toIntI (by omega)) dX2_refresh_41 (tgt := 93) (by decide) (fun c41 => absurd c41 (by omega)) (fun c41 => ?_)
        refine lv_aload_n hx hb dX2_refresh_44 rfl (lv_at hl 3 rfl) ?_
        refine lv_aload_n hx hb dX2_refresh_45 rfl (lv_at hl 2 rfl) ?_
        refine lv_iload_n hx hb dX2_refresh_46 rfl (lv_at hl 0 rfl) ?_
        have hPc := bP1e hP
        have hDc := bD1e hD
        have hFc := bF1e hD hS hA
        refine va_callv (va_runV (As := [.ref (q 0), .int (nI t)]) (rest := []) ⟨hx, hb, hml, hown, hts⟩ (c_X4_solve l D K sp a ao ap ab r M1 pv1 ip1 sv1 q d t H.size hd (by omega)) (cwV 2 hts (TB_V k_m_X2_46 k_im_X4_solve k_se_X4_solve k_in_X4 k_co_X4_solve (fun _ h => h)) rfl rfl rfl (by decide +kernel) ⟨Nat.le_of_ble_eq_true rfl, Nat.le_of_ble_eq_true rfl⟩) ⟨cP_blind, va_recv hK hPc (ci := 4) (q0 := 0) rfl rfl, cP_of hPc hK hDc⟩ rfl rfl hl.1 rfl (lv_room (Nat.le_of_ble_eq_true rfl)) dX2_refresh_47 ⟨Nat.le_of_ble_eq_true rfl, Nat.le_of_ble_eq_true rfl⟩) hS (fun q _ h => hFc q h) hFc (fun V t9 H locs ht9 hvm hw hB hz1 hk1 hS => ?_)
        obtain ⟨hP1, hK1, hD1⟩ := hB
        rw [ht9] at hP1
        obtain ⟨hP, hD⟩ := bJ1e hP hD hk1 hFc hP1 hD1
        have hS0 := hw
        refine lv_aload_n hx hb dX2_refresh_50 rfl (lv_at hl 3 rfl) ?_
        have hPc := bPP1 hP
        have hDc := bDP1 hD
        refine va_calli (va_runV (As := []) (rest := []) ⟨hx, hb, hml, hown, hts⟩ (c_X4_stateFound l D K sp a ao ap ab r V.1 V.2.1 V.2.2.1 V.2.2.2 (spM d t) H.size hS0) (cwV 0 hts (TB_V k_m_X2_52 k_im_X4_stateFound k_se_X4_stateFound k_in_X4 k_co_X4_stateFound (fun _ h => h)) rfl rfl rfl (by decide +kernel) ⟨Nat.le_of_ble_eq_true rfl, Nat.le_of_ble_eq_true rfl⟩) ⟨cP_blind, va_recv hK hPc (ci := 4) (q0 := 0) rfl rfl, cP_of hPc hK hDc⟩ rfl rfl hl.1 rfl (lv_room (Nat.le_of_ble_eq_true rfl)) dX2_refresh_51 ⟨Nat.le_of_ble_eq_true rfl, Nat.le_of_ble_eq_true rfl⟩) hS (fun q _ h => absurd h id) (fun q h => absurd h id) (fun sf u9 t9 H locs ht9 hvm hw hB hz1 hk1 hS => ?_)
        have hP := P_same hP hk1
        refine t_i (show sf = nI (stM d t) from hw) ?_
        have hs3 := stC_le (SP d t)
        have hs3 : stM d t ≤ 3 := hs3
        refine lv_istore (lv' := [(4, .int (nI (stM d t))), (3, .int (nI t)), (0, .ref (g 0)), (1, .ref (q 0)), (2, .ref sp)]) hx hb dX2_refresh_54 hl (by decide) rfl (fun ls hl => ?_)
        refine lv_aload_n hx hb dX2_refresh_56 rfl (lv_at hl 2 rfl) ?_
        refine va_get (D := D) (ci := 2) (C := RX2) (T := TX2) (N := 7) hx hb hts iX2 hown hK hP 0 rfl rfl 3 (by decide) (hts _ k_f_X2_22) (fun _ h9 => h9) rfl dX2_refresh_57 ?_
        refine lv_iload_n hx hb dX2_refresh_60 rfl (lv_at hl 1 rfl) ?_
        refine lv_iload hx hb dX2_refresh_61 (lv_at hl 0 rfl) ?_
        refine lv_iconst (v := nI 2) hx hb dX2_refresh_63 (by decide) ?_
        refine b_icmp_ne hx hb (nI_toIntI (by omega)) (nI_toIntI (by omega)) dX2_refresh_64 (tgt := 71) (by decide) (fun c64 => ?_) (fun c64 => ?_)
        · refine lv_iconst (v := nI 0) hx hb dX2_refresh_71 (by decide) ?_
          refine n_zast hx hb hK hP hD hS 4 2 rfl rfl (i := t) (n := 64) (y := nI 0) (by decide) (by omega) (by decide) dX2_refresh_72 (fun H locs hP hD hS => ?_)
          have hP : va_P D vwCl (WG K g ma1 nu1 de1 (upd (upd ne1 t (nI 0)) t (nI 0)) di (nI n1) fr ++ ([(sp, .inr (4, [.ref a]))] ++ (WE K a ao ap ab r V.1 V.2.1 V.2.2.1 V.2.2.2 ++ (WD K q d)))) H := hP
          have hD : va_D A (WG K g ma1 nu1 de1 (upd (upd ne1 t (nI 0)) t (nI 0)) di (nI n1) fr ++ ([(sp, .inr (4, [.ref a]))] ++ (WE K a ao ap ab r V.1 V.2.1 V.2.2.1 V.2.2.2 ++ (WD K q d)))) := hD
          refine lv_iload hx hb dX2_refresh_73 (lv_at hl 0 rfl) ?_
          refine b_if_ne hx hb (nI_toIntI (by omega)) dX2_refresh_75 (tgt := 93) (by decide) (fun c75 => ?_) (fun c75 => ?_)
          · refine lv_iinc (v := nI (t + 1)) (lv' := [(3, .int (nI (t + 1))), (4, .int (nI (stM d t))), (0, .ref (g 0)), (1, .ref (q 0)), (2, .ref sp)]) hx hb dX2_refresh_93 hl (k := 1) rfl (nI_add t 1) (by decide) rfl (fun ls hl => ?_)
            refine lv_goto (tgt := 15) hx hb dX2_refresh_96 (by decide) ?_
            have hne2 : ∀ z, z < t + 1 → (¬ ((upd (upd ne1 t (nI 0)) t (nI 0)) z).toInt = 0 ↔ z < 2 ^ m1 ∧ allN d z) := fun z hz9 => by
              by_cases q9 : t = z
              · subst q9; rw [show (upd (upd ne1 t (nI 0)) t (nI 0)) t = nI 0 from if_pos rfl]; refine ⟨fun w9 => absurd (by decide) w9, fun w9 => by have := (allN_iff.mp w9.2).1; omega⟩
              · rw [show (upd (upd ne1 t (nI 0)) t (nI 0)) z = ne1 z from (if_neg (fun w9 => q9 w9.symm)).trans (if_neg (fun w9 => q9 w9.symm))]; exact hne z (by omega)
            have hg9 := gst_no (d := d) (t := t) (fun z => by have := z.2.1; omega)
            have hn9b : n1 = (gst d (t + 1)).1 := by rw [hg9]; exact hn1
            have hTA3 : TabA d (gst d (t + 1)).2 n1 ma1 nu1 de1 := by rw [hg9]; exact hTA
            exact ih15 (t + 1) n1 ma1 nu1 de1 (upd (upd ne1 t (nI 0)) t (nI 0)) V.1 V.2.1 V.2.2.1 V.2.2.2 _ _ _ (by omega) (by omega) hn9b hTA3 hne2 hP hD hS (lv_sub hl [0, 2, 3, 4] rfl)
          refine lv_aload_n hx hb dX2_refresh_78 rfl (lv_at hl 2 rfl) ?_
          refine lv_iload_n hx hb dX2_refresh_79 rfl (lv_at hl 1 rfl) ?_
          refine lv_aload_n hx hb dX2_refresh_80 rfl (lv_at hl 4 rfl) ?_
          refine lv_iconst (v := nI 0) hx hb dX2_refresh_81 (by decide) ?_
          obtain ⟨hSo, hDe, hv0⟩ := stC_drive.mp (show stC (SP d t) = 0 by have z9 : stM d t = 0 := (by omega); exact z9)
          have hbd0 := hS0.bound (t := 1) (by decide) hSo hDe
          have hbd : (vN (SP d t) 1).natAbs ≤ BB ∧ 0 < vD (SP d t) 1 ∧ (vD (SP d t) 1).natAbs ≤ BB := ⟨hbd0.1, hbd0.2.1, hbd0.2.2.1⟩
          have hPc := bPP1 hP
          have hDc := bDP1 hD
          refine va_calll (va_runV (As := [.int (nI 0)]) (rest := [.int (nI t), .ref (g 0)]) ⟨hx, hb, hml, hown, hts⟩ (c_X4_ratioPart l D K sp a ao ap ab r V.1 V.2.1 V.2.2.1 V.2.2.2 (spM d t) 0 H.size (by decide) hS0 hSo hDe) (cwV 1 hts (TB_V k_m_X2_56 k_im_X4_ratioPart k_se_X4_ratioPart k_in_X4 k_co_X4_ratioPart (fun _ h => h)) rfl rfl rfl (by decide +kernel) ⟨Nat.le_of_ble_eq_true rfl, Nat.le_of_ble_eq_true rfl⟩) ⟨cP_blind, va_recv hK hPc (ci := 4) (q0 := 0) rfl rfl, cP_of hPc hK hDc⟩ rfl rfl hl.1 rfl (lv_room (Nat.le_of_ble_eq_true rfl)) dX2_refresh_82 ⟨Nat.le_of_ble_eq_true rfl, Nat.le_of_ble_eq_true rfl⟩) hS (fun q _ h => absurd h id) (fun q h => absurd h id) (fun y9 u9 t9 H locs ht9 hvm hw hB hz1 hk1 hS => ?_)
          have hP := P_same hP hk1
          have hy9 : y9.toInt = rtN (SP d t) := hw
          refine lv_aload_n hx hb dX2_refresh_85 rfl (lv_at hl 4 rfl) ?_
          refine lv_iconst (v := nI 1) hx hb dX2_refresh_86 (by decide) ?_
          have hPc := bPP1 hP
          have hDc := bDP1 hD
          refine va_calll (va_runV (As := [.int (nI 1)]) (rest := [.long y9, .int (nI t), .ref (g 0)]) ⟨hx, hb, hml, hown, hts⟩ (c_X4_ratioPart l D K sp a ao ap ab r V.1 V.2.1 V.2.2.1 V.2.2.2 (spM d t) 1 H.size (by decide) hS0 hSo hDe) (cwV 1 hts (TB_V k_m_X2_56 k_im_X4_ratioPart k_se_X4_ratioPart k_in_X4 k_co_X4_ratioPart (fun _ h => h)) rfl rfl rfl (by decide +kernel) ⟨Nat.le_of_ble_eq_true rfl, Nat.le_of_ble_eq_true rfl⟩) ⟨cP_blind, va_recv hK hPc (ci := 4) (q0 := 0) rfl rfl, cP_of hPc hK hDc⟩ rfl rfl hl.1 rfl (lv_room (Nat.le_of_ble_eq_true rfl)) dX2_refresh_87 ⟨Nat.le_of_ble_eq_true rfl, Nat.le_of_ble_eq_true rfl⟩) hS (fun q _ h => absurd h id) (fun q h => absurd h id) (fun z9 u9 t9 H locs ht9 hvm hw hB hz1 hk1 hS => ?_)
          have hP := P_same hP hk1
          have hz9 : z9.toInt = rtD (SP d t) := hw
          have hisG : isG d t := ⟨by rw [hm1]; exact hlt, by omega, hsn⟩
          have hby : y9.toInt.natAbs ≤ BB := by rw [hy9]; unfold rtN; split <;> omega
          have hbz : z9.toInt.natAbs ≤ BB := by rw [hz9]; unfold rtD; omega
          have hn9 := gst_le d t
          have hPc := bP0 hP
          have hDc := bD0 hD
          have hFc := bF0 hD hS hA
          refine va_callv (va_runV (As := [.int (nI t), .long y9, .long z9]) (rest := []) ⟨hx, hb, hml, hown, hts⟩ (c_X2_insert l D K g ma1 nu1 de1 (upd (upd ne1 t (nI 0)) t (nI 0)) di n1 fr d ((gst d t).2) t y9 z9 H.size (by omega) (by omega) hTA hy9 hz9 hby hbz) (cwV 3 hts (TB_V k_m_X2_60 k_im_X2_insert k_se_X2_insert k_in_X2 k_co_X2_insert (fun _ h => h)) rfl rfl rfl (by decide +kernel) ⟨Nat.le_of_ble_eq_true rfl, Nat.le_of_ble_eq_true rfl⟩) ⟨cP_blind, va_recv hK hPc (ci := 2) (q0 := 0) rfl rfl, cP_of hPc hK hDc⟩ rfl rfl hl.1 rfl (lv_room (Nat.le_of_ble_eq_true rfl)) dX2_refresh_90 ⟨Nat.le_of_ble_eq_true rfl, Nat.le_of_ble_eq_true rfl⟩) hS (fun q _ h => hFc q h) hFc (fun U t9 H locs ht9 hvm hw hB hz1 hk1 hS => ?_)
          obtain ⟨hP1, hK1, hD1⟩ := hB
          rw [ht9] at hP1
          obtain ⟨hP, hD⟩ := bJ0 hP hD hk1 hFc hP1 hD1
          have hTA2 := hw
          refine lv_iinc (v := nI (t + 1)) (lv' := [(3, .int (nI (t + 1))), (4, .int (nI (stM d t))), (0, .ref (g 0)), (1, .ref (q 0)), (2, .ref sp)]) hx hb dX2_refresh_93 hl (k := 1) rfl (nI_add t 1) (by decide) rfl (fun ls hl => ?_)
          refine lv_goto (tgt := 15) hx hb dX2_refresh_96 (by decide) ?_
          have hne2 : ∀ z, z < t + 1 → (¬ ((upd (upd ne1 t (nI 0)) t (nI 0)) z).toInt = 0 ↔ z < 2 ^ m1 ∧ allN d z) := fun z hz9 => by
            by_cases q9 : t = z
            · subst q9; rw [show (upd (upd ne1 t (nI 0)) t (nI 0)) t = nI 0 from if_pos rfl]; refine ⟨fun w9 => absurd (by decide) w9, fun w9 => by have := (allN_iff.mp w9.2).1; omega⟩
            · rw [show (upd (upd ne1 t (nI 0)) t (nI 0)) z = ne1 z from (if_neg (fun w9 => q9 w9.symm)).trans (if_neg (fun w9 => q9 w9.symm))]; exact hne z (by omega)
          have hg9 := gst_yes hisG
          have hn9b : n1 + 1 = (gst d (t + 1)).1 := by rw [hg9, ← hn1]
          have hTA3 : TabA d (gst d (t + 1)).2 (n1 + 1) U.1 U.2.1 U.2.2 := by rw [hg9]; subst hn1; exact hTA2
          exact ih15 (t + 1) (n1 + 1) U.1 U.2.1 U.2.2 (upd (upd ne1 t (nI 0)) t (nI 0)) V.1 V.2.1 V.2.2.1 V.2.2.2 _ _ _ (by omega) (by omega) hn9b hTA3 hne2 hP hD hS (lv_sub hl [0, 2, 3, 4] rfl)
        refine lv_iconst (v := nI 1) hx hb dX2_refresh_67 (by decide) ?_
        refine lv_goto (tgt := 72) hx hb dX2_refresh_68 (by decide) ?_
        refine n_zast hx hb hK hP hD hS 4 2 rfl rfl (i := t) (n := 64) (y := nI 1) (by decide) (by omega) (by decide) dX2_refresh_72 (fun H locs hP hD hS => ?_)
        have hP : va_P D vwCl (WG K g ma1 nu1 de1 (upd (upd ne1 t (nI 0)) t (nI 1)) di (nI n1) fr ++ ([(sp, .inr (4, [.ref a]))] ++ (WE K a ao ap ab r V.1 V.2.1 V.2.2.1 V.2.2.2 ++ (WD K q d)))) H := hP
        have hD : va_D A (WG K g ma1 nu1 de1 (upd (upd ne1 t (nI 0)) t (nI 1)) di (nI n1) fr ++ ([(sp, .inr (4, [.ref a]))] ++ (WE K a ao ap ab r V.1 V.2.1 V.2.2.1 V.2.2.2 ++ (WD K q d)))) := hD
        refine lv_iload hx hb dX2_refresh_73 (lv_at hl 0 rfl) ?_
        refine b_if_ne hx hb (nI_toIntI (by omega)) dX2_refresh_75 (tgt := 93) (by decide) (fun c75 => ?_) (fun c75 => absurd c75 (by omega))
        refine lv_iinc (v := nI (t + 1)) (lv' := [(3, .int (nI (t + 1))), (4, .int (nI (stM d t))), (0, .ref (g 0)), (1, .ref (q 0)), (2, .ref sp)]) hx hb dX2_refresh_93 hl (k := 1) rfl (nI_add t 1) (by decide) rfl (fun ls hl => ?_)
        refine lv_goto (tgt := 15) hx hb dX2_refresh_96 (by decide) ?_
        have hne2 : ∀ z, z < t + 1 → (¬ ((upd (upd ne1 t (nI 0)) t (nI 1)) z).toInt = 0 ↔ z < 2 ^ m1 ∧ allN d z) := fun z hz9 => by
          by_cases q9 : t = z
          · subst q9; rw [show (upd (upd ne1 t (nI 0)) t (nI 1)) t = nI 1 from if_pos rfl]; refine ⟨fun _ => ⟨hlt, allN_iff.mpr ⟨by omega, hsn⟩⟩, fun _ => by decide⟩
          · rw [show (upd (upd ne1 t (nI 0)) t (nI 1)) z = ne1 z from (if_neg (fun w9 => q9 w9.symm)).trans (if_neg (fun w9 => q9 w9.symm))]; exact hne z (by omega)
        have hg9 := gst_no (d := d) (t := t) (fun z => by have := z.2.1; omega)
        have hn9b : n1 = (gst d (t + 1)).1 := by rw [hg9]; exact hn1
        have hTA3 : TabA d (gst d (t + 1)).2 n1 ma1 nu1 de1 := by rw [hg9]; exact hTA
        exact ih15 (t + 1) n1 ma1 nu1 de1 (upd (upd ne1 t (nI 0)) t (nI 1)) V.1 V.2.1 V.2.2.1 V.2.2.2 _ _ _ (by omega) (by omega) hn9b hTA3 hne2 hP hD hS (lv_sub hl [0, 2, 3, 4] rfl)
    exact L15 _ 0 0 ma nu de ne M pv ip sv _ _ _ (Nat.lt_succ_self _) (by omega) rfl (fun i h => absurd h (Nat.not_lt_zero _)) (fun z h => absurd h (Nat.not_lt_zero _)) hP hD hS (lv_sub hl [0, 1, 2, 3] rfl)
  refine t_i hfr ?_
  obtain ⟨hT1, hT2⟩ := hT hfr
  subst hfr
  refine b_if_eq hx hb (nI_toIntI (by omega)) dX2_refresh_4 (tgt := 8) (by decide) (fun c4 => absurd c4 (by omega)) (fun c4 => ?_)
  exact W.vret hx hb hr (fun t9 ht9 hW => ⟨⟨(n, ma, nu, de, ne, M, pv, ip, sv), rfl, ⟨hT1, hT2⟩, by rw [ht9]; exact hP, va_K.moved hW.alike hK, hD⟩, hS.F ht9⟩) hS.2.2 dX2_refresh_7
