/-! PlanetaryGearboxModel: the ratio -/
theorem ratio_fin {c p U x y : Int} (hp : p ≠ 0) (hU : U = if p < 0 then -c else c) (hx : x = if U < 0 then -(p.natAbs : Int) else (p.natAbs : Int)) (hy : y = (U.natAbs : Int)) : x / (Nat.gcd x.natAbs y.natAbs : Nat) = (if Lnum c p < 0 then -(Lden c p) else Lden c p) ∧ y / (Nat.gcd x.natAbs y.natAbs : Nat) = ((Lnum c p).natAbs : Int) := by
  obtain ⟨h1, h2, h3⟩ := Lfacts (c := c) hp
  have e1 : x.natAbs = p.natAbs := by rw [hx]; split <;> omega
  have e2 : y.natAbs = c.natAbs := by rw [hy, hU]; split <;> omega
  rw [e1, e2]
  rw [← hU] at h1
  generalize Nat.gcd p.natAbs c.natAbs = G at h1 h2 h3 ⊢
  have hG : (0 : Int) < (G : Int) := by omega
  have hs : U < 0 ↔ Lnum c p < 0 := by
    rw [← h1]
    constructor
    · intro h
      exact Classical.byContradiction fun q => absurd h (by have := Int.mul_nonneg (a := Lnum c p) (b := (G : Int)) (by omega) (by omega); omega)
    · intro h
      exact Int.mul_neg_of_neg_of_pos h hG
  constructor
  · by_cases q : U < 0
    · rw [hx, if_pos q, if_pos (hs.mp q), ← h2, ← Int.neg_mul, Int.mul_ediv_cancel _ (by omega)]
    · rw [hx, if_neg q, if_neg (fun z => q (hs.mpr z)), ← h2, Int.mul_ediv_cancel _ (by omega)]
  · rw [hy, ← h1, Int.natAbs_mul]
    rw [show (((Lnum c p).natAbs * (G : Int).natAbs : Nat) : Int) = ((Lnum c p).natAbs : Int) * (G : Int) by rw [Int.natAbs_natCast]; exact Int.natCast_mul _ _]
    exact Int.mul_ediv_cancel _ (by omega)
set_option maxHeartbeats 4000000 in
set_option maxRecDepth 100000 in
theorem c_X7_ratioPart (l : Launch) (D : va_G) (K : Nat → ClassId) (mm : Nat → Nat) (ta : Nat → Int32) (sl : Nat → Int32) (ss : Nat → Int32) (be : Nat → Int32) (ch : Int32) (th : Int32) (M : Nat → Nat → Int64) (rq : Int32) (cq : Int32) (pv : Nat → Int32) (so : Int32) (st : Nat → Int32) (gs : Int32) (gm : Nat → Int32) (gu : Nat → Int64) (gl : Nat → Int64) (aw : Nat → Int32) (S : (Nat → Int) → Prop) (nr pt : Nat) (sz : Nat) (hnr : nr ≤ 10) (hpt : pt ≤ 1) (hs0 : SolvedM S nr 6 M pv so) (hdr : stC S = 0) : Met l yX7_ratioPart (.code yX7_ratioPart cX7_ratioPart 6 (some .long) :: TB) ({ frames := 2, cells := 0, slots := 0, locals := 55 } : Room) (va_Pc [.ref (mm 0), .int (nI pt)] (cP D K (WM K mm ta sl ss be ch th M rq cq pv so st gs gm gu gl aw) sz)) (va_Ql (fun (z : Int64) (_ : Unit) => z.toInt = if pt = 0 then rtN S else rtD S) (fun _ _ => True) (fun _ => False)) 0 0 (fun _ => False) := by
  refine Met.ofW (cc := cX7_ratioPart) (maxL := 6) (ret := (some .long)) (by decide) rfl ?_
  intro p e s m args below meth c s₁ B hml hv
  obtain ⟨rfl, hsz, hP, hK, hD0⟩ := hv
  have hx := B.exec
  have hb := B.bytes
  have hr := B.returns
  have hts := hts_tl (atoms_spec (ws := (.code yX7_ratioPart cX7_ratioPart 6 (some .long) :: TB)) B.pre)
  have hown : s.vm.findClass RX7 = some m.cls := findClass_of_methodNamed B.named
  have hlocks := B.notSynchronized
  subst hsz
  have hA : ∀ q : Nat, q < s.heap.size → (fun _ : Nat => False) q → False := fun _ _ h => h
  have hS : va_S (fun _ => False) s.heap s.heap [] := va_S.rf
  have hl := lv_entry ([.ref (mm 0), .int (nI pt)]) (n := 6) (Nat.le_of_ble_eq_true rfl)
  rw [lg_entry_eq]
  generalize (lg_sl ([.ref (mm 0), .int (nI pt)]) ++ List.replicate (6 - (lg_sl ([.ref (mm 0), .int (nI pt)])).length) Slot.unset).toArray = ls at hl ⊢
  have hl : lv_has ls 6 [(0, .ref (mm 0)), (1, .int (nI pt))] := hl
  have hdd := stC_drive.mp hdr
  obtain ⟨kv, hkv, hpv9, hne9, hb19, hb29, hvn, hvd⟩ := hs0.val hnr (by decide) (t := 1) (by decide) hdd.1 hdd.2.1
  have hBB : BB = 351232000 := rfl
  obtain ⟨U, hU⟩ : ∃ U : Int, U = if (M kv 1).toInt < 0 then -(M kv 10).toInt else (M kv 10).toInt := ⟨_, rfl⟩
  have hUb : U.natAbs ≤ BB := by rw [hU]; split <;> omega
  have hU0 : U ≠ 0 := fun z => hdd.2.2 (by rw [← hvn]; exact (Lnum_0 hne9).mpr (by rw [← hU]; exact z))
  refine lv_aload_n hx hb dX7_ratioPart_0 rfl (lv_at hl 0 rfl) ?_
  refine lv_iconst (v := nI 1) hx hb dX7_ratioPart_1 (by decide) ?_
  refine va_calll (va_runV (As := [.int (nI 1)]) (rest := []) ⟨hx, hb, hml, hown, hts⟩ (c_X7_upper l D K mm ta sl ss be ch th M rq cq pv so st gs gm gu gl aw kv 1 s.heap.size (by omega) (by decide) hpv9 hb19 hb29) (cwV 1 hts (TB_V k_m_X7_123 k_im_X7_upper k_se_X7_upper k_in_X7 k_co_X7_upper (fun _ h => h)) rfl rfl rfl (by decide +kernel) ⟨Nat.le_of_ble_eq_true rfl, Nat.le_of_ble_eq_true rfl⟩) ⟨cP_blind, va_recv hK hP (ci := 7) (q0 := 0) rfl rfl, cP_of hP hK hD0⟩ rfl rfl hl.1 rfl (lv_room (Nat.le_of_ble_eq_true rfl)) dX7_ratioPart_2 ⟨Nat.le_of_ble_eq_true rfl, Nat.le_of_ble_eq_true rfl⟩) hS (fun q _ h => absurd h id) (fun q h => absurd h id) (fun up2 u9 t9 H locs ht9 hvm hw hB hz1 hk1 hS => ?_)
  have hP := P_same hP hk1
  have hup2 : up2.toInt = U := by rw [hw, hU]
  refine lv_lconst (v := 0) hx hb dX7_ratioPart_5 (by decide) ?_
  refine b_lcmp_ge hx hb rfl (show (0 : Int64).toInt = 0 by decide) dX7_ratioPart_6 dX7_ratioPart_7 (tgt := 19) (by decide) (fun c6 => ?_) (fun c6 => ?_)
  · refine lv_aload_n hx hb dX7_ratioPart_19 rfl (lv_at hl 0 rfl) ?_
    refine lv_iconst (v := nI 1) hx hb dX7_ratioPart_20 (by decide) ?_
    refine va_calll (va_runV (As := [.int (nI 1)]) (rest := []) ⟨hx, hb, hml, hown, hts⟩ (c_X7_lower l D K mm ta sl ss be ch th M rq cq pv so st gs gm gu gl aw kv 1 H.size (by omega) (by decide) hpv9 hb19 hb29) (cwV 1 hts (TB_V k_m_X7_134 k_im_X7_lower k_se_X7_lower k_in_X7 k_co_X7_lower (fun _ h => h)) rfl rfl rfl (by decide +kernel) ⟨Nat.le_of_ble_eq_true rfl, Nat.le_of_ble_eq_true rfl⟩) ⟨cP_blind, va_recv hK hP (ci := 7) (q0 := 0) rfl rfl, cP_of hP hK hD0⟩ rfl rfl hl.1 rfl (lv_room (Nat.le_of_ble_eq_true rfl)) dX7_ratioPart_21 ⟨Nat.le_of_ble_eq_true rfl, Nat.le_of_ble_eq_true rfl⟩) hS (fun q _ h => absurd h id) (fun q h => absurd h id) (fun lo21 u9 t9 H locs ht9 hvm hw hB hz1 hk1 hS => ?_)
    have hP := P_same hP hk1
    have hlo21 := hw
    refine lv_lstore_n (lv' := [(2, .long lo21), (0, .ref (mm 0)), (1, .int (nI pt))]) hx hb dX7_ratioPart_24 rfl hl (by decide) rfl (fun ls hl => ?_)
    refine lv_aload_n hx hb dX7_ratioPart_25 rfl (lv_at hl 1 rfl) ?_
    refine lv_iconst (v := nI 1) hx hb dX7_ratioPart_26 (by decide) ?_
    refine va_calll (va_runV (As := [.int (nI 1)]) (rest := []) ⟨hx, hb, hml, hown, hts⟩ (c_X7_upper l D K mm ta sl ss be ch th M rq cq pv so st gs gm gu gl aw kv 1 H.size (by omega) (by decide) hpv9 hb19 hb29) (cwV 1 hts (TB_V k_m_X7_123 k_im_X7_upper k_se_X7_upper k_in_X7 k_co_X7_upper (fun _ h => h)) rfl rfl rfl (by decide +kernel) ⟨Nat.le_of_ble_eq_true rfl, Nat.le_of_ble_eq_true rfl⟩) ⟨cP_blind, va_recv hK hP (ci := 7) (q0 := 0) rfl rfl, cP_of hP hK hD0⟩ rfl rfl hl.1 rfl (lv_room (Nat.le_of_ble_eq_true rfl)) dX7_ratioPart_27 ⟨Nat.le_of_ble_eq_true rfl, Nat.le_of_ble_eq_true rfl⟩) hS (fun q _ h => absurd h id) (fun q h => absurd h id) (fun up27 u9 t9 H locs ht9 hvm hw hB hz1 hk1 hS => ?_)
    have hP := P_same hP hk1
    have hup27 : up27.toInt = U := by rw [hw, hU]
    refine lv_lconst (v := 0) hx hb dX7_ratioPart_30 (by decide) ?_
    refine b_lcmp_ge hx hb rfl (show (0 : Int64).toInt = 0 by decide) dX7_ratioPart_31 dX7_ratioPart_32 (tgt := 44) (by decide) (fun c31 => ?_) (fun c31 => ?_)
    · refine lv_aload_n hx hb dX7_ratioPart_44 rfl (lv_at hl 1 rfl) ?_
      refine lv_iconst (v := nI 1) hx hb dX7_ratioPart_45 (by decide) ?_
      refine va_calll (va_runV (As := [.int (nI 1)]) (rest := []) ⟨hx, hb, hml, hown, hts⟩ (c_X7_upper l D K mm ta sl ss be ch th M rq cq pv so st gs gm gu gl aw kv 1 H.size (by omega) (by decide) hpv9 hb19 hb29) (cwV 1 hts (TB_V k_m_X7_123 k_im_X7_upper k_se_X7_upper k_in_X7 k_co_X7_upper (fun _ h => h)) rfl rfl rfl (by decide +kernel) ⟨Nat.le_of_ble_eq_true rfl, Nat.le_of_ble_eq_true rfl⟩) ⟨cP_blind, va_recv hK hP (ci := 7) (q0 := 0) rfl rfl, cP_of hP hK hD0⟩ rfl rfl hl.1 rfl (lv_room (Nat.le_of_ble_eq_true rfl)) dX7_ratioPart_46 ⟨Nat.le_of_ble_eq_true rfl, Nat.le_of_ble_eq_true rfl⟩) hS (fun q _ h => absurd h id) (fun q h => absurd h id) (fun up46 u9 t9 H locs ht9 hvm hw hB hz1 hk1 hS => ?_)
      have hP := P_same hP hk1
      have hup46 : up46.toInt = U := by rw [hw, hU]
      refine lv_lstore (lv' := [(4, .long up46), (2, .long lo21), (0, .ref (mm 0)), (1, .int (nI pt))]) hx hb dX7_ratioPart_49 hl (by decide) rfl (fun ls hl => ?_)
      refine lv_lload_n hx hb dX7_ratioPart_51 rfl (lv_at hl 1 rfl) ?_
      refine lv_lload hx hb dX7_ratioPart_52 (lv_at hl 0 rfl) ?_
      refine lv_iload_n hx hb dX7_ratioPart_54 rfl (lv_at hl 3 rfl) ?_
      have hX : (lo21).toInt = if U < 0 then -((M kv 1).toInt.natAbs : Int) else ((M kv 1).toInt.natAbs : Int) := by
        rw [if_neg (by omega)]; omega
      have hY : (up46).toInt = (U.natAbs : Int) := by
        omega
      have hXb : (lo21).toInt.natAbs ≤ BB := by rw [hX]; split <;> omega
      refine va_calll (va_runS (As := [.long lo21, .long up46, .int (nI pt)]) (rest := []) ⟨hx, hb, hml, hown, hts⟩ (c_X7_part l (lo21) (up46) pt hpt hXb (by rw [hY]; omega) (by rw [hY]; omega)) (va_cwS 3 hts (TB_S k_m_X7_137 k_st_X7_part k_in_X7 k_co_X7_part (fun _ h => h)) rfl rfl rfl (by decide +kernel) ⟨Nat.le_of_ble_eq_true rfl, Nat.le_of_ble_eq_true rfl⟩) ⟨tP_blind, tP_of⟩ rfl rfl hl.1 rfl (lv_room (Nat.le_of_ble_eq_true rfl)) dX7_ratioPart_55 ⟨Nat.le_of_ble_eq_true rfl, Nat.le_of_ble_eq_true rfl⟩) hS (fun q _ h => absurd h id) (fun q h => absurd h id) (fun rz u9 t9 H locs ht9 hvm hw hB hz1 hk1 hS => ?_)
      have hP := P_same hP hk1
      obtain ⟨hr1, hr2⟩ := ratio_fin hne9 hU hX hY
      have hres : rz.toInt = if pt = 0 then rtN S else rtD S := by rw [hw, hr1, hr2, hvn, hvd]; rfl
      exact W.lret (v := rz) hx hb hr (fun t9 ht9 hW => ⟨⟨rz, (), rfl, hres, trivial⟩, hS.F ht9⟩) hS.2.2 dX7_ratioPart_58
    refine lv_aload_n hx hb dX7_ratioPart_35 rfl (lv_at hl 1 rfl) ?_
    refine lv_iconst (v := nI 1) hx hb dX7_ratioPart_36 (by decide) ?_
    refine va_calll (va_runV (As := [.int (nI 1)]) (rest := []) ⟨hx, hb, hml, hown, hts⟩ (c_X7_upper l D K mm ta sl ss be ch th M rq cq pv so st gs gm gu gl aw kv 1 H.size (by omega) (by decide) hpv9 hb19 hb29) (cwV 1 hts (TB_V k_m_X7_123 k_im_X7_upper k_se_X7_upper k_in_X7 k_co_X7_upper (fun _ h => h)) rfl rfl rfl (by decide +kernel) ⟨Nat.le_of_ble_eq_true rfl, Nat.le_of_ble_eq_true rfl⟩) ⟨cP_blind, va_recv hK hP (ci := 7) (q0 := 0) rfl rfl, cP_of hP hK hD0⟩ rfl rfl hl.1 rfl (lv_room (Nat.le_of_ble_eq_true rfl)) dX7_ratioPart_37 ⟨Nat.le_of_ble_eq_true rfl, Nat.le_of_ble_eq_true rfl⟩) hS (fun q _ h => absurd h id) (fun q h => absurd h id) (fun up37 u9 t9 H locs ht9 hvm hw hB hz1 hk1 hS => ?_)
    have hP := P_same hP hk1
    have hup37 : up37.toInt = U := by rw [hw, hU]
    refine lv_lneg hx hb dX7_ratioPart_40 ?_
    refine lv_goto (tgt := 49) hx hb dX7_ratioPart_41 (by decide) ?_
    refine lv_lstore (lv' := [(4, .long (-up37)), (2, .long lo21), (0, .ref (mm 0)), (1, .int (nI pt))]) hx hb dX7_ratioPart_49 hl (by decide) rfl (fun ls hl => ?_)
    refine lv_lload_n hx hb dX7_ratioPart_51 rfl (lv_at hl 1 rfl) ?_
    refine lv_lload hx hb dX7_ratioPart_52 (lv_at hl 0 rfl) ?_
    refine lv_iload_n hx hb dX7_ratioPart_54 rfl (lv_at hl 3 rfl) ?_
    have hX : (lo21).toInt = if U < 0 then -((M kv 1).toInt.natAbs : Int) else ((M kv 1).toInt.natAbs : Int) := by
      rw [if_neg (by omega)]; omega
    have hY : (-up37).toInt = (U.natAbs : Int) := by
      rw [L_neg (by omega)]; omega
    have hXb : (lo21).toInt.natAbs ≤ BB := by rw [hX]; split <;> omega
    refine va_calll (va_runS (As := [.long lo21, .long (-up37), .int (nI pt)]) (rest := []) ⟨hx, hb, hml, hown, hts⟩ (c_X7_part l (lo21) (-up37) pt hpt hXb (by rw [hY]; omega) (by rw [hY]; omega)) (va_cwS 3 hts (TB_S k_m_X7_137 k_st_X7_part k_in_X7 k_co_X7_part (fun _ h => h)) rfl rfl rfl (by decide +kernel) ⟨Nat.le_of_ble_eq_true rfl, Nat.le_of_ble_eq_true rfl⟩) ⟨tP_blind, tP_of⟩ rfl rfl hl.1 rfl (lv_room (Nat.le_of_ble_eq_true rfl)) dX7_ratioPart_55 ⟨Nat.le_of_ble_eq_true rfl, Nat.le_of_ble_eq_true rfl⟩) hS (fun q _ h => absurd h id) (fun q h => absurd h id) (fun rz u9 t9 H locs ht9 hvm hw hB hz1 hk1 hS => ?_)
    have hP := P_same hP hk1
    obtain ⟨hr1, hr2⟩ := ratio_fin hne9 hU hX hY
    have hres : rz.toInt = if pt = 0 then rtN S else rtD S := by rw [hw, hr1, hr2, hvn, hvd]; rfl
    exact W.lret (v := rz) hx hb hr (fun t9 ht9 hW => ⟨⟨rz, (), rfl, hres, trivial⟩, hS.F ht9⟩) hS.2.2 dX7_ratioPart_58
  refine lv_aload_n hx hb dX7_ratioPart_10 rfl (lv_at hl 0 rfl) ?_
  refine lv_iconst (v := nI 1) hx hb dX7_ratioPart_11 (by decide) ?_
  refine va_calll (va_runV (As := [.int (nI 1)]) (rest := []) ⟨hx, hb, hml, hown, hts⟩ (c_X7_lower l D K mm ta sl ss be ch th M rq cq pv so st gs gm gu gl aw kv 1 H.size (by omega) (by decide) hpv9 hb19 hb29) (cwV 1 hts (TB_V k_m_X7_134 k_im_X7_lower k_se_X7_lower k_in_X7 k_co_X7_lower (fun _ h => h)) rfl rfl rfl (by decide +kernel) ⟨Nat.le_of_ble_eq_true rfl, Nat.le_of_ble_eq_true rfl⟩) ⟨cP_blind, va_recv hK hP (ci := 7) (q0 := 0) rfl rfl, cP_of hP hK hD0⟩ rfl rfl hl.1 rfl (lv_room (Nat.le_of_ble_eq_true rfl)) dX7_ratioPart_12 ⟨Nat.le_of_ble_eq_true rfl, Nat.le_of_ble_eq_true rfl⟩) hS (fun q _ h => absurd h id) (fun q h => absurd h id) (fun lo12 u9 t9 H locs ht9 hvm hw hB hz1 hk1 hS => ?_)
  have hP := P_same hP hk1
  have hlo12 := hw
  refine lv_lneg hx hb dX7_ratioPart_15 ?_
  refine lv_goto (tgt := 24) hx hb dX7_ratioPart_16 (by decide) ?_
  refine lv_lstore_n (lv' := [(2, .long (-lo12)), (0, .ref (mm 0)), (1, .int (nI pt))]) hx hb dX7_ratioPart_24 rfl hl (by decide) rfl (fun ls hl => ?_)
  refine lv_aload_n hx hb dX7_ratioPart_25 rfl (lv_at hl 1 rfl) ?_
  refine lv_iconst (v := nI 1) hx hb dX7_ratioPart_26 (by decide) ?_
  refine va_calll (va_runV (As := [.int (nI 1)]) (rest := []) ⟨hx, hb, hml, hown, hts⟩ (c_X7_upper l D K mm ta sl ss be ch th M rq cq pv so st gs gm gu gl aw kv 1 H.size (by omega) (by decide) hpv9 hb19 hb29) (cwV 1 hts (TB_V k_m_X7_123 k_im_X7_upper k_se_X7_upper k_in_X7 k_co_X7_upper (fun _ h => h)) rfl rfl rfl (by decide +kernel) ⟨Nat.le_of_ble_eq_true rfl, Nat.le_of_ble_eq_true rfl⟩) ⟨cP_blind, va_recv hK hP (ci := 7) (q0 := 0) rfl rfl, cP_of hP hK hD0⟩ rfl rfl hl.1 rfl (lv_room (Nat.le_of_ble_eq_true rfl)) dX7_ratioPart_27 ⟨Nat.le_of_ble_eq_true rfl, Nat.le_of_ble_eq_true rfl⟩) hS (fun q _ h => absurd h id) (fun q h => absurd h id) (fun up27 u9 t9 H locs ht9 hvm hw hB hz1 hk1 hS => ?_)
  have hP := P_same hP hk1
  have hup27 : up27.toInt = U := by rw [hw, hU]
  refine lv_lconst (v := 0) hx hb dX7_ratioPart_30 (by decide) ?_
  refine b_lcmp_ge hx hb rfl (show (0 : Int64).toInt = 0 by decide) dX7_ratioPart_31 dX7_ratioPart_32 (tgt := 44) (by decide) (fun c31 => ?_) (fun c31 => ?_)
  · refine lv_aload_n hx hb dX7_ratioPart_44 rfl (lv_at hl 1 rfl) ?_
    refine lv_iconst (v := nI 1) hx hb dX7_ratioPart_45 (by decide) ?_
    refine va_calll (va_runV (As := [.int (nI 1)]) (rest := []) ⟨hx, hb, hml, hown, hts⟩ (c_X7_upper l D K mm ta sl ss be ch th M rq cq pv so st gs gm gu gl aw kv 1 H.size (by omega) (by decide) hpv9 hb19 hb29) (cwV 1 hts (TB_V k_m_X7_123 k_im_X7_upper k_se_X7_upper k_in_X7 k_co_X7_upper (fun _ h => h)) rfl rfl rfl (by decide +kernel) ⟨Nat.le_of_ble_eq_true rfl, Nat.le_of_ble_eq_true rfl⟩) ⟨cP_blind, va_recv hK hP (ci := 7) (q0 := 0) rfl rfl, cP_of hP hK hD0⟩ rfl rfl hl.1 rfl (lv_room (Nat.le_of_ble_eq_true rfl)) dX7_ratioPart_46 ⟨Nat.le_of_ble_eq_true rfl, Nat.le_of_ble_eq_true rfl⟩) hS (fun q _ h => absurd h id) (fun q h => absurd h id) (fun up46 u9 t9 H locs ht9 hvm hw hB hz1 hk1 hS => ?_)
    have hP := P_same hP hk1
    have hup46 : up46.toInt = U := by rw [hw, hU]
    refine lv_lstore (lv' := [(4, .long up46), (2, .long (-lo12)), (0, .ref (mm 0)), (1, .int (nI pt))]) hx hb dX7_ratioPart_49 hl (by decide) rfl (fun ls hl => ?_)
    refine lv_lload_n hx hb dX7_ratioPart_51 rfl (lv_at hl 1 rfl) ?_
    refine lv_lload hx hb dX7_ratioPart_52 (lv_at hl 0 rfl) ?_
    refine lv_iload_n hx hb dX7_ratioPart_54 rfl (lv_at hl 3 rfl) ?_
    have hX : (-lo12).toInt = if U < 0 then -((M kv 1).toInt.natAbs : Int) else ((M kv 1).toInt.natAbs : Int) := by
      rw [if_pos (by omega), L_neg (by omega)]; omega
    have hY : (up46).toInt = (U.natAbs : Int) := by
      omega
    have hXb : (-lo12).toInt.natAbs ≤ BB := by rw [hX]; split <;> omega
    refine va_calll (va_runS (As := [.long (-lo12), .long up46, .int (nI pt)]) (rest := []) ⟨hx, hb, hml, hown, hts⟩ (c_X7_part l (-lo12) (up46) pt hpt hXb (by rw [hY]; omega) (by rw [hY]; omega)) (va_cwS 3 hts (TB_S k_m_X7_137 k_st_X7_part k_in_X7 k_co_X7_part (fun _ h => h)) rfl rfl rfl (by decide +kernel) ⟨Nat.le_of_ble_eq_true rfl, Nat.le_of_ble_eq_true rfl⟩) ⟨tP_blind, tP_of⟩ rfl rfl hl.1 rfl (lv_room (Nat.le_of_ble_eq_true rfl)) dX7_ratioPart_55 ⟨Nat.le_of_ble_eq_true rfl, Nat.le_of_ble_eq_true rfl⟩) hS (fun q _ h => absurd h id) (fun q h => absurd h id) (fun rz u9 t9 H locs ht9 hvm hw hB hz1 hk1 hS => ?_)
    have hP := P_same hP hk1
    obtain ⟨hr1, hr2⟩ := ratio_fin hne9 hU hX hY
    have hres : rz.toInt = if pt = 0 then rtN S else rtD S := by rw [hw, hr1, hr2, hvn, hvd]; rfl
    exact W.lret (v := rz) hx hb hr (fun t9 ht9 hW => ⟨⟨rz, (), rfl, hres, trivial⟩, hS.F ht9⟩) hS.2.2 dX7_ratioPart_58
  refine lv_aload_n hx hb dX7_ratioPart_35 rfl (lv_at hl 1 rfl) ?_
  refine lv_iconst (v := nI 1) hx hb dX7_ratioPart_36 (by decide) ?_
  refine va_calll (va_runV (As := [.int (nI 1)]) (rest := []) ⟨hx, hb, hml, hown, hts⟩ (c_X7_upper l D K mm ta sl ss be ch th M rq cq pv so st gs gm gu gl aw kv 1 H.size (by omega) (by decide) hpv9 hb19 hb29) (cwV 1 hts (TB_V k_m_X7_123 k_im_X7_upper k_se_X7_upper k_in_X7 k_co_X7_upper (fun _ h => h)) rfl rfl rfl (by decide +kernel) ⟨Nat.le_of_ble_eq_true rfl, Nat.le_of_ble_eq_true rfl⟩) ⟨cP_blind, va_recv hK hP (ci := 7) (q0 := 0) rfl rfl, cP_of hP hK hD0⟩ rfl rfl hl.1 rfl (lv_room (Nat.le_of_ble_eq_true rfl)) dX7_ratioPart_37 ⟨Nat.le_of_ble_eq_true rfl, Nat.le_of_ble_eq_true rfl⟩) hS (fun q _ h => absurd h id) (fun q h => absurd h id) (fun up37 u9 t9 H locs ht9 hvm hw hB hz1 hk1 hS => ?_)
  have hP := P_same hP hk1
  have hup37 : up37.toInt = U := by rw [hw, hU]
  refine lv_lneg hx hb dX7_ratioPart_40 ?_
  refine lv_goto (tgt := 49) hx hb dX7_ratioPart_41 (by decide) ?_
  refine lv_lstore (lv' := [(4, .long (-up37)), (2, .long (-lo12)), (0, .ref (mm 0)), (1, .int (nI pt))]) hx hb dX7_ratioPart_49 hl (by decide) rfl (fun ls hl => ?_)
  refine lv_lload_n hx hb dX7_ratioPart_51 rfl (lv_at hl 1 rfl) ?_
  refine lv_lload hx hb dX7_ratioPart_52 (lv_at hl 0 rfl) ?_
  refine lv_iload_n hx hb dX7_ratioPart_54 rfl (lv_at hl 3 rfl) ?_
  have hX : (-lo12).toInt = if U < 0 then -((M kv 1).toInt.natAbs : Int) else ((M kv 1).toInt.natAbs : Int) := by
    rw [if_pos (by omega), L_neg (by omega)]; omega
  have hY : (-up37).toInt = (U.natAbs : Int) := by
    rw [L_neg (by omega)]; omega
  have hXb : (-lo12).toInt.natAbs ≤ BB := by rw [hX]; split <;> omega
  refine va_calll (va_runS (As := [.long (-lo12), .long (-up37), .int (nI pt)]) (rest := []) ⟨hx, hb, hml, hown, hts⟩ (c_X7_part l (-lo12) (-up37) pt hpt hXb (by rw [hY]; omega) (by rw [hY]; omega)) (va_cwS 3 hts (TB_S k_m_X7_137 k_st_X7_part k_in_X7 k_co_X7_part (fun _ h => h)) rfl rfl rfl (by decide +kernel) ⟨Nat.le_of_ble_eq_true rfl, Nat.le_of_ble_eq_true rfl⟩) ⟨tP_blind, tP_of⟩ rfl rfl hl.1 rfl (lv_room (Nat.le_of_ble_eq_true rfl)) dX7_ratioPart_55 ⟨Nat.le_of_ble_eq_true rfl, Nat.le_of_ble_eq_true rfl⟩) hS (fun q _ h => absurd h id) (fun q h => absurd h id) (fun rz u9 t9 H locs ht9 hvm hw hB hz1 hk1 hS => ?_)
  have hP := P_same hP hk1
  obtain ⟨hr1, hr2⟩ := ratio_fin hne9 hU hX hY
  have hres : rz.toInt = if pt = 0 then rtN S else rtD S := by rw [hw, hr1, hr2, hvn, hvd]; rfl
  exact W.lret (v := rz) hx hb hr (fun t9 ht9 hW => ⟨⟨rz, (), rfl, hres, trivial⟩, hS.F ht9⟩) hS.2.2 dX7_ratioPart_58
