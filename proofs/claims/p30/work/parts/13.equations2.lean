set_option maxHeartbeats 4000000 in
set_option maxRecDepth 100000 in
theorem c_X1_commonFactor (l : Launch) (x y : Int64) (hx0 : -9223372036854775808 < x.toInt) (hy0 : -9223372036854775808 < y.toInt) : Met l yX1_commonFactor (.code yX1_commonFactor cX1_commonFactor 11 (some .long) :: TB) ({ frames := 0, cells := 0, slots := 0, locals := 0 } : Room) (va_Pc [.long x, .long y] (fun _ => True)) (va_Ql (fun (q : Int64) (_ : Unit) => q = lN (Nat.gcd x.toInt.natAbs y.toInt.natAbs)) (fun _ _ => True) (fun _ => False)) 0 0 (fun _ => False) := by
  refine Met.ofW (cc := cX1_commonFactor) (maxL := 11) (ret := (some .long)) (by decide) rfl ?_
  intro p e s m args below meth c s₁ B hml hv
  obtain ⟨rfl, -⟩ := hv
  have hx := B.exec
  have hb := B.bytes
  have hr := B.returns
  have hts := hts_tl (atoms_spec (ws := (.code yX1_commonFactor cX1_commonFactor 11 (some .long) :: TB)) B.pre)
  have hown : s.vm.findClass RX1 = some m.cls := findClass_of_methodNamed B.named
  have hlocks := B.notSynchronized
  have hA : ∀ q : Nat, q < s.heap.size → (fun _ : Nat => False) q → False := fun _ _ h => h
  have hS : va_S (fun _ => False) s.heap s.heap [] := va_S.rf
  have hl := lv_entry ([.long x, .long y]) (n := 11) (Nat.le_of_ble_eq_true rfl)
  rw [lg_entry_eq]
  generalize (lg_sl ([.long x, .long y]) ++ List.replicate (11 - (lg_sl ([.long x, .long y])).length) Slot.unset).toArray = ls at hl ⊢
  have hl : lv_has ls 11 [(0, .long x), (2, .long y)] := hl
  have hxb : x.toInt.natAbs < 9223372036854775808 := by have := Int64.toInt_lt x; omega
  have hyb : y.toInt.natAbs < 9223372036854775808 := by have := Int64.toInt_lt y; omega
  refine lv_lload_n hx hb dX1_commonFactor_0 rfl (lv_at hl 0 rfl) ?_
  refine lv_lconst (v := 0) hx hb dX1_commonFactor_1 (by decide) ?_
  refine b_lcmp_ge hx hb rfl (show (0 : Int64).toInt = 0 by decide) dX1_commonFactor_2 dX1_commonFactor_3 (tgt := 11) (by decide) (fun c2 => ?_) (fun c2 => ?_)
  · refine lv_lload_n hx hb dX1_commonFactor_11 rfl (lv_at hl 0 rfl) ?_
    refine t_l (L_pos c2) ?_
    refine lv_lstore (lv' := [(4, .long (lN x.toInt.natAbs)), (0, .long x), (2, .long y)]) hx hb dX1_commonFactor_12 hl (by decide) rfl (fun ls hl => ?_)
    refine lv_lload_n hx hb dX1_commonFactor_14 rfl (lv_at hl 2 rfl) ?_
    refine lv_lconst (v := 0) hx hb dX1_commonFactor_15 (by decide) ?_
    refine b_lcmp_ge hx hb rfl (show (0 : Int64).toInt = 0 by decide) dX1_commonFactor_16 dX1_commonFactor_17 (tgt := 25) (by decide) (fun c16 => ?_) (fun c16 => ?_)
    · refine lv_lload_n hx hb dX1_commonFactor_25 rfl (lv_at hl 2 rfl) ?_
      refine t_l (L_pos c16) ?_
      refine lv_lstore (lv' := [(6, .long (lN y.toInt.natAbs)), (4, .long (lN x.toInt.natAbs)), (0, .long x), (2, .long y)]) hx hb dX1_commonFactor_26 hl (by decide) rfl (fun ls hl => ?_)
      refine lv_iconst (v := nI 0) hx hb dX1_commonFactor_28 (by decide) ?_
      refine lv_istore (lv' := [(8, .int (nI 0)), (6, .long (lN y.toInt.natAbs)), (4, .long (lN x.toInt.natAbs)), (0, .long x), (2, .long y)]) hx hb dX1_commonFactor_29 hl (by decide) rfl (fun ls hl => ?_)
      have L31 : ∀ (fuel : Nat) (i : Nat) (X : Nat) (Y : Nat) (ls : Array Slot), 100 - i < fuel → (i ≤ 100) → (X < 9223372036854775808) → (Y < 9223372036854775808) → (Nat.gcd X Y = Nat.gcd x.toInt.natAbs y.toInt.natAbs) → (euc (100 - i) X Y) → lv_has ls 11 [(8, .int (nI i)), (6, .long (lN Y)), (4, .long (lN X))] → W p l e ({ frames := 0, cells := 0, slots := 0, locals := 0 } : Room) s m [.long x, .long y].toArray below meth c s.heap [] 0 0 (MQ below (va_Ql (fun (q : Int64) (_ : Unit) => q = lN (Nat.gcd x.toInt.natAbs y.toInt.natAbs)) (fun _ _ => True) (fun _ => False)) [.long x, .long y].toArray s 0 0 (fun _ => False)) (F0 m 31 ls []) := by
        intro fuel
        induction fuel with
        | zero =>
          intro i X Y ls hfu
          exact absurd hfu (Nat.not_lt_zero _)
        | succ fuel ih31 =>
          intro i X Y ls hfu hi hX hY hg he hl
          refine lv_iload hx hb dX1_commonFactor_31 (lv_at hl 0 rfl) ?_
          refine lv_bipush (v := nI 100) hx hb dX1_commonFactor_33 (by decide) ?_
          refine b_icmp_ge hx hb (nI_toIntI (by omega)) (nI_toIntI (by omega)) dX1_commonFactor_35 (tgt := 66) (by decide) (fun c35 => ?_) (fun c35 => ?_)
          · refine lv_lload hx hb dX1_commonFactor_66 (lv_at hl 2 rfl) ?_
            have hY0 : Y = 0 := by
              first
              | (have c41 : (lN Y).toInt = 0 := c41; rw [lN_toI hY] at c41; omega)
              | (have q0 : 100 - i = 0 := (by omega); rw [q0] at he; exact he)
            exact W.lret (v := lN X) hx hb hr (fun t9 ht9 hW => ⟨⟨lN X, (), rfl, by rw [← hg, hY0]; exact congrArg lN (Nat.gcd_zero_right X).symm, trivial⟩, hS.F ht9⟩) hS.2.2 dX1_commonFactor_68
          refine lv_lload hx hb dX1_commonFactor_38 (lv_at hl 1 rfl) ?_
          refine lv_lconst (v := 0) hx hb dX1_commonFactor_40 (by decide) ?_
          refine b_lcmp_eq hx hb rfl (show (0 : Int64).toInt = 0 by decide) dX1_commonFactor_41 dX1_commonFactor_42 (tgt := 66) (by decide) (fun c41 => ?_) (fun c41 => ?_)
          · refine lv_lload hx hb dX1_commonFactor_66 (lv_at hl 2 rfl) ?_
            have hY0 : Y = 0 := by
              first
              | (have c41 : (lN Y).toInt = 0 := c41; rw [lN_toI hY] at c41; omega)
              | (have q0 : 100 - i = 0 := (by omega); rw [q0] at he; exact he)
            exact W.lret (v := lN X) hx hb hr (fun t9 ht9 hW => ⟨⟨lN X, (), rfl, by rw [← hg, hY0]; exact congrArg lN (Nat.gcd_zero_right X).symm, trivial⟩, hS.F ht9⟩) hS.2.2 dX1_commonFactor_68
          refine lv_lload hx hb dX1_commonFactor_45 (lv_at hl 2 rfl) ?_
          refine lv_lload hx hb dX1_commonFactor_47 (lv_at hl 1 rfl) ?_
          refine lv_lrem hx hb dX1_commonFactor_49 (fun q => c41 (by rw [q]; decide)) ?_
          have hYp : 0 < Y := by
            rcases Nat.eq_zero_or_pos Y with q | q
            · exact absurd (by rw [q]; decide) c41
            · exact q
          refine t_l (pk_lRem hX hYp hY) ?_
          refine lv_lstore (lv' := [(9, .long (lN (X % Y))), (8, .int (nI i)), (6, .long (lN Y)), (4, .long (lN X))]) hx hb dX1_commonFactor_50 hl (by decide) rfl (fun ls hl => ?_)
          refine lv_lload hx hb dX1_commonFactor_52 (lv_at hl 2 rfl) ?_
          refine lv_lstore (lv' := [(4, .long (lN Y)), (9, .long (lN (X % Y))), (8, .int (nI i)), (6, .long (lN Y))]) hx hb dX1_commonFactor_54 hl (by decide) rfl (fun ls hl => ?_)
          refine lv_lload hx hb dX1_commonFactor_56 (lv_at hl 1 rfl) ?_
          refine lv_lstore (lv' := [(6, .long (lN (X % Y))), (4, .long (lN Y)), (9, .long (lN (X % Y))), (8, .int (nI i))]) hx hb dX1_commonFactor_58 hl (by decide) rfl (fun ls hl => ?_)
          refine lv_iinc (v := nI (i + 1)) (lv' := [(8, .int (nI (i + 1))), (6, .long (lN (X % Y))), (4, .long (lN Y)), (9, .long (lN (X % Y)))]) hx hb dX1_commonFactor_60 hl (k := 3) rfl (nI_add i 1) (by decide) rfl (fun ls hl => ?_)
          refine lv_goto (tgt := 31) hx hb dX1_commonFactor_63 (by decide) ?_
          have he2 : euc (100 - (i + 1)) Y (X % Y) := by
            have e1 : 100 - i = (100 - (i + 1)) + 1 := by omega
            rw [e1] at he
            rcases he with q | q
            · omega
            · exact q
          have hm := Nat.mod_lt X hYp
          exact ih31 (i + 1) Y (X % Y) _ (by omega) (by omega) hY (by omega) ((gcd_step X Y).trans hg) he2 (lv_sub hl [0, 1, 2] rfl)
      exact L31 _ 0 x.toInt.natAbs y.toInt.natAbs _ (Nat.lt_succ_self _) (by omega) hxb hyb rfl (euc_100 hxb hyb) (lv_sub hl [0, 1, 2] rfl)
    refine lv_lload_n hx hb dX1_commonFactor_20 rfl (lv_at hl 2 rfl) ?_
    refine lv_lneg hx hb dX1_commonFactor_21 ?_
    refine lv_goto (tgt := 26) hx hb dX1_commonFactor_22 (by decide) ?_
    refine t_l (L_negA c16 hy0) ?_
    refine lv_lstore (lv' := [(6, .long (lN y.toInt.natAbs)), (4, .long (lN x.toInt.natAbs)), (0, .long x), (2, .long y)]) hx hb dX1_commonFactor_26 hl (by decide) rfl (fun ls hl => ?_)
    refine lv_iconst (v := nI 0) hx hb dX1_commonFactor_28 (by decide) ?_
    refine lv_istore (lv' := [(8, .int (nI 0)), (6, .long (lN y.toInt.natAbs)), (4, .long (lN x.toInt.natAbs)), (0, .long x), (2, .long y)]) hx hb dX1_commonFactor_29 hl (by decide) rfl (fun ls hl => ?_)
    have L31 : ∀ (fuel : Nat) (i : Nat) (X : Nat) (Y : Nat) (ls : Array Slot), 100 - i < fuel → (i ≤ 100) → (X < 9223372036854775808) → (Y < 9223372036854775808) → (Nat.gcd X Y = Nat.gcd x.toInt.natAbs y.toInt.natAbs) → (euc (100 - i) X Y) → lv_has ls 11 [(8, .int (nI i)), (6, .long (lN Y)), (4, .long (lN X))] → W p l e ({ frames := 0, cells := 0, slots := 0, locals := 0 } : Room) s m [.long x, .long y].toArray below meth c s.heap [] 0 0 (MQ below (va_Ql (fun (q : Int64) (_ : Unit) => q = lN (Nat.gcd x.toInt.natAbs y.toInt.natAbs)) (fun _ _ => True) (fun _ => False)) [.long x, .long y].toArray s 0 0 (fun _ => False)) (F0 m 31 ls []) := by
      intro fuel
      induction fuel with
      | zero =>
        intro i X Y ls hfu
        exact absurd hfu (Nat.not_lt_zero _)
      | succ fuel ih31 =>
        intro i X Y ls hfu hi hX hY hg he hl
        refine lv_iload hx hb dX1_commonFactor_31 (lv_at hl 0 rfl) ?_
        refine lv_bipush (v := nI 100) hx hb dX1_commonFactor_33 (by decide) ?_
        refine b_icmp_ge hx hb (nI_toIntI (by omega)) (nI_toIntI (by omega)) dX1_commonFactor_35 (tgt := 66) (by decide) (fun c35 => ?_) (fun c35 => ?_)
        · refine lv_lload hx hb dX1_commonFactor_66 (lv_at hl 2 rfl) ?_
          have hY0 : Y = 0 := by
            first
            | (have c41 : (lN Y).toInt = 0 := c41; rw [lN_toI hY] at c41; omega)
            | (have q0 : 100 - i = 0 := (by omega); rw [q0] at he; exact he)
          exact W.lret (v := lN X) hx hb hr (fun t9 ht9 hW => ⟨⟨lN X, (), rfl, by rw [← hg, hY0]; exact congrArg lN (Nat.gcd_zero_right X).symm, trivial⟩, hS.F ht9⟩) hS.2.2 dX1_commonFactor_68
        refine lv_lload hx hb dX1_commonFactor_38 (lv_at hl 1 rfl) ?_
        refine lv_lconst (v := 0) hx hb dX1_commonFactor_40 (by decide) ?_
        refine b_lcmp_eq hx hb rfl (show (0 : Int64).toInt = 0 by decide) dX1_commonFactor_41 dX1_commonFactor_42 (tgt := 66) (by decide) (fun c41 => ?_) (fun c41 => ?_)
        · refine lv_lload hx hb dX1_commonFactor_66 (lv_at hl 2 rfl) ?_
          have hY0 : Y = 0 := by
            first
            | (have c41 : (lN Y).toInt = 0 := c41; rw [lN_toI hY] at c41; omega)
            | (have q0 : 100 - i = 0 := (by omega); rw [q0] at he; exact he)
          exact W.lret (v := lN X) hx hb hr (fun t9 ht9 hW => ⟨⟨lN X, (), rfl, by rw [← hg, hY0]; exact congrArg lN (Nat.gcd_zero_right X).symm, trivial⟩, hS.F ht9⟩) hS.2.2 dX1_commonFactor_68
        refine lv_lload hx hb dX1_commonFactor_45 (lv_at hl 2 rfl) ?_
        refine lv_lload hx hb dX1_commonFactor_47 (lv_at hl 1 rfl) ?_
        refine lv_lrem hx hb dX1_commonFactor_49 (fun q => c41 (by rw [q]; decide)) ?_
        have hYp : 0 < Y := by
          rcases Nat.eq_zero_or_pos Y with q | q
          · exact absurd (by rw [q]; decide) c41
          · exact q
        refine t_l (pk_lRem hX hYp hY) ?_
        refine lv_lstore (lv' := [(9, .long (lN (X % Y))), (8, .int (nI i)), (6, .long (lN Y)), (4, .long (lN X))]) hx hb dX1_commonFactor_50 hl (by decide) rfl (fun ls hl => ?_)
        refine lv_lload hx hb dX1_commonFactor_52 (lv_at hl 2 rfl) ?_
        refine lv_lstore (lv' := [(4, .long (lN Y)), (9, .long (lN (X % Y))), (8, .int (nI i)), (6, .long (lN Y))]) hx hb dX1_commonFactor_54 hl (by decide) rfl (fun ls hl => ?_)
        refine lv_lload hx hb dX1_commonFactor_56 (lv_at hl 1 rfl) ?_
        refine lv_lstore (lv' := [(6, .long (lN (X % Y))), (4, .long (lN Y)), (9, .long (lN (X % Y))), (8, .int (nI i))]) hx hb dX1_commonFactor_58 hl (by decide) rfl (fun ls hl => ?_)
        refine lv_iinc (v := nI (i + 1)) (lv' := [(8, .int (nI (i + 1))), (6, .long (lN (X % Y))), (4, .long (lN Y)), (9, .long (lN (X % Y)))]) hx hb dX1_commonFactor_60 hl (k := 3) rfl (nI_add i 1) (by decide) rfl (fun ls hl => ?_)
        refine lv_goto (tgt := 31) hx hb dX1_commonFactor_63 (by decide) ?_
        have he2 : euc (100 - (i + 1)) Y (X % Y) := by
          have e1 : 100 - i = (100 - (i + 1)) + 1 := by omega
          rw [e1] at he
          rcases he with q | q
          · omega
          · exact q
        have hm := Nat.mod_lt X hYp
        exact ih31 (i + 1) Y (X % Y) _ (by omega) (by omega) hY (by omega) ((gcd_step X Y).trans hg) he2 (lv_sub hl [0, 1, 2] rfl)
    exact L31 _ 0 x.toInt.natAbs y.toInt.natAbs _ (Nat.lt_succ_self _) (by omega) hxb hyb rfl (euc_100 hxb hyb) (lv_sub hl [0, 1, 2] rfl)
  refine lv_lload_n hx hb dX1_commonFactor_6 rfl (lv_at hl 0 rfl) ?_
  refine lv_lneg hx hb dX1_commonFactor_7 ?_
  refine lv_goto (tgt := 12) hx hb dX1_commonFactor_8 (by decide) ?_
  refine t_l (L_negA c2 hx0) ?_
  refine lv_lstore (lv' := [(4, .long (lN x.toInt.natAbs)), (0, .long x), (2, .long y)]) hx hb dX1_commonFactor_12 hl (by decide) rfl (fun ls hl => ?_)
  refine lv_lload_n hx hb dX1_commonFactor_14 rfl (lv_at hl 2 rfl) ?_
  refine lv_lconst (v := 0) hx hb dX1_commonFactor_15 (by decide) ?_
  refine b_lcmp_ge hx hb rfl (show (0 : Int64).toInt = 0 by decide) dX1_commonFactor_16 dX1_commonFactor_17 (tgt := 25) (by decide) (fun c16 => ?_) (fun c16 => ?_)
  · refine lv_lload_n hx hb dX1_commonFactor_25 rfl (lv_at hl 2 rfl) ?_
    refine t_l (L_pos c16) ?_
    refine lv_lstore (lv' := [(6, .long (lN y.toInt.natAbs)), (4, .long (lN x.toInt.natAbs)), (0, .long x), (2, .long y)]) hx hb dX1_commonFactor_26 hl (by decide) rfl (fun ls hl => ?_)
    refine lv_iconst (v := nI 0) hx hb dX1_commonFactor_28 (by decide) ?_
    refine lv_istore (lv' := [(8, .int (nI 0)), (6, .long (lN y.toInt.natAbs)), (4, .long (lN x.toInt.natAbs)), (0, .long x), (2, .long y)]) hx hb dX1_commonFactor_29 hl (by decide) rfl (fun ls hl => ?_)
    have L31 : ∀ (fuel : Nat) (i : Nat) (X : Nat) (Y : Nat) (ls : Array Slot), 100 - i < fuel → (i ≤ 100) → (X < 9223372036854775808) → (Y < 9223372036854775808) → (Nat.gcd X Y = Nat.gcd x.toInt.natAbs y.toInt.natAbs) → (euc (100 - i) X Y) → lv_has ls 11 [(8, .int (nI i)), (6, .long (lN Y)), (4, .long (lN X))] → W p l e ({ frames := 0, cells := 0, slots := 0, locals := 0 } : Room) s m [.long x, .long y].toArray below meth c s.heap [] 0 0 (MQ below (va_Ql (fun (q : Int64) (_ : Unit) => q = lN (Nat.gcd x.toInt.natAbs y.toInt.natAbs)) (fun _ _ => True) (fun _ => False)) [.long x, .long y].toArray s 0 0 (fun _ => False)) (F0 m 31 ls []) := by
      intro fuel
      induction fuel with
      | zero =>
        intro i X Y ls hfu
        exact absurd hfu (Nat.not_lt_zero _)
      | succ fuel ih31 =>
        intro i X Y ls hfu hi hX hY hg he hl
        refine lv_iload hx hb dX1_commonFactor_31 (lv_at hl 0 rfl) ?_
        refine lv_bipush (v := nI 100) hx hb dX1_commonFactor_33 (by decide) ?_
        refine b_icmp_ge hx hb (nI_toIntI (by omega)) (nI_toIntI (by omega)) dX1_commonFactor_35 (tgt := 66) (by decide) (fun c35 => ?_) (fun c35 => ?_)
        · refine lv_lload hx hb dX1_commonFactor_66 (lv_at hl 2 rfl) ?_
          have hY0 : Y = 0 := by
            first
            | (have c41 : (lN Y).toInt = 0 := c41; rw [lN_toI hY] at c41; omega)
            | (have q0 : 100 - i = 0 := (by omega); rw [q0] at he; exact he)
          exact W.lret (v := lN X) hx hb hr (fun t9 ht9 hW => ⟨⟨lN X, (), rfl, by rw [← hg, hY0]; exact congrArg lN (Nat.gcd_zero_right X).symm, trivial⟩, hS.F ht9⟩) hS.2.2 dX1_commonFactor_68
        refine lv_lload hx hb dX1_commonFactor_38 (lv_at hl 1 rfl) ?_
        refine lv_lconst (v := 0) hx hb dX1_commonFactor_40 (by decide) ?_
        refine b_lcmp_eq hx hb rfl (show (0 : Int64).toInt = 0 by decide) dX1_commonFactor_41 dX1_commonFactor_42 (tgt := 66) (by decide) (fun c41 => ?_) (fun c41 => ?_)
        · refine lv_lload hx hb dX1_commonFactor_66 (lv_at hl 2 rfl) ?_
          have hY0 : Y = 0 := by
            first
            | (have c41 : (lN Y).toInt = 0 := c41; rw [lN_toI hY] at c41; omega)
            | (have q0 : 100 - i = 0 := (by omega); rw [q0] at he; exact he)
          exact W.lret (v := lN X) hx hb hr (fun t9 ht9 hW => ⟨⟨lN X, (), rfl, by rw [← hg, hY0]; exact congrArg lN (Nat.gcd_zero_right X).symm, trivial⟩, hS.F ht9⟩) hS.2.2 dX1_commonFactor_68
        refine lv_lload hx hb dX1_commonFactor_45 (lv_at hl 2 rfl) ?_
        refine lv_lload hx hb dX1_commonFactor_47 (lv_at hl 1 rfl) ?_
        refine lv_lrem hx hb dX1_commonFactor_49 (fun q => c41 (by rw [q]; decide)) ?_
        have hYp : 0 < Y := by
          rcases Nat.eq_zero_or_pos Y with q | q
          · exact absurd (by rw [q]; decide) c41
          · exact q
        refine t_l (pk_lRem hX hYp hY) ?_
        refine lv_lstore (lv' := [(9, .long (lN (X % Y))), (8, .int (nI i)), (6, .long (lN Y)), (4, .long (lN X))]) hx hb dX1_commonFactor_50 hl (by decide) rfl (fun ls hl => ?_)
        refine lv_lload hx hb dX1_commonFactor_52 (lv_at hl 2 rfl) ?_
        refine lv_lstore (lv' := [(4, .long (lN Y)), (9, .long (lN (X % Y))), (8, .int (nI i)), (6, .long (lN Y))]) hx hb dX1_commonFactor_54 hl (by decide) rfl (fun ls hl => ?_)
        refine lv_lload hx hb dX1_commonFactor_56 (lv_at hl 1 rfl) ?_
        refine lv_lstore (lv' := [(6, .long (lN (X % Y))), (4, .long (lN Y)), (9, .long (lN (X % Y))), (8, .int (nI i))]) hx hb dX1_commonFactor_58 hl (by decide) rfl (fun ls hl => ?_)
        refine lv_iinc (v := nI (i + 1)) (lv' := [(8, .int (nI (i + 1))), (6, .long (lN (X % Y))), (4, .long (lN Y)), (9, .long (lN (X % Y)))]) hx hb dX1_commonFactor_60 hl (k := 3) rfl (nI_add i 1) (by decide) rfl (fun ls hl => ?_)
        refine lv_goto (tgt := 31) hx hb dX1_commonFactor_63 (by decide) ?_
        have he2 : euc (100 - (i + 1)) Y (X % Y) := by
          have e1 : 100 - i = (100 - (i + 1)) + 1 := by omega
          rw [e1] at he
          rcases he with q | q
          · omega
          · exact q
        have hm := Nat.mod_lt X hYp
        exact ih31 (i + 1) Y (X % Y) _ (by omega) (by omega) hY (by omega) ((gcd_step X Y).trans hg) he2 (lv_sub hl [0, 1, 2] rfl)
    exact L31 _ 0 x.toInt.natAbs y.toInt.natAbs _ (Nat.lt_succ_self _) (by omega) hxb hyb rfl (euc_100 hxb hyb) (lv_sub hl [0, 1, 2] rfl)
  refine lv_lload_n hx hb dX1_commonFactor_20 rfl (lv_at hl 2 rfl) ?_
  refine lv_lneg hx hb dX1_commonFactor_21 ?_
  refine lv_goto (tgt := 26) hx hb dX1_commonFactor_22 (by decide) ?_
  refine t_l (L_negA c16 hy0) ?_
  refine lv_lstore (lv' := [(6, .long (lN y.toInt.natAbs)), (4, .long (lN x.toInt.natAbs)), (0, .long x), (2, .long y)]) hx hb dX1_commonFactor_26 hl (by decide) rfl (fun ls hl => ?_)
  refine lv_iconst (v := nI 0) hx hb dX1_commonFactor_28 (by decide) ?_
  refine lv_istore (lv' := [(8, .int (nI 0)), (6, .long (lN y.toInt.natAbs)), (4, .long (lN x.toInt.natAbs)), (0, .long x), (2, .long y)]) hx hb dX1_commonFactor_29 hl (by decide) rfl (fun ls hl => ?_)
  have L31 : ∀ (fuel : Nat) (i : Nat) (X : Nat) (Y : Nat) (ls : Array Slot), 100 - i < fuel → (i ≤ 100) → (X < 9223372036854775808) → (Y < 9223372036854775808) → (Nat.gcd X Y = Nat.gcd x.toInt.natAbs y.toInt.natAbs) → (euc (100 - i) X Y) → lv_has ls 11 [(8, .int (nI i)), (6, .long (lN Y)), (4, .long (lN X))] → W p l e ({ frames := 0, cells := 0, slots := 0, locals := 0 } : Room) s m [.long x, .long y].toArray below meth c s.heap [] 0 0 (MQ below (va_Ql (fun (q : Int64) (_ : Unit) => q = lN (Nat.gcd x.toInt.natAbs y.toInt.natAbs)) (fun _ _ => True) (fun _ => False)) [.long x, .long y].toArray s 0 0 (fun _ => False)) (F0 m 31 ls []) := by
    intro fuel
    induction fuel with
    | zero =>
      intro i X Y ls hfu
      exact absurd hfu (Nat.not_lt_zero _)
    | succ fuel ih31 =>
      intro i X Y ls hfu hi hX hY hg he hl
      refine lv_iload hx hb dX1_commonFactor_31 (lv_at hl 0 rfl) ?_
      refine lv_bipush (v := nI 100) hx hb dX1_commonFactor_33 (by decide) ?_
      refine b_icmp_ge hx hb (nI_toIntI (by omega)) (nI_toIntI (by omega)) dX1_commonFactor_35 (tgt := 66) (by decide) (fun c35 => ?_) (fun c35 => ?_)
      · refine lv_lload hx hb dX1_commonFactor_66 (lv_at hl 2 rfl) ?_
        have hY0 : Y = 0 := by
          first
          | (have c41 : (lN Y).toInt = 0 := c41; rw [lN_toI hY] at c41; omega)
          | (have q0 : 100 - i = 0 := (by omega); rw [q0] at he; exact he)
        exact W.lret (v := lN X) hx hb hr (fun t9 ht9 hW => ⟨⟨lN X, (), rfl, by rw [← hg, hY0]; exact congrArg lN (Nat.gcd_zero_right X).symm, trivial⟩, hS.F ht9⟩) hS.2.2 dX1_commonFactor_68
      refine lv_lload hx hb dX1_commonFactor_38 (lv_at hl 1 rfl) ?_
      refine lv_lconst (v := 0) hx hb dX1_commonFactor_40 (by decide) ?_
      refine b_lcmp_eq hx hb rfl (show (0 : Int64).toInt = 0 by decide) dX1_commonFactor_41 dX1_commonFactor_42 (tgt := 66) (by decide) (fun c41 => ?_) (fun c41 => ?_)
      · refine lv_lload hx hb dX1_commonFactor_66 (lv_at hl 2 rfl) ?_
        have hY0 : Y = 0 := by
          first
          | (have c41 : (lN Y).toInt = 0 := c41; rw [lN_toI hY] at c41; omega)
          | (have q0 : 100 - i = 0 := (by omega); rw [q0] at he; exact he)
        exact W.lret (v := lN X) hx hb hr (fun t9 ht9 hW => ⟨⟨lN X, (), rfl, by rw [← hg, hY0]; exact congrArg lN (Nat.gcd_zero_right X).symm, trivial⟩, hS.F ht9⟩) hS.2.2 dX1_commonFactor_68
      refine lv_lload hx hb dX1_commonFactor_45 (lv_at hl 2 rfl) ?_
      refine lv_lload hx hb dX1_commonFactor_47 (lv_at hl 1 rfl) ?_
      refine lv_lrem hx hb dX1_commonFactor_49 (fun q => c41 (by rw [q]; decide)) ?_
      have hYp : 0 < Y := by
        rcases Nat.eq_zero_or_pos Y with q | q
        · exact absurd (by rw [q]; decide) c41
        · exact q
      refine t_l (pk_lRem hX hYp hY) ?_
      refine lv_lstore (lv' := [(9, .long (lN (X % Y))), (8, .int (nI i)), (6, .long (lN Y)), (4, .long (lN X))]) hx hb dX1_commonFactor_50 hl (by decide) rfl (fun ls hl => ?_)
      refine lv_lload hx hb dX1_commonFactor_52 (lv_at hl 2 rfl) ?_
      refine lv_lstore (lv' := [(4, .long (lN Y)), (9, .long (lN (X % Y))), (8, .int (nI i)), (6, .long (lN Y))]) hx hb dX1_commonFactor_54 hl (by decide) rfl (fun ls hl => ?_)
      refine lv_lload hx hb dX1_commonFactor_56 (lv_at hl 1 rfl) ?_
      refine lv_lstore (lv' := [(6, .long (lN (X % Y))), (4, .long (lN Y)), (9, .long (lN (X % Y))), (8, .int (nI i))]) hx hb dX1_commonFactor_58 hl (by decide) rfl (fun ls hl => ?_)
      refine lv_iinc (v := nI (i + 1)) (lv' := [(8, .int (nI (i + 1))), (6, .long (lN (X % Y))), (4, .long (lN Y)), (9, .long (lN (X % Y)))]) hx hb dX1_commonFactor_60 hl (k := 3) rfl (nI_add i 1) (by decide) rfl (fun ls hl => ?_)
      refine lv_goto (tgt := 31) hx hb dX1_commonFactor_63 (by decide) ?_
      have he2 : euc (100 - (i + 1)) Y (X % Y) := by
        have e1 : 100 - i = (100 - (i + 1)) + 1 := by omega
        rw [e1] at he
        rcases he with q | q
        · omega
        · exact q
      have hm := Nat.mod_lt X hYp
      exact ih31 (i + 1) Y (X % Y) _ (by omega) (by omega) hY (by omega) ((gcd_step X Y).trans hg) he2 (lv_sub hl [0, 1, 2] rfl)
  exact L31 _ 0 x.toInt.natAbs y.toInt.natAbs _ (Nat.lt_succ_self _) (by omega) hxb hyb rfl (euc_100 hxb hyb) (lv_sub hl [0, 1, 2] rfl)
