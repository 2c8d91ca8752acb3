/-! PlanetaryGearboxModel: the elimination -/
/-- what solve leaves -/
def SolvedM (S : (Nat → Int) → Prop) (nr nc : Nat) (V : Nat → Nat → Int64) (pv : Nat → Int32) (so : Int32) : Prop := ∃ (Mo : Nat → Nat → Int) (ps : List (Nat × Nat)), (∀ x, HS Mo nr x ↔ S x) ∧ EInv Mo (tI V) nr ps ∧ FinTo (tI V) nr ps 10 ∧ PvOK ps pv nc ∧ (∀ q ∈ ps, q.2 < nc) ∧ (∀ i j, i < nr → j < 11 → (tI V i j).natAbs ≤ BB) ∧ (∀ i, i < nr → ∀ j, nc ≤ j → j < 10 → tI V i j = 0) ∧ so = bI (∀ i, i < nr → (∀ q ∈ ps, q.1 ≠ i) → tI V i 10 = 0)
theorem tI_sw {M M2 : Nat → Nat → Int64} {k r : Nat} (h : ∀ i j, M2 i j = if j < 11 then M (sw k r i) j else M i j) : tI M2 = fun i => tI M (sw k r i) := by
  funext i j
  unfold tI
  by_cases q : j < 11
  · rw [if_pos q, if_pos q, h, if_pos q]
  · rw [if_neg q, if_neg q]
theorem sw_ge {k r i rk : Nat} (hk : rk ≤ k) (hr : rk ≤ r) (hi : rk ≤ i) : rk ≤ sw k r i := by unfold sw; split; exact hr; split; exact hk; exact hi
theorem sw_2 (k r : Nat) : sw k r r = k := by
  unfold sw
  by_cases h : r = k
  · rw [if_pos h]; exact h
  · rw [if_neg h, if_pos rfl]
set_option maxHeartbeats 4000000 in
set_option maxRecDepth 100000 in
theorem c_X7_takeOff (l : Launch) (D : va_G) (K : Nat → ClassId) (mm : Nat → Nat) (ta : Nat → Int32) (sl : Nat → Int32) (ss : Nat → Int32) (be : Nat → Int32) (ch : Int32) (th : Int32) (M : Nat → Nat → Int64) (rq : Int32) (cq : Int32) (pv : Nat → Int32) (so : Int32) (st : Nat → Int32) (gs : Int32) (gm : Nat → Int32) (gu : Nat → Int64) (gl : Nat → Int64) (aw : Nat → Int32) (i k t : Nat) (sz : Nat) (hi : i < 11) (hk : k < 11) (ht : t < 10) (hik : i ≠ k) (hb1 : ∀ x, x < 11 → (M i x).toInt.natAbs ≤ BB) (hb2 : ∀ x, x < 11 → (M k x).toInt.natAbs ≤ BB) : Met l yX7_takeOff (.code yX7_takeOff cX7_takeOff 9 none :: TB) ({ frames := 2, cells := 0, slots := 0, locals := 53 } : Room) (va_Pc [.ref (mm 0), .int (nI i), .int (nI k), .int (nI t)] (cP D K (WM K mm ta sl ss be ch th M rq cq pv so st gs gm gu gl aw) sz)) (va_Qv (fun (u : Nat → Nat → Int64) => (∀ x, x ≠ i → u x = M x) ∧ Elim (tI M i) (tI M k) (tI u i) t) (fun (u : Nat → Nat → Int64) t => cB D K (va_A (WM K mm ta sl ss be ch th M rq cq pv so st gs gm gu gl aw) sz) (WM K mm ta sl ss be ch th u rq cq pv so st gs gm gu gl aw) t) (va_A (WM K mm ta sl ss be ch th M rq cq pv so st gs gm gu gl aw) sz)) 0 0 (va_A (WM K mm ta sl ss be ch th M rq cq pv so st gs gm gu gl aw) sz) := by
  refine Met.ofW (cc := cX7_takeOff) (maxL := 9) (ret := none) (by decide) rfl ?_
  intro p e s m args below meth c s₁ B hml hv
  obtain ⟨rfl, hsz, hP, hK, hD0⟩ := hv
  have hx := B.exec
  have hb := B.bytes
  have hr := B.returns
  have hts := hts_tl (atoms_spec (ws := (.code yX7_takeOff cX7_takeOff 9 none :: TB)) B.pre)
  have hown : s.vm.findClass RX7 = some m.cls := findClass_of_methodNamed B.named
  have hlocks := B.notSynchronized
  subst hsz
  have hD := hD0.self (sz := s.heap.size)
  generalize hAe : (va_A (WM K mm ta sl ss be ch th M rq cq pv so st gs gm gu gl aw) s.heap.size) = A at hD ⊢
  have hA : ∀ q : Nat, s.heap.size ≤ q → A q := fun q h => by rw [← hAe]; exact Or.inr h
  have hS : va_S A s.heap s.heap [] := va_S.rf
  have hl := lv_entry ([.ref (mm 0), .int (nI i), .int (nI k), .int (nI t)]) (n := 9) (Nat.le_of_ble_eq_true rfl)
  rw [lg_entry_eq]
  generalize (lg_sl ([.ref (mm 0), .int (nI i), .int (nI k), .int (nI t)]) ++ List.replicate (9 - (lg_sl ([.ref (mm 0), .int (nI i), .int (nI k), .int (nI t)])).length) Slot.unset).toArray = ls at hl ⊢
  have hl : lv_has ls 9 [(0, .ref (mm 0)), (1, .int (nI i)), (2, .int (nI k)), (3, .int (nI t))] := hl
  have hBB : BB = 351232000 := rfl
  have hB2 : BB * BB = 123363917824000000 := by decide
  refine lv_aload_n hx hb dX7_takeOff_0 rfl (lv_at hl 0 rfl) ?_
  refine va_get (D := D) (ci := 7) (C := RX7) (T := TX7) (N := 17) hx hb hts iX7 hown hK hP 0 rfl rfl 6 (by decide) (hts _ k_f_X7_23) (fun _ h9 => h9) rfl dX7_takeOff_1 ?_
  refine lv_bipush (v := nI 11) hx hb dX7_takeOff_4 (by decide) ?_
  refine lv_iload_n hx hb dX7_takeOff_6 rfl (lv_at hl 1 rfl) ?_
  refine lv_imul hx hb dX7_takeOff_7 ?_
  refine t_i (pk_mul _ _) ?_
  refine lv_iload_n hx hb dX7_takeOff_8 rfl (lv_at hl 3 rfl) ?_
  refine lv_iadd hx hb dX7_takeOff_9 ?_
  refine t_i (nI_add _ _) ?_
  refine n_lald hx hb hK hP 5 1 rfl rfl (i := 11 * i + t) (n := 121) (by omega) (by decide) dX7_takeOff_10 ?_
  refine t_l (cL_at (M := M) (k := 11 * i + t) (r := i) (c := t) (by omega) (by omega)) ?_
  refine lv_lstore (lv' := [(4, .long (M i t)), (0, .ref (mm 0)), (1, .int (nI i)), (2, .int (nI k)), (3, .int (nI t))]) hx hb dX7_takeOff_11 hl (by decide) rfl (fun ls hl => ?_)
  refine lv_aload_n hx hb dX7_takeOff_13 rfl (lv_at hl 1 rfl) ?_
  refine va_get (D := D) (ci := 7) (C := RX7) (T := TX7) (N := 17) hx hb hts iX7 hown hK hP 0 rfl rfl 6 (by decide) (hts _ k_f_X7_23) (fun _ h9 => h9) rfl dX7_takeOff_14 ?_
  refine lv_bipush (v := nI 11) hx hb dX7_takeOff_17 (by decide) ?_
  refine lv_iload_n hx hb dX7_takeOff_19 rfl (lv_at hl 3 rfl) ?_
  refine lv_imul hx hb dX7_takeOff_20 ?_
  refine t_i (pk_mul _ _) ?_
  refine lv_iload_n hx hb dX7_takeOff_21 rfl (lv_at hl 4 rfl) ?_
  refine lv_iadd hx hb dX7_takeOff_22 ?_
  refine t_i (nI_add _ _) ?_
  refine n_lald hx hb hK hP 5 1 rfl rfl (i := 11 * k + t) (n := 121) (by omega) (by decide) dX7_takeOff_23 ?_
  refine t_l (cL_at (M := M) (k := 11 * k + t) (r := k) (c := t) (by omega) (by omega)) ?_
  refine lv_lstore (lv' := [(6, .long (M k t)), (4, .long (M i t)), (0, .ref (mm 0)), (1, .int (nI i)), (2, .int (nI k)), (3, .int (nI t))]) hx hb dX7_takeOff_24 hl (by decide) rfl (fun ls hl => ?_)
  refine lv_iconst (v := nI 0) hx hb dX7_takeOff_26 (by decide) ?_
  refine lv_istore (lv' := [(8, .int (nI 0)), (6, .long (M k t)), (4, .long (M i t)), (0, .ref (mm 0)), (1, .int (nI i)), (2, .int (nI k)), (3, .int (nI t))]) hx hb dX7_takeOff_27 hl (by decide) rfl (fun ls hl => ?_)
  have L29 : ∀ (fuel : Nat) (j : Nat) (M' : Nat → Nat → Int64) (H : Heap) (locs : List Loc) (ls : Array Slot), 11 - j < fuel → (j ≤ 11) → (∀ x, x ≠ i → M' x = M x) → (∀ b, b < j → (M' i b).toInt = eE M i k t b) → (∀ b, j ≤ b → M' i b = M i b) → va_P D vwCl (WM K mm ta sl ss be ch th M' rq cq pv so st gs gm gu gl aw) H → va_D A (WM K mm ta sl ss be ch th M' rq cq pv so st gs gm gu gl aw) → va_S A s.heap H locs → lv_has ls 9 [(8, .int (nI j)), (6, .long (M k t)), (4, .long (M i t)), (0, .ref (mm 0)), (1, .int (nI i)), (2, .int (nI k)), (3, .int (nI t))] → W p l e ({ frames := 2, cells := 0, slots := 0, locals := 53 } : Room) s m [.ref (mm 0), .int (nI i), .int (nI k), .int (nI t)].toArray below meth c H locs 0 0 (MQ below (va_Qv (fun (u : Nat → Nat → Int64) => (∀ x, x ≠ i → u x = M x) ∧ Elim (tI M i) (tI M k) (tI u i) t) (fun (u : Nat → Nat → Int64) t => cB D K A (WM K mm ta sl ss be ch th u rq cq pv so st gs gm gu gl aw) t) A) [.ref (mm 0), .int (nI i), .int (nI k), .int (nI t)].toArray s 0 0 A) (F0 m 29 ls []) := by
    intro fuel
    induction fuel with
    | zero =>
      intro j M' H locs ls hfu
      exact absurd hfu (Nat.not_lt_zero _)
    | succ fuel ih29 =>
      intro j M' H locs ls hfu hj hoth hlo hhi hP hD hS hl
      refine lv_iload hx hb dX7_takeOff_29 (lv_at hl 0 rfl) ?_
      refine lv_bipush (v := nI 11) hx hb dX7_takeOff_31 (by decide) ?_
      refine b_icmp_ge hx hb (nI_toIntI (by omega)) (nI_toIntI (by omega)) dX7_takeOff_33 (tgt := 85) (by decide) (fun c33 => ?_) (fun c33 => ?_)
      · refine lv_aload_n hx hb dX7_takeOff_85 rfl (lv_at hl 3 rfl) ?_
        refine lv_iload_n hx hb dX7_takeOff_86 rfl (lv_at hl 4 rfl) ?_
        have hEbb : ∀ b, b < 11 → (eE M i k t b).natAbs ≤ 2 * (BB * BB) := fun b hb8 => by
          obtain ⟨h1, h2⟩ := L_elim (hb1 b hb8) (hb2 t (by omega)) (hb2 b hb8) (hb1 t (by omega))
          rw [h1] at h2; exact h2
        have hFc := freeAll hD hS hA
        refine va_callv (va_runV (As := [.int (nI i)]) (rest := []) ⟨hx, hb, hml, hown, hts⟩ (c_X7_lessen l D K mm ta sl ss be ch th M' rq cq pv so st gs gm gu gl aw i (eE M i k t) H.size hi (fun b hb8 => hlo b (by omega)) hEbb) (cwV 1 hts (TB_V k_m_X7_94 k_im_X7_lessen k_se_X7_lessen k_in_X7 k_co_X7_lessen (fun _ h => h)) rfl rfl rfl (by decide +kernel) ⟨Nat.le_of_ble_eq_true rfl, Nat.le_of_ble_eq_true rfl⟩) ⟨cP_blind, va_recv hK hP (ci := 7) (q0 := 0) rfl rfl, cP_of hP hK hD⟩ rfl rfl hl.1 rfl (lv_room (Nat.le_of_ble_eq_true rfl)) dX7_takeOff_87 ⟨Nat.le_of_ble_eq_true rfl, Nat.le_of_ble_eq_true rfl⟩) hS (fun q _ h => hFc q h) hFc (fun M3 t9 H locs ht9 hvm hw hB hz1 hk1 hS => ?_)
        obtain ⟨hP, hK1, hD1⟩ := hB
        rw [ht9] at hP
        have hD := hD1.weaken (fun _ _ _ h => hFc _ h)
        exact W.vret hx hb hr (fun t9 ht9 hW => ⟨⟨M3, rfl, ⟨fun x hx9 => (hw.1 x hx9).trans (hoth x hx9), by
      rcases hw.2 with ⟨h1, h2⟩ | ⟨h1, h2⟩
      · exact elim_one (by omega) h2 h1
      · exact elim_more (by omega) rfl (by omega) h2⟩, by rw [ht9]; exact hP, va_K.moved hW.alike hK, hD⟩, hS.F ht9⟩) hS.2.2 dX7_takeOff_90
      refine lv_aload_n hx hb dX7_takeOff_36 rfl (lv_at hl 3 rfl) ?_
      refine va_get (D := D) (ci := 7) (C := RX7) (T := TX7) (N := 17) hx hb hts iX7 hown hK hP 0 rfl rfl 6 (by decide) (hts _ k_f_X7_23) (fun _ h9 => h9) rfl dX7_takeOff_37 ?_
      refine lv_bipush (v := nI 11) hx hb dX7_takeOff_40 (by decide) ?_
      refine lv_iload_n hx hb dX7_takeOff_42 rfl (lv_at hl 4 rfl) ?_
      refine lv_imul hx hb dX7_takeOff_43 ?_
      refine t_i (pk_mul _ _) ?_
      refine lv_iload hx hb dX7_takeOff_44 (lv_at hl 0 rfl) ?_
      refine lv_iadd hx hb dX7_takeOff_46 ?_
      refine t_i (nI_add _ _) ?_
      refine lv_aload_n hx hb dX7_takeOff_47 rfl (lv_at hl 3 rfl) ?_
      refine va_get (D := D) (ci := 7) (C := RX7) (T := TX7) (N := 17) hx hb hts iX7 hown hK hP 0 rfl rfl 6 (by decide) (hts _ k_f_X7_23) (fun _ h9 => h9) rfl dX7_takeOff_48 ?_
      refine lv_bipush (v := nI 11) hx hb dX7_takeOff_51 (by decide) ?_
      refine lv_iload_n hx hb dX7_takeOff_53 rfl (lv_at hl 4 rfl) ?_
      refine lv_imul hx hb dX7_takeOff_54 ?_
      refine t_i (pk_mul _ _) ?_
      refine lv_iload hx hb dX7_takeOff_55 (lv_at hl 0 rfl) ?_
      refine lv_iadd hx hb dX7_takeOff_57 ?_
      refine t_i (nI_add _ _) ?_
      refine n_lald hx hb hK hP 5 1 rfl rfl (i := 11 * i + j) (n := 121) (by omega) (by decide) dX7_takeOff_58 ?_
      refine t_l (cL_at (M := M') (k := 11 * i + j) (r := i) (c := j) (by omega) (by omega)) ?_
      refine lv_lload hx hb dX7_takeOff_59 (lv_at hl 1 rfl) ?_
      refine lv_lmul hx hb dX7_takeOff_61 ?_
      refine lv_aload_n hx hb dX7_takeOff_62 rfl (lv_at hl 3 rfl) ?_
      refine va_get (D := D) (ci := 7) (C := RX7) (T := TX7) (N := 17) hx hb hts iX7 hown hK hP 0 rfl rfl 6 (by decide) (hts _ k_f_X7_23) (fun _ h9 => h9) rfl dX7_takeOff_63 ?_
      refine lv_bipush (v := nI 11) hx hb dX7_takeOff_66 (by decide) ?_
      refine lv_iload_n hx hb dX7_takeOff_68 rfl (lv_at hl 5 rfl) ?_
      refine lv_imul hx hb dX7_takeOff_69 ?_
      refine t_i (pk_mul _ _) ?_
      refine lv_iload hx hb dX7_takeOff_70 (lv_at hl 0 rfl) ?_
      refine lv_iadd hx hb dX7_takeOff_72 ?_
      refine t_i (nI_add _ _) ?_
      refine n_lald hx hb hK hP 5 1 rfl rfl (i := 11 * k + j) (n := 121) (by omega) (by decide) dX7_takeOff_73 ?_
      refine t_l (cL_at (M := M') (k := 11 * k + j) (r := k) (c := j) (by omega) (by omega)) ?_
      refine lv_lload hx hb dX7_takeOff_74 (lv_at hl 2 rfl) ?_
      refine lv_lmul hx hb dX7_takeOff_76 ?_
      refine lv_lsub hx hb dX7_takeOff_77 ?_
      refine t_l (show _ = M i j * M k t - M k j * M i t by rw [hhi j (Nat.le_refl _), hoth k (fun q => hik q.symm)]) ?_
      obtain ⟨hE, hEb⟩ := L_elim (hb1 j (by omega)) (hb2 t (by omega)) (hb2 j (by omega)) (hb1 t (by omega))
      generalize hX : M i j * M k t - M k j * M i t = X at hE hEb ⊢
      refine n_last hx hb hK hP hD hS 5 1 rfl rfl (i := 11 * i + j) (n := 121) (by omega) (by decide) dX7_takeOff_78 (fun H locs hP hD hS => ?_)
      have hcs : vp_updL (cL M') (11 * i + j) X = cL (setM M' i j X) := cL_set (by omega) (by omega)
      have hP : va_P D vwCl (WM K mm ta sl ss be ch th (setM M' i j X) rq cq pv so st gs gm gu gl aw) H := by unfold WM; rw [← hcs]; exact hP
      have hD : va_D A (WM K mm ta sl ss be ch th (setM M' i j X) rq cq pv so st gs gm gu gl aw) := by unfold WM; rw [← hcs]; exact hD
      have hP : va_P D vwCl (WM K mm ta sl ss be ch th (setM M' i j X) rq cq pv so st gs gm gu gl aw) H := hP
      have hD : va_D A (WM K mm ta sl ss be ch th (setM M' i j X) rq cq pv so st gs gm gu gl aw) := hD
      refine lv_iinc (v := nI (j + 1)) (lv' := [(8, .int (nI (j + 1))), (6, .long (M k t)), (4, .long (M i t)), (0, .ref (mm 0)), (1, .int (nI i)), (2, .int (nI k)), (3, .int (nI t))]) hx hb dX7_takeOff_79 hl (k := 0) rfl (nI_add j 1) (by decide) rfl (fun ls hl => ?_)
      refine lv_goto (tgt := 29) hx hb dX7_takeOff_82 (by decide) ?_
      have hoth2 : ∀ x, x ≠ i → (setM M' i j X) x = M x := fun x hx9 => by rw [setM_row hx9]; exact hoth x hx9
      have hlo2 : ∀ b, b < j + 1 → ((setM M' i j X) i b).toInt = eE M i k t b := fun b hb9 => by
        by_cases q : b = j
        · subst q; rw [setM_same]; exact hE
        · rw [setM_col q]; exact hlo b (by omega)
      have hhi2 : ∀ b, j + 1 ≤ b → (setM M' i j X) i b = M i b := fun b hb9 => by rw [setM_col (by omega)]; exact hhi b (by omega)
      exact ih29 (j + 1) (setM M' i j X) _ _ _ (by omega) (by omega) hoth2 hlo2 hhi2 hP hD hS (lv_sub hl [0, 1, 2, 3, 4, 5, 6] rfl)
  exact L29 _ 0 M _ _ _ (Nat.lt_succ_self _) (by omega) (fun x _ => rfl) (fun b hb9 => absurd hb9 (Nat.not_lt_zero _)) (fun b _ => rfl) hP hD hS (lv_sub hl [0, 1, 2, 3, 4, 5, 6] rfl)
set_option maxHeartbeats 4000000 in
set_option maxRecDepth 100000 in
theorem c_X7_solve (l : Launch) (D : va_G) (K : Nat → ClassId) (mm : Nat → Nat) (ta : Nat → Int32) (sl : Nat → Int32) (ss : Nat → Int32) (be : Nat → Int32) (ch : Int32) (th : Int32) (M : Nat → Nat → Int64) (rq : Int32) (cq : Int32) (pv : Nat → Int32) (so : Int32) (st : Nat → Int32) (gs : Int32) (gm : Nat → Int32) (gu : Nat → Int64) (gl : Nat → Int64) (aw : Nat → Int32) (nr nc : Nat) (sz : Nat) (hnr : nr ≤ 10) (hnc : nc ≤ 10) (hrq : rq = nI nr) (hcq : cq = nI nc) (hMB : MB (tI M) nr) (hM0 : ∀ i j, i < nr → j < 11 → (tI M i j).natAbs ≤ BB) (hzc : ∀ i, i < nr → ∀ j, nc ≤ j → j < 10 → tI M i j = 0) : Met l yX7_solve (.code yX7_solve cX7_solve 5 none :: TB) ({ frames := 3, cells := 0, slots := 0, locals := 81 } : Room) (va_Pc [.ref (mm 0)] (cP D K (WM K mm ta sl ss be ch th M rq cq pv so st gs gm gu gl aw) sz)) (va_Qv (fun (u : (Nat → Nat → Int64) × (Nat → Int32) × Int32) => SolvedM (HS (tI M) nr) nr nc u.1 u.2.1 u.2.2) (fun (u : (Nat → Nat → Int64) × (Nat → Int32) × Int32) t => cB D K (va_A (WM K mm ta sl ss be ch th M rq cq pv so st gs gm gu gl aw) sz) (WM K mm ta sl ss be ch th u.1 rq cq u.2.1 u.2.2 st gs gm gu gl aw) t) (va_A (WM K mm ta sl ss be ch th M rq cq pv so st gs gm gu gl aw) sz)) 0 0 (va_A (WM K mm ta sl ss be ch th M rq cq pv so st gs gm gu gl aw) sz) := by
  refine Met.ofW (cc := cX7_solve) (maxL := 5) (ret := none) (by decide) rfl ?_
  intro p e s m args below meth c s₁ B hml hv
  obtain ⟨rfl, hsz, hP, hK, hD0⟩ := hv
  have hx := B.exec
  have hb := B.bytes
  have hr := B.returns
  have hts := hts_tl (atoms_spec (ws := (.code yX7_solve cX7_solve 5 none :: TB)) B.pre)
  have hown : s.vm.findClass RX7 = some m.cls := findClass_of_methodNamed B.named
  have hlocks := B.notSynchronized
  subst hsz
  have hD := hD0.self (sz := s.heap.size)
  generalize hAe : (va_A (WM K mm ta sl ss be ch th M rq cq pv so st gs gm gu gl aw) s.heap.size) = A at hD ⊢
  have hA : ∀ q : Nat, s.heap.size ≤ q → A q := fun q h => by rw [← hAe]; exact Or.inr h
  have hS : va_S A s.heap s.heap [] := va_S.rf
  have hl := lv_entry ([.ref (mm 0)]) (n := 5) (Nat.le_of_ble_eq_true rfl)
  rw [lg_entry_eq]
  generalize (lg_sl ([.ref (mm 0)]) ++ List.replicate (5 - (lg_sl ([.ref (mm 0)])).length) Slot.unset).toArray = ls at hl ⊢
  have hl : lv_has ls 5 [(0, .ref (mm 0))] := hl
  refine lv_iconst (v := nI 0) hx hb dX7_solve_0 (by decide) ?_
  refine lv_istore_n (lv' := [(1, .int (nI 0)), (0, .ref (mm 0))]) hx hb dX7_solve_1 rfl hl (by decide) rfl (fun ls hl => ?_)
  refine lv_iconst (v := nI 0) hx hb dX7_solve_2 (by decide) ?_
  refine lv_istore_n (lv' := [(2, .int (nI 0)), (1, .int (nI 0)), (0, .ref (mm 0))]) hx hb dX7_solve_3 rfl hl (by decide) rfl (fun ls hl => ?_)
  have L4 : ∀ (fuel : Nat) (t : Nat) (rk : Nat) (M1 : Nat → Nat → Int64) (Mo : Nat → Nat → Int) (pv1 : Nat → Int32) (ps : List (Nat × Nat)) (H : Heap) (locs : List Loc) (ls : Array Slot), 10 - t < fuel → (t ≤ nc) → (rk ≤ nr) → (∀ x, HS Mo nr x ↔ HS (tI M) nr x) → (MB Mo nr) → (∀ i j, i < nr → j < 11 → (Mo i j).natAbs ≤ BB) → (EInv Mo (tI M1) nr ps) → (∀ q ∈ ps, q.2 < t) → (PvOK ps pv1 t) → (∀ i, (∀ q ∈ ps, q.1 ≠ i) ↔ rk ≤ i) → (FinTo (tI M1) nr ps t) → (∀ i, i < nr → ∀ j, nc ≤ j → j < 10 → tI M1 i j = 0) → va_P D vwCl (WM K mm ta sl ss be ch th M1 rq cq pv1 so st gs gm gu gl aw) H → va_D A (WM K mm ta sl ss be ch th M1 rq cq pv1 so st gs gm gu gl aw) → va_S A s.heap H locs → lv_has ls 5 [(2, .int (nI t)), (1, .int (nI rk)), (0, .ref (mm 0))] → W p l e ({ frames := 3, cells := 0, slots := 0, locals := 81 } : Room) s m [.ref (mm 0)].toArray below meth c H locs 0 0 (MQ below (va_Qv (fun (u : (Nat → Nat → Int64) × (Nat → Int32) × Int32) => SolvedM (HS (tI M) nr) nr nc u.1 u.2.1 u.2.2) (fun (u : (Nat → Nat → Int64) × (Nat → Int32) × Int32) t => cB D K A (WM K mm ta sl ss be ch th u.1 rq cq u.2.1 u.2.2 st gs gm gu gl aw) t) A) [.ref (mm 0)].toArray s 0 0 A) (F0 m 4 ls []) := by
    intro fuel
    induction fuel with
    | zero =>
      intro t rk M1 Mo pv1 ps H locs ls hfu
      exact absurd hfu (Nat.not_lt_zero _)
    | succ fuel ih4 =>
      intro t rk M1 Mo pv1 ps H locs ls hfu ht hrk hH hMB1 hMo hE hc hpv hrows hfr hzc1 hP hD hS hl
      refine lv_iload_n hx hb dX7_solve_4 rfl (lv_at hl 0 rfl) ?_
      refine lv_aload_n hx hb dX7_solve_5 rfl (lv_at hl 2 rfl) ?_
      refine va_get (D := D) (ci := 7) (C := RX7) (T := TX7) (N := 17) hx hb hts iX7 hown hK hP 0 rfl rfl 8 (by decide) (hts _ k_f_X7_87) (fun _ h9 => h9) rfl dX7_solve_6 ?_
      refine t_i (show _ = nI nc from hcq) ?_
      refine b_icmp_ge hx hb (nI_toIntI (by omega)) (nI_toIntI (by omega)) dX7_solve_9 (tgt := 135) (by decide) (fun c9 => ?_) (fun c9 => ?_)
      · refine lv_aload_n hx hb dX7_solve_135 rfl (lv_at hl 2 rfl) ?_
        refine lv_iconst (v := nI 1) hx hb dX7_solve_136 (by decide) ?_
        refine va_put (D := D) (ci := 7) (v := .int (nI 1)) (ty := .boolean) (C := RX7) (T := TX7) (N := 17) hx hb hts iX7 tyX7 tyX7_ok nmX7 hown hK hP hD hS 0 rfl rfl 10 (by decide) (hts _ k_f_X7_105) (fun _ h9 => h9) rfl (by decide +kernel) (by decide) (by decide) (Nat.le_of_ble_eq_true rfl) dX7_solve_137 (fun H locs hP hD hS => ?_)
        have hP : va_P D vwCl (WM K mm ta sl ss be ch th M1 rq cq pv1 (nI 1) st gs gm gu gl aw) H := hP
        have hD : va_D A (WM K mm ta sl ss be ch th M1 rq cq pv1 (nI 1) st gs gm gu gl aw) := hD
        refine lv_iload_n hx hb dX7_solve_140 rfl (lv_at hl 1 rfl) ?_
        refine lv_istore_n (lv' := [(2, .int (nI rk)), (1, .int (nI rk)), (0, .ref (mm 0))]) hx hb dX7_solve_141 rfl hl (by decide) rfl (fun ls hl => ?_)
        have e9 : nI 1 = (bI (∀ i, rk ≤ i → i < rk → (M1 i 10).toInt = 0)) := bI_t (fun i h1 h2 => absurd h1 (by omega))
        have hP : va_P D vwCl (WM K mm ta sl ss be ch th M1 rq cq pv1 (bI (∀ i, rk ≤ i → i < rk → (M1 i 10).toInt = 0)) st gs gm gu gl aw) H := by rw [← e9]; exact hP
        have hD : va_D A (WM K mm ta sl ss be ch th M1 rq cq pv1 (bI (∀ i, rk ≤ i → i < rk → (M1 i 10).toInt = 0)) st gs gm gu gl aw) := by rw [← e9]; exact hD
        have L142 : ∀ (fuel : Nat) (r9 : Nat) (H : Heap) (locs : List Loc) (ls : Array Slot), 10 - r9 < fuel → (rk ≤ r9) → (r9 ≤ nr) → va_P D vwCl (WM K mm ta sl ss be ch th M1 rq cq pv1 (bI (∀ i, rk ≤ i → i < r9 → (M1 i 10).toInt = 0)) st gs gm gu gl aw) H → va_D A (WM K mm ta sl ss be ch th M1 rq cq pv1 (bI (∀ i, rk ≤ i → i < r9 → (M1 i 10).toInt = 0)) st gs gm gu gl aw) → va_S A s.heap H locs → lv_has ls 5 [(2, .int (nI r9)), (1, .int (nI rk)), (0, .ref (mm 0))] → W p l e ({ frames := 3, cells := 0, slots := 0, locals := 81 } : Room) s m [.ref (mm 0)].toArray below meth c H locs 0 0 (MQ below (va_Qv (fun (u : (Nat → Nat → Int64) × (Nat → Int32) × Int32) => SolvedM (HS (tI M) nr) nr nc u.1 u.2.1 u.2.2) (fun (u : (Nat → Nat → Int64) × (Nat → Int32) × Int32) t => cB D K A (WM K mm ta sl ss be ch th u.1 rq cq u.2.1 u.2.2 st gs gm gu gl aw) t) A) [.ref (mm 0)].toArray s 0 0 A) (F0 m 142 ls []) := by
          intro fuel
          induction fuel with
          | zero =>
            intro r9 H locs ls hfu
            exact absurd hfu (Nat.not_lt_zero _)
          | succ fuel ih142 =>
            intro r9 H locs ls hfu hr1 hr2 hP hD hS hl
            refine lv_iload_n hx hb dX7_solve_142 rfl (lv_at hl 0 rfl) ?_
            refine lv_aload_n hx hb dX7_solve_143 rfl (lv_at hl 2 rfl) ?_
            refine va_get (D := D) (ci := 7) (C := RX7) (T := TX7) (N := 17) hx hb hts iX7 hown hK hP 0 rfl rfl 7 (by decide) (hts _ k_f_X7_84) (fun _ h9 => h9) rfl dX7_solve_144 ?_
            refine t_i (show _ = nI nr from hrq) ?_
            refine b_icmp_ge hx hb (nI_toIntI (by omega)) (nI_toIntI (by omega)) dX7_solve_147 (tgt := 189) (by decide) (fun c147 => ?_) (fun c147 => ?_)
            · exact W.vret hx hb hr (fun t9 ht9 hW => ⟨⟨(M1, pv1, (bI (∀ i, rk ≤ i → i < r9 → (M1 i 10).toInt = 0))), rfl, ⟨Mo, ps, hH, hE, fun i hi hf j hj => by
      by_cases q : j < t
      · exact hfr i hi hf j q
      · exact hzc1 i hi j (by omega) hj, by rw [show nc = t by omega]; exact hpv, fun q hq => by have := hc q hq; omega, EInv_bound hE hMB1 hMo, hzc1, bI_iff ⟨fun h9 i hi hf => by rw [tI_at (by decide)]; exact h9 i ((hrows i).mp hf) (by omega), fun h9 i h1 h2 => by have h8 := h9 i (by omega) ((hrows i).mpr h1); rw [tI_at (by decide)] at h8; exact h8⟩⟩, by rw [ht9]; exact hP, va_K.moved hW.alike hK, hD⟩, hS.F ht9⟩) hS.2.2 dX7_solve_189
            refine lv_aload_n hx hb dX7_solve_150 rfl (lv_at hl 2 rfl) ?_
            refine lv_aload_n hx hb dX7_solve_151 rfl (lv_at hl 2 rfl) ?_
            refine va_get (D := D) (ci := 7) (C := RX7) (T := TX7) (N := 17) hx hb hts iX7 hown hK hP 0 rfl rfl 10 (by decide) (hts _ k_f_X7_105) (fun _ h9 => h9) rfl dX7_solve_152 ?_
            by_cases hall : ∀ i, rk ≤ i → i < r9 → (M1 i 10).toInt = 0
            rotate_left
            · refine t_i (bI_f hall).symm ?_
              refine b_if_eq hx hb (nI_toIntI (by omega)) dX7_solve_155 (tgt := 179) (by decide) (fun c155 => ?_) (fun c155 => absurd c155 (by omega))
              refine lv_iconst (v := nI 0) hx hb dX7_solve_179 (by decide) ?_
              refine va_put (D := D) (ci := 7) (v := .int (nI 0)) (ty := .boolean) (C := RX7) (T := TX7) (N := 17) hx hb hts iX7 tyX7 tyX7_ok nmX7 hown hK hP hD hS 0 rfl rfl 10 (by decide) (hts _ k_f_X7_105) (fun _ h9 => h9) rfl (by decide +kernel) (by decide) (by decide) (Nat.le_of_ble_eq_true rfl) dX7_solve_180 (fun H locs hP hD hS => ?_)
              have hP : va_P D vwCl (WM K mm ta sl ss be ch th M1 rq cq pv1 (nI 0) st gs gm gu gl aw) H := hP
              have hD : va_D A (WM K mm ta sl ss be ch th M1 rq cq pv1 (nI 0) st gs gm gu gl aw) := hD
              refine lv_iinc (v := nI (r9 + 1)) (lv' := [(2, .int (nI (r9 + 1))), (1, .int (nI rk)), (0, .ref (mm 0))]) hx hb dX7_solve_183 hl (k := 0) rfl (nI_add r9 1) (by decide) rfl (fun ls hl => ?_)
              refine lv_goto (tgt := 142) hx hb dX7_solve_186 (by decide) ?_
              have e9 : nI 0 = (bI (∀ i, rk ≤ i → i < (r9 + 1) → (M1 i 10).toInt = 0)) := bI_f (fun z => by first | exact hall (fun i h1 h2 => z i h1 (by omega)) | (have := z r9 (by omega) (Nat.lt_succ_self _); omega))
              have hP : va_P D vwCl (WM K mm ta sl ss be ch th M1 rq cq pv1 (bI (∀ i, rk ≤ i → i < (r9 + 1) → (M1 i 10).toInt = 0)) st gs gm gu gl aw) H := by rw [← e9]; exact hP
              have hD : va_D A (WM K mm ta sl ss be ch th M1 rq cq pv1 (bI (∀ i, rk ≤ i → i < (r9 + 1) → (M1 i 10).toInt = 0)) st gs gm gu gl aw) := by rw [← e9]; exact hD
              exact ih142 (r9 + 1) _ _ _ (by omega) (by omega) (by omega) hP hD hS (lv_sub hl [0, 1, 2] rfl)
            refine t_i (bI_t hall).symm ?_
            refine b_if_eq hx hb (nI_toIntI (by omega)) dX7_solve_155 (tgt := 179) (by decide) (fun c155 => absurd c155 (by omega)) (fun c155 => ?_)
            refine lv_aload_n hx hb dX7_solve_158 rfl (lv_at hl 2 rfl) ?_
            refine va_get (D := D) (ci := 7) (C := RX7) (T := TX7) (N := 17) hx hb hts iX7 hown hK hP 0 rfl rfl 6 (by decide) (hts _ k_f_X7_23) (fun _ h9 => h9) rfl dX7_solve_159 ?_
            refine lv_bipush (v := nI 11) hx hb dX7_solve_162 (by decide) ?_
            refine lv_iload_n hx hb dX7_solve_164 rfl (lv_at hl 0 rfl) ?_
            refine lv_imul hx hb dX7_solve_165 ?_
            refine t_i (pk_mul _ _) ?_
            refine lv_bipush (v := nI 10) hx hb dX7_solve_166 (by decide) ?_
            refine lv_iadd hx hb dX7_solve_168 ?_
            refine t_i (nI_add _ _) ?_
            refine n_lald hx hb hK hP 5 1 rfl rfl (i := 11 * r9 + 10) (n := 121) (by omega) (by decide) dX7_solve_169 ?_
            refine t_l (cL_at (M := M1) (k := 11 * r9 + 10) (r := r9) (c := 10) (by omega) (by omega)) ?_
            refine lv_lconst (v := 0) hx hb dX7_solve_170 (by decide) ?_
            refine b_lcmp_ne hx hb rfl (show (0 : Int64).toInt = 0 by decide) dX7_solve_171 dX7_solve_172 (tgt := 179) (by decide) (fun c171 => ?_) (fun c171 => ?_)
            · refine lv_iconst (v := nI 0) hx hb dX7_solve_179 (by decide) ?_
              refine va_put (D := D) (ci := 7) (v := .int (nI 0)) (ty := .boolean) (C := RX7) (T := TX7) (N := 17) hx hb hts iX7 tyX7 tyX7_ok nmX7 hown hK hP hD hS 0 rfl rfl 10 (by decide) (hts _ k_f_X7_105) (fun _ h9 => h9) rfl (by decide +kernel) (by decide) (by decide) (Nat.le_of_ble_eq_true rfl) dX7_solve_180 (fun H locs hP hD hS => ?_)
              have hP : va_P D vwCl (WM K mm ta sl ss be ch th M1 rq cq pv1 (nI 0) st gs gm gu gl aw) H := hP
              have hD : va_D A (WM K mm ta sl ss be ch th M1 rq cq pv1 (nI 0) st gs gm gu gl aw) := hD
              refine lv_iinc (v := nI (r9 + 1)) (lv' := [(2, .int (nI (r9 + 1))), (1, .int (nI rk)), (0, .ref (mm 0))]) hx hb dX7_solve_183 hl (k := 0) rfl (nI_add r9 1) (by decide) rfl (fun ls hl => ?_)
              refine lv_goto (tgt := 142) hx hb dX7_solve_186 (by decide) ?_
              have e9 : nI 0 = (bI (∀ i, rk ≤ i → i < (r9 + 1) → (M1 i 10).toInt = 0)) := bI_f (fun z => by first | exact hall (fun i h1 h2 => z i h1 (by omega)) | (have := z r9 (by omega) (Nat.lt_succ_self _); omega))
              have hP : va_P D vwCl (WM K mm ta sl ss be ch th M1 rq cq pv1 (bI (∀ i, rk ≤ i → i < (r9 + 1) → (M1 i 10).toInt = 0)) st gs gm gu gl aw) H := by rw [← e9]; exact hP
              have hD : va_D A (WM K mm ta sl ss be ch th M1 rq cq pv1 (bI (∀ i, rk ≤ i → i < (r9 + 1) → (M1 i 10).toInt = 0)) st gs gm gu gl aw) := by rw [← e9]; exact hD
              exact ih142 (r9 + 1) _ _ _ (by omega) (by omega) (by omega) hP hD hS (lv_sub hl [0, 1, 2] rfl)
            refine lv_iconst (v := nI 1) hx hb dX7_solve_175 (by decide) ?_
            refine lv_goto (tgt := 180) hx hb dX7_solve_176 (by decide) ?_
            refine va_put (D := D) (ci := 7) (v := .int (nI 1)) (ty := .boolean) (C := RX7) (T := TX7) (N := 17) hx hb hts iX7 tyX7 tyX7_ok nmX7 hown hK hP hD hS 0 rfl rfl 10 (by decide) (hts _ k_f_X7_105) (fun _ h9 => h9) rfl (by decide +kernel) (by decide) (by decide) (Nat.le_of_ble_eq_true rfl) dX7_solve_180 (fun H locs hP hD hS => ?_)
            have hP : va_P D vwCl (WM K mm ta sl ss be ch th M1 rq cq pv1 (nI 1) st gs gm gu gl aw) H := hP
            have hD : va_D A (WM K mm ta sl ss be ch th M1 rq cq pv1 (nI 1) st gs gm gu gl aw) := hD
            refine lv_iinc (v := nI (r9 + 1)) (lv' := [(2, .int (nI (r9 + 1))), (1, .int (nI rk)), (0, .ref (mm 0))]) hx hb dX7_solve_183 hl (k := 0) rfl (nI_add r9 1) (by decide) rfl (fun ls hl => ?_)
            refine lv_goto (tgt := 142) hx hb dX7_solve_186 (by decide) ?_
            have e9 : nI 1 = (bI (∀ i, rk ≤ i → i < (r9 + 1) → (M1 i 10).toInt = 0)) := bI_t (fun i h1 h2 => by
      by_cases q : i = r9
      · subst q; omega
      · exact hall i h1 (by omega))
            have hP : va_P D vwCl (WM K mm ta sl ss be ch th M1 rq cq pv1 (bI (∀ i, rk ≤ i → i < (r9 + 1) → (M1 i 10).toInt = 0)) st gs gm gu gl aw) H := by rw [← e9]; exact hP
            have hD : va_D A (WM K mm ta sl ss be ch th M1 rq cq pv1 (bI (∀ i, rk ≤ i → i < (r9 + 1) → (M1 i 10).toInt = 0)) st gs gm gu gl aw) := by rw [← e9]; exact hD
            exact ih142 (r9 + 1) _ _ _ (by omega) (by omega) (by omega) hP hD hS (lv_sub hl [0, 1, 2] rfl)
        exact L142 _ rk _ _ _ (Nat.lt_succ_self _) (Nat.le_refl _) hrk hP hD hS (lv_sub hl [0, 1, 2] rfl)
      refine lv_iload_n hx hb dX7_solve_12 rfl (lv_at hl 1 rfl) ?_
      refine lv_istore_n (lv' := [(3, .int (nI rk)), (2, .int (nI t)), (1, .int (nI rk)), (0, .ref (mm 0))]) hx hb dX7_solve_13 rfl hl (by decide) rfl (fun ls hl => ?_)
      have L14 : ∀ (fuel : Nat) (k : Nat) (H : Heap) (locs : List Loc) (ls : Array Slot), 10 - k < fuel → (rk ≤ k) → (k ≤ nr) → (∀ i, rk ≤ i → i < k → (M1 i t).toInt = 0) → va_P D vwCl (WM K mm ta sl ss be ch th M1 rq cq pv1 so st gs gm gu gl aw) H → va_D A (WM K mm ta sl ss be ch th M1 rq cq pv1 so st gs gm gu gl aw) → va_S A s.heap H locs → lv_has ls 5 [(3, .int (nI k)), (2, .int (nI t)), (1, .int (nI rk)), (0, .ref (mm 0))] → W p l e ({ frames := 3, cells := 0, slots := 0, locals := 81 } : Room) s m [.ref (mm 0)].toArray below meth c H locs 0 0 (MQ below (va_Qv (fun (u : (Nat → Nat → Int64) × (Nat → Int32) × Int32) => SolvedM (HS (tI M) nr) nr nc u.1 u.2.1 u.2.2) (fun (u : (Nat → Nat → Int64) × (Nat → Int32) × Int32) t => cB D K A (WM K mm ta sl ss be ch th u.1 rq cq u.2.1 u.2.2 st gs gm gu gl aw) t) A) [.ref (mm 0)].toArray s 0 0 A) (F0 m 14 ls []) := by
        intro fuel
        induction fuel with
        | zero =>
          intro k H locs ls hfu
          exact absurd hfu (Nat.not_lt_zero _)
        | succ fuel ih14 =>
          intro k H locs ls hfu hkq hk2 hno hP hD hS hl
          refine lv_iload_n hx hb dX7_solve_14 rfl (lv_at hl 0 rfl) ?_
          refine lv_aload_n hx hb dX7_solve_15 rfl (lv_at hl 3 rfl) ?_
          refine va_get (D := D) (ci := 7) (C := RX7) (T := TX7) (N := 17) hx hb hts iX7 hown hK hP 0 rfl rfl 7 (by decide) (hts _ k_f_X7_84) (fun _ h9 => h9) rfl dX7_solve_16 ?_
          refine t_i (show _ = nI nr from hrq) ?_
          refine b_icmp_ge hx hb (nI_toIntI (by omega)) (nI_toIntI (by omega)) dX7_solve_19 (tgt := 44) (by decide) (fun c19 => ?_) (fun c19 => ?_)
          · refine lv_aload_n hx hb dX7_solve_44 rfl (lv_at hl 3 rfl) ?_
            refine va_get (D := D) (ci := 7) (C := RX7) (T := TX7) (N := 17) hx hb hts iX7 hown hK hP 0 rfl rfl 9 (by decide) (hts _ k_f_X7_27) (fun _ h9 => h9) rfl dX7_solve_45 ?_
            refine lv_iload_n hx hb dX7_solve_48 rfl (lv_at hl 1 rfl) ?_
            refine lv_iload_n hx hb dX7_solve_49 rfl (lv_at hl 0 rfl) ?_
            refine lv_aload_n hx hb dX7_solve_50 rfl (lv_at hl 3 rfl) ?_
            refine va_get (D := D) (ci := 7) (C := RX7) (T := TX7) (N := 17) hx hb hts iX7 hown hK hP 0 rfl rfl 7 (by decide) (hts _ k_f_X7_84) (fun _ h9 => h9) rfl dX7_solve_51 ?_
            refine t_i (show _ = nI nr from hrq) ?_
            refine b_icmp_ge hx hb (nI_toIntI (by omega)) (nI_toIntI (by omega)) dX7_solve_54 (tgt := 61) (by decide) (fun c54 => ?_) (fun c54 => absurd c54 (by omega))
            refine lv_iconst (v := (-1)) hx hb dX7_solve_61 (by decide) ?_
            refine n_iast hx hb hK hP hD hS 6 0 rfl rfl (i := t) (n := 10) (by omega) (by decide) dX7_solve_62 (fun H locs hP hD hS => ?_)
            have hP : va_P D vwCl (WM K mm ta sl ss be ch th M1 rq cq (upd pv1 t (-1)) so st gs gm gu gl aw) H := hP
            have hD : va_D A (WM K mm ta sl ss be ch th M1 rq cq (upd pv1 t (-1)) so st gs gm gu gl aw) := hD
            refine lv_iload_n hx hb dX7_solve_63 rfl (lv_at hl 0 rfl) ?_
            refine lv_aload_n hx hb dX7_solve_64 rfl (lv_at hl 3 rfl) ?_
            refine va_get (D := D) (ci := 7) (C := RX7) (T := TX7) (N := 17) hx hb hts iX7 hown hK hP 0 rfl rfl 7 (by decide) (hts _ k_f_X7_84) (fun _ h9 => h9) rfl dX7_solve_65 ?_
            refine t_i (show _ = nI nr from hrq) ?_
            refine b_icmp_ge hx hb (nI_toIntI (by omega)) (nI_toIntI (by omega)) dX7_solve_68 (tgt := 129) (by decide) (fun c68 => ?_) (fun c68 => absurd c68 (by omega))
            have hfr2 : FinTo (tI M1) nr ps (t + 1) := fun i hi hf j hj => by
              by_cases q : j = t
              · subst q; rw [tI_at (by omega)]; exact hno i ((hrows i).mp hf) (by omega)
              · exact hfr i hi hf j (by omega)
            refine lv_iinc (v := nI (t + 1)) (lv' := [(2, .int (nI (t + 1))), (3, .int (nI k)), (1, .int (nI rk)), (0, .ref (mm 0))]) hx hb dX7_solve_129 hl (k := 1) rfl (nI_add t 1) (by decide) rfl (fun ls hl => ?_)
            refine lv_goto (tgt := 4) hx hb dX7_solve_132 (by decide) ?_
            exact ih4 (t + 1) rk M1 Mo (upd pv1 t (-1)) ps _ _ _ (by omega) (by omega) hrk hH hMB1 hMo hE (fun q hq => by have := hc q hq; omega) (hpv.miss hc) hrows hfr2 hzc1 hP hD hS (lv_sub hl [0, 2, 3] rfl)
          refine lv_aload_n hx hb dX7_solve_22 rfl (lv_at hl 3 rfl) ?_
          refine va_get (D := D) (ci := 7) (C := RX7) (T := TX7) (N := 17) hx hb hts iX7 hown hK hP 0 rfl rfl 6 (by decide) (hts _ k_f_X7_23) (fun _ h9 => h9) rfl dX7_solve_23 ?_
          refine lv_bipush (v := nI 11) hx hb dX7_solve_26 (by decide) ?_
          refine lv_iload_n hx hb dX7_solve_28 rfl (lv_at hl 0 rfl) ?_
          refine lv_imul hx hb dX7_solve_29 ?_
          refine t_i (pk_mul _ _) ?_
          refine lv_iload_n hx hb dX7_solve_30 rfl (lv_at hl 1 rfl) ?_
          refine lv_iadd hx hb dX7_solve_31 ?_
          refine t_i (nI_add _ _) ?_
          refine n_lald hx hb hK hP 5 1 rfl rfl (i := 11 * k + t) (n := 121) (by omega) (by decide) dX7_solve_32 ?_
          refine t_l (cL_at (M := M1) (k := 11 * k + t) (r := k) (c := t) (by omega) (by omega)) ?_
          refine lv_lconst (v := 0) hx hb dX7_solve_33 (by decide) ?_
          refine b_lcmp_ne hx hb rfl (show (0 : Int64).toInt = 0 by decide) dX7_solve_34 dX7_solve_35 (tgt := 44) (by decide) (fun c34 => ?_) (fun c34 => ?_)
          · refine lv_aload_n hx hb dX7_solve_44 rfl (lv_at hl 3 rfl) ?_
            refine va_get (D := D) (ci := 7) (C := RX7) (T := TX7) (N := 17) hx hb hts iX7 hown hK hP 0 rfl rfl 9 (by decide) (hts _ k_f_X7_27) (fun _ h9 => h9) rfl dX7_solve_45 ?_
            refine lv_iload_n hx hb dX7_solve_48 rfl (lv_at hl 1 rfl) ?_
            refine lv_iload_n hx hb dX7_solve_49 rfl (lv_at hl 0 rfl) ?_
            refine lv_aload_n hx hb dX7_solve_50 rfl (lv_at hl 3 rfl) ?_
            refine va_get (D := D) (ci := 7) (C := RX7) (T := TX7) (N := 17) hx hb hts iX7 hown hK hP 0 rfl rfl 7 (by decide) (hts _ k_f_X7_84) (fun _ h9 => h9) rfl dX7_solve_51 ?_
            refine t_i (show _ = nI nr from hrq) ?_
            refine b_icmp_ge hx hb (nI_toIntI (by omega)) (nI_toIntI (by omega)) dX7_solve_54 (tgt := 61) (by decide) (fun c54 => absurd c54 (by omega)) (fun c54 => ?_)
            refine lv_iload_n hx hb dX7_solve_57 rfl (lv_at hl 2 rfl) ?_
            refine lv_goto (tgt := 62) hx hb dX7_solve_58 (by decide) ?_
            refine n_iast hx hb hK hP hD hS 6 0 rfl rfl (i := t) (n := 10) (by omega) (by decide) dX7_solve_62 (fun H locs hP hD hS => ?_)
            have hP : va_P D vwCl (WM K mm ta sl ss be ch th M1 rq cq (upd pv1 t (nI rk)) so st gs gm gu gl aw) H := hP
            have hD : va_D A (WM K mm ta sl ss be ch th M1 rq cq (upd pv1 t (nI rk)) so st gs gm gu gl aw) := hD
            refine lv_iload_n hx hb dX7_solve_63 rfl (lv_at hl 0 rfl) ?_
            refine lv_aload_n hx hb dX7_solve_64 rfl (lv_at hl 3 rfl) ?_
            refine va_get (D := D) (ci := 7) (C := RX7) (T := TX7) (N := 17) hx hb hts iX7 hown hK hP 0 rfl rfl 7 (by decide) (hts _ k_f_X7_84) (fun _ h9 => h9) rfl dX7_solve_65 ?_
            refine t_i (show _ = nI nr from hrq) ?_
            refine b_icmp_ge hx hb (nI_toIntI (by omega)) (nI_toIntI (by omega)) dX7_solve_68 (tgt := 129) (by decide) (fun c68 => absurd c68 (by omega)) (fun c68 => ?_)
            refine lv_aload_n hx hb dX7_solve_71 rfl (lv_at hl 3 rfl) ?_
            refine lv_iload_n hx hb dX7_solve_72 rfl (lv_at hl 0 rfl) ?_
            refine lv_iload_n hx hb dX7_solve_73 rfl (lv_at hl 2 rfl) ?_
            have hkn : k < nr := by omega
            have hrkn : rk < nr := by omega
            have hFc := freeAll hD hS hA
            refine va_callv (va_runV (As := [.int (nI k), .int (nI rk)]) (rest := []) ⟨hx, hb, hml, hown, hts⟩ (c_X7_swap l D K mm ta sl ss be ch th M1 rq cq (upd pv1 t (nI rk)) so st gs gm gu gl aw k rk H.size (by omega) (by omega)) (cwV 2 hts (TB_V k_m_X7_97 k_im_X7_swap k_se_X7_swap k_in_X7 k_co_X7_swap (fun _ h => h)) rfl rfl rfl (by decide +kernel) ⟨Nat.le_of_ble_eq_true rfl, Nat.le_of_ble_eq_true rfl⟩) ⟨cP_blind, va_recv hK hP (ci := 7) (q0 := 0) rfl rfl, cP_of hP hK hD⟩ rfl rfl hl.1 rfl (lv_room (Nat.le_of_ble_eq_true rfl)) dX7_solve_74 ⟨Nat.le_of_ble_eq_true rfl, Nat.le_of_ble_eq_true rfl⟩) hS (fun q _ h => hFc q h) hFc (fun M2 t9 H locs ht9 hvm hw hB hz1 hk1 hS => ?_)
            obtain ⟨hP, hK1, hD1⟩ := hB
            rw [ht9] at hP
            have hD := hD1.weaken (fun _ _ _ h => hFc _ h)
            have hP : va_P D vwCl (WM K mm ta sl ss be ch th M2 rq cq (upd pv1 t (nI rk)) so st gs gm gu gl aw) H := hP
            have hD : va_D A (WM K mm ta sl ss be ch th M2 rq cq (upd pv1 t (nI rk)) so st gs gm gu gl aw) := hD
            have hsw := tI_sw hw
            have hkf : ∀ q ∈ ps, q.1 ≠ rk := (hrows rk).mpr (Nat.le_refl _)
            have hkf2 : ∀ q ∈ ps, q.1 ≠ k := (hrows k).mpr hkq
            have hE1 : EInv (fun i => Mo (sw k rk i)) (tI M2) nr ps := by rw [hsw]; exact EInv_sw hE hkn hrkn hkf2 hkf
            have hMB2 : MB (fun i => Mo (sw k rk i)) nr := MB_sw hkn hrkn hMB1
            have hMo2 : ∀ i j, i < nr → j < 11 → (Mo (sw k rk i) j).natAbs ≤ BB := fun i j hi hj => hMo _ j (sw_lt hkn hrkn hi) hj
            have hp2 : tI M2 rk t ≠ 0 := by rw [hsw]; show tI M1 (sw k rk rk) t ≠ 0; rw [sw_2, tI_at (by omega)]; omega
            have hbd := EInv_bound hE1 hMB2 hMo2
            have hfrs : FinTo (tI M2) nr ps t := fun i hi hf j hj => by rw [hsw]; exact hfr _ (sw_lt hkn hrkn hi) ((hrows _).mpr (sw_ge hkq (Nat.le_refl _) ((hrows i).mp hf))) j hj
            have hzcs : ∀ i, i < nr → ∀ j, nc ≤ j → j < 10 → tI M2 i j = 0 := fun i hi j h1 h2 => by rw [hsw]; exact hzc1 _ (sw_lt hkn hrkn hi) j h1 h2
            refine lv_iconst (v := nI 0) hx hb dX7_solve_77 (by decide) ?_
            refine lv_istore (lv' := [(4, .int (nI 0)), (3, .int (nI k)), (2, .int (nI t)), (1, .int (nI rk)), (0, .ref (mm 0))]) hx hb dX7_solve_78 hl (by decide) rfl (fun ls hl => ?_)
            have L80 : ∀ (fuel : Nat) (i : Nat) (M3 : Nat → Nat → Int64) (H : Heap) (locs : List Loc) (ls : Array Slot), 10 - i < fuel → (i ≤ nr) → (Part M2 M3 rk t i) → va_P D vwCl (WM K mm ta sl ss be ch th M3 rq cq (upd pv1 t (nI rk)) so st gs gm gu gl aw) H → va_D A (WM K mm ta sl ss be ch th M3 rq cq (upd pv1 t (nI rk)) so st gs gm gu gl aw) → va_S A s.heap H locs → lv_has ls 5 [(4, .int (nI i)), (3, .int (nI k)), (2, .int (nI t)), (1, .int (nI rk)), (0, .ref (mm 0))] → W p l e ({ frames := 3, cells := 0, slots := 0, locals := 81 } : Room) s m [.ref (mm 0)].toArray below meth c H locs 0 0 (MQ below (va_Qv (fun (u : (Nat → Nat → Int64) × (Nat → Int32) × Int32) => SolvedM (HS (tI M) nr) nr nc u.1 u.2.1 u.2.2) (fun (u : (Nat → Nat → Int64) × (Nat → Int32) × Int32) t => cB D K A (WM K mm ta sl ss be ch th u.1 rq cq u.2.1 u.2.2 st gs gm gu gl aw) t) A) [.ref (mm 0)].toArray s 0 0 A) (F0 m 80 ls []) := by
              intro fuel
              induction fuel with
              | zero =>
                intro i M3 H locs ls hfu
                exact absurd hfu (Nat.not_lt_zero _)
              | succ fuel ih80 =>
                intro i M3 H locs ls hfu hi hpt hP hD hS hl
                refine lv_iload hx hb dX7_solve_80 (lv_at hl 0 rfl) ?_
                refine lv_aload_n hx hb dX7_solve_82 rfl (lv_at hl 4 rfl) ?_
                refine va_get (D := D) (ci := 7) (C := RX7) (T := TX7) (N := 17) hx hb hts iX7 hown hK hP 0 rfl rfl 7 (by decide) (hts _ k_f_X7_84) (fun _ h9 => h9) rfl dX7_solve_83 ?_
                refine t_i (show _ = nI nr from hrq) ?_
                refine b_icmp_ge hx hb (nI_toIntI (by omega)) (nI_toIntI (by omega)) dX7_solve_86 (tgt := 126) (by decide) (fun c86 => ?_) (fun c86 => ?_)
                · obtain rfl : i = nr := by omega
                  have hst := hpt.stageN (by omega)
                  have hE2 := EInv_stage hE1 hrkn hkf (by omega) hp2 hst
                  have hc2 : ∀ q ∈ (rk, t) :: ps, q.2 < t + 1 := fun q hq => by
                    rcases List.mem_cons.mp hq with rfl | hq
                    · exact Nat.lt_succ_self _
                    · have := hc q hq; omega
                  have hrows2 : ∀ z, (∀ q ∈ (rk, t) :: ps, q.1 ≠ z) ↔ rk + 1 ≤ z := fun z => by
                    constructor
                    · intro h9
                      have h1 := (hrows z).mp (fun q hq => h9 q (List.mem_cons_of_mem _ hq))
                      have h2 := h9 (rk, t) List.mem_cons_self
                      have h2 : rk ≠ z := h2
                      omega
                    · intro h9 q hq
                      rcases List.mem_cons.mp hq with rfl | hq
                      · show rk ≠ z; omega
                      · exact (hrows z).mpr (by omega) q hq
                  have hfr2 : FinTo (tI M3) i ((rk, t) :: ps) (t + 1) := fun z hi hf j hj => by
                    have hik : z ≠ rk := fun q => hf (rk, t) List.mem_cons_self q.symm
                    by_cases q : j = t
                    · subst q; exact (hE2.2.2.1 (rk, j) List.mem_cons_self).2 z hi hik
                    · exact stage_free hst (hfrs rk hrkn hkf j (by omega)) hi hik (hfrs z hi (fun p hp => hf p (List.mem_cons_of_mem _ hp)) j (by omega))
                  have hzc2 : ∀ z, z < i → ∀ j, nc ≤ j → j < 10 → tI M3 z j = 0 := fun z hz j h1 h2 => by
                    by_cases q : z = rk
                    · subst q; rw [hst.1]; exact hzcs z hz j h1 h2
                    · exact stage_free hst (hzcs rk hrkn j h1 h2) hz q (hzcs z hz j h1 h2)
                  refine lv_iinc (v := nI (rk + 1)) (lv' := [(1, .int (nI (rk + 1))), (4, .int (nI i)), (3, .int (nI k)), (2, .int (nI t)), (0, .ref (mm 0))]) hx hb dX7_solve_126 hl (k := 3) rfl (nI_add rk 1) (by decide) rfl (fun ls hl => ?_)
                  refine lv_iinc (v := nI (t + 1)) (lv' := [(2, .int (nI (t + 1))), (1, .int (nI (rk + 1))), (4, .int (nI i)), (3, .int (nI k)), (0, .ref (mm 0))]) hx hb dX7_solve_129 hl (k := 3) rfl (nI_add t 1) (by decide) rfl (fun ls hl => ?_)
                  refine lv_goto (tgt := 4) hx hb dX7_solve_132 (by decide) ?_
                  exact ih4 (t + 1) (rk + 1) M3 (fun i => Mo (sw k rk i)) (upd pv1 t (nI rk)) ((rk, t) :: ps) _ _ _ (by omega) (by omega) (by omega) (fun x => (HS_sw hkn hrkn x).trans (hH x)) hMB2 hMo2 hE2 hc2 (hpv.hit (by omega)) hrows2 hfr2 hzc2 hP hD hS (lv_sub hl [0, 1, 4] rfl)
                refine lv_iload hx hb dX7_solve_89 (lv_at hl 0 rfl) ?_
                refine lv_iload_n hx hb dX7_solve_91 rfl (lv_at hl 3 rfl) ?_
                refine b_icmp_eq hx hb (nI_toIntI (by omega)) (nI_toIntI (by omega)) dX7_solve_92 (tgt := 120) (by decide) (fun c92 => ?_) (fun c92 => ?_)
                · refine lv_iinc (v := nI (i + 1)) (lv' := [(4, .int (nI (i + 1))), (3, .int (nI k)), (2, .int (nI t)), (1, .int (nI rk)), (0, .ref (mm 0))]) hx hb dX7_solve_120 hl (k := 0) rfl (nI_add i 1) (by decide) rfl (fun ls hl => ?_)
                  refine lv_goto (tgt := 80) hx hb dX7_solve_123 (by decide) ?_
                  exact ih80 (i + 1) M3 _ _ _ (by omega) (by omega) (hpt.skip (by first | exact Or.inl (by omega) | exact Or.inr (by omega))) hP hD hS (lv_sub hl [0, 1, 2, 3, 4] rfl)
                refine lv_aload_n hx hb dX7_solve_95 rfl (lv_at hl 4 rfl) ?_
                refine va_get (D := D) (ci := 7) (C := RX7) (T := TX7) (N := 17) hx hb hts iX7 hown hK hP 0 rfl rfl 6 (by decide) (hts _ k_f_X7_23) (fun _ h9 => h9) rfl dX7_solve_96 ?_
                refine lv_bipush (v := nI 11) hx hb dX7_solve_99 (by decide) ?_
                refine lv_iload hx hb dX7_solve_101 (lv_at hl 0 rfl) ?_
                refine lv_imul hx hb dX7_solve_103 ?_
                refine t_i (pk_mul _ _) ?_
                refine lv_iload_n hx hb dX7_solve_104 rfl (lv_at hl 2 rfl) ?_
                refine lv_iadd hx hb dX7_solve_105 ?_
                refine t_i (nI_add _ _) ?_
                refine n_lald hx hb hK hP 5 1 rfl rfl (i := 11 * i + t) (n := 121) (by omega) (by decide) dX7_solve_106 ?_
                refine t_l (cL_at (M := M3) (k := 11 * i + t) (r := i) (c := t) (by omega) (by omega)) ?_
                refine lv_lconst (v := 0) hx hb dX7_solve_107 (by decide) ?_
                refine b_lcmp_eq hx hb rfl (show (0 : Int64).toInt = 0 by decide) dX7_solve_108 dX7_solve_109 (tgt := 120) (by decide) (fun c108 => ?_) (fun c108 => ?_)
                · refine lv_iinc (v := nI (i + 1)) (lv' := [(4, .int (nI (i + 1))), (3, .int (nI k)), (2, .int (nI t)), (1, .int (nI rk)), (0, .ref (mm 0))]) hx hb dX7_solve_120 hl (k := 0) rfl (nI_add i 1) (by decide) rfl (fun ls hl => ?_)
                  refine lv_goto (tgt := 80) hx hb dX7_solve_123 (by decide) ?_
                  exact ih80 (i + 1) M3 _ _ _ (by omega) (by omega) (hpt.skip (by first | exact Or.inl (by omega) | exact Or.inr (by omega))) hP hD hS (lv_sub hl [0, 1, 2, 3, 4] rfl)
                refine lv_aload_n hx hb dX7_solve_112 rfl (lv_at hl 4 rfl) ?_
                refine lv_iload hx hb dX7_solve_113 (lv_at hl 0 rfl) ?_
                refine lv_iload_n hx hb dX7_solve_115 rfl (lv_at hl 3 rfl) ?_
                refine lv_iload_n hx hb dX7_solve_116 rfl (lv_at hl 2 rfl) ?_
                have c92n : i ≠ rk := by omega
                have hbi : ∀ x, x < 11 → (M3 i x).toInt.natAbs ≤ BB := fun x hx9 => by have h9 := hbd i x (by omega) hx9; rw [tI_at hx9] at h9; rw [hpt.2.1 i (Nat.le_refl _)]; exact h9
                have hbk : ∀ x, x < 11 → (M3 rk x).toInt.natAbs ≤ BB := fun x hx9 => by have h9 := hbd rk x hrkn hx9; rw [tI_at hx9] at h9; rw [hpt.2.2]; exact h9
                have hFc := freeAll hD hS hA
                refine va_callv (va_runV (As := [.int (nI i), .int (nI rk), .int (nI t)]) (rest := []) ⟨hx, hb, hml, hown, hts⟩ (c_X7_takeOff l D K mm ta sl ss be ch th M3 rq cq (upd pv1 t (nI rk)) so st gs gm gu gl aw i rk t H.size (by omega) (by omega) (by omega) c92n hbi hbk) (cwV 3 hts (TB_V k_m_X7_101 k_im_X7_takeOff k_se_X7_takeOff k_in_X7 k_co_X7_takeOff (fun _ h => h)) rfl rfl rfl (by decide +kernel) ⟨Nat.le_of_ble_eq_true rfl, Nat.le_of_ble_eq_true rfl⟩) ⟨cP_blind, va_recv hK hP (ci := 7) (q0 := 0) rfl rfl, cP_of hP hK hD⟩ rfl rfl hl.1 rfl (lv_room (Nat.le_of_ble_eq_true rfl)) dX7_solve_117 ⟨Nat.le_of_ble_eq_true rfl, Nat.le_of_ble_eq_true rfl⟩) hS (fun q _ h => hFc q h) hFc (fun M4 t9 H locs ht9 hvm hw hB hz1 hk1 hS => ?_)
                obtain ⟨hP, hK1, hD1⟩ := hB
                rw [ht9] at hP
                have hD := hD1.weaken (fun _ _ _ h => hFc _ h)
                have hP : va_P D vwCl (WM K mm ta sl ss be ch th M4 rq cq (upd pv1 t (nI rk)) so st gs gm gu gl aw) H := hP
                have hD : va_D A (WM K mm ta sl ss be ch th M4 rq cq (upd pv1 t (nI rk)) so st gs gm gu gl aw) := hD
                refine lv_iinc (v := nI (i + 1)) (lv' := [(4, .int (nI (i + 1))), (3, .int (nI k)), (2, .int (nI t)), (1, .int (nI rk)), (0, .ref (mm 0))]) hx hb dX7_solve_120 hl (k := 0) rfl (nI_add i 1) (by decide) rfl (fun ls hl => ?_)
                refine lv_goto (tgt := 80) hx hb dX7_solve_123 (by decide) ?_
                exact ih80 (i + 1) M4 _ _ _ (by omega) (by omega) (hpt.step c92n hw.1 hw.2) hP hD hS (lv_sub hl [0, 1, 2, 3, 4] rfl)
            exact L80 _ 0 M2 _ _ _ (Nat.lt_succ_self _) (by omega) (Part.start _ _ _) hP hD hS (lv_sub hl [0, 1, 2, 3, 4] rfl)
          refine lv_iinc (v := nI (k + 1)) (lv' := [(3, .int (nI (k + 1))), (2, .int (nI t)), (1, .int (nI rk)), (0, .ref (mm 0))]) hx hb dX7_solve_38 hl (k := 0) rfl (nI_add k 1) (by decide) rfl (fun ls hl => ?_)
          refine lv_goto (tgt := 14) hx hb dX7_solve_41 (by decide) ?_
          exact ih14 (k + 1) _ _ _ (by omega) (by omega) (by omega) (fun i h1 h2 => by
      by_cases q : i = k
      · subst q; omega
      · exact hno i h1 (by omega)) hP hD hS (lv_sub hl [0, 1, 2, 3] rfl)
      exact L14 _ rk _ _ _ (Nat.lt_succ_self _) (Nat.le_refl _) hrk (fun i h1 h2 => absurd h1 (by omega)) hP hD hS (lv_sub hl [0, 1, 2, 3] rfl)
  exact L4 _ 0 0 M (tI M) pv ([]) _ _ _ (Nat.lt_succ_self _) (by omega) (by omega) (fun x => Iff.rfl) hMB hM0 (EInv_start _ _) (fun q h => absurd h List.not_mem_nil) (fun t h => absurd h (Nat.not_lt_zero _)) (fun i => ⟨fun _ => Nat.zero_le i, fun _ q h => absurd h List.not_mem_nil⟩) (fun i _ _ j h => absurd h (Nat.not_lt_zero _)) hzc hP hD hS (lv_sub hl [0, 1, 2] rfl)
