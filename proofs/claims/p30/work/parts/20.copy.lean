/-! Design.copyFrom -/
def EqD (d o : Nat → Nat → Int32) : Prop := (∀ a j, a < 5 → j < 3 → d a j = o a j) ∧ (∀ a j, 5 ≤ a → a < 8 → j < 6 → d a j = o a j) ∧ d 8 0 = o 8 0 ∧ d 8 1 = o 8 1 ∧ d 8 2 = o 8 2
theorem dU_off {d : Nat → Nat → Int32} {k j a t : Nat} {x : Int32} (h : a ≠ k ∨ t ≠ j) : dU d k j x a t = d a t := by
  rcases h with h | h
  · rw [dU_k h]
  · exact dU_j h
theorem copy5 {d o : Nat → Nat → Int32} {k : Nat} (h : ∀ a j, a < 5 → j < k → d a j = o a j) : ∀ a j, a < 5 → j < k + 1 → dU (dU (dU (dU (dU d 0 k (o 0 k)) 1 k (o 1 k)) 2 k (o 2 k)) 3 k (o 3 k)) 4 k (o 4 k) a j = o a j := by
  intro a j ha hj
  by_cases q : j = k
  · subst q
    rcases (show a = 0 ∨ a = 1 ∨ a = 2 ∨ a = 3 ∨ a = 4 by omega) with rfl | rfl | rfl | rfl | rfl <;> simp [dU, upd]
  · rw [dU_off (Or.inr q), dU_off (Or.inr q), dU_off (Or.inr q), dU_off (Or.inr q), dU_off (Or.inr q)]
    exact h a j ha (by omega)
theorem copy3 {d o : Nat → Nat → Int32} {k : Nat} (h : ∀ a j, 5 ≤ a → a < 8 → j < k → d a j = o a j) : ∀ a j, 5 ≤ a → a < 8 → j < k + 1 → dU (dU (dU d 5 k (o 5 k)) 6 k (o 6 k)) 7 k (o 7 k) a j = o a j := by
  intro a j ha ha2 hj
  by_cases q : j = k
  · subst q
    rcases (show a = 5 ∨ a = 6 ∨ a = 7 by omega) with rfl | rfl | rfl <;> simp [dU, upd]
  · rw [dU_off (Or.inr q), dU_off (Or.inr q), dU_off (Or.inr q)]
    exact h a j ha ha2 (by omega)
set_option maxHeartbeats 4000000 in
set_option maxRecDepth 100000 in
theorem c_X0_copyFrom (l : Launch) (D : va_G) (K : Nat → ClassId) (q q2 : Nat → Nat) (d o : Nat → Nat → Int32) (sz : Nat)  : Met l yX0_copyFrom (.code yX0_copyFrom cX0_copyFrom 3 none :: TB) ({ frames := 0, cells := 0, slots := 0, locals := 0 } : Room) (va_Pc [.ref (q 0), .ref (q2 0)] (cP D K (WD K q d ++ (WD K q2 o)) sz)) (va_Qv (fun (u : Nat → Nat → Int32) => EqD u o) (fun (u : Nat → Nat → Int32) t => cB D K (va_A (WD K q d ++ (WD K q2 o)) sz) (WD K q u ++ (WD K q2 o)) t) (va_A (WD K q d ++ (WD K q2 o)) sz)) 0 0 (va_A (WD K q d ++ (WD K q2 o)) sz) := by
  refine Met.ofW (cc := cX0_copyFrom) (maxL := 3) (ret := none) (by decide) rfl ?_
  intro p e s m args below meth c s₁ B hml hv
  obtain ⟨rfl, hsz, hP, hK, hD0⟩ := hv
  have hx := B.exec
  have hb := B.bytes
  have hr := B.returns
  have hts := hts_tl (atoms_spec (ws := (.code yX0_copyFrom cX0_copyFrom 3 none :: TB)) B.pre)
  have hown : s.vm.findClass RX0 = some m.cls := findClass_of_methodNamed B.named
  have hlocks := B.notSynchronized
  subst hsz
  have hD := hD0.self (sz := s.heap.size)
  generalize hAe : (va_A (WD K q d ++ (WD K q2 o)) s.heap.size) = A at hD ⊢
  have hA : ∀ q : Nat, s.heap.size ≤ q → A q := fun q h => by rw [← hAe]; exact Or.inr h
  have hS : va_S A s.heap s.heap [] := va_S.rf
  have hl := lv_entry ([.ref (q 0), .ref (q2 0)]) (n := 3) (Nat.le_of_ble_eq_true rfl)
  rw [lg_entry_eq]
  generalize (lg_sl ([.ref (q 0), .ref (q2 0)]) ++ List.replicate (3 - (lg_sl ([.ref (q 0), .ref (q2 0)])).length) Slot.unset).toArray = ls at hl ⊢
  have hl : lv_has ls 3 [(0, .ref (q 0)), (1, .ref (q2 0))] := hl
  refine lv_iconst (v := nI 0) hx hb dX0_copyFrom_0 (by decide) ?_
  refine lv_istore_n (lv' := [(2, .int (nI 0)), (0, .ref (q 0)), (1, .ref (q2 0))]) hx hb dX0_copyFrom_1 rfl hl (by decide) rfl (fun ls hl => ?_)
  have L2 : ∀ (fuel : Nat) (k : Nat) (d1 : Nat → Nat → Int32) (H : Heap) (locs : List Loc) (ls : Array Slot), 3 - k < fuel → (k ≤ 3) → (∀ a j, a < 5 → j < k → d1 a j = o a j) → va_P D vwCl (WD K q d1 ++ (WD K q2 o)) H → va_D A (WD K q d1 ++ (WD K q2 o)) → va_S A s.heap H locs → lv_has ls 3 [(2, .int (nI k)), (0, .ref (q 0)), (1, .ref (q2 0))] → W p l e ({ frames := 0, cells := 0, slots := 0, locals := 0 } : Room) s m [.ref (q 0), .ref (q2 0)].toArray below meth c H locs 0 0 (MQ below (va_Qv (fun (u : Nat → Nat → Int32) => EqD u o) (fun (u : Nat → Nat → Int32) t => cB D K A (WD K q u ++ (WD K q2 o)) t) A) [.ref (q 0), .ref (q2 0)].toArray s 0 0 A) (F0 m 2 ls []) := by
    intro fuel
    induction fuel with
    | zero =>
      intro k d1 H locs ls hfu
      exact absurd hfu (Nat.not_lt_zero _)
    | succ fuel ih2 =>
      intro k d1 H locs ls hfu hk hI hP hD hS hl
      refine lv_iload_n hx hb dX0_copyFrom_2 rfl (lv_at hl 0 rfl) ?_
      refine lv_iconst (v := nI 3) hx hb dX0_copyFrom_3 (by decide) ?_
      refine b_icmp_ge hx hb (nI_toIntI (by omega)) (nI_toIntI (by omega)) dX0_copyFrom_4 (tgt := 73) (by decide) (fun c4 => ?_) (fun c4 => ?_)
      · refine lv_iconst (v := nI 0) hx hb dX0_copyFrom_73 (by decide) ?_
        refine lv_istore_n (lv' := [(2, .int (nI 0)), (0, .ref (q 0)), (1, .ref (q2 0))]) hx hb dX0_copyFrom_74 rfl hl (by decide) rfl (fun ls hl => ?_)
        have L75 : ∀ (fuel : Nat) (z : Nat) (d2 : Nat → Nat → Int32) (H : Heap) (locs : List Loc) (ls : Array Slot), 6 - z < fuel → (z ≤ 6) → (∀ a j, a < 5 → j < 3 → d2 a j = o a j) → (∀ a j, 5 ≤ a → a < 8 → j < z → d2 a j = o a j) → va_P D vwCl (WD K q d2 ++ (WD K q2 o)) H → va_D A (WD K q d2 ++ (WD K q2 o)) → va_S A s.heap H locs → lv_has ls 3 [(2, .int (nI z)), (0, .ref (q 0)), (1, .ref (q2 0))] → W p l e ({ frames := 0, cells := 0, slots := 0, locals := 0 } : Room) s m [.ref (q 0), .ref (q2 0)].toArray below meth c H locs 0 0 (MQ below (va_Qv (fun (u : Nat → Nat → Int32) => EqD u o) (fun (u : Nat → Nat → Int32) t => cB D K A (WD K q u ++ (WD K q2 o)) t) A) [.ref (q 0), .ref (q2 0)].toArray s 0 0 A) (F0 m 75 ls []) := by
          intro fuel
          induction fuel with
          | zero =>
            intro z d2 H locs ls hfu
            exact absurd hfu (Nat.not_lt_zero _)
          | succ fuel ih75 =>
            intro z d2 H locs ls hfu hz hI9 hJ hP hD hS hl
            refine lv_iload_n hx hb dX0_copyFrom_75 rfl (lv_at hl 0 rfl) ?_
            refine lv_bipush (v := nI 6) hx hb dX0_copyFrom_76 (by decide) ?_
            refine b_icmp_ge hx hb (nI_toIntI (by omega)) (nI_toIntI (by omega)) dX0_copyFrom_78 (tgt := 123) (by decide) (fun c78 => ?_) (fun c78 => ?_)
            · refine lv_aload_n hx hb dX0_copyFrom_123 rfl (lv_at hl 1 rfl) ?_
              refine lv_aload_n hx hb dX0_copyFrom_124 rfl (lv_at hl 2 rfl) ?_
              refine va_get (D := D) (ci := 0) (C := RX0) (T := TX0) (N := 11) hx hb hts iX0 hown hK hP 9 rfl rfl 5 (by decide) (hts _ k_f_X0_36) (fun _ h9 => h9) rfl dX0_copyFrom_125 ?_
              refine va_put (D := D) (ci := 0) (v := .int (o 8 0)) (ty := .int) (C := RX0) (T := TX0) (N := 11) hx hb hts iX0 tyX0 tyX0_ok nmX0 hown hK hP hD hS 0 rfl rfl 5 (by decide) (hts _ k_f_X0_36) (fun _ h9 => h9) rfl (by decide +kernel) rfl rfl (Nat.le_of_ble_eq_true rfl) dX0_copyFrom_128 (fun H locs hP hD hS => ?_)
              have hP : va_P D vwCl (WD K q (dU d2 8 0 (o 8 0)) ++ (WD K q2 o)) H := hP
              have hD : va_D A (WD K q (dU d2 8 0 (o 8 0)) ++ (WD K q2 o)) := hD
              refine lv_aload_n hx hb dX0_copyFrom_131 rfl (lv_at hl 1 rfl) ?_
              refine lv_aload_n hx hb dX0_copyFrom_132 rfl (lv_at hl 2 rfl) ?_
              refine va_get (D := D) (ci := 0) (C := RX0) (T := TX0) (N := 11) hx hb hts iX0 hown hK hP 9 rfl rfl 9 (by decide) (hts _ k_f_X0_40) (fun _ h9 => h9) rfl dX0_copyFrom_133 ?_
              refine va_put (D := D) (ci := 0) (v := .int (o 8 1)) (ty := .int) (C := RX0) (T := TX0) (N := 11) hx hb hts iX0 tyX0 tyX0_ok nmX0 hown hK hP hD hS 0 rfl rfl 9 (by decide) (hts _ k_f_X0_40) (fun _ h9 => h9) rfl (by decide +kernel) rfl rfl (Nat.le_of_ble_eq_true rfl) dX0_copyFrom_136 (fun H locs hP hD hS => ?_)
              have hP : va_P D vwCl (WD K q (dU (dU d2 8 0 (o 8 0)) 8 1 (o 8 1)) ++ (WD K q2 o)) H := hP
              have hD : va_D A (WD K q (dU (dU d2 8 0 (o 8 0)) 8 1 (o 8 1)) ++ (WD K q2 o)) := hD
              refine lv_aload_n hx hb dX0_copyFrom_139 rfl (lv_at hl 1 rfl) ?_
              refine lv_aload_n hx hb dX0_copyFrom_140 rfl (lv_at hl 2 rfl) ?_
              refine va_get (D := D) (ci := 0) (C := RX0) (T := TX0) (N := 11) hx hb hts iX0 hown hK hP 9 rfl rfl 10 (by decide) (hts _ k_f_X0_47) (fun _ h9 => h9) rfl dX0_copyFrom_141 ?_
              refine va_put (D := D) (ci := 0) (v := .int (o 8 2)) (ty := .int) (C := RX0) (T := TX0) (N := 11) hx hb hts iX0 tyX0 tyX0_ok nmX0 hown hK hP hD hS 0 rfl rfl 10 (by decide) (hts _ k_f_X0_47) (fun _ h9 => h9) rfl (by decide +kernel) rfl rfl (Nat.le_of_ble_eq_true rfl) dX0_copyFrom_144 (fun H locs hP hD hS => ?_)
              have hP : va_P D vwCl (WD K q (dU (dU (dU d2 8 0 (o 8 0)) 8 1 (o 8 1)) 8 2 (o 8 2)) ++ (WD K q2 o)) H := hP
              have hD : va_D A (WD K q (dU (dU (dU d2 8 0 (o 8 0)) 8 1 (o 8 1)) 8 2 (o 8 2)) ++ (WD K q2 o)) := hD
              exact W.vret hx hb hr (fun t9 ht9 hW => ⟨⟨dU (dU (dU d2 8 0 (o 8 0)) 8 1 (o 8 1)) 8 2 (o 8 2), rfl, ⟨fun a j ha hj => by rw [dU_off (Or.inl (by omega)), dU_off (Or.inl (by omega)), dU_off (Or.inl (by omega))]; exact hI9 a j ha hj, fun a j ha ha2 hj => by rw [dU_off (Or.inl (by omega)), dU_off (Or.inl (by omega)), dU_off (Or.inl (by omega))]; exact hJ a j ha ha2 (by omega), rfl, rfl, rfl⟩, by rw [ht9]; exact hP, va_K.moved hW.alike hK, hD⟩, hS.F ht9⟩) hS.2.2 dX0_copyFrom_147
            refine lv_aload_n hx hb dX0_copyFrom_81 rfl (lv_at hl 1 rfl) ?_
            refine va_get (D := D) (ci := 0) (C := RX0) (T := TX0) (N := 11) hx hb hts iX0 hown hK hP 0 rfl rfl 6 (by decide) (hts _ k_f_X0_27) (fun _ h9 => h9) rfl dX0_copyFrom_82 ?_
            refine lv_iload_n hx hb dX0_copyFrom_85 rfl (lv_at hl 0 rfl) ?_
            refine lv_aload_n hx hb dX0_copyFrom_86 rfl (lv_at hl 2 rfl) ?_
            refine va_get (D := D) (ci := 0) (C := RX0) (T := TX0) (N := 11) hx hb hts iX0 hown hK hP 9 rfl rfl 6 (by decide) (hts _ k_f_X0_27) (fun _ h9 => h9) rfl dX0_copyFrom_87 ?_
            refine lv_iload_n hx hb dX0_copyFrom_90 rfl (lv_at hl 0 rfl) ?_
            refine n_iald hx hb hK hP 15 0 rfl rfl (i := z) (n := 6) (by omega) (by decide) dX0_copyFrom_91 ?_
            refine n_iast hx hb hK hP hD hS 6 0 rfl rfl (i := z) (n := 6) (by omega) (by decide) dX0_copyFrom_92 (fun H locs hP hD hS => ?_)
            have hP : va_P D vwCl (WD K q (dU d2 5 z (o 5 z)) ++ (WD K q2 o)) H := hP
            have hD : va_D A (WD K q (dU d2 5 z (o 5 z)) ++ (WD K q2 o)) := hD
            refine lv_aload_n hx hb dX0_copyFrom_93 rfl (lv_at hl 1 rfl) ?_
            refine va_get (D := D) (ci := 0) (C := RX0) (T := TX0) (N := 11) hx hb hts iX0 hown hK hP 0 rfl rfl 7 (by decide) (hts _ k_f_X0_30) (fun _ h9 => h9) rfl dX0_copyFrom_94 ?_
            refine lv_iload_n hx hb dX0_copyFrom_97 rfl (lv_at hl 0 rfl) ?_
            refine lv_aload_n hx hb dX0_copyFrom_98 rfl (lv_at hl 2 rfl) ?_
            refine va_get (D := D) (ci := 0) (C := RX0) (T := TX0) (N := 11) hx hb hts iX0 hown hK hP 9 rfl rfl 7 (by decide) (hts _ k_f_X0_30) (fun _ h9 => h9) rfl dX0_copyFrom_99 ?_
            refine lv_iload_n hx hb dX0_copyFrom_102 rfl (lv_at hl 0 rfl) ?_
            refine n_iald hx hb hK hP 16 0 rfl rfl (i := z) (n := 6) (by omega) (by decide) dX0_copyFrom_103 ?_
            refine n_iast hx hb hK hP hD hS 7 0 rfl rfl (i := z) (n := 6) (by omega) (by decide) dX0_copyFrom_104 (fun H locs hP hD hS => ?_)
            have hP : va_P D vwCl (WD K q (dU (dU d2 5 z (o 5 z)) 6 z (o 6 z)) ++ (WD K q2 o)) H := hP
            have hD : va_D A (WD K q (dU (dU d2 5 z (o 5 z)) 6 z (o 6 z)) ++ (WD K q2 o)) := hD
            refine lv_aload_n hx hb dX0_copyFrom_105 rfl (lv_at hl 1 rfl) ?_
            refine va_get (D := D) (ci := 0) (C := RX0) (T := TX0) (N := 11) hx hb hts iX0 hown hK hP 0 rfl rfl 8 (by decide) (hts _ k_f_X0_33) (fun _ h9 => h9) rfl dX0_copyFrom_106 ?_
            refine lv_iload_n hx hb dX0_copyFrom_109 rfl (lv_at hl 0 rfl) ?_
            refine lv_aload_n hx hb dX0_copyFrom_110 rfl (lv_at hl 2 rfl) ?_
            refine va_get (D := D) (ci := 0) (C := RX0) (T := TX0) (N := 11) hx hb hts iX0 hown hK hP 9 rfl rfl 8 (by decide) (hts _ k_f_X0_33) (fun _ h9 => h9) rfl dX0_copyFrom_111 ?_
            refine lv_iload_n hx hb dX0_copyFrom_114 rfl (lv_at hl 0 rfl) ?_
            refine n_iald hx hb hK hP 17 0 rfl rfl (i := z) (n := 6) (by omega) (by decide) dX0_copyFrom_115 ?_
            refine n_iast hx hb hK hP hD hS 8 0 rfl rfl (i := z) (n := 6) (by omega) (by decide) dX0_copyFrom_116 (fun H locs hP hD hS => ?_)
            have hP : va_P D vwCl (WD K q (dU (dU (dU d2 5 z (o 5 z)) 6 z (o 6 z)) 7 z (o 7 z)) ++ (WD K q2 o)) H := hP
            have hD : va_D A (WD K q (dU (dU (dU d2 5 z (o 5 z)) 6 z (o 6 z)) 7 z (o 7 z)) ++ (WD K q2 o)) := hD
            refine lv_iinc (v := nI (z + 1)) (lv' := [(2, .int (nI (z + 1))), (0, .ref (q 0)), (1, .ref (q2 0))]) hx hb dX0_copyFrom_117 hl (k := 0) rfl (nI_add z 1) (by decide) rfl (fun ls hl => ?_)
            refine lv_goto (tgt := 75) hx hb dX0_copyFrom_120 (by decide) ?_
            have hJ2 := copy3 hJ
            have hI2 : ∀ a j, a < 5 → j < 3 → (dU (dU (dU d2 5 z (o 5 z)) 6 z (o 6 z)) 7 z (o 7 z)) a j = o a j := fun a j ha hj => by rw [dU_off (Or.inl (by omega)), dU_off (Or.inl (by omega)), dU_off (Or.inl (by omega))]; exact hI9 a j ha hj
            exact ih75 (z + 1) (dU (dU (dU d2 5 z (o 5 z)) 6 z (o 6 z)) 7 z (o 7 z)) _ _ _ (by omega) (by omega) hI2 hJ2 hP hD hS (lv_sub hl [0, 1, 2] rfl)
        exact L75 _ 0 d1 _ _ _ (Nat.lt_succ_self _) (by omega) (fun a j ha hj => hI a j ha (by omega)) (fun a j _ _ h => absurd h (Nat.not_lt_zero _)) hP hD hS (lv_sub hl [0, 1, 2] rfl)
      refine lv_aload_n hx hb dX0_copyFrom_7 rfl (lv_at hl 1 rfl) ?_
      refine va_get (D := D) (ci := 0) (C := RX0) (T := TX0) (N := 11) hx hb hts iX0 hown hK hP 0 rfl rfl 0 (by decide) (hts _ k_f_X0_9) (fun _ h9 => h9) rfl dX0_copyFrom_8 ?_
      refine lv_iload_n hx hb dX0_copyFrom_11 rfl (lv_at hl 0 rfl) ?_
      refine lv_aload_n hx hb dX0_copyFrom_12 rfl (lv_at hl 2 rfl) ?_
      refine va_get (D := D) (ci := 0) (C := RX0) (T := TX0) (N := 11) hx hb hts iX0 hown hK hP 9 rfl rfl 0 (by decide) (hts _ k_f_X0_9) (fun _ h9 => h9) rfl dX0_copyFrom_13 ?_
      refine lv_iload_n hx hb dX0_copyFrom_16 rfl (lv_at hl 0 rfl) ?_
      refine n_iald hx hb hK hP 10 0 rfl rfl (i := k) (n := 3) (by omega) (by decide) dX0_copyFrom_17 ?_
      refine n_iast hx hb hK hP hD hS 1 0 rfl rfl (i := k) (n := 3) (by omega) (by decide) dX0_copyFrom_18 (fun H locs hP hD hS => ?_)
      have hP : va_P D vwCl (WD K q (dU d1 0 k (o 0 k)) ++ (WD K q2 o)) H := hP
      have hD : va_D A (WD K q (dU d1 0 k (o 0 k)) ++ (WD K q2 o)) := hD
      refine lv_aload_n hx hb dX0_copyFrom_19 rfl (lv_at hl 1 rfl) ?_
      refine va_get (D := D) (ci := 0) (C := RX0) (T := TX0) (N := 11) hx hb hts iX0 hown hK hP 0 rfl rfl 1 (by decide) (hts _ k_f_X0_15) (fun _ h9 => h9) rfl dX0_copyFrom_20 ?_
      refine lv_iload_n hx hb dX0_copyFrom_23 rfl (lv_at hl 0 rfl) ?_
      refine lv_aload_n hx hb dX0_copyFrom_24 rfl (lv_at hl 2 rfl) ?_
      refine va_get (D := D) (ci := 0) (C := RX0) (T := TX0) (N := 11) hx hb hts iX0 hown hK hP 9 rfl rfl 1 (by decide) (hts _ k_f_X0_15) (fun _ h9 => h9) rfl dX0_copyFrom_25 ?_
      refine lv_iload_n hx hb dX0_copyFrom_28 rfl (lv_at hl 0 rfl) ?_
      refine n_iald hx hb hK hP 11 0 rfl rfl (i := k) (n := 3) (by omega) (by decide) dX0_copyFrom_29 ?_
      refine n_iast hx hb hK hP hD hS 2 0 rfl rfl (i := k) (n := 3) (by omega) (by decide) dX0_copyFrom_30 (fun H locs hP hD hS => ?_)
      have hP : va_P D vwCl (WD K q (dU (dU d1 0 k (o 0 k)) 1 k (o 1 k)) ++ (WD K q2 o)) H := hP
      have hD : va_D A (WD K q (dU (dU d1 0 k (o 0 k)) 1 k (o 1 k)) ++ (WD K q2 o)) := hD
      refine lv_aload_n hx hb dX0_copyFrom_31 rfl (lv_at hl 1 rfl) ?_
      refine va_get (D := D) (ci := 0) (C := RX0) (T := TX0) (N := 11) hx hb hts iX0 hown hK hP 0 rfl rfl 2 (by decide) (hts _ k_f_X0_18) (fun _ h9 => h9) rfl dX0_copyFrom_32 ?_
      refine lv_iload_n hx hb dX0_copyFrom_35 rfl (lv_at hl 0 rfl) ?_
      refine lv_aload_n hx hb dX0_copyFrom_36 rfl (lv_at hl 2 rfl) ?_
      refine va_get (D := D) (ci := 0) (C := RX0) (T := TX0) (N := 11) hx hb hts iX0 hown hK hP 9 rfl rfl 2 (by decide) (hts _ k_f_X0_18) (fun _ h9 => h9) rfl dX0_copyFrom_37 ?_
      refine lv_iload_n hx hb dX0_copyFrom_40 rfl (lv_at hl 0 rfl) ?_
      refine n_iald hx hb hK hP 12 0 rfl rfl (i := k) (n := 3) (by omega) (by decide) dX0_copyFrom_41 ?_
      refine n_iast hx hb hK hP hD hS 3 0 rfl rfl (i := k) (n := 3) (by omega) (by decide) dX0_copyFrom_42 (fun H locs hP hD hS => ?_)
      have hP : va_P D vwCl (WD K q (dU (dU (dU d1 0 k (o 0 k)) 1 k (o 1 k)) 2 k (o 2 k)) ++ (WD K q2 o)) H := hP
      have hD : va_D A (WD K q (dU (dU (dU d1 0 k (o 0 k)) 1 k (o 1 k)) 2 k (o 2 k)) ++ (WD K q2 o)) := hD
      refine lv_aload_n hx hb dX0_copyFrom_43 rfl (lv_at hl 1 rfl) ?_
      refine va_get (D := D) (ci := 0) (C := RX0) (T := TX0) (N := 11) hx hb hts iX0 hown hK hP 0 rfl rfl 3 (by decide) (hts _ k_f_X0_21) (fun _ h9 => h9) rfl dX0_copyFrom_44 ?_
      refine lv_iload_n hx hb dX0_copyFrom_47 rfl (lv_at hl 0 rfl) ?_
      refine lv_aload_n hx hb dX0_copyFrom_48 rfl (lv_at hl 2 rfl) ?_
      refine va_get (D := D) (ci := 0) (C := RX0) (T := TX0) (N := 11) hx hb hts iX0 hown hK hP 9 rfl rfl 3 (by decide) (hts _ k_f_X0_21) (fun _ h9 => h9) rfl dX0_copyFrom_49 ?_
      refine lv_iload_n hx hb dX0_copyFrom_52 rfl (lv_at hl 0 rfl) ?_
      refine n_iald hx hb hK hP 13 0 rfl rfl (i := k) (n := 3) (by omega) (by decide) dX0_copyFrom_53 ?_
      refine n_iast hx hb hK hP hD hS 4 0 rfl rfl (i := k) (n := 3) (by omega) (by decide) dX0_copyFrom_54 (fun H locs hP hD hS => ?_)
      have hP : va_P D vwCl (WD K q (dU (dU (dU (dU d1 0 k (o 0 k)) 1 k (o 1 k)) 2 k (o 2 k)) 3 k (o 3 k)) ++ (WD K q2 o)) H := hP
      have hD : va_D A (WD K q (dU (dU (dU (dU d1 0 k (o 0 k)) 1 k (o 1 k)) 2 k (o 2 k)) 3 k (o 3 k)) ++ (WD K q2 o)) := hD
      refine lv_aload_n hx hb dX0_copyFrom_55 rfl (lv_at hl 1 rfl) ?_
      refine va_get (D := D) (ci := 0) (C := RX0) (T := TX0) (N := 11) hx hb hts iX0 hown hK hP 0 rfl rfl 4 (by decide) (hts _ k_f_X0_24) (fun _ h9 => h9) rfl dX0_copyFrom_56 ?_
      refine lv_iload_n hx hb dX0_copyFrom_59 rfl (lv_at hl 0 rfl) ?_
      refine lv_aload_n hx hb dX0_copyFrom_60 rfl (lv_at hl 2 rfl) ?_
      refine va_get (D := D) (ci := 0) (C := RX0) (T := TX0) (N := 11) hx hb hts iX0 hown hK hP 9 rfl rfl 4 (by decide) (hts _ k_f_X0_24) (fun _ h9 => h9) rfl dX0_copyFrom_61 ?_
      refine lv_iload_n hx hb dX0_copyFrom_64 rfl (lv_at hl 0 rfl) ?_
      refine n_iald hx hb hK hP 14 0 rfl rfl (i := k) (n := 3) (by omega) (by decide) dX0_copyFrom_65 ?_
      refine n_iast hx hb hK hP hD hS 5 0 rfl rfl (i := k) (n := 3) (by omega) (by decide) dX0_copyFrom_66 (fun H locs hP hD hS => ?_)
      have hP : va_P D vwCl (WD K q (dU (dU (dU (dU (dU d1 0 k (o 0 k)) 1 k (o 1 k)) 2 k (o 2 k)) 3 k (o 3 k)) 4 k (o 4 k)) ++ (WD K q2 o)) H := hP
      have hD : va_D A (WD K q (dU (dU (dU (dU (dU d1 0 k (o 0 k)) 1 k (o 1 k)) 2 k (o 2 k)) 3 k (o 3 k)) 4 k (o 4 k)) ++ (WD K q2 o)) := hD
      refine lv_iinc (v := nI (k + 1)) (lv' := [(2, .int (nI (k + 1))), (0, .ref (q 0)), (1, .ref (q2 0))]) hx hb dX0_copyFrom_67 hl (k := 0) rfl (nI_add k 1) (by decide) rfl (fun ls hl => ?_)
      refine lv_goto (tgt := 2) hx hb dX0_copyFrom_70 (by decide) ?_
      exact ih2 (k + 1) (dU (dU (dU (dU (dU d1 0 k (o 0 k)) 1 k (o 1 k)) 2 k (o 2 k)) 3 k (o 3 k)) 4 k (o 4 k)) _ _ _ (by omega) (by omega) (copy5 hI) hP hD hS (lv_sub hl [0, 1, 2] rfl)
  exact L2 _ 0 d _ _ _ (Nat.lt_succ_self _) (by omega) (fun a j _ h => absurd h (Nat.not_lt_zero _)) hP hD hS (lv_sub hl [0, 1, 2] rfl)
