/-! PlanetaryGearbox$Equations: its cells, its contracts -/
/-- 1 for what holds, 0 for what does not -/
noncomputable def bI (P : Prop) : Int32 := @ite _ P (Classical.propDecidable P) (nI 1) (nI 0)
theorem bI_t {P : Prop} (h : P) : nI 1 = bI P := by unfold bI; rw [if_pos h]
theorem bI_f {P : Prop} (h : ¬ P) : nI 0 = bI P := by unfold bI; rw [if_neg h]
def setM (M : Nat → Nat → Int64) (i j : Nat) (x : Int64) : Nat → Nat → Int64 := fun k => if k = i then vp_updL (M i) j x else M k
theorem setM_same (M : Nat → Nat → Int64) (i j : Nat) (x : Int64) : setM M i j x i j = x := by simp [setM, vp_updL]
theorem setM_row {M : Nat → Nat → Int64} {i j k : Nat} {x : Int64} (h : k ≠ i) : setM M i j x k = M k := by simp [setM, h]
theorem setM_col {M : Nat → Nat → Int64} {i j k t : Nat} {x : Int64} (h : t ≠ j) : setM M i j x k t = M k t := by
  unfold setM
  by_cases e : k = i
  · subst e; simp [vp_updL, h]
  · simp [e]
/-- an Equations and its arrays -/
def WE (K : Nat → ClassId) (a ao ap ab : Nat) (r : Nat → Nat) (M : Nat → Nat → Int64) (pv ip : Nat → Int32) (sv : Int32) : va_W := (a, .inr (1, [.ref ao, .ref ap, .ref ab, .int sv])) :: (ao, .inl (K 3, 10, .inr (.inr (.inr (.inr (fun i => if i < 10 then some (r i) else none)))))) :: (ap, .inl (K 0, 10, .inl pv)) :: (ab, .inl (K 2, 10, .inl ip)) :: (List.range 10).map (fun i => (r i, .inl (K 1, 11, .inr (.inl (M i)))))
theorem WE_at {K : Nat → ClassId} {a ao ap ab : Nat} {r : Nat → Nat} {M : Nat → Nat → Int64} {pv ip : Nat → Int32} {sv : Int32} {i : Nat} (h : i < 10) : (WE K a ao ap ab r M pv ip sv)[4 + i]? = some (r i, .inl (K 1, 11, .inr (.inl (M i)))) := by
  rw [Nat.add_comm]
  show ((List.range 10).map (fun i => ((r i, .inl (K 1, 11, .inr (.inl (M i)))) : Nat × va_E)))[i]? = _
  rw [List.getElem?_map, List.getElem?_range h]
  rfl
theorem WE_set {K : Nat → ClassId} {a ao ap ab : Nat} {r : Nat → Nat} {M : Nat → Nat → Int64} {pv ip : Nat → Int32} {sv : Int32} {i j : Nat} {x : Int64} (h : i < 10) : (WE K a ao ap ab r M pv ip sv).set (4 + i) (r i, .inl (K 1, 11, .inr (.inl (vp_updL (M i) j x)))) = WE K a ao ap ab r (setM M i j x) pv ip sv := by
  rw [Nat.add_comm]
  show (_ :: _ :: _ :: _ :: ((List.range 10).map (fun i => ((r i, .inl (K 1, 11, .inr (.inl (M i)))) : Nat × va_E))).set i _) = (_ :: _ :: _ :: _ :: (List.range 10).map (fun k => ((r k, .inl (K 1, 11, .inr (.inl (setM M i j x k)))) : Nat × va_E)))
  congr 4
  apply List.ext_getElem?
  intro k
  rw [List.getElem?_set, List.getElem?_map, List.getElem?_map, List.length_map, List.length_range]
  by_cases hk : i = k
  · subst hk
    rw [if_pos rfl, if_pos h, List.getElem?_range h]
    simp [setM]
  · rw [if_neg hk]
    by_cases h2 : k < 10
    · rw [List.getElem?_range h2]
      simp [setM_row (show k ≠ i from fun q => hk q.symm)]
    · rw [List.getElem?_eq_none (by rw [List.length_range]; omega)]
      rfl
theorem m1_ne {k : Nat} (h : k < 2147483648) : ¬ (-1 : Int32) = nI k := fun q => by
  have h1 := congrArg Int32.toInt q
  rw [nI_toIntI h] at h1
  have e : (-1 : Int32).toInt = -1 := by decide
  omega
theorem vi_lt {n : Nat} (h : n < 2147483648) (h2 : ((n : Nat) : Int) < 0) : False := by omega
set_option maxHeartbeats 4000000 in
set_option maxRecDepth 100000 in
theorem c_X1_isSolvable (l : Launch) (D : va_G) (K : Nat → ClassId) (a ao ap ab : Nat) (r : Nat → Nat) (M : Nat → Nat → Int64) (pv ip : Nat → Int32) (sv : Int32) (sz : Nat) (hsv : sv = nI 0 ∨ sv = nI 1) : Met l yX1_isSolvable (.code yX1_isSolvable cX1_isSolvable 1 (some .boolean) :: TB) ({ frames := 0, cells := 0, slots := 0, locals := 0 } : Room) (va_Pc [.ref a] (cP D K (WE K a ao ap ab r M pv ip sv) sz)) (va_Qi (fun (q : Int32) (_ : Unit) => q = sv) (fun _ _ => True) (fun _ => False)) 0 0 (fun _ => False) := by
  refine Met.ofW (cc := cX1_isSolvable) (maxL := 1) (ret := (some .boolean)) (by decide) rfl ?_
  intro p e s m args below meth c s₁ B hml hv
  obtain ⟨rfl, hsz, hP, hK, hD0⟩ := hv
  have hx := B.exec
  have hb := B.bytes
  have hr := B.returns
  have hts := hts_tl (atoms_spec (ws := (.code yX1_isSolvable cX1_isSolvable 1 (some .boolean) :: TB)) B.pre)
  have hown : s.vm.findClass RX1 = some m.cls := findClass_of_methodNamed B.named
  have hlocks := B.notSynchronized
  subst hsz
  have hA : ∀ q : Nat, q < s.heap.size → (fun _ : Nat => False) q → False := fun _ _ h => h
  have hS : va_S (fun _ => False) s.heap s.heap [] := va_S.rf
  have hl := lv_entry ([.ref a]) (n := 1) (Nat.le_of_ble_eq_true rfl)
  rw [lg_entry_eq]
  generalize (lg_sl ([.ref a]) ++ List.replicate (1 - (lg_sl ([.ref a])).length) Slot.unset).toArray = ls at hl ⊢
  have hl : lv_has ls 1 [(0, .ref a)] := hl
  refine lv_aload_n hx hb dX1_isSolvable_0 rfl (lv_at hl 0 rfl) ?_
  refine va_get (D := D) (ci := 1) (C := RX1) (T := TX1) (N := 4) hx hb hts iX1 hown hK hP 0 rfl rfl 3 (by decide) (hts _ k_f_X1_36) (fun _ h9 => h9) rfl dX1_isSolvable_1 ?_
  exact W.zret (v := sv) hx hb hr (by rcases hsv with h | h <;> rw [h] <;> decide) (fun t9 ht9 hW => ⟨⟨sv, (), rfl, rfl, trivial⟩, hS.F ht9⟩) hS.2.2 dX1_isSolvable_4
set_option maxHeartbeats 4000000 in
set_option maxRecDepth 100000 in
theorem c_X1_add (l : Launch) (D : va_G) (K : Nat → ClassId) (a ao ap ab : Nat) (r : Nat → Nat) (M : Nat → Nat → Int64) (pv ip : Nat → Int32) (sv : Int32) (i j : Nat) (v : Int64) (sz : Nat) (hi : i < 10) (hj : j < 11) : Met l yX1_add (.code yX1_add cX1_add 5 none :: TB) ({ frames := 0, cells := 0, slots := 0, locals := 0 } : Room) (va_Pc [.ref a, .int (nI i), .int (nI j), .long v] (cP D K (WE K a ao ap ab r M pv ip sv) sz)) (va_Qv (fun (_ : Unit) => True) (fun (u : Unit) t => cB D K (va_A (WE K a ao ap ab r M pv ip sv) sz) (WE K a ao ap ab r (setM M i j (M i j + v)) pv ip sv) t) (va_A (WE K a ao ap ab r M pv ip sv) sz)) 0 0 (va_A (WE K a ao ap ab r M pv ip sv) sz) := by
  refine Met.ofW (cc := cX1_add) (maxL := 5) (ret := none) (by decide) rfl ?_
  intro p e s m args below meth c s₁ B hml hv
  obtain ⟨rfl, hsz, hP, hK, hD0⟩ := hv
  have hx := B.exec
  have hb := B.bytes
  have hr := B.returns
  have hts := hts_tl (atoms_spec (ws := (.code yX1_add cX1_add 5 none :: TB)) B.pre)
  have hown : s.vm.findClass RX1 = some m.cls := findClass_of_methodNamed B.named
  have hlocks := B.notSynchronized
  subst hsz
  have hD := hD0.self (sz := s.heap.size)
  generalize hAe : (va_A (WE K a ao ap ab r M pv ip sv) s.heap.size) = A at hD ⊢
  have hA : ∀ q : Nat, s.heap.size ≤ q → A q := fun q h => by rw [← hAe]; exact Or.inr h
  have hS : va_S A s.heap s.heap [] := va_S.rf
  have hl := lv_entry ([.ref a, .int (nI i), .int (nI j), .long v]) (n := 5) (Nat.le_of_ble_eq_true rfl)
  rw [lg_entry_eq]
  generalize (lg_sl ([.ref a, .int (nI i), .int (nI j), .long v]) ++ List.replicate (5 - (lg_sl ([.ref a, .int (nI i), .int (nI j), .long v])).length) Slot.unset).toArray = ls at hl ⊢
  have hl : lv_has ls 5 [(0, .ref a), (1, .int (nI i)), (2, .int (nI j)), (3, .long v)] := hl
  refine lv_iload_n hx hb dX1_add_0 rfl (lv_at hl 1 rfl) ?_
  refine b_if_lt hx hb (nI_toIntI (by omega)) dX1_add_1 (tgt := 32) (by decide) (fun c1 => absurd c1 (by omega)) (fun c1 => ?_)
  refine lv_iload_n hx hb dX1_add_4 rfl (lv_at hl 1 rfl) ?_
  refine lv_bipush (v := nI 10) hx hb dX1_add_5 (by decide) ?_
  refine b_icmp_ge hx hb (nI_toIntI (by omega)) (nI_toIntI (by omega)) dX1_add_7 (tgt := 32) (by decide) (fun c7 => absurd c7 (by omega)) (fun c7 => ?_)
  refine lv_iload_n hx hb dX1_add_10 rfl (lv_at hl 2 rfl) ?_
  refine b_if_lt hx hb (nI_toIntI (by omega)) dX1_add_11 (tgt := 32) (by decide) (fun c11 => absurd c11 (by omega)) (fun c11 => ?_)
  refine lv_iload_n hx hb dX1_add_14 rfl (lv_at hl 2 rfl) ?_
  refine lv_bipush (v := nI 11) hx hb dX1_add_15 (by decide) ?_
  refine b_icmp_ge hx hb (nI_toIntI (by omega)) (nI_toIntI (by omega)) dX1_add_17 (tgt := 32) (by decide) (fun c17 => absurd c17 (by omega)) (fun c17 => ?_)
  refine lv_aload_n hx hb dX1_add_20 rfl (lv_at hl 0 rfl) ?_
  refine va_get (D := D) (ci := 1) (C := RX1) (T := TX1) (N := 4) hx hb hts iX1 hown hK hP 0 rfl rfl 0 (by decide) (hts _ k_f_X1_13) (fun _ h9 => h9) rfl dX1_add_21 ?_
  refine lv_iload_n hx hb dX1_add_24 rfl (lv_at hl 1 rfl) ?_
  refine n_aald hx hb hK hP 1 3 rfl rfl (i := i) (by omega) (by decide) (if_pos (by omega)) dX1_add_25 ?_
  refine lv_iload_n hx hb dX1_add_26 rfl (lv_at hl 2 rfl) ?_
  refine lv_dup2_11 hx hb dX1_add_27 rfl rfl ?_
  refine n_lald hx hb hK hP (4 + i) 1 (WE_at (by omega)) rfl (i := j) (by omega) (by decide) dX1_add_28 ?_
  refine lv_lload_n hx hb dX1_add_29 rfl (lv_at hl 3 rfl) ?_
  refine lv_ladd hx hb dX1_add_30 ?_
  refine n_last hx hb hK hP hD hS (4 + i) 1 (WE_at (by omega)) rfl (i := j) (by omega) (by decide) dX1_add_31 (fun H locs hP hD hS => ?_)
  rw [WE_set (by omega)] at hP hD
  have hP : va_P D vwCl (WE K a ao ap ab r (setM M i j ((M i j) + v)) pv ip sv) H := hP
  have hD : va_D A (WE K a ao ap ab r (setM M i j ((M i j) + v)) pv ip sv) := hD
  exact W.vret hx hb hr (fun t9 ht9 hW => ⟨⟨(), rfl, trivial, by rw [ht9]; exact hP, va_K.moved hW.alike hK, hD⟩, hS.F ht9⟩) hS.2.2 dX1_add_32
set_option maxHeartbeats 4000000 in
set_option maxRecDepth 100000 in
theorem c_X1_clear (l : Launch) (D : va_G) (K : Nat → ClassId) (a ao ap ab : Nat) (r : Nat → Nat) (M : Nat → Nat → Int64) (pv ip : Nat → Int32) (sv : Int32) (sz : Nat)  : Met l yX1_clear (.code yX1_clear cX1_clear 3 none :: TB) ({ frames := 0, cells := 0, slots := 0, locals := 0 } : Room) (va_Pc [.ref a] (cP D K (WE K a ao ap ab r M pv ip sv) sz)) (va_Qv (fun (u : Nat → Nat → Int64) => ∀ i j, i < 10 → j < 11 → u i j = 0) (fun (u : Nat → Nat → Int64) t => cB D K (va_A (WE K a ao ap ab r M pv ip sv) sz) (WE K a ao ap ab r u pv ip sv) t) (va_A (WE K a ao ap ab r M pv ip sv) sz)) 0 0 (va_A (WE K a ao ap ab r M pv ip sv) sz) := by
  refine Met.ofW (cc := cX1_clear) (maxL := 3) (ret := none) (by decide) rfl ?_
  intro p e s m args below meth c s₁ B hml hv
  obtain ⟨rfl, hsz, hP, hK, hD0⟩ := hv
  have hx := B.exec
  have hb := B.bytes
  have hr := B.returns
  have hts := hts_tl (atoms_spec (ws := (.code yX1_clear cX1_clear 3 none :: TB)) B.pre)
  have hown : s.vm.findClass RX1 = some m.cls := findClass_of_methodNamed B.named
  have hlocks := B.notSynchronized
  subst hsz
  have hD := hD0.self (sz := s.heap.size)
  generalize hAe : (va_A (WE K a ao ap ab r M pv ip sv) s.heap.size) = A at hD ⊢
  have hA : ∀ q : Nat, s.heap.size ≤ q → A q := fun q h => by rw [← hAe]; exact Or.inr h
  have hS : va_S A s.heap s.heap [] := va_S.rf
  have hl := lv_entry ([.ref a]) (n := 3) (Nat.le_of_ble_eq_true rfl)
  rw [lg_entry_eq]
  generalize (lg_sl ([.ref a]) ++ List.replicate (3 - (lg_sl ([.ref a])).length) Slot.unset).toArray = ls at hl ⊢
  have hl : lv_has ls 3 [(0, .ref a)] := hl
  refine lv_iconst (v := nI 0) hx hb dX1_clear_0 (by decide) ?_
  refine lv_istore_n (lv' := [(1, .int (nI 0)), (0, .ref a)]) hx hb dX1_clear_1 rfl hl (by decide) rfl (fun ls hl => ?_)
  have L2 : ∀ (fuel : Nat) (i : Nat) (M' : Nat → Nat → Int64) (H : Heap) (locs : List Loc) (ls : Array Slot), 10 - i < fuel → (i ≤ 10) → (∀ x y, x < i → y < 11 → M' x y = 0) → va_P D vwCl (WE K a ao ap ab r M' pv ip sv) H → va_D A (WE K a ao ap ab r M' pv ip sv) → va_S A s.heap H locs → lv_has ls 3 [(1, .int (nI i)), (0, .ref a)] → W p l e ({ frames := 0, cells := 0, slots := 0, locals := 0 } : Room) s m [.ref a].toArray below meth c H locs 0 0 (MQ below (va_Qv (fun (u : Nat → Nat → Int64) => ∀ i j, i < 10 → j < 11 → u i j = 0) (fun (u : Nat → Nat → Int64) t => cB D K A (WE K a ao ap ab r u pv ip sv) t) A) [.ref a].toArray s 0 0 A) (F0 m 2 ls []) := by
    intro fuel
    induction fuel with
    | zero =>
      intro i M' H locs ls hfu
      exact absurd hfu (Nat.not_lt_zero _)
    | succ fuel ih2 =>
      intro i M' H locs ls hfu hi hz hP hD hS hl
      refine lv_iload_n hx hb dX1_clear_2 rfl (lv_at hl 0 rfl) ?_
      refine lv_bipush (v := nI 10) hx hb dX1_clear_3 (by decide) ?_
      refine b_icmp_ge hx hb (nI_toIntI (by omega)) (nI_toIntI (by omega)) dX1_clear_5 (tgt := 37) (by decide) (fun c5 => ?_) (fun c5 => ?_)
      · exact W.vret hx hb hr (fun t9 ht9 hW => ⟨⟨M', rfl, (fun x y hx9 hy9 => hz x y (by omega) hy9), by rw [ht9]; exact hP, va_K.moved hW.alike hK, hD⟩, hS.F ht9⟩) hS.2.2 dX1_clear_37
      refine lv_iconst (v := nI 0) hx hb dX1_clear_8 (by decide) ?_
      refine lv_istore_n (lv' := [(2, .int (nI 0)), (1, .int (nI i)), (0, .ref a)]) hx hb dX1_clear_9 rfl hl (by decide) rfl (fun ls hl => ?_)
      have L10 : ∀ (fuel : Nat) (j : Nat) (M'' : Nat → Nat → Int64) (H : Heap) (locs : List Loc) (ls : Array Slot), 11 - j < fuel → (j ≤ 11) → (∀ x y, x < i → y < 11 → M'' x y = 0) → (∀ y, y < j → M'' i y = 0) → va_P D vwCl (WE K a ao ap ab r M'' pv ip sv) H → va_D A (WE K a ao ap ab r M'' pv ip sv) → va_S A s.heap H locs → lv_has ls 3 [(2, .int (nI j)), (1, .int (nI i)), (0, .ref a)] → W p l e ({ frames := 0, cells := 0, slots := 0, locals := 0 } : Room) s m [.ref a].toArray below meth c H locs 0 0 (MQ below (va_Qv (fun (u : Nat → Nat → Int64) => ∀ i j, i < 10 → j < 11 → u i j = 0) (fun (u : Nat → Nat → Int64) t => cB D K A (WE K a ao ap ab r u pv ip sv) t) A) [.ref a].toArray s 0 0 A) (F0 m 10 ls []) := by
        intro fuel
        induction fuel with
        | zero =>
          intro j M'' H locs ls hfu
          exact absurd hfu (Nat.not_lt_zero _)
        | succ fuel ih10 =>
          intro j M'' H locs ls hfu hj hz0 hz1 hP hD hS hl
          refine lv_iload_n hx hb dX1_clear_10 rfl (lv_at hl 0 rfl) ?_
          refine lv_bipush (v := nI 11) hx hb dX1_clear_11 (by decide) ?_
          refine b_icmp_ge hx hb (nI_toIntI (by omega)) (nI_toIntI (by omega)) dX1_clear_13 (tgt := 31) (by decide) (fun c13 => ?_) (fun c13 => ?_)
          · refine lv_iinc (v := nI (i + 1)) (lv' := [(1, .int (nI (i + 1))), (2, .int (nI j)), (0, .ref a)]) hx hb dX1_clear_31 hl (k := 1) rfl (nI_add i 1) (by decide) rfl (fun ls hl => ?_)
            refine lv_goto (tgt := 2) hx hb dX1_clear_34 (by decide) ?_
            have hz2 : ∀ x y, x < i + 1 → y < 11 → M'' x y = 0 := fun x y h1 h2 => by
              by_cases q : x = i
              · subst q; exact hz1 y (by omega)
              · exact hz0 x y (by omega) h2
            exact ih2 (i + 1) M'' _ _ _ (by omega) (by omega) hz2 hP hD hS (lv_sub hl [0, 2] rfl)
          refine lv_aload_n hx hb dX1_clear_16 rfl (lv_at hl 2 rfl) ?_
          refine va_get (D := D) (ci := 1) (C := RX1) (T := TX1) (N := 4) hx hb hts iX1 hown hK hP 0 rfl rfl 0 (by decide) (hts _ k_f_X1_13) (fun _ h9 => h9) rfl dX1_clear_17 ?_
          refine lv_iload_n hx hb dX1_clear_20 rfl (lv_at hl 1 rfl) ?_
          refine n_aald hx hb hK hP 1 3 rfl rfl (i := i) (by omega) (by decide) (if_pos (by omega)) dX1_clear_21 ?_
          refine lv_iload_n hx hb dX1_clear_22 rfl (lv_at hl 0 rfl) ?_
          refine lv_lconst (v := 0) hx hb dX1_clear_23 (by decide) ?_
          refine n_last hx hb hK hP hD hS (4 + i) 1 (WE_at (by omega)) rfl (i := j) (by omega) (by decide) dX1_clear_24 (fun H locs hP hD hS => ?_)
          rw [WE_set (by omega)] at hP hD
          have hP : va_P D vwCl (WE K a ao ap ab r (setM M'' i j (0 : Int64)) pv ip sv) H := hP
          have hD : va_D A (WE K a ao ap ab r (setM M'' i j (0 : Int64)) pv ip sv) := hD
          refine lv_iinc (v := nI (j + 1)) (lv' := [(2, .int (nI (j + 1))), (1, .int (nI i)), (0, .ref a)]) hx hb dX1_clear_25 hl (k := 0) rfl (nI_add j 1) (by decide) rfl (fun ls hl => ?_)
          refine lv_goto (tgt := 10) hx hb dX1_clear_28 (by decide) ?_
          have hz3 : ∀ x y, x < i → y < 11 → (setM M'' i j (0 : Int64)) x y = 0 := fun x y h1 h2 => by rw [setM_row (by omega)]; exact hz0 x y h1 h2
          have hz4 : ∀ y, y < j + 1 → (setM M'' i j (0 : Int64)) i y = 0 := fun y hy9 => by
            by_cases q : y = j
            · subst q; exact setM_same _ _ _ _
            · rw [setM_col q]; exact hz1 y (by omega)
          exact ih10 (j + 1) (setM M'' i j (0 : Int64)) _ _ _ (by omega) (by omega) hz3 hz4 hP hD hS (lv_sub hl [0, 1, 2] rfl)
      exact L10 _ 0 M' _ _ _ (Nat.lt_succ_self _) (by omega) hz (fun y hy9 => absurd hy9 (Nat.not_lt_zero _)) hP hD hS (lv_sub hl [0, 1, 2] rfl)
  exact L2 _ 0 M _ _ _ (Nat.lt_succ_self _) (by omega) (fun x y hx9 _ => absurd hx9 (Nat.not_lt_zero _)) hP hD hS (lv_sub hl [0, 1] rfl)
set_option maxHeartbeats 4000000 in
set_option maxRecDepth 100000 in
theorem c_X1_freeRowWith (l : Launch) (D : va_G) (K : Nat → ClassId) (a ao ap ab : Nat) (r : Nat → Nat) (M : Nat → Nat → Int64) (pv ip : Nat → Int32) (sv : Int32) (t : Nat) (sz : Nat) (ht : t < 10) : Met l yX1_freeRowWith (.code yX1_freeRowWith cX1_freeRowWith 3 (some .int) :: TB) ({ frames := 0, cells := 0, slots := 0, locals := 0 } : Room) (va_Pc [.ref a, .int (nI t)] (cP D K (WE K a ao ap ab r M pv ip sv) sz)) (va_Qi (fun (q : Int32) (_ : Unit) => (∃ k, k < 10 ∧ q = nI k ∧ (ip k).toInt = 0 ∧ ¬ (M k t).toInt = 0) ∨ (q = -1 ∧ ∀ k, k < 10 → (ip k).toInt = 0 → (M k t).toInt = 0)) (fun _ _ => True) (fun _ => False)) 0 0 (fun _ => False) := by
  refine Met.ofW (cc := cX1_freeRowWith) (maxL := 3) (ret := (some .int)) (by decide) rfl ?_
  intro p e s m args below meth c s₁ B hml hv
  obtain ⟨rfl, hsz, hP, hK, hD0⟩ := hv
  have hx := B.exec
  have hb := B.bytes
  have hr := B.returns
  have hts := hts_tl (atoms_spec (ws := (.code yX1_freeRowWith cX1_freeRowWith 3 (some .int) :: TB)) B.pre)
  have hown : s.vm.findClass RX1 = some m.cls := findClass_of_methodNamed B.named
  have hlocks := B.notSynchronized
  subst hsz
  have hA : ∀ q : Nat, q < s.heap.size → (fun _ : Nat => False) q → False := fun _ _ h => h
  have hS : va_S (fun _ => False) s.heap s.heap [] := va_S.rf
  have hl := lv_entry ([.ref a, .int (nI t)]) (n := 3) (Nat.le_of_ble_eq_true rfl)
  rw [lg_entry_eq]
  generalize (lg_sl ([.ref a, .int (nI t)]) ++ List.replicate (3 - (lg_sl ([.ref a, .int (nI t)])).length) Slot.unset).toArray = ls at hl ⊢
  have hl : lv_has ls 3 [(0, .ref a), (1, .int (nI t))] := hl
  refine lv_iconst (v := nI 0) hx hb dX1_freeRowWith_0 (by decide) ?_
  refine lv_istore_n (lv' := [(2, .int (nI 0)), (0, .ref a), (1, .int (nI t))]) hx hb dX1_freeRowWith_1 rfl hl (by decide) rfl (fun ls hl => ?_)
  have L2 : ∀ (fuel : Nat) (i : Nat) (ls : Array Slot), 10 - i < fuel → (i ≤ 10) → (∀ k, k < i → (ip k).toInt = 0 → (M k t).toInt = 0) → lv_has ls 3 [(2, .int (nI i)), (0, .ref a), (1, .int (nI t))] → W p l e ({ frames := 0, cells := 0, slots := 0, locals := 0 } : Room) s m [.ref a, .int (nI t)].toArray below meth c s.heap [] 0 0 (MQ below (va_Qi (fun (q : Int32) (_ : Unit) => (∃ k, k < 10 ∧ q = nI k ∧ (ip k).toInt = 0 ∧ ¬ (M k t).toInt = 0) ∨ (q = -1 ∧ ∀ k, k < 10 → (ip k).toInt = 0 → (M k t).toInt = 0)) (fun _ _ => True) (fun _ => False)) [.ref a, .int (nI t)].toArray s 0 0 (fun _ => False)) (F0 m 2 ls []) := by
    intro fuel
    induction fuel with
    | zero =>
      intro i ls hfu
      exact absurd hfu (Nat.not_lt_zero _)
    | succ fuel ih2 =>
      intro i ls hfu hi hn0 hl
      refine lv_iload_n hx hb dX1_freeRowWith_2 rfl (lv_at hl 0 rfl) ?_
      refine lv_bipush (v := nI 10) hx hb dX1_freeRowWith_3 (by decide) ?_
      refine b_icmp_ge hx hb (nI_toIntI (by omega)) (nI_toIntI (by omega)) dX1_freeRowWith_5 (tgt := 38) (by decide) (fun c5 => ?_) (fun c5 => ?_)
      · refine lv_iconst (v := (-1)) hx hb dX1_freeRowWith_38 (by decide) ?_
        exact W.iret (v := (-1)) hx hb hr (fun t9 ht9 hW => ⟨⟨(-1), (), rfl, Or.inr ⟨rfl, fun k hk h0 => hn0 k (by omega) h0⟩, trivial⟩, hS.F ht9⟩) hS.2.2 dX1_freeRowWith_39
      refine lv_aload_n hx hb dX1_freeRowWith_8 rfl (lv_at hl 1 rfl) ?_
      refine va_get (D := D) (ci := 1) (C := RX1) (T := TX1) (N := 4) hx hb hts iX1 hown hK hP 0 rfl rfl 2 (by decide) (hts _ k_f_X1_20) (fun _ h9 => h9) rfl dX1_freeRowWith_9 ?_
      refine lv_iload_n hx hb dX1_freeRowWith_12 rfl (lv_at hl 0 rfl) ?_
      refine n_zald hx hb hK hP 3 2 rfl rfl (i := i) (by omega) (by decide) dX1_freeRowWith_13 ?_
      refine b_if_ne hx hb rfl dX1_freeRowWith_14 (tgt := 32) (by decide) (fun c14 => ?_) (fun c14 => ?_)
      · refine lv_iinc (v := nI (i + 1)) (lv' := [(2, .int (nI (i + 1))), (0, .ref a), (1, .int (nI t))]) hx hb dX1_freeRowWith_32 hl (k := 0) rfl (nI_add i 1) (by decide) rfl (fun ls hl => ?_)
        refine lv_goto (tgt := 2) hx hb dX1_freeRowWith_35 (by decide) ?_
        have hn1 : ∀ k, k < i + 1 → (ip k).toInt = 0 → (M k t).toInt = 0 := fun k hk h0 => by
          by_cases q : k = i
          · subst q; first | exact absurd h0 c14 | exact c26
          · exact hn0 k (by omega) h0
        exact ih2 (i + 1) _ (by omega) (by omega) hn1 (lv_sub hl [0, 1, 2] rfl)
      refine lv_aload_n hx hb dX1_freeRowWith_17 rfl (lv_at hl 1 rfl) ?_
      refine va_get (D := D) (ci := 1) (C := RX1) (T := TX1) (N := 4) hx hb hts iX1 hown hK hP 0 rfl rfl 0 (by decide) (hts _ k_f_X1_13) (fun _ h9 => h9) rfl dX1_freeRowWith_18 ?_
      refine lv_iload_n hx hb dX1_freeRowWith_21 rfl (lv_at hl 0 rfl) ?_
      refine n_aald hx hb hK hP 1 3 rfl rfl (i := i) (by omega) (by decide) (if_pos (by omega)) dX1_freeRowWith_22 ?_
      refine lv_iload_n hx hb dX1_freeRowWith_23 rfl (lv_at hl 2 rfl) ?_
      refine n_lald hx hb hK hP (4 + i) 1 (WE_at (by omega)) rfl (i := t) (by omega) (by decide) dX1_freeRowWith_24 ?_
      refine lv_lconst (v := 0) hx hb dX1_freeRowWith_25 (by decide) ?_
      refine b_lcmp_eq hx hb rfl (show (0 : Int64).toInt = 0 by decide) dX1_freeRowWith_26 dX1_freeRowWith_27 (tgt := 32) (by decide) (fun c26 => ?_) (fun c26 => ?_)
      · refine lv_iinc (v := nI (i + 1)) (lv' := [(2, .int (nI (i + 1))), (0, .ref a), (1, .int (nI t))]) hx hb dX1_freeRowWith_32 hl (k := 0) rfl (nI_add i 1) (by decide) rfl (fun ls hl => ?_)
        refine lv_goto (tgt := 2) hx hb dX1_freeRowWith_35 (by decide) ?_
        have hn1 : ∀ k, k < i + 1 → (ip k).toInt = 0 → (M k t).toInt = 0 := fun k hk h0 => by
          by_cases q : k = i
          · subst q; first | exact absurd h0 c14 | exact c26
          · exact hn0 k (by omega) h0
        exact ih2 (i + 1) _ (by omega) (by omega) hn1 (lv_sub hl [0, 1, 2] rfl)
      refine lv_iload_n hx hb dX1_freeRowWith_30 rfl (lv_at hl 0 rfl) ?_
      exact W.iret (v := nI i) hx hb hr (fun t9 ht9 hW => ⟨⟨nI i, (), rfl, Or.inl ⟨i, by omega, rfl, c14, c26⟩, trivial⟩, hS.F ht9⟩) hS.2.2 dX1_freeRowWith_31
  exact L2 _ 0 _ (Nat.lt_succ_self _) (by omega) (fun k hk => absurd hk (Nat.not_lt_zero _)) (lv_sub hl [0, 1, 2] rfl)
set_option maxHeartbeats 4000000 in
set_option maxRecDepth 100000 in
theorem c_X1_areRowsLeftEmpty (l : Launch) (D : va_G) (K : Nat → ClassId) (a ao ap ab : Nat) (r : Nat → Nat) (M : Nat → Nat → Int64) (pv ip : Nat → Int32) (sv : Int32) (sz : Nat)  : Met l yX1_areRowsLeftEmpty (.code yX1_areRowsLeftEmpty cX1_areRowsLeftEmpty 2 (some .boolean) :: TB) ({ frames := 0, cells := 0, slots := 0, locals := 0 } : Room) (va_Pc [.ref a] (cP D K (WE K a ao ap ab r M pv ip sv) sz)) (va_Qi (fun (q : Int32) (_ : Unit) => q = bI (∀ k, k < 10 → (ip k).toInt = 0 → (M k 10).toInt = 0)) (fun _ _ => True) (fun _ => False)) 0 0 (fun _ => False) := by
  refine Met.ofW (cc := cX1_areRowsLeftEmpty) (maxL := 2) (ret := (some .boolean)) (by decide) rfl ?_
  intro p e s m args below meth c s₁ B hml hv
  obtain ⟨rfl, hsz, hP, hK, hD0⟩ := hv
  have hx := B.exec
  have hb := B.bytes
  have hr := B.returns
  have hts := hts_tl (atoms_spec (ws := (.code yX1_areRowsLeftEmpty cX1_areRowsLeftEmpty 2 (some .boolean) :: TB)) B.pre)
  have hown : s.vm.findClass RX1 = some m.cls := findClass_of_methodNamed B.named
  have hlocks := B.notSynchronized
  subst hsz
  have hA : ∀ q : Nat, q < s.heap.size → (fun _ : Nat => False) q → False := fun _ _ h => h
  have hS : va_S (fun _ => False) s.heap s.heap [] := va_S.rf
  have hl := lv_entry ([.ref a]) (n := 2) (Nat.le_of_ble_eq_true rfl)
  rw [lg_entry_eq]
  generalize (lg_sl ([.ref a]) ++ List.replicate (2 - (lg_sl ([.ref a])).length) Slot.unset).toArray = ls at hl ⊢
  have hl : lv_has ls 2 [(0, .ref a)] := hl
  refine lv_iconst (v := nI 0) hx hb dX1_areRowsLeftEmpty_0 (by decide) ?_
  refine lv_istore_n (lv' := [(1, .int (nI 0)), (0, .ref a)]) hx hb dX1_areRowsLeftEmpty_1 rfl hl (by decide) rfl (fun ls hl => ?_)
  have L2 : ∀ (fuel : Nat) (i : Nat) (ls : Array Slot), 10 - i < fuel → (i ≤ 10) → (∀ k, k < i → (ip k).toInt = 0 → (M k 10).toInt = 0) → lv_has ls 2 [(1, .int (nI i)), (0, .ref a)] → W p l e ({ frames := 0, cells := 0, slots := 0, locals := 0 } : Room) s m [.ref a].toArray below meth c s.heap [] 0 0 (MQ below (va_Qi (fun (q : Int32) (_ : Unit) => q = bI (∀ k, k < 10 → (ip k).toInt = 0 → (M k 10).toInt = 0)) (fun _ _ => True) (fun _ => False)) [.ref a].toArray s 0 0 (fun _ => False)) (F0 m 2 ls []) := by
    intro fuel
    induction fuel with
    | zero =>
      intro i ls hfu
      exact absurd hfu (Nat.not_lt_zero _)
    | succ fuel ih2 =>
      intro i ls hfu hi hn0 hl
      refine lv_iload_n hx hb dX1_areRowsLeftEmpty_2 rfl (lv_at hl 0 rfl) ?_
      refine lv_bipush (v := nI 10) hx hb dX1_areRowsLeftEmpty_3 (by decide) ?_
      refine b_icmp_ge hx hb (nI_toIntI (by omega)) (nI_toIntI (by omega)) dX1_areRowsLeftEmpty_5 (tgt := 39) (by decide) (fun c5 => ?_) (fun c5 => ?_)
      · refine lv_iconst (v := nI 1) hx hb dX1_areRowsLeftEmpty_39 (by decide) ?_
        exact W.zret (v := nI 1) hx hb hr (by decide) (fun t9 ht9 hW => ⟨⟨nI 1, (), rfl, bI_t (fun k hk h0 => hn0 k (by omega) h0), trivial⟩, hS.F ht9⟩) hS.2.2 dX1_areRowsLeftEmpty_40
      refine lv_aload_n hx hb dX1_areRowsLeftEmpty_8 rfl (lv_at hl 1 rfl) ?_
      refine va_get (D := D) (ci := 1) (C := RX1) (T := TX1) (N := 4) hx hb hts iX1 hown hK hP 0 rfl rfl 2 (by decide) (hts _ k_f_X1_20) (fun _ h9 => h9) rfl dX1_areRowsLeftEmpty_9 ?_
      refine lv_iload_n hx hb dX1_areRowsLeftEmpty_12 rfl (lv_at hl 0 rfl) ?_
      refine n_zald hx hb hK hP 3 2 rfl rfl (i := i) (by omega) (by decide) dX1_areRowsLeftEmpty_13 ?_
      refine b_if_ne hx hb rfl dX1_areRowsLeftEmpty_14 (tgt := 33) (by decide) (fun c14 => ?_) (fun c14 => ?_)
      · refine lv_iinc (v := nI (i + 1)) (lv' := [(1, .int (nI (i + 1))), (0, .ref a)]) hx hb dX1_areRowsLeftEmpty_33 hl (k := 0) rfl (nI_add i 1) (by decide) rfl (fun ls hl => ?_)
        refine lv_goto (tgt := 2) hx hb dX1_areRowsLeftEmpty_36 (by decide) ?_
        have hn1 : ∀ k, k < i + 1 → (ip k).toInt = 0 → (M k 10).toInt = 0 := fun k hk h0 => by
          by_cases q : k = i
          · subst q; first | exact absurd h0 c14 | exact c27
          · exact hn0 k (by omega) h0
        exact ih2 (i + 1) _ (by omega) (by omega) hn1 (lv_sub hl [0, 1] rfl)
      refine lv_aload_n hx hb dX1_areRowsLeftEmpty_17 rfl (lv_at hl 1 rfl) ?_
      refine va_get (D := D) (ci := 1) (C := RX1) (T := TX1) (N := 4) hx hb hts iX1 hown hK hP 0 rfl rfl 0 (by decide) (hts _ k_f_X1_13) (fun _ h9 => h9) rfl dX1_areRowsLeftEmpty_18 ?_
      refine lv_iload_n hx hb dX1_areRowsLeftEmpty_21 rfl (lv_at hl 0 rfl) ?_
      refine n_aald hx hb hK hP 1 3 rfl rfl (i := i) (by omega) (by decide) (if_pos (by omega)) dX1_areRowsLeftEmpty_22 ?_
      refine lv_bipush (v := nI 10) hx hb dX1_areRowsLeftEmpty_23 (by decide) ?_
      refine n_lald hx hb hK hP (4 + i) 1 (WE_at (by omega)) rfl (i := 10) (by omega) (by decide) dX1_areRowsLeftEmpty_25 ?_
      refine lv_lconst (v := 0) hx hb dX1_areRowsLeftEmpty_26 (by decide) ?_
      refine b_lcmp_eq hx hb rfl (show (0 : Int64).toInt = 0 by decide) dX1_areRowsLeftEmpty_27 dX1_areRowsLeftEmpty_28 (tgt := 33) (by decide) (fun c27 => ?_) (fun c27 => ?_)
      · refine lv_iinc (v := nI (i + 1)) (lv' := [(1, .int (nI (i + 1))), (0, .ref a)]) hx hb dX1_areRowsLeftEmpty_33 hl (k := 0) rfl (nI_add i 1) (by decide) rfl (fun ls hl => ?_)
        refine lv_goto (tgt := 2) hx hb dX1_areRowsLeftEmpty_36 (by decide) ?_
        have hn1 : ∀ k, k < i + 1 → (ip k).toInt = 0 → (M k 10).toInt = 0 := fun k hk h0 => by
          by_cases q : k = i
          · subst q; first | exact absurd h0 c14 | exact c27
          · exact hn0 k (by omega) h0
        exact ih2 (i + 1) _ (by omega) (by omega) hn1 (lv_sub hl [0, 1] rfl)
      refine lv_iconst (v := nI 0) hx hb dX1_areRowsLeftEmpty_31 (by decide) ?_
      exact W.zret (v := nI 0) hx hb hr (by decide) (fun t9 ht9 hW => ⟨⟨nI 0, (), rfl, bI_f (fun q => c27 (q i (by omega) c14)), trivial⟩, hS.F ht9⟩) hS.2.2 dX1_areRowsLeftEmpty_32
  exact L2 _ 0 _ (Nat.lt_succ_self _) (by omega) (fun k hk => absurd hk (Nat.not_lt_zero _)) (lv_sub hl [0, 1] rfl)
set_option maxHeartbeats 4000000 in
set_option maxRecDepth 100000 in
theorem c_X1_isDetermined (l : Launch) (D : va_G) (K : Nat → ClassId) (a ao ap ab : Nat) (r : Nat → Nat) (M : Nat → Nat → Int64) (pv ip : Nat → Int32) (sv : Int32) (t : Nat) (sz : Nat) (ht : t < 10) (hsv : sv = nI 0 ∨ sv = nI 1) (hpv : pv t = -1 ∨ ∃ k, k < 10 ∧ pv t = nI k) : Met l yX1_isDetermined (.code yX1_isDetermined cX1_isDetermined 4 (some .boolean) :: TB) ({ frames := 0, cells := 0, slots := 0, locals := 0 } : Room) (va_Pc [.ref a, .int (nI t)] (cP D K (WE K a ao ap ab r M pv ip sv) sz)) (va_Qi (fun (q : Int32) (_ : Unit) => q = bI (sv = nI 1 ∧ ∃ k, k < 10 ∧ pv t = nI k ∧ ∀ o, o < 10 → ¬ o = t → (M k o).toInt = 0)) (fun _ _ => True) (fun _ => False)) 0 0 (fun _ => False) := by
  refine Met.ofW (cc := cX1_isDetermined) (maxL := 4) (ret := (some .boolean)) (by decide) rfl ?_
  intro p e s m args below meth c s₁ B hml hv
  obtain ⟨rfl, hsz, hP, hK, hD0⟩ := hv
  have hx := B.exec
  have hb := B.bytes
  have hr := B.returns
  have hts := hts_tl (atoms_spec (ws := (.code yX1_isDetermined cX1_isDetermined 4 (some .boolean) :: TB)) B.pre)
  have hown : s.vm.findClass RX1 = some m.cls := findClass_of_methodNamed B.named
  have hlocks := B.notSynchronized
  subst hsz
  have hA : ∀ q : Nat, q < s.heap.size → (fun _ : Nat => False) q → False := fun _ _ h => h
  have hS : va_S (fun _ => False) s.heap s.heap [] := va_S.rf
  have hl := lv_entry ([.ref a, .int (nI t)]) (n := 4) (Nat.le_of_ble_eq_true rfl)
  rw [lg_entry_eq]
  generalize (lg_sl ([.ref a, .int (nI t)]) ++ List.replicate (4 - (lg_sl ([.ref a, .int (nI t)])).length) Slot.unset).toArray = ls at hl ⊢
  have hl : lv_has ls 4 [(0, .ref a), (1, .int (nI t))] := hl
  refine lv_aload_n hx hb dX1_isDetermined_0 rfl (lv_at hl 0 rfl) ?_
  refine va_get (D := D) (ci := 1) (C := RX1) (T := TX1) (N := 4) hx hb hts iX1 hown hK hP 0 rfl rfl 3 (by decide) (hts _ k_f_X1_36) (fun _ h9 => h9) rfl dX1_isDetermined_1 ?_
  refine b_if_eq hx hb rfl dX1_isDetermined_4 (tgt := 17) (by decide) (fun c4 => ?_) (fun c4 => ?_)
  · refine lv_iconst (v := nI 0) hx hb dX1_isDetermined_17 (by decide) ?_
    exact W.zret (v := nI 0) hx hb hr (by decide) (fun t9 ht9 hW => ⟨⟨nI 0, (), rfl, bI_f (fun q => absurd (show sv.toInt = 0 from c4) (by rw [q.1]; decide)), trivial⟩, hS.F ht9⟩) hS.2.2 dX1_isDetermined_18
  refine lv_iload_n hx hb dX1_isDetermined_7 rfl (lv_at hl 1 rfl) ?_
  refine b_if_lt hx hb (nI_toIntI (by omega)) dX1_isDetermined_8 (tgt := 17) (by decide) (fun c8 => absurd c8 (by omega)) (fun c8 => ?_)
  refine lv_iload_n hx hb dX1_isDetermined_11 rfl (lv_at hl 1 rfl) ?_
  refine lv_bipush (v := nI 10) hx hb dX1_isDetermined_12 (by decide) ?_
  refine b_icmp_lt hx hb (nI_toIntI (by omega)) (nI_toIntI (by omega)) dX1_isDetermined_14 (tgt := 19) (by decide) (fun c14 => ?_) (fun c14 => absurd c14 (by omega))
  refine lv_aload_n hx hb dX1_isDetermined_19 rfl (lv_at hl 0 rfl) ?_
  refine va_get (D := D) (ci := 1) (C := RX1) (T := TX1) (N := 4) hx hb hts iX1 hown hK hP 0 rfl rfl 1 (by decide) (hts _ k_f_X1_16) (fun _ h9 => h9) rfl dX1_isDetermined_20 ?_
  refine lv_iload_n hx hb dX1_isDetermined_23 rfl (lv_at hl 1 rfl) ?_
  refine n_iald hx hb hK hP 2 0 rfl rfl (i := t) (by omega) (by decide) dX1_isDetermined_24 ?_
  refine lv_istore_n (lv' := [(2, .int (pv t)), (0, .ref a), (1, .int (nI t))]) hx hb dX1_isDetermined_25 rfl hl (by decide) rfl (fun ls hl => ?_)
  rcases hpv with hpv | ⟨k, hk, hpv⟩
  · refine lv_iload_n hx hb dX1_isDetermined_26 rfl (lv_at hl 0 rfl) ?_
    refine b_if_lt hx hb (congrArg Int32.toInt hpv) dX1_isDetermined_27 (tgt := 36) (by decide) (fun c27 => ?_) (fun c27 => absurd c27 (by decide))
    refine lv_iconst (v := nI 0) hx hb dX1_isDetermined_36 (by decide) ?_
    exact W.zret (v := nI 0) hx hb hr (by decide) (fun t9 ht9 hW => ⟨⟨nI 0, (), rfl, bI_f (fun q => by obtain ⟨-, k, hk, h, -⟩ := q; rw [hpv] at h; exact m1_ne (by omega) h), trivial⟩, hS.F ht9⟩) hS.2.2 dX1_isDetermined_37
  rw [hpv] at hl
  refine lv_iload_n hx hb dX1_isDetermined_26 rfl (lv_at hl 0 rfl) ?_
  refine b_if_lt hx hb (nI_toIntI (by omega)) dX1_isDetermined_27 (tgt := 36) (by decide) (fun c27 => absurd c27 (by omega)) (fun c27 => ?_)
  refine lv_iload_n hx hb dX1_isDetermined_30 rfl (lv_at hl 0 rfl) ?_
  refine lv_bipush (v := nI 10) hx hb dX1_isDetermined_31 (by decide) ?_
  refine b_icmp_lt hx hb (nI_toIntI (by omega)) (nI_toIntI (by omega)) dX1_isDetermined_33 (tgt := 38) (by decide) (fun c33 => ?_) (fun c33 => absurd c33 (by omega))
  refine lv_iconst (v := nI 0) hx hb dX1_isDetermined_38 (by decide) ?_
  refine lv_istore_n (lv' := [(3, .int (nI 0)), (2, .int (nI k)), (0, .ref a), (1, .int (nI t))]) hx hb dX1_isDetermined_39 rfl hl (by decide) rfl (fun ls hl => ?_)
  have L40 : ∀ (fuel : Nat) (i : Nat) (ls : Array Slot), 10 - i < fuel → (i ≤ 10) → (∀ o, o < i → ¬ o = t → (M k o).toInt = 0) → lv_has ls 4 [(3, .int (nI i)), (2, .int (nI k)), (0, .ref a), (1, .int (nI t))] → W p l e ({ frames := 0, cells := 0, slots := 0, locals := 0 } : Room) s m [.ref a, .int (nI t)].toArray below meth c s.heap [] 0 0 (MQ below (va_Qi (fun (q : Int32) (_ : Unit) => q = bI (sv = nI 1 ∧ ∃ k, k < 10 ∧ pv t = nI k ∧ ∀ o, o < 10 → ¬ o = t → (M k o).toInt = 0)) (fun _ _ => True) (fun _ => False)) [.ref a, .int (nI t)].toArray s 0 0 (fun _ => False)) (F0 m 40 ls []) := by
    intro fuel
    induction fuel with
    | zero =>
      intro i ls hfu
      exact absurd hfu (Nat.not_lt_zero _)
    | succ fuel ih40 =>
      intro i ls hfu hi hn0 hl
      refine lv_iload_n hx hb dX1_isDetermined_40 rfl (lv_at hl 0 rfl) ?_
      refine lv_bipush (v := nI 10) hx hb dX1_isDetermined_41 (by decide) ?_
      refine b_icmp_ge hx hb (nI_toIntI (by omega)) (nI_toIntI (by omega)) dX1_isDetermined_43 (tgt := 72) (by decide) (fun c43 => ?_) (fun c43 => ?_)
      · refine lv_iconst (v := nI 1) hx hb dX1_isDetermined_72 (by decide) ?_
        exact W.zret (v := nI 1) hx hb hr (by decide) (fun t9 ht9 hW => ⟨⟨nI 1, (), rfl, bI_t ⟨by rcases hsv with h | h; exact absurd (show sv.toInt = 0 by rw [h]; decide) c4; exact h, k, hk, hpv, fun o ho hne => hn0 o (by omega) hne⟩, trivial⟩, hS.F ht9⟩) hS.2.2 dX1_isDetermined_73
      refine lv_iload_n hx hb dX1_isDetermined_46 rfl (lv_at hl 0 rfl) ?_
      refine lv_iload_n hx hb dX1_isDetermined_47 rfl (lv_at hl 3 rfl) ?_
      refine b_icmp_eq hx hb (nI_toIntI (by omega)) (nI_toIntI (by omega)) dX1_isDetermined_48 (tgt := 66) (by decide) (fun c48 => ?_) (fun c48 => ?_)
      · refine lv_iinc (v := nI (i + 1)) (lv' := [(3, .int (nI (i + 1))), (2, .int (nI k)), (0, .ref a), (1, .int (nI t))]) hx hb dX1_isDetermined_66 hl (k := 0) rfl (nI_add i 1) (by decide) rfl (fun ls hl => ?_)
        refine lv_goto (tgt := 40) hx hb dX1_isDetermined_69 (by decide) ?_
        have hn1 : ∀ o, o < i + 1 → ¬ o = t → (M k o).toInt = 0 := fun o ho hne => by
          by_cases q : o = i
          · subst q; first | exact absurd (by omega) hne | exact c60
          · exact hn0 o (by omega) hne
        exact ih40 (i + 1) _ (by omega) (by omega) hn1 (lv_sub hl [0, 1, 2, 3] rfl)
      refine lv_aload_n hx hb dX1_isDetermined_51 rfl (lv_at hl 2 rfl) ?_
      refine va_get (D := D) (ci := 1) (C := RX1) (T := TX1) (N := 4) hx hb hts iX1 hown hK hP 0 rfl rfl 0 (by decide) (hts _ k_f_X1_13) (fun _ h9 => h9) rfl dX1_isDetermined_52 ?_
      refine lv_iload_n hx hb dX1_isDetermined_55 rfl (lv_at hl 1 rfl) ?_
      refine n_aald hx hb hK hP 1 3 rfl rfl (i := k) (by omega) (by decide) (if_pos (by omega)) dX1_isDetermined_56 ?_
      refine lv_iload_n hx hb dX1_isDetermined_57 rfl (lv_at hl 0 rfl) ?_
      refine n_lald hx hb hK hP (4 + k) 1 (WE_at (by omega)) rfl (i := i) (by omega) (by decide) dX1_isDetermined_58 ?_
      refine lv_lconst (v := 0) hx hb dX1_isDetermined_59 (by decide) ?_
      refine b_lcmp_eq hx hb rfl (show (0 : Int64).toInt = 0 by decide) dX1_isDetermined_60 dX1_isDetermined_61 (tgt := 66) (by decide) (fun c60 => ?_) (fun c60 => ?_)
      · refine lv_iinc (v := nI (i + 1)) (lv' := [(3, .int (nI (i + 1))), (2, .int (nI k)), (0, .ref a), (1, .int (nI t))]) hx hb dX1_isDetermined_66 hl (k := 0) rfl (nI_add i 1) (by decide) rfl (fun ls hl => ?_)
        refine lv_goto (tgt := 40) hx hb dX1_isDetermined_69 (by decide) ?_
        have hn1 : ∀ o, o < i + 1 → ¬ o = t → (M k o).toInt = 0 := fun o ho hne => by
          by_cases q : o = i
          · subst q; first | exact absurd (by omega) hne | exact c60
          · exact hn0 o (by omega) hne
        exact ih40 (i + 1) _ (by omega) (by omega) hn1 (lv_sub hl [0, 1, 2, 3] rfl)
      refine lv_iconst (v := nI 0) hx hb dX1_isDetermined_64 (by decide) ?_
      exact W.zret (v := nI 0) hx hb hr (by decide) (fun t9 ht9 hW => ⟨⟨nI 0, (), rfl, bI_f (fun q => by obtain ⟨-, k2, hk2, h2, h3⟩ := q; rw [hpv] at h2; have e : k = k2 := (nI_eq (by omega) (by omega)).mp h2; subst e; exact c60 (h3 i (by omega) (fun z => c48 (by rw [z])))), trivial⟩, hS.F ht9⟩) hS.2.2 dX1_isDetermined_65
  exact L40 _ 0 _ (Nat.lt_succ_self _) (by omega) (fun k hk => absurd hk (Nat.not_lt_zero _)) (lv_sub hl [0, 1, 2, 3] rfl)
