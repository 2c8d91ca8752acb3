/-! PlanetaryGearbox$Design: its cells, its contracts -/
def dU (d : Nat → Nat → Int32) (k j : Nat) (x : Int32) : Nat → Nat → Int32 := fun i => if i = k then upd (d k) j x else d i
theorem dU_same (d : Nat → Nat → Int32) (k j : Nat) (x : Int32) : dU d k j x k j = x := by simp [dU, upd]
theorem dU_k {d : Nat → Nat → Int32} {k j i : Nat} {x : Int32} (h : i ≠ k) : dU d k j x i = d i := by simp [dU, h]
theorem dU_j {d : Nat → Nat → Int32} {k j i t : Nat} {x : Int32} (h : t ≠ j) : dU d k j x i t = d i t := by
  unfold dU
  by_cases e : i = k
  · subst e; simp [upd, h]
  · simp [e]
def WD (K : Nat → ClassId) (q : Nat → Nat) (d : Nat → Nat → Int32) : va_W := [(q 0, .inr (0, [.ref (q 1), .ref (q 2), .ref (q 3), .ref (q 4), .ref (q 5), .int (d 8 0), .ref (q 6), .ref (q 7), .ref (q 8), .int (d 8 1), .int (d 8 2)])), (q 1, .inl (K 0, 3, .inl (d 0))), (q 2, .inl (K 0, 3, .inl (d 1))), (q 3, .inl (K 0, 3, .inl (d 2))), (q 4, .inl (K 0, 3, .inl (d 3))), (q 5, .inl (K 0, 3, .inl (d 4))), (q 6, .inl (K 0, 6, .inl (d 5))), (q 7, .inl (K 0, 6, .inl (d 6))), (q 8, .inl (K 0, 6, .inl (d 7)))]
theorem sh_amt : ∀ k, k < 32 → ((nI k &&& 31).toBitVec.smod 32).toNat = k := by decide
theorem sh_r {g k : Nat} (hg : g < 2147483648) (hk : k < 32) : nI g >>> (nI k &&& 31) = nI (g / 2 ^ k) := pk_shrN (by omega) _ k (sh_amt k hk)
theorem and_1 {g : Nat} (hg : g < 2147483648) : nI g &&& nI 1 = nI (g % 2) := pk_andN (by omega) 1 (by decide)
theorem tb_div (g k : Nat) : g / 2 ^ k % 2 = (if g.testBit k = true then 1 else 0) := by
  rw [Nat.testBit_eq_decide_div_mod_eq]
  have h : g / 2 ^ k % 2 < 2 := Nat.mod_lt _ (by decide)
  by_cases q : g / 2 ^ k % 2 = 1
  · simp [q]
  · simp [q]; omega
theorem div_lt {g k : Nat} (hg : g < 2147483648) : g / 2 ^ k < 2147483648 := Nat.lt_of_le_of_lt (Nat.div_le_self _ _) hg
set_option maxHeartbeats 4000000 in
set_option maxRecDepth 100000 in
theorem c_X0_setCount (l : Launch) (D : va_G) (K : Nat → ClassId) (q : Nat → Nat) (d : Nat → Nat → Int32) (sz : Nat)  : Met l yX0_setCount (.code yX0_setCount cX0_setCount 1 (some .int) :: TB) ({ frames := 0, cells := 0, slots := 0, locals := 0 } : Room) (va_Pc [.ref (q 0)] (cP D K (WD K q d) sz)) (va_Qi (fun (z : Int32) (_ : Unit) => z = d 8 0) (fun _ _ => True) (fun _ => False)) 0 0 (fun _ => False) := by
  refine Met.ofW (cc := cX0_setCount) (maxL := 1) (ret := (some .int)) (by decide) rfl ?_
  intro p e s m args below meth c s₁ B hml hv
  obtain ⟨rfl, hsz, hP, hK, hD0⟩ := hv
  have hx := B.exec
  have hb := B.bytes
  have hr := B.returns
  have hts := hts_tl (atoms_spec (ws := (.code yX0_setCount cX0_setCount 1 (some .int) :: TB)) B.pre)
  have hown : s.vm.findClass RX0 = some m.cls := findClass_of_methodNamed B.named
  have hlocks := B.notSynchronized
  subst hsz
  have hA : ∀ q : Nat, q < s.heap.size → (fun _ : Nat => False) q → False := fun _ _ h => h
  have hS : va_S (fun _ => False) s.heap s.heap [] := va_S.rf
  have hl := lv_entry ([.ref (q 0)]) (n := 1) (Nat.le_of_ble_eq_true rfl)
  rw [lg_entry_eq]
  generalize (lg_sl ([.ref (q 0)]) ++ List.replicate (1 - (lg_sl ([.ref (q 0)])).length) Slot.unset).toArray = ls at hl ⊢
  have hl : lv_has ls 1 [(0, .ref (q 0))] := hl
  refine lv_aload_n hx hb dX0_setCount_0 rfl (lv_at hl 0 rfl) ?_
  refine va_get (D := D) (ci := 0) (C := RX0) (T := TX0) (N := 11) hx hb hts iX0 hown hK hP 0 rfl rfl 5 (by decide) (hts _ k_f_X0_36) (fun _ h9 => h9) rfl dX0_setCount_1 ?_
  exact W.iret (v := d 8 0) hx hb hr (fun t9 ht9 hW => ⟨⟨d 8 0, (), rfl, rfl, trivial⟩, hS.F ht9⟩) hS.2.2 dX0_setCount_4
set_option maxHeartbeats 4000000 in
set_option maxRecDepth 100000 in
theorem c_X0_elementCount (l : Launch) (D : va_G) (K : Nat → ClassId) (q : Nat → Nat) (d : Nat → Nat → Int32) (sz : Nat)  : Met l yX0_elementCount (.code yX0_elementCount cX0_elementCount 1 (some .int) :: TB) ({ frames := 0, cells := 0, slots := 0, locals := 0 } : Room) (va_Pc [.ref (q 0)] (cP D K (WD K q d) sz)) (va_Qi (fun (z : Int32) (_ : Unit) => z = d 8 1) (fun _ _ => True) (fun _ => False)) 0 0 (fun _ => False) := by
  refine Met.ofW (cc := cX0_elementCount) (maxL := 1) (ret := (some .int)) (by decide) rfl ?_
  intro p e s m args below meth c s₁ B hml hv
  obtain ⟨rfl, hsz, hP, hK, hD0⟩ := hv
  have hx := B.exec
  have hb := B.bytes
  have hr := B.returns
  have hts := hts_tl (atoms_spec (ws := (.code yX0_elementCount cX0_elementCount 1 (some .int) :: TB)) B.pre)
  have hown : s.vm.findClass RX0 = some m.cls := findClass_of_methodNamed B.named
  have hlocks := B.notSynchronized
  subst hsz
  have hA : ∀ q : Nat, q < s.heap.size → (fun _ : Nat => False) q → False := fun _ _ h => h
  have hS : va_S (fun _ => False) s.heap s.heap [] := va_S.rf
  have hl := lv_entry ([.ref (q 0)]) (n := 1) (Nat.le_of_ble_eq_true rfl)
  rw [lg_entry_eq]
  generalize (lg_sl ([.ref (q 0)]) ++ List.replicate (1 - (lg_sl ([.ref (q 0)])).length) Slot.unset).toArray = ls at hl ⊢
  have hl : lv_has ls 1 [(0, .ref (q 0))] := hl
  refine lv_aload_n hx hb dX0_elementCount_0 rfl (lv_at hl 0 rfl) ?_
  refine va_get (D := D) (ci := 0) (C := RX0) (T := TX0) (N := 11) hx hb hts iX0 hown hK hP 0 rfl rfl 9 (by decide) (hts _ k_f_X0_40) (fun _ h9 => h9) rfl dX0_elementCount_1 ?_
  exact W.iret (v := d 8 1) hx hb hr (fun t9 ht9 hW => ⟨⟨d 8 1, (), rfl, rfl, trivial⟩, hS.F ht9⟩) hS.2.2 dX0_elementCount_4
set_option maxHeartbeats 4000000 in
set_option maxRecDepth 100000 in
theorem c_X0_engagedMask (l : Launch) (D : va_G) (K : Nat → ClassId) (q : Nat → Nat) (d : Nat → Nat → Int32) (sz : Nat)  : Met l yX0_engagedMask (.code yX0_engagedMask cX0_engagedMask 1 (some .int) :: TB) ({ frames := 0, cells := 0, slots := 0, locals := 0 } : Room) (va_Pc [.ref (q 0)] (cP D K (WD K q d) sz)) (va_Qi (fun (z : Int32) (_ : Unit) => z = d 8 2) (fun _ _ => True) (fun _ => False)) 0 0 (fun _ => False) := by
  refine Met.ofW (cc := cX0_engagedMask) (maxL := 1) (ret := (some .int)) (by decide) rfl ?_
  intro p e s m args below meth c s₁ B hml hv
  obtain ⟨rfl, hsz, hP, hK, hD0⟩ := hv
  have hx := B.exec
  have hb := B.bytes
  have hr := B.returns
  have hts := hts_tl (atoms_spec (ws := (.code yX0_engagedMask cX0_engagedMask 1 (some .int) :: TB)) B.pre)
  have hown : s.vm.findClass RX0 = some m.cls := findClass_of_methodNamed B.named
  have hlocks := B.notSynchronized
  subst hsz
  have hA : ∀ q : Nat, q < s.heap.size → (fun _ : Nat => False) q → False := fun _ _ h => h
  have hS : va_S (fun _ => False) s.heap s.heap [] := va_S.rf
  have hl := lv_entry ([.ref (q 0)]) (n := 1) (Nat.le_of_ble_eq_true rfl)
  rw [lg_entry_eq]
  generalize (lg_sl ([.ref (q 0)]) ++ List.replicate (1 - (lg_sl ([.ref (q 0)])).length) Slot.unset).toArray = ls at hl ⊢
  have hl : lv_has ls 1 [(0, .ref (q 0))] := hl
  refine lv_aload_n hx hb dX0_engagedMask_0 rfl (lv_at hl 0 rfl) ?_
  refine va_get (D := D) (ci := 0) (C := RX0) (T := TX0) (N := 11) hx hb hts iX0 hown hK hP 0 rfl rfl 10 (by decide) (hts _ k_f_X0_47) (fun _ h9 => h9) rfl dX0_engagedMask_1 ?_
  exact W.iret (v := d 8 2) hx hb hr (fun t9 ht9 hW => ⟨⟨d 8 2, (), rfl, rfl, trivial⟩, hS.F ht9⟩) hS.2.2 dX0_engagedMask_4
set_option maxHeartbeats 4000000 in
set_option maxRecDepth 100000 in
theorem c_X0_hasElement (l : Launch) (D : va_G) (K : Nat → ClassId) (q : Nat → Nat) (d : Nat → Nat → Int32) (m1 : Nat) (x : Int32) (sz : Nat) (hm : m1 ≤ 6) (h1 : d 8 1 = nI m1) : Met l yX0_hasElement (.code yX0_hasElement cX0_hasElement 2 (some .boolean) :: TB) ({ frames := 0, cells := 0, slots := 0, locals := 0 } : Room) (va_Pc [.ref (q 0), .int x] (cP D K (WD K q d) sz)) (va_Qi (fun (z : Int32) (_ : Unit) => z = bI (∃ k : Nat, k < m1 ∧ x = nI k)) (fun _ _ => True) (fun _ => False)) 0 0 (fun _ => False) := by
  refine Met.ofW (cc := cX0_hasElement) (maxL := 2) (ret := (some .boolean)) (by decide) rfl ?_
  intro p e s m args below meth c s₁ B hml hv
  obtain ⟨rfl, hsz, hP, hK, hD0⟩ := hv
  have hx := B.exec
  have hb := B.bytes
  have hr := B.returns
  have hts := hts_tl (atoms_spec (ws := (.code yX0_hasElement cX0_hasElement 2 (some .boolean) :: TB)) B.pre)
  have hown : s.vm.findClass RX0 = some m.cls := findClass_of_methodNamed B.named
  have hlocks := B.notSynchronized
  subst hsz
  have hA : ∀ q : Nat, q < s.heap.size → (fun _ : Nat => False) q → False := fun _ _ h => h
  have hS : va_S (fun _ => False) s.heap s.heap [] := va_S.rf
  have hl := lv_entry ([.ref (q 0), .int x]) (n := 2) (Nat.le_of_ble_eq_true rfl)
  rw [lg_entry_eq]
  generalize (lg_sl ([.ref (q 0), .int x]) ++ List.replicate (2 - (lg_sl ([.ref (q 0), .int x])).length) Slot.unset).toArray = ls at hl ⊢
  have hl : lv_has ls 2 [(0, .ref (q 0)), (1, .int x)] := hl
  refine lv_iload_n hx hb dX0_hasElement_0 rfl (lv_at hl 1 rfl) ?_
  refine b_if_lt hx hb rfl dX0_hasElement_1 (tgt := 22) (by decide) (fun c1 => ?_) (fun c1 => ?_)
  · refine lv_iconst (v := nI 0) hx hb dX0_hasElement_22 (by decide) ?_
    exact W.zret (v := nI 0) hx hb hr (by decide) (fun t9 ht9 hW => ⟨⟨nI 0, (), rfl, bI_f (by rintro ⟨k, hk, rfl⟩; have e9 := nI_toIntI (show k < 2147483648 by omega); first | exact absurd c1 (by omega) | exact absurd c9 (by omega)), trivial⟩, hS.F ht9⟩) hS.2.2 dX0_hasElement_23
  refine lv_iload_n hx hb dX0_hasElement_4 rfl (lv_at hl 1 rfl) ?_
  refine lv_aload_n hx hb dX0_hasElement_5 rfl (lv_at hl 0 rfl) ?_
  refine va_get (D := D) (ci := 0) (C := RX0) (T := TX0) (N := 11) hx hb hts iX0 hown hK hP 0 rfl rfl 9 (by decide) (hts _ k_f_X0_40) (fun _ h9 => h9) rfl dX0_hasElement_6 ?_
  refine t_i (show _ = nI m1 from h1) ?_
  refine b_icmp_ge hx hb rfl (nI_toIntI (by omega)) dX0_hasElement_9 (tgt := 22) (by decide) (fun c9 => ?_) (fun c9 => ?_)
  · refine lv_iconst (v := nI 0) hx hb dX0_hasElement_22 (by decide) ?_
    exact W.zret (v := nI 0) hx hb hr (by decide) (fun t9 ht9 hW => ⟨⟨nI 0, (), rfl, bI_f (by rintro ⟨k, hk, rfl⟩; have e9 := nI_toIntI (show k < 2147483648 by omega); first | exact absurd c1 (by omega) | exact absurd c9 (by omega)), trivial⟩, hS.F ht9⟩) hS.2.2 dX0_hasElement_23
  refine lv_iload_n hx hb dX0_hasElement_12 rfl (lv_at hl 1 rfl) ?_
  refine lv_bipush (v := nI 6) hx hb dX0_hasElement_13 (by decide) ?_
  refine b_icmp_ge hx hb rfl (nI_toIntI (by omega)) dX0_hasElement_15 (tgt := 22) (by decide) (fun c15 => absurd c15 (by omega)) (fun c15 => ?_)
  refine lv_iconst (v := nI 1) hx hb dX0_hasElement_18 (by decide) ?_
  refine lv_goto (tgt := 23) hx hb dX0_hasElement_19 (by decide) ?_
  exact W.zret (v := nI 1) hx hb hr (by decide) (fun t9 ht9 hW => ⟨⟨nI 1, (), rfl, bI_t (by obtain ⟨j, hj, e⟩ := nI_of (x := x) (by rw [i32_lt]; exact Int.not_lt.mpr c1); subst e; have e9 := nI_toIntI (show j < 2147483648 by omega); exact ⟨j, by omega, rfl⟩), trivial⟩, hS.F ht9⟩) hS.2.2 dX0_hasElement_23
set_option maxHeartbeats 4000000 in
set_option maxRecDepth 100000 in
theorem c_X0_hasElements (l : Launch) (D : va_G) (K : Nat → ClassId) (q : Nat → Nat) (d : Nat → Nat → Int32) (m1 : Nat) (x : Int32) (sz : Nat) (hm : m1 ≤ 6) (h1 : d 8 1 = nI m1) : Met l yX0_hasElements (.code yX0_hasElements cX0_hasElements 2 (some .boolean) :: TB) ({ frames := 0, cells := 0, slots := 0, locals := 0 } : Room) (va_Pc [.ref (q 0), .int x] (cP D K (WD K q d) sz)) (va_Qi (fun (z : Int32) (_ : Unit) => z = bI (∃ g : Nat, g < 2 ^ m1 ∧ x = nI g)) (fun _ _ => True) (fun _ => False)) 0 0 (fun _ => False) := by
  refine Met.ofW (cc := cX0_hasElements) (maxL := 2) (ret := (some .boolean)) (by decide) rfl ?_
  intro p e s m args below meth c s₁ B hml hv
  obtain ⟨rfl, hsz, hP, hK, hD0⟩ := hv
  have hx := B.exec
  have hb := B.bytes
  have hr := B.returns
  have hts := hts_tl (atoms_spec (ws := (.code yX0_hasElements cX0_hasElements 2 (some .boolean) :: TB)) B.pre)
  have hown : s.vm.findClass RX0 = some m.cls := findClass_of_methodNamed B.named
  have hlocks := B.notSynchronized
  subst hsz
  have hA : ∀ q : Nat, q < s.heap.size → (fun _ : Nat => False) q → False := fun _ _ h => h
  have hS : va_S (fun _ => False) s.heap s.heap [] := va_S.rf
  have hl := lv_entry ([.ref (q 0), .int x]) (n := 2) (Nat.le_of_ble_eq_true rfl)
  rw [lg_entry_eq]
  generalize (lg_sl ([.ref (q 0), .int x]) ++ List.replicate (2 - (lg_sl ([.ref (q 0), .int x])).length) Slot.unset).toArray = ls at hl ⊢
  have hl : lv_has ls 2 [(0, .ref (q 0)), (1, .int x)] := hl
  refine lv_iload_n hx hb dX0_hasElements_0 rfl (lv_at hl 1 rfl) ?_
  refine b_if_lt hx hb rfl dX0_hasElements_1 (tgt := 17) (by decide) (fun c1 => ?_) (fun c1 => ?_)
  · refine lv_iconst (v := nI 0) hx hb dX0_hasElements_17 (by decide) ?_
    exact W.zret (v := nI 0) hx hb hr (by decide) (fun t9 ht9 hW => ⟨⟨nI 0, (), rfl, bI_f (by rintro ⟨g, hg, rfl⟩; have e8 : (2 : Nat) ^ m1 ≤ 2 ^ 6 := Nat.pow_le_pow_right (by decide) hm; have e9 := nI_toIntI (show g < 2147483648 by omega); omega), trivial⟩, hS.F ht9⟩) hS.2.2 dX0_hasElements_18
  obtain ⟨j, hj, rfl⟩ := nI_of (x := x) (by rw [i32_lt]; exact Int.not_lt.mpr c1)
  refine lv_iload_n hx hb dX0_hasElements_4 rfl (lv_at hl 1 rfl) ?_
  refine lv_aload_n hx hb dX0_hasElements_5 rfl (lv_at hl 0 rfl) ?_
  refine va_get (D := D) (ci := 0) (C := RX0) (T := TX0) (N := 11) hx hb hts iX0 hown hK hP 0 rfl rfl 9 (by decide) (hts _ k_f_X0_40) (fun _ h9 => h9) rfl dX0_hasElements_6 ?_
  refine t_i (show _ = nI m1 from h1) ?_
  refine lv_ishr hx hb dX0_hasElements_9 ?_
  refine t_i (sh_r (by omega) (by omega)) ?_
  have hdl := div_lt (g := j) (k := m1) (by omega)
  refine b_if_ne hx hb (nI_toIntI (by omega)) dX0_hasElements_10 (tgt := 17) (by decide) (fun c10 => ?_) (fun c10 => ?_)
  · refine lv_iconst (v := nI 0) hx hb dX0_hasElements_17 (by decide) ?_
    exact W.zret (v := nI 0) hx hb hr (by decide) (fun t9 ht9 hW => ⟨⟨nI 0, (), rfl, bI_f (by rintro ⟨g, hg, e⟩; have e8 : (2 : Nat) ^ m1 ≤ 2 ^ 6 := Nat.pow_le_pow_right (by decide) hm; have e7 := (nI_eq (by omega) (by omega)).mp e; subst e7; have e6 := (Nat.div_eq_zero_iff_lt (Nat.two_pow_pos m1)).mpr hg; omega), trivial⟩, hS.F ht9⟩) hS.2.2 dX0_hasElements_18
  refine lv_iconst (v := nI 1) hx hb dX0_hasElements_13 (by decide) ?_
  refine lv_goto (tgt := 18) hx hb dX0_hasElements_14 (by decide) ?_
  exact W.zret (v := nI 1) hx hb hr (by decide) (fun t9 ht9 hW => ⟨⟨nI 1, (), rfl, bI_t ⟨j, (Nat.div_eq_zero_iff_lt (Nat.two_pow_pos _)).mp (by omega), rfl⟩, trivial⟩, hS.F ht9⟩) hS.2.2 dX0_hasElements_18
set_option maxHeartbeats 4000000 in
set_option maxRecDepth 100000 in
theorem c_X0_appendSet (l : Launch) (D : va_G) (K : Nat → ClassId) (q : Nat → Nat) (d : Nat → Nat → Int32) (n : Nat) (xa xb xc xs xr : Int32) (sz : Nat) (hn : n < 3) (h0 : d 8 0 = nI n) : Met l yX0_appendSet (.code yX0_appendSet cX0_appendSet 6 none :: TB) ({ frames := 0, cells := 0, slots := 0, locals := 0 } : Room) (va_Pc [.ref (q 0), .int xa, .int xb, .int xc, .int xs, .int xr] (cP D K (WD K q d) sz)) (va_Qv (fun (_ : Unit) => True) (fun (u : Unit) t => cB D K (va_A (WD K q d) sz) (WD K q (dU (dU (dU (dU (dU (dU d 0 n xa) 1 n xb) 2 n xc) 3 n xs) 4 n xr) 8 0 (nI (n + 1)))) t) (va_A (WD K q d) sz)) 0 0 (va_A (WD K q d) sz) := by
  refine Met.ofW (cc := cX0_appendSet) (maxL := 6) (ret := none) (by decide) rfl ?_
  intro p e s m args below meth c s₁ B hml hv
  obtain ⟨rfl, hsz, hP, hK, hD0⟩ := hv
  have hx := B.exec
  have hb := B.bytes
  have hr := B.returns
  have hts := hts_tl (atoms_spec (ws := (.code yX0_appendSet cX0_appendSet 6 none :: TB)) B.pre)
  have hown : s.vm.findClass RX0 = some m.cls := findClass_of_methodNamed B.named
  have hlocks := B.notSynchronized
  subst hsz
  have hD := hD0.self (sz := s.heap.size)
  generalize hAe : (va_A (WD K q d) s.heap.size) = A at hD ⊢
  have hA : ∀ q : Nat, s.heap.size ≤ q → A q := fun q h => by rw [← hAe]; exact Or.inr h
  have hS : va_S A s.heap s.heap [] := va_S.rf
  have hl := lv_entry ([.ref (q 0), .int xa, .int xb, .int xc, .int xs, .int xr]) (n := 6) (Nat.le_of_ble_eq_true rfl)
  rw [lg_entry_eq]
  generalize (lg_sl ([.ref (q 0), .int xa, .int xb, .int xc, .int xs, .int xr]) ++ List.replicate (6 - (lg_sl ([.ref (q 0), .int xa, .int xb, .int xc, .int xs, .int xr])).length) Slot.unset).toArray = ls at hl ⊢
  have hl : lv_has ls 6 [(0, .ref (q 0)), (1, .int xa), (2, .int xb), (3, .int xc), (4, .int xs), (5, .int xr)] := hl
  refine lv_aload_n hx hb dX0_appendSet_0 rfl (lv_at hl 0 rfl) ?_
  refine va_get (D := D) (ci := 0) (C := RX0) (T := TX0) (N := 11) hx hb hts iX0 hown hK hP 0 rfl rfl 5 (by decide) (hts _ k_f_X0_36) (fun _ h9 => h9) rfl dX0_appendSet_1 ?_
  refine t_i (show _ = nI n from h0) ?_
  refine b_if_lt hx hb (nI_toIntI (by omega)) dX0_appendSet_4 (tgt := 15) (by decide) (fun c4 => absurd c4 (by omega)) (fun c4 => ?_)
  refine lv_aload_n hx hb dX0_appendSet_7 rfl (lv_at hl 0 rfl) ?_
  refine va_get (D := D) (ci := 0) (C := RX0) (T := TX0) (N := 11) hx hb hts iX0 hown hK hP 0 rfl rfl 5 (by decide) (hts _ k_f_X0_36) (fun _ h9 => h9) rfl dX0_appendSet_8 ?_
  refine t_i (show _ = nI n from h0) ?_
  refine lv_iconst (v := nI 3) hx hb dX0_appendSet_11 (by decide) ?_
  refine b_icmp_lt hx hb (nI_toIntI (by omega)) (nI_toIntI (by omega)) dX0_appendSet_12 (tgt := 16) (by decide) (fun c12 => ?_) (fun c12 => absurd c12 (by omega))
  refine lv_aload_n hx hb dX0_appendSet_16 rfl (lv_at hl 0 rfl) ?_
  refine va_get (D := D) (ci := 0) (C := RX0) (T := TX0) (N := 11) hx hb hts iX0 hown hK hP 0 rfl rfl 0 (by decide) (hts _ k_f_X0_9) (fun _ h9 => h9) rfl dX0_appendSet_17 ?_
  refine lv_aload_n hx hb dX0_appendSet_20 rfl (lv_at hl 0 rfl) ?_
  refine va_get (D := D) (ci := 0) (C := RX0) (T := TX0) (N := 11) hx hb hts iX0 hown hK hP 0 rfl rfl 5 (by decide) (hts _ k_f_X0_36) (fun _ h9 => h9) rfl dX0_appendSet_21 ?_
  refine t_i (show _ = nI n from h0) ?_
  refine lv_iload_n hx hb dX0_appendSet_24 rfl (lv_at hl 1 rfl) ?_
  refine n_iast hx hb hK hP hD hS 1 0 rfl rfl (i := n) (n := 3) (by omega) (by decide) dX0_appendSet_25 (fun H locs hP hD hS => ?_)
  have hP : va_P D vwCl (WD K q (dU d 0 n xa)) H := hP
  have hD : va_D A (WD K q (dU d 0 n xa)) := hD
  refine lv_aload_n hx hb dX0_appendSet_26 rfl (lv_at hl 0 rfl) ?_
  refine va_get (D := D) (ci := 0) (C := RX0) (T := TX0) (N := 11) hx hb hts iX0 hown hK hP 0 rfl rfl 1 (by decide) (hts _ k_f_X0_15) (fun _ h9 => h9) rfl dX0_appendSet_27 ?_
  refine lv_aload_n hx hb dX0_appendSet_30 rfl (lv_at hl 0 rfl) ?_
  refine va_get (D := D) (ci := 0) (C := RX0) (T := TX0) (N := 11) hx hb hts iX0 hown hK hP 0 rfl rfl 5 (by decide) (hts _ k_f_X0_36) (fun _ h9 => h9) rfl dX0_appendSet_31 ?_
  refine t_i (show _ = nI n from h0) ?_
  refine lv_iload_n hx hb dX0_appendSet_34 rfl (lv_at hl 2 rfl) ?_
  refine n_iast hx hb hK hP hD hS 2 0 rfl rfl (i := n) (n := 3) (by omega) (by decide) dX0_appendSet_35 (fun H locs hP hD hS => ?_)
  have hP : va_P D vwCl (WD K q (dU (dU d 0 n xa) 1 n xb)) H := hP
  have hD : va_D A (WD K q (dU (dU d 0 n xa) 1 n xb)) := hD
  refine lv_aload_n hx hb dX0_appendSet_36 rfl (lv_at hl 0 rfl) ?_
  refine va_get (D := D) (ci := 0) (C := RX0) (T := TX0) (N := 11) hx hb hts iX0 hown hK hP 0 rfl rfl 2 (by decide) (hts _ k_f_X0_18) (fun _ h9 => h9) rfl dX0_appendSet_37 ?_
  refine lv_aload_n hx hb dX0_appendSet_40 rfl (lv_at hl 0 rfl) ?_
  refine va_get (D := D) (ci := 0) (C := RX0) (T := TX0) (N := 11) hx hb hts iX0 hown hK hP 0 rfl rfl 5 (by decide) (hts _ k_f_X0_36) (fun _ h9 => h9) rfl dX0_appendSet_41 ?_
  refine t_i (show _ = nI n from h0) ?_
  refine lv_iload_n hx hb dX0_appendSet_44 rfl (lv_at hl 3 rfl) ?_
  refine n_iast hx hb hK hP hD hS 3 0 rfl rfl (i := n) (n := 3) (by omega) (by decide) dX0_appendSet_45 (fun H locs hP hD hS => ?_)
  have hP : va_P D vwCl (WD K q (dU (dU (dU d 0 n xa) 1 n xb) 2 n xc)) H := hP
  have hD : va_D A (WD K q (dU (dU (dU d 0 n xa) 1 n xb) 2 n xc)) := hD
  refine lv_aload_n hx hb dX0_appendSet_46 rfl (lv_at hl 0 rfl) ?_
  refine va_get (D := D) (ci := 0) (C := RX0) (T := TX0) (N := 11) hx hb hts iX0 hown hK hP 0 rfl rfl 3 (by decide) (hts _ k_f_X0_21) (fun _ h9 => h9) rfl dX0_appendSet_47 ?_
  refine lv_aload_n hx hb dX0_appendSet_50 rfl (lv_at hl 0 rfl) ?_
  refine va_get (D := D) (ci := 0) (C := RX0) (T := TX0) (N := 11) hx hb hts iX0 hown hK hP 0 rfl rfl 5 (by decide) (hts _ k_f_X0_36) (fun _ h9 => h9) rfl dX0_appendSet_51 ?_
  refine t_i (show _ = nI n from h0) ?_
  refine lv_iload hx hb dX0_appendSet_54 (lv_at hl 4 rfl) ?_
  refine n_iast hx hb hK hP hD hS 4 0 rfl rfl (i := n) (n := 3) (by omega) (by decide) dX0_appendSet_56 (fun H locs hP hD hS => ?_)
  have hP : va_P D vwCl (WD K q (dU (dU (dU (dU d 0 n xa) 1 n xb) 2 n xc) 3 n xs)) H := hP
  have hD : va_D A (WD K q (dU (dU (dU (dU d 0 n xa) 1 n xb) 2 n xc) 3 n xs)) := hD
  refine lv_aload_n hx hb dX0_appendSet_57 rfl (lv_at hl 0 rfl) ?_
  refine va_get (D := D) (ci := 0) (C := RX0) (T := TX0) (N := 11) hx hb hts iX0 hown hK hP 0 rfl rfl 4 (by decide) (hts _ k_f_X0_24) (fun _ h9 => h9) rfl dX0_appendSet_58 ?_
  refine lv_aload_n hx hb dX0_appendSet_61 rfl (lv_at hl 0 rfl) ?_
  refine va_get (D := D) (ci := 0) (C := RX0) (T := TX0) (N := 11) hx hb hts iX0 hown hK hP 0 rfl rfl 5 (by decide) (hts _ k_f_X0_36) (fun _ h9 => h9) rfl dX0_appendSet_62 ?_
  refine t_i (show _ = nI n from h0) ?_
  refine lv_iload hx hb dX0_appendSet_65 (lv_at hl 5 rfl) ?_
  refine n_iast hx hb hK hP hD hS 5 0 rfl rfl (i := n) (n := 3) (by omega) (by decide) dX0_appendSet_67 (fun H locs hP hD hS => ?_)
  have hP : va_P D vwCl (WD K q (dU (dU (dU (dU (dU d 0 n xa) 1 n xb) 2 n xc) 3 n xs) 4 n xr)) H := hP
  have hD : va_D A (WD K q (dU (dU (dU (dU (dU d 0 n xa) 1 n xb) 2 n xc) 3 n xs) 4 n xr)) := hD
  refine lv_aload_n hx hb dX0_appendSet_68 rfl (lv_at hl 0 rfl) ?_
  refine lv_dup hx hb dX0_appendSet_69 rfl ?_
  refine va_get (D := D) (ci := 0) (C := RX0) (T := TX0) (N := 11) hx hb hts iX0 hown hK hP 0 rfl rfl 5 (by decide) (hts _ k_f_X0_36) (fun _ h9 => h9) rfl dX0_appendSet_70 ?_
  refine t_i (show _ = nI n from h0) ?_
  refine lv_iconst (v := nI 1) hx hb dX0_appendSet_73 (by decide) ?_
  refine lv_iadd hx hb dX0_appendSet_74 ?_
  refine t_i (nI_add _ _) ?_
  refine va_put (D := D) (ci := 0) (v := .int (nI (n + 1))) (ty := .int) (C := RX0) (T := TX0) (N := 11) hx hb hts iX0 tyX0 tyX0_ok nmX0 hown hK hP hD hS 0 rfl rfl 5 (by decide) (hts _ k_f_X0_36) (fun _ h9 => h9) rfl (by decide +kernel) rfl rfl (Nat.le_of_ble_eq_true rfl) dX0_appendSet_75 (fun H locs hP hD hS => ?_)
  have hP : va_P D vwCl (WD K q (dU (dU (dU (dU (dU (dU d 0 n xa) 1 n xb) 2 n xc) 3 n xs) 4 n xr) 8 0 (nI (n + 1)))) H := hP
  have hD : va_D A (WD K q (dU (dU (dU (dU (dU (dU d 0 n xa) 1 n xb) 2 n xc) 3 n xs) 4 n xr) 8 0 (nI (n + 1)))) := hD
  exact W.vret hx hb hr (fun t9 ht9 hW => ⟨⟨(), rfl, trivial, by rw [ht9]; exact hP, va_K.moved hW.alike hK, hD⟩, hS.F ht9⟩) hS.2.2 dX0_appendSet_78
set_option maxHeartbeats 4000000 in
set_option maxRecDepth 100000 in
theorem c_X0_appendElement (l : Launch) (D : va_G) (K : Nat → ClassId) (q : Nat → Nat) (d : Nat → Nat → Int32) (m1 : Nat) (xf xs : Int32) (sz : Nat) (hm : m1 < 6) (h1 : d 8 1 = nI m1) : Met l yX0_appendElement (.code yX0_appendElement cX0_appendElement 3 (some .int) :: TB) ({ frames := 0, cells := 0, slots := 0, locals := 0 } : Room) (va_Pc [.ref (q 0), .int xf, .int xs] (cP D K (WD K q d) sz)) (va_Qi (fun (z : Int32) (_ : Unit) => z = nI m1) (fun (u : Unit) t => cB D K (va_A (WD K q d) sz) (WD K q (dU (dU (dU (dU d 5 m1 xf) 6 m1 xs) 7 m1 (nI 1000)) 8 1 (nI (m1 + 1)))) t) (va_A (WD K q d) sz)) 0 0 (va_A (WD K q d) sz) := by
  refine Met.ofW (cc := cX0_appendElement) (maxL := 3) (ret := (some .int)) (by decide) rfl ?_
  intro p e s m args below meth c s₁ B hml hv
  obtain ⟨rfl, hsz, hP, hK, hD0⟩ := hv
  have hx := B.exec
  have hb := B.bytes
  have hr := B.returns
  have hts := hts_tl (atoms_spec (ws := (.code yX0_appendElement cX0_appendElement 3 (some .int) :: TB)) B.pre)
  have hown : s.vm.findClass RX0 = some m.cls := findClass_of_methodNamed B.named
  have hlocks := B.notSynchronized
  subst hsz
  have hD := hD0.self (sz := s.heap.size)
  generalize hAe : (va_A (WD K q d) s.heap.size) = A at hD ⊢
  have hA : ∀ q : Nat, s.heap.size ≤ q → A q := fun q h => by rw [← hAe]; exact Or.inr h
  have hS : va_S A s.heap s.heap [] := va_S.rf
  have hl := lv_entry ([.ref (q 0), .int xf, .int xs]) (n := 3) (Nat.le_of_ble_eq_true rfl)
  rw [lg_entry_eq]
  generalize (lg_sl ([.ref (q 0), .int xf, .int xs]) ++ List.replicate (3 - (lg_sl ([.ref (q 0), .int xf, .int xs])).length) Slot.unset).toArray = ls at hl ⊢
  have hl : lv_has ls 3 [(0, .ref (q 0)), (1, .int xf), (2, .int xs)] := hl
  refine lv_aload_n hx hb dX0_appendElement_0 rfl (lv_at hl 0 rfl) ?_
  refine va_get (D := D) (ci := 0) (C := RX0) (T := TX0) (N := 11) hx hb hts iX0 hown hK hP 0 rfl rfl 9 (by decide) (hts _ k_f_X0_40) (fun _ h9 => h9) rfl dX0_appendElement_1 ?_
  refine t_i (show _ = nI m1 from h1) ?_
  refine b_if_lt hx hb (nI_toIntI (by omega)) dX0_appendElement_4 (tgt := 16) (by decide) (fun c4 => absurd c4 (by omega)) (fun c4 => ?_)
  refine lv_aload_n hx hb dX0_appendElement_7 rfl (lv_at hl 0 rfl) ?_
  refine va_get (D := D) (ci := 0) (C := RX0) (T := TX0) (N := 11) hx hb hts iX0 hown hK hP 0 rfl rfl 9 (by decide) (hts _ k_f_X0_40) (fun _ h9 => h9) rfl dX0_appendElement_8 ?_
  refine t_i (show _ = nI m1 from h1) ?_
  refine lv_bipush (v := nI 6) hx hb dX0_appendElement_11 (by decide) ?_
  refine b_icmp_lt hx hb (nI_toIntI (by omega)) (nI_toIntI (by omega)) dX0_appendElement_13 (tgt := 18) (by decide) (fun c13 => ?_) (fun c13 => absurd c13 (by omega))
  refine lv_aload_n hx hb dX0_appendElement_18 rfl (lv_at hl 0 rfl) ?_
  refine va_get (D := D) (ci := 0) (C := RX0) (T := TX0) (N := 11) hx hb hts iX0 hown hK hP 0 rfl rfl 6 (by decide) (hts _ k_f_X0_27) (fun _ h9 => h9) rfl dX0_appendElement_19 ?_
  refine lv_aload_n hx hb dX0_appendElement_22 rfl (lv_at hl 0 rfl) ?_
  refine va_get (D := D) (ci := 0) (C := RX0) (T := TX0) (N := 11) hx hb hts iX0 hown hK hP 0 rfl rfl 9 (by decide) (hts _ k_f_X0_40) (fun _ h9 => h9) rfl dX0_appendElement_23 ?_
  refine t_i (show _ = nI m1 from h1) ?_
  refine lv_iload_n hx hb dX0_appendElement_26 rfl (lv_at hl 1 rfl) ?_
  refine n_iast hx hb hK hP hD hS 6 0 rfl rfl (i := m1) (n := 6) (by omega) (by decide) dX0_appendElement_27 (fun H locs hP hD hS => ?_)
  have hP : va_P D vwCl (WD K q (dU d 5 m1 xf)) H := hP
  have hD : va_D A (WD K q (dU d 5 m1 xf)) := hD
  refine lv_aload_n hx hb dX0_appendElement_28 rfl (lv_at hl 0 rfl) ?_
  refine va_get (D := D) (ci := 0) (C := RX0) (T := TX0) (N := 11) hx hb hts iX0 hown hK hP 0 rfl rfl 7 (by decide) (hts _ k_f_X0_30) (fun _ h9 => h9) rfl dX0_appendElement_29 ?_
  refine lv_aload_n hx hb dX0_appendElement_32 rfl (lv_at hl 0 rfl) ?_
  refine va_get (D := D) (ci := 0) (C := RX0) (T := TX0) (N := 11) hx hb hts iX0 hown hK hP 0 rfl rfl 9 (by decide) (hts _ k_f_X0_40) (fun _ h9 => h9) rfl dX0_appendElement_33 ?_
  refine t_i (show _ = nI m1 from h1) ?_
  refine lv_iload_n hx hb dX0_appendElement_36 rfl (lv_at hl 2 rfl) ?_
  refine n_iast hx hb hK hP hD hS 7 0 rfl rfl (i := m1) (n := 6) (by omega) (by decide) dX0_appendElement_37 (fun H locs hP hD hS => ?_)
  have hP : va_P D vwCl (WD K q (dU (dU d 5 m1 xf) 6 m1 xs)) H := hP
  have hD : va_D A (WD K q (dU (dU d 5 m1 xf) 6 m1 xs)) := hD
  refine lv_aload_n hx hb dX0_appendElement_38 rfl (lv_at hl 0 rfl) ?_
  refine va_get (D := D) (ci := 0) (C := RX0) (T := TX0) (N := 11) hx hb hts iX0 hown hK hP 0 rfl rfl 8 (by decide) (hts _ k_f_X0_33) (fun _ h9 => h9) rfl dX0_appendElement_39 ?_
  refine lv_aload_n hx hb dX0_appendElement_42 rfl (lv_at hl 0 rfl) ?_
  refine va_get (D := D) (ci := 0) (C := RX0) (T := TX0) (N := 11) hx hb hts iX0 hown hK hP 0 rfl rfl 9 (by decide) (hts _ k_f_X0_40) (fun _ h9 => h9) rfl dX0_appendElement_43 ?_
  refine t_i (show _ = nI m1 from h1) ?_
  refine lv_sipush (v := nI 1000) hx hb dX0_appendElement_46 (by decide) ?_
  refine n_iast hx hb hK hP hD hS 8 0 rfl rfl (i := m1) (n := 6) (by omega) (by decide) dX0_appendElement_49 (fun H locs hP hD hS => ?_)
  have hP : va_P D vwCl (WD K q (dU (dU (dU d 5 m1 xf) 6 m1 xs) 7 m1 (nI 1000))) H := hP
  have hD : va_D A (WD K q (dU (dU (dU d 5 m1 xf) 6 m1 xs) 7 m1 (nI 1000))) := hD
  refine lv_aload_n hx hb dX0_appendElement_50 rfl (lv_at hl 0 rfl) ?_
  refine lv_dup hx hb dX0_appendElement_51 rfl ?_
  refine va_get (D := D) (ci := 0) (C := RX0) (T := TX0) (N := 11) hx hb hts iX0 hown hK hP 0 rfl rfl 9 (by decide) (hts _ k_f_X0_40) (fun _ h9 => h9) rfl dX0_appendElement_52 ?_
  refine t_i (show _ = nI m1 from h1) ?_
  refine lv_iconst (v := nI 1) hx hb dX0_appendElement_55 (by decide) ?_
  refine lv_iadd hx hb dX0_appendElement_56 ?_
  refine t_i (nI_add _ _) ?_
  refine va_put (D := D) (ci := 0) (v := .int (nI (m1 + 1))) (ty := .int) (C := RX0) (T := TX0) (N := 11) hx hb hts iX0 tyX0 tyX0_ok nmX0 hown hK hP hD hS 0 rfl rfl 9 (by decide) (hts _ k_f_X0_40) (fun _ h9 => h9) rfl (by decide +kernel) rfl rfl (Nat.le_of_ble_eq_true rfl) dX0_appendElement_57 (fun H locs hP hD hS => ?_)
  have hP : va_P D vwCl (WD K q (dU (dU (dU (dU d 5 m1 xf) 6 m1 xs) 7 m1 (nI 1000)) 8 1 (nI (m1 + 1)))) H := hP
  have hD : va_D A (WD K q (dU (dU (dU (dU d 5 m1 xf) 6 m1 xs) 7 m1 (nI 1000)) 8 1 (nI (m1 + 1)))) := hD
  refine lv_aload_n hx hb dX0_appendElement_60 rfl (lv_at hl 0 rfl) ?_
  refine va_get (D := D) (ci := 0) (C := RX0) (T := TX0) (N := 11) hx hb hts iX0 hown hK hP 0 rfl rfl 9 (by decide) (hts _ k_f_X0_40) (fun _ h9 => h9) rfl dX0_appendElement_61 ?_
  refine t_i (show _ = nI (m1 + 1) from dU_same _ _ _ _) ?_
  refine lv_iconst (v := nI 1) hx hb dX0_appendElement_64 (by decide) ?_
  refine lv_isub hx hb dX0_appendElement_65 ?_
  refine t_i (pk_sub (by omega)) ?_
  exact W.iret (v := nI (m1 + 1 - 1)) hx hb hr (fun t9 ht9 hW => ⟨⟨nI (m1 + 1 - 1), (), rfl, congrArg nI (by omega), by rw [ht9]; exact hP, va_K.moved hW.alike hK, hD⟩, hS.F ht9⟩) hS.2.2 dX0_appendElement_66
set_option maxHeartbeats 4000000 in
set_option maxRecDepth 100000 in
theorem c_X0_isIn (l : Launch) (k g : Nat) (hk : k < 31) (hg : g < 2147483648) : Met l yX0_isIn (.code yX0_isIn cX0_isIn 2 (some .boolean) :: TB) ({ frames := 0, cells := 0, slots := 0, locals := 0 } : Room) (va_Pc [.int (nI k), .int (nI g)] (fun _ => True)) (va_Qi (fun (z : Int32) (_ : Unit) => z = bI (g.testBit k = true)) (fun _ _ => True) (fun _ => False)) 0 0 (fun _ => False) := by
  refine Met.ofW (cc := cX0_isIn) (maxL := 2) (ret := (some .boolean)) (by decide) rfl ?_
  intro p e s m args below meth c s₁ B hml hv
  obtain ⟨rfl, -⟩ := hv
  have hx := B.exec
  have hb := B.bytes
  have hr := B.returns
  have hts := hts_tl (atoms_spec (ws := (.code yX0_isIn cX0_isIn 2 (some .boolean) :: TB)) B.pre)
  have hown : s.vm.findClass RX0 = some m.cls := findClass_of_methodNamed B.named
  have hlocks := B.notSynchronized
  have hA : ∀ q : Nat, q < s.heap.size → (fun _ : Nat => False) q → False := fun _ _ h => h
  have hS : va_S (fun _ => False) s.heap s.heap [] := va_S.rf
  have hl := lv_entry ([.int (nI k), .int (nI g)]) (n := 2) (Nat.le_of_ble_eq_true rfl)
  rw [lg_entry_eq]
  generalize (lg_sl ([.int (nI k), .int (nI g)]) ++ List.replicate (2 - (lg_sl ([.int (nI k), .int (nI g)])).length) Slot.unset).toArray = ls at hl ⊢
  have hl : lv_has ls 2 [(0, .int (nI k)), (1, .int (nI g))] := hl
  refine lv_iload_n hx hb dX0_isIn_0 rfl (lv_at hl 1 rfl) ?_
  refine lv_iload_n hx hb dX0_isIn_1 rfl (lv_at hl 0 rfl) ?_
  refine lv_ishr hx hb dX0_isIn_2 ?_
  have hdl := div_lt (g := g) (k := k) hg
  refine t_i (sh_r hg (by omega)) ?_
  refine lv_iconst (v := nI 1) hx hb dX0_isIn_3 (by decide) ?_
  refine lv_iand hx hb dX0_isIn_4 ?_
  refine t_i (and_1 hdl) ?_
  have htb := tb_div g k
  generalize hX : g / 2 ^ k % 2 = X at htb ⊢
  have hX2 : X ≤ 1 := by rw [← hX]; omega
  refine lv_iconst (v := nI 1) hx hb dX0_isIn_5 (by decide) ?_
  refine b_icmp_ne hx hb (nI_toIntI (by omega)) (nI_toIntI (by omega)) dX0_isIn_6 (tgt := 13) (by decide) (fun c6 => ?_) (fun c6 => ?_)
  · refine lv_iconst (v := nI 0) hx hb dX0_isIn_13 (by decide) ?_
    exact W.zret (v := nI 0) hx hb hr (by decide) (fun t9 ht9 hW => ⟨⟨nI 0, (), rfl, bI_f (fun q => by rw [if_pos q] at htb; omega), trivial⟩, hS.F ht9⟩) hS.2.2 dX0_isIn_14
  refine lv_iconst (v := nI 1) hx hb dX0_isIn_9 (by decide) ?_
  refine lv_goto (tgt := 14) hx hb dX0_isIn_10 (by decide) ?_
  exact W.zret (v := nI 1) hx hb hr (by decide) (fun t9 ht9 hW => ⟨⟨nI 1, (), rfl, bI_t (by by_cases q : g.testBit k = true; exact q; rw [if_neg q] at htb; omega), trivial⟩, hS.F ht9⟩) hS.2.2 dX0_isIn_14
set_option maxHeartbeats 4000000 in
set_option maxRecDepth 100000 in
theorem c_X0_capacityOf (l : Launch) (D : va_G) (K : Nat → ClassId) (q : Nat → Nat) (d : Nat → Nat → Int32) (m1 k : Nat) (sz : Nat) (hm : m1 ≤ 6) (h1 : d 8 1 = nI m1) (hk : k < m1) : Met l yX0_capacityOf (.code yX0_capacityOf cX0_capacityOf 2 (some .int) :: TB) ({ frames := 1, cells := 0, slots := 0, locals := 21 } : Room) (va_Pc [.ref (q 0), .int (nI k)] (cP D K (WD K q d) sz)) (va_Qi (fun (z : Int32) (_ : Unit) => z = d 7 k) (fun _ _ => True) (fun _ => False)) 0 0 (fun _ => False) := by
  refine Met.ofW (cc := cX0_capacityOf) (maxL := 2) (ret := (some .int)) (by decide) rfl ?_
  intro p e s m args below meth c s₁ B hml hv
  obtain ⟨rfl, hsz, hP, hK, hD0⟩ := hv
  have hx := B.exec
  have hb := B.bytes
  have hr := B.returns
  have hts := hts_tl (atoms_spec (ws := (.code yX0_capacityOf cX0_capacityOf 2 (some .int) :: TB)) B.pre)
  have hown : s.vm.findClass RX0 = some m.cls := findClass_of_methodNamed B.named
  have hlocks := B.notSynchronized
  subst hsz
  have hA : ∀ q : Nat, q < s.heap.size → (fun _ : Nat => False) q → False := fun _ _ h => h
  have hS : va_S (fun _ => False) s.heap s.heap [] := va_S.rf
  have hl := lv_entry ([.ref (q 0), .int (nI k)]) (n := 2) (Nat.le_of_ble_eq_true rfl)
  rw [lg_entry_eq]
  generalize (lg_sl ([.ref (q 0), .int (nI k)]) ++ List.replicate (2 - (lg_sl ([.ref (q 0), .int (nI k)])).length) Slot.unset).toArray = ls at hl ⊢
  have hl : lv_has ls 2 [(0, .ref (q 0)), (1, .int (nI k))] := hl
  refine lv_aload_n hx hb dX0_capacityOf_0 rfl (lv_at hl 0 rfl) ?_
  refine lv_iload_n hx hb dX0_capacityOf_1 rfl (lv_at hl 1 rfl) ?_
  refine va_calli (va_runV (As := [.int (nI k)]) (rest := []) ⟨hx, hb, hml, hown, hts⟩ (c_X0_hasElement l D K q d m1 (nI k) s.heap.size hm h1) (cwV 1 hts (TB_V k_m_X0_43 k_im_X0_hasElement k_se_X0_hasElement k_in_X0 k_co_X0_hasElement (fun _ h => h)) rfl rfl rfl (by decide +kernel) ⟨Nat.le_of_ble_eq_true rfl, Nat.le_of_ble_eq_true rfl⟩) ⟨cP_blind, va_recv hK hP (ci := 0) (q0 := 0) rfl rfl, cP_of hP hK hD0⟩ rfl rfl hl.1 rfl (lv_room (Nat.le_of_ble_eq_true rfl)) dX0_capacityOf_2 ⟨Nat.le_of_ble_eq_true rfl, Nat.le_of_ble_eq_true rfl⟩) hS (fun q _ h => absurd h id) (fun q h => absurd h id) (fun b u9 t9 H locs ht9 hvm hw hB hz1 hk1 hS => ?_)
  have hP := P_same hP hk1
  subst hw
  rw [show bI (∃ j : Nat, j < m1 ∧ nI k = nI j) = nI 1 from (bI_t ⟨k, hk, rfl⟩).symm]
  refine b_if_eq hx hb (nI_toIntI (by omega)) dX0_capacityOf_5 (tgt := 17) (by decide) (fun c5 => absurd c5 (by omega)) (fun c5 => ?_)
  refine lv_aload_n hx hb dX0_capacityOf_8 rfl (lv_at hl 0 rfl) ?_
  refine va_get (D := D) (ci := 0) (C := RX0) (T := TX0) (N := 11) hx hb hts iX0 hown hK hP 0 rfl rfl 8 (by decide) (hts _ k_f_X0_33) (fun _ h9 => h9) rfl dX0_capacityOf_9 ?_
  refine lv_iload_n hx hb dX0_capacityOf_12 rfl (lv_at hl 1 rfl) ?_
  refine n_iald hx hb hK hP 8 0 rfl rfl (i := k) (n := 6) (by omega) (by decide) dX0_capacityOf_13 ?_
  refine lv_goto (tgt := 18) hx hb dX0_capacityOf_14 (by decide) ?_
  exact W.iret (v := d 7 k) hx hb hr (fun t9 ht9 hW => ⟨⟨d 7 k, (), rfl, rfl, trivial⟩, hS.F ht9⟩) hS.2.2 dX0_capacityOf_18
set_option maxHeartbeats 4000000 in
set_option maxRecDepth 100000 in
theorem c_X0_changeCapacity (l : Launch) (D : va_G) (K : Nat → ClassId) (q : Nat → Nat) (d : Nat → Nat → Int32) (m1 k : Nat) (x : Int32) (sz : Nat) (hm : m1 ≤ 6) (h1 : d 8 1 = nI m1) (hk : k < m1) : Met l yX0_changeCapacity (.code yX0_changeCapacity cX0_changeCapacity 3 none :: TB) ({ frames := 1, cells := 0, slots := 0, locals := 21 } : Room) (va_Pc [.ref (q 0), .int (nI k), .int x] (cP D K (WD K q d) sz)) (va_Qv (fun (_ : Unit) => True) (fun (u : Unit) t => cB D K (va_A (WD K q d) sz) (WD K q (dU d 7 k x)) t) (va_A (WD K q d) sz)) 0 0 (va_A (WD K q d) sz) := by
  refine Met.ofW (cc := cX0_changeCapacity) (maxL := 3) (ret := none) (by decide) rfl ?_
  intro p e s m args below meth c s₁ B hml hv
  obtain ⟨rfl, hsz, hP, hK, hD0⟩ := hv
  have hx := B.exec
  have hb := B.bytes
  have hr := B.returns
  have hts := hts_tl (atoms_spec (ws := (.code yX0_changeCapacity cX0_changeCapacity 3 none :: TB)) B.pre)
  have hown : s.vm.findClass RX0 = some m.cls := findClass_of_methodNamed B.named
  have hlocks := B.notSynchronized
  subst hsz
  have hD := hD0.self (sz := s.heap.size)
  generalize hAe : (va_A (WD K q d) s.heap.size) = A at hD ⊢
  have hA : ∀ q : Nat, s.heap.size ≤ q → A q := fun q h => by rw [← hAe]; exact Or.inr h
  have hS : va_S A s.heap s.heap [] := va_S.rf
  have hl := lv_entry ([.ref (q 0), .int (nI k), .int x]) (n := 3) (Nat.le_of_ble_eq_true rfl)
  rw [lg_entry_eq]
  generalize (lg_sl ([.ref (q 0), .int (nI k), .int x]) ++ List.replicate (3 - (lg_sl ([.ref (q 0), .int (nI k), .int x])).length) Slot.unset).toArray = ls at hl ⊢
  have hl : lv_has ls 3 [(0, .ref (q 0)), (1, .int (nI k)), (2, .int x)] := hl
  refine lv_aload_n hx hb dX0_changeCapacity_0 rfl (lv_at hl 0 rfl) ?_
  refine lv_iload_n hx hb dX0_changeCapacity_1 rfl (lv_at hl 1 rfl) ?_
  refine va_calli (va_runV (As := [.int (nI k)]) (rest := []) ⟨hx, hb, hml, hown, hts⟩ (c_X0_hasElement l D K q d m1 (nI k) s.heap.size hm h1) (cwV 1 hts (TB_V k_m_X0_43 k_im_X0_hasElement k_se_X0_hasElement k_in_X0 k_co_X0_hasElement (fun _ h => h)) rfl rfl rfl (by decide +kernel) ⟨Nat.le_of_ble_eq_true rfl, Nat.le_of_ble_eq_true rfl⟩) ⟨cP_blind, va_recv hK hP (ci := 0) (q0 := 0) rfl rfl, cP_of hP hK hD⟩ rfl rfl hl.1 rfl (lv_room (Nat.le_of_ble_eq_true rfl)) dX0_changeCapacity_2 ⟨Nat.le_of_ble_eq_true rfl, Nat.le_of_ble_eq_true rfl⟩) hS (fun q _ h => absurd h id) (fun q h => absurd h id) (fun b u9 t9 H locs ht9 hvm hw hB hz1 hk1 hS => ?_)
  have hP := P_same hP hk1
  subst hw
  rw [show bI (∃ j : Nat, j < m1 ∧ nI k = nI j) = nI 1 from (bI_t ⟨k, hk, rfl⟩).symm]
  refine b_if_eq hx hb (nI_toIntI (by omega)) dX0_changeCapacity_5 (tgt := 15) (by decide) (fun c5 => absurd c5 (by omega)) (fun c5 => ?_)
  refine lv_aload_n hx hb dX0_changeCapacity_8 rfl (lv_at hl 0 rfl) ?_
  refine va_get (D := D) (ci := 0) (C := RX0) (T := TX0) (N := 11) hx hb hts iX0 hown hK hP 0 rfl rfl 8 (by decide) (hts _ k_f_X0_33) (fun _ h9 => h9) rfl dX0_changeCapacity_9 ?_
  refine lv_iload_n hx hb dX0_changeCapacity_12 rfl (lv_at hl 1 rfl) ?_
  refine lv_iload_n hx hb dX0_changeCapacity_13 rfl (lv_at hl 2 rfl) ?_
  refine n_iast hx hb hK hP hD hS 8 0 rfl rfl (i := k) (n := 6) (by omega) (by decide) dX0_changeCapacity_14 (fun H locs hP hD hS => ?_)
  have hP : va_P D vwCl (WD K q (dU d 7 k x)) H := hP
  have hD : va_D A (WD K q (dU d 7 k x)) := hD
  exact W.vret hx hb hr (fun t9 ht9 hW => ⟨⟨(), rfl, trivial, by rw [ht9]; exact hP, va_K.moved hW.alike hK, hD⟩, hS.F ht9⟩) hS.2.2 dX0_changeCapacity_15
set_option maxHeartbeats 4000000 in
set_option maxRecDepth 100000 in
theorem c_X0_isClutch (l : Launch) (D : va_G) (K : Nat → ClassId) (q : Nat → Nat) (d : Nat → Nat → Int32) (m1 k : Nat) (sz : Nat) (hm : m1 ≤ 6) (h1 : d 8 1 = nI m1) (hk : k < m1) : Met l yX0_isClutch (.code yX0_isClutch cX0_isClutch 2 (some .boolean) :: TB) ({ frames := 1, cells := 0, slots := 0, locals := 21 } : Room) (va_Pc [.ref (q 0), .int (nI k)] (cP D K (WD K q d) sz)) (va_Qi (fun (z : Int32) (_ : Unit) => z = bI (¬ d 6 k = -1)) (fun _ _ => True) (fun _ => False)) 0 0 (fun _ => False) := by
  refine Met.ofW (cc := cX0_isClutch) (maxL := 2) (ret := (some .boolean)) (by decide) rfl ?_
  intro p e s m args below meth c s₁ B hml hv
  obtain ⟨rfl, hsz, hP, hK, hD0⟩ := hv
  have hx := B.exec
  have hb := B.bytes
  have hr := B.returns
  have hts := hts_tl (atoms_spec (ws := (.code yX0_isClutch cX0_isClutch 2 (some .boolean) :: TB)) B.pre)
  have hown : s.vm.findClass RX0 = some m.cls := findClass_of_methodNamed B.named
  have hlocks := B.notSynchronized
  subst hsz
  have hA : ∀ q : Nat, q < s.heap.size → (fun _ : Nat => False) q → False := fun _ _ h => h
  have hS : va_S (fun _ => False) s.heap s.heap [] := va_S.rf
  have hl := lv_entry ([.ref (q 0), .int (nI k)]) (n := 2) (Nat.le_of_ble_eq_true rfl)
  rw [lg_entry_eq]
  generalize (lg_sl ([.ref (q 0), .int (nI k)]) ++ List.replicate (2 - (lg_sl ([.ref (q 0), .int (nI k)])).length) Slot.unset).toArray = ls at hl ⊢
  have hl : lv_has ls 2 [(0, .ref (q 0)), (1, .int (nI k))] := hl
  refine lv_aload_n hx hb dX0_isClutch_0 rfl (lv_at hl 0 rfl) ?_
  refine lv_iload_n hx hb dX0_isClutch_1 rfl (lv_at hl 1 rfl) ?_
  refine va_calli (va_runV (As := [.int (nI k)]) (rest := []) ⟨hx, hb, hml, hown, hts⟩ (c_X0_hasElement l D K q d m1 (nI k) s.heap.size hm h1) (cwV 1 hts (TB_V k_m_X0_43 k_im_X0_hasElement k_se_X0_hasElement k_in_X0 k_co_X0_hasElement (fun _ h => h)) rfl rfl rfl (by decide +kernel) ⟨Nat.le_of_ble_eq_true rfl, Nat.le_of_ble_eq_true rfl⟩) ⟨cP_blind, va_recv hK hP (ci := 0) (q0 := 0) rfl rfl, cP_of hP hK hD0⟩ rfl rfl hl.1 rfl (lv_room (Nat.le_of_ble_eq_true rfl)) dX0_isClutch_2 ⟨Nat.le_of_ble_eq_true rfl, Nat.le_of_ble_eq_true rfl⟩) hS (fun q _ h => absurd h id) (fun q h => absurd h id) (fun b u9 t9 H locs ht9 hvm hw hB hz1 hk1 hS => ?_)
  have hP := P_same hP hk1
  subst hw
  rw [show bI (∃ j : Nat, j < m1 ∧ nI k = nI j) = nI 1 from (bI_t ⟨k, hk, rfl⟩).symm]
  refine b_if_eq hx hb (nI_toIntI (by omega)) dX0_isClutch_5 (tgt := 22) (by decide) (fun c5 => absurd c5 (by omega)) (fun c5 => ?_)
  refine lv_aload_n hx hb dX0_isClutch_8 rfl (lv_at hl 0 rfl) ?_
  refine va_get (D := D) (ci := 0) (C := RX0) (T := TX0) (N := 11) hx hb hts iX0 hown hK hP 0 rfl rfl 7 (by decide) (hts _ k_f_X0_30) (fun _ h9 => h9) rfl dX0_isClutch_9 ?_
  refine lv_iload_n hx hb dX0_isClutch_12 rfl (lv_at hl 1 rfl) ?_
  refine n_iald hx hb hK hP 7 0 rfl rfl (i := k) (n := 6) (by omega) (by decide) dX0_isClutch_13 ?_
  refine lv_iconst (v := (-1)) hx hb dX0_isClutch_14 (by decide) ?_
  refine b_icmp_eq hx hb rfl (show (-1 : Int32).toInt = -1 by decide) dX0_isClutch_15 (tgt := 22) (by decide) (fun c15 => ?_) (fun c15 => ?_)
  · refine lv_iconst (v := nI 0) hx hb dX0_isClutch_22 (by decide) ?_
    exact W.zret (v := nI 0) hx hb hr (by decide) (fun t9 ht9 hW => ⟨⟨nI 0, (), rfl, bI_f (fun q => q ((i32_eq _ _).mpr (by rw [c15]; decide))), trivial⟩, hS.F ht9⟩) hS.2.2 dX0_isClutch_23
  refine lv_iconst (v := nI 1) hx hb dX0_isClutch_18 (by decide) ?_
  refine lv_goto (tgt := 23) hx hb dX0_isClutch_19 (by decide) ?_
  exact W.zret (v := nI 1) hx hb hr (by decide) (fun t9 ht9 hW => ⟨⟨nI 1, (), rfl, bI_t (fun q => c15 (by rw [q]; decide)), trivial⟩, hS.F ht9⟩) hS.2.2 dX0_isClutch_23
set_option maxHeartbeats 4000000 in
set_option maxRecDepth 100000 in
theorem c_X0_isEngaged (l : Launch) (D : va_G) (K : Nat → ClassId) (q : Nat → Nat) (d : Nat → Nat → Int32) (m1 g k : Nat) (sz : Nat) (hm : m1 ≤ 6) (h1 : d 8 1 = nI m1) (h2 : d 8 2 = nI g) (hg : g < 2147483648) (hk : k < 6) : Met l yX0_isEngaged (.code yX0_isEngaged cX0_isEngaged 2 (some .boolean) :: TB) ({ frames := 1, cells := 0, slots := 0, locals := 21 } : Room) (va_Pc [.ref (q 0), .int (nI k)] (cP D K (WD K q d) sz)) (va_Qi (fun (z : Int32) (_ : Unit) => z = bI (k < m1 ∧ g.testBit k = true)) (fun _ _ => True) (fun _ => False)) 0 0 (fun _ => False) := by
  refine Met.ofW (cc := cX0_isEngaged) (maxL := 2) (ret := (some .boolean)) (by decide) rfl ?_
  intro p e s m args below meth c s₁ B hml hv
  obtain ⟨rfl, hsz, hP, hK, hD0⟩ := hv
  have hx := B.exec
  have hb := B.bytes
  have hr := B.returns
  have hts := hts_tl (atoms_spec (ws := (.code yX0_isEngaged cX0_isEngaged 2 (some .boolean) :: TB)) B.pre)
  have hown : s.vm.findClass RX0 = some m.cls := findClass_of_methodNamed B.named
  have hlocks := B.notSynchronized
  subst hsz
  have hA : ∀ q : Nat, q < s.heap.size → (fun _ : Nat => False) q → False := fun _ _ h => h
  have hS : va_S (fun _ => False) s.heap s.heap [] := va_S.rf
  have hl := lv_entry ([.ref (q 0), .int (nI k)]) (n := 2) (Nat.le_of_ble_eq_true rfl)
  rw [lg_entry_eq]
  generalize (lg_sl ([.ref (q 0), .int (nI k)]) ++ List.replicate (2 - (lg_sl ([.ref (q 0), .int (nI k)])).length) Slot.unset).toArray = ls at hl ⊢
  have hl : lv_has ls 2 [(0, .ref (q 0)), (1, .int (nI k))] := hl
  refine lv_aload_n hx hb dX0_isEngaged_0 rfl (lv_at hl 0 rfl) ?_
  refine lv_iload_n hx hb dX0_isEngaged_1 rfl (lv_at hl 1 rfl) ?_
  refine va_calli (va_runV (As := [.int (nI k)]) (rest := []) ⟨hx, hb, hml, hown, hts⟩ (c_X0_hasElement l D K q d m1 (nI k) s.heap.size hm h1) (cwV 1 hts (TB_V k_m_X0_43 k_im_X0_hasElement k_se_X0_hasElement k_in_X0 k_co_X0_hasElement (fun _ h => h)) rfl rfl rfl (by decide +kernel) ⟨Nat.le_of_ble_eq_true rfl, Nat.le_of_ble_eq_true rfl⟩) ⟨cP_blind, va_recv hK hP (ci := 0) (q0 := 0) rfl rfl, cP_of hP hK hD0⟩ rfl rfl hl.1 rfl (lv_room (Nat.le_of_ble_eq_true rfl)) dX0_isEngaged_2 ⟨Nat.le_of_ble_eq_true rfl, Nat.le_of_ble_eq_true rfl⟩) hS (fun q _ h => absurd h id) (fun q h => absurd h id) (fun b u9 t9 H locs ht9 hvm hw hB hz1 hk1 hS => ?_)
  have hP := P_same hP hk1
  subst hw
  by_cases hkm : k < m1
  · refine t_i (bI_t (show ∃ j : Nat, j < m1 ∧ nI k = nI j from ⟨k, hkm, rfl⟩)).symm ?_
    refine b_if_eq hx hb (nI_toIntI (by omega)) dX0_isEngaged_5 (tgt := 23) (by decide) (fun c5 => absurd c5 (by omega)) (fun c5 => ?_)
    refine lv_iload_n hx hb dX0_isEngaged_8 rfl (lv_at hl 1 rfl) ?_
    refine lv_aload_n hx hb dX0_isEngaged_9 rfl (lv_at hl 0 rfl) ?_
    refine va_get (D := D) (ci := 0) (C := RX0) (T := TX0) (N := 11) hx hb hts iX0 hown hK hP 0 rfl rfl 10 (by decide) (hts _ k_f_X0_47) (fun _ h9 => h9) rfl dX0_isEngaged_10 ?_
    refine t_i (show _ = nI g from h2) ?_
    refine va_calli (va_runS (As := [.int (nI k), .int (nI g)]) (rest := []) ⟨hx, hb, hml, hown, hts⟩ (c_X0_isIn l k g (by omega) hg) (va_cwS 2 hts (TB_S k_m_X0_50 k_st_X0_isIn k_in_X0 k_co_X0_isIn (fun _ h => h)) rfl rfl rfl (by decide +kernel) ⟨Nat.le_of_ble_eq_true rfl, Nat.le_of_ble_eq_true rfl⟩) ⟨tP_blind, tP_of⟩ rfl rfl hl.1 rfl (lv_room (Nat.le_of_ble_eq_true rfl)) dX0_isEngaged_13 ⟨Nat.le_of_ble_eq_true rfl, Nat.le_of_ble_eq_true rfl⟩) hS (fun q _ h => absurd h id) (fun q h => absurd h id) (fun b2 u9 t9 H locs ht9 hvm hw hB hz1 hk1 hS => ?_)
    have hP := P_same hP hk1
    subst hw
    by_cases htb : g.testBit k = true
    · refine t_i (bI_t htb).symm ?_
      refine b_if_eq hx hb (nI_toIntI (by omega)) dX0_isEngaged_16 (tgt := 23) (by decide) (fun c16 => absurd c16 (by omega)) (fun c16 => ?_)
      refine lv_iconst (v := nI 1) hx hb dX0_isEngaged_19 (by decide) ?_
      refine lv_goto (tgt := 24) hx hb dX0_isEngaged_20 (by decide) ?_
      exact W.zret (v := nI 1) hx hb hr (by decide) (fun t9 ht9 hW => ⟨⟨nI 1, (), rfl, bI_t ⟨hkm, htb⟩, trivial⟩, hS.F ht9⟩) hS.2.2 dX0_isEngaged_24
    refine t_i (bI_f htb).symm ?_
    refine b_if_eq hx hb (nI_toIntI (by omega)) dX0_isEngaged_16 (tgt := 23) (by decide) (fun c16 => ?_) (fun c16 => absurd c16 (by omega))
    refine lv_iconst (v := nI 0) hx hb dX0_isEngaged_23 (by decide) ?_
    exact W.zret (v := nI 0) hx hb hr (by decide) (fun t9 ht9 hW => ⟨⟨nI 0, (), rfl, bI_f (fun q => htb q.2), trivial⟩, hS.F ht9⟩) hS.2.2 dX0_isEngaged_24
  refine t_i (bI_f (show ¬ ∃ j : Nat, j < m1 ∧ nI k = nI j from fun ⟨j, hj, e⟩ => hkm (by have e9 := (nI_eq (by omega) (by omega)).mp e; omega))).symm ?_
  refine b_if_eq hx hb (nI_toIntI (by omega)) dX0_isEngaged_5 (tgt := 23) (by decide) (fun c5 => ?_) (fun c5 => absurd c5 (by omega))
  refine lv_iconst (v := nI 0) hx hb dX0_isEngaged_23 (by decide) ?_
  exact W.zret (v := nI 0) hx hb hr (by decide) (fun t9 ht9 hW => ⟨⟨nI 0, (), rfl, bI_f (fun q => hkm q.1), trivial⟩, hS.F ht9⟩) hS.2.2 dX0_isEngaged_24
set_option maxHeartbeats 4000000 in
set_option maxRecDepth 100000 in
theorem c_X0_changeEngagedMask (l : Launch) (D : va_G) (K : Nat → ClassId) (q : Nat → Nat) (d : Nat → Nat → Int32) (x : Int32) (sz : Nat)  : Met l yX0_changeEngagedMask (.code yX0_changeEngagedMask cX0_changeEngagedMask 2 none :: TB) ({ frames := 0, cells := 0, slots := 0, locals := 0 } : Room) (va_Pc [.ref (q 0), .int x] (cP D K (WD K q d) sz)) (va_Qv (fun (_ : Unit) => True) (fun (u : Unit) t => cB D K (va_A (WD K q d) sz) (WD K q (dU d 8 2 x)) t) (va_A (WD K q d) sz)) 0 0 (va_A (WD K q d) sz) := by
  refine Met.ofW (cc := cX0_changeEngagedMask) (maxL := 2) (ret := none) (by decide) rfl ?_
  intro p e s m args below meth c s₁ B hml hv
  obtain ⟨rfl, hsz, hP, hK, hD0⟩ := hv
  have hx := B.exec
  have hb := B.bytes
  have hr := B.returns
  have hts := hts_tl (atoms_spec (ws := (.code yX0_changeEngagedMask cX0_changeEngagedMask 2 none :: TB)) B.pre)
  have hown : s.vm.findClass RX0 = some m.cls := findClass_of_methodNamed B.named
  have hlocks := B.notSynchronized
  subst hsz
  have hD := hD0.self (sz := s.heap.size)
  generalize hAe : (va_A (WD K q d) s.heap.size) = A at hD ⊢
  have hA : ∀ q : Nat, s.heap.size ≤ q → A q := fun q h => by rw [← hAe]; exact Or.inr h
  have hS : va_S A s.heap s.heap [] := va_S.rf
  have hl := lv_entry ([.ref (q 0), .int x]) (n := 2) (Nat.le_of_ble_eq_true rfl)
  rw [lg_entry_eq]
  generalize (lg_sl ([.ref (q 0), .int x]) ++ List.replicate (2 - (lg_sl ([.ref (q 0), .int x])).length) Slot.unset).toArray = ls at hl ⊢
  have hl : lv_has ls 2 [(0, .ref (q 0)), (1, .int x)] := hl
  refine lv_aload_n hx hb dX0_changeEngagedMask_0 rfl (lv_at hl 0 rfl) ?_
  refine lv_iload_n hx hb dX0_changeEngagedMask_1 rfl (lv_at hl 1 rfl) ?_
  refine va_put (D := D) (ci := 0) (v := .int x) (ty := .int) (C := RX0) (T := TX0) (N := 11) hx hb hts iX0 tyX0 tyX0_ok nmX0 hown hK hP hD hS 0 rfl rfl 10 (by decide) (hts _ k_f_X0_47) (fun _ h9 => h9) rfl (by decide +kernel) rfl rfl (Nat.le_of_ble_eq_true rfl) dX0_changeEngagedMask_2 (fun H locs hP hD hS => ?_)
  have hP : va_P D vwCl (WD K q (dU d 8 2 x)) H := hP
  have hD : va_D A (WD K q (dU d 8 2 x)) := hD
  exact W.vret hx hb hr (fun t9 ht9 hW => ⟨⟨(), rfl, trivial, by rw [ht9]; exact hP, va_K.moved hW.alike hK, hD⟩, hS.F ht9⟩) hS.2.2 dX0_changeEngagedMask_5
