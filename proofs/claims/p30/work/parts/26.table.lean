/-! PlanetaryGearbox$GearTable -/
def bc1 (x : Int32) : Int32 := x - ((x.toUInt32 >>> ((nI 1).toUInt32 &&& Int32.toUInt32 31)).toInt32 &&& 1431655765)
def bc2 (x : Int32) : Int32 := (x &&& 858993459) + ((x.toUInt32 >>> ((nI 2).toUInt32 &&& Int32.toUInt32 31)).toInt32 &&& 858993459)
def bc3 (x : Int32) : Int32 := (x + (x.toUInt32 >>> ((nI 4).toUInt32 &&& Int32.toUInt32 31)).toInt32) &&& 252645135
def bc4 (x : Int32) : Int32 := x + (x.toUInt32 >>> ((nI 8).toUInt32 &&& Int32.toUInt32 31)).toInt32
def bc5 (x : Int32) : Int32 := x + (x.toUInt32 >>> ((nI 16).toUInt32 &&& Int32.toUInt32 31)).toInt32
theorem bc_all : ∀ g, g < 64 → bc5 (bc4 (bc3 (bc2 (bc1 (nI g))))) &&& nI 63 = nI (pcn g) := by decide +kernel
theorem pcn_le (g : Nat) : pcn g ≤ 6 := by
  unfold pcn
  have h : ∀ b : Bool, b.toNat ≤ 1 := fun b => by cases b <;> decide
  have := h (g.testBit 0)
  have := h (g.testBit 1)
  have := h (g.testBit 2)
  have := h (g.testBit 3)
  have := h (g.testBit 4)
  have := h (g.testBit 5)
  omega
set_option maxHeartbeats 4000000 in
set_option maxRecDepth 100000 in
theorem c_J6_bitCount_0f7a4 (l : Launch) (g : Nat) (hg : g < 64) : Met l yJ6_bitCount_0f7a4 (.code yJ6_bitCount_0f7a4 cJ6_bitCount_0f7a4 1 (some .int) :: TB) ({ frames := 0, cells := 0, slots := 0, locals := 0 } : Room) (va_Pc [.int (nI g)] (fun _ => True)) (va_Qi (fun (z : Int32) (_ : Unit) => z = nI (pcn g)) (fun _ _ => True) (fun _ => False)) 0 0 (fun _ => False) := by
  refine Met.ofW (cc := cJ6_bitCount_0f7a4) (maxL := 1) (ret := (some .int)) (by decide) rfl ?_
  intro p e s m args below meth c s₁ B hml hv
  obtain ⟨rfl, -⟩ := hv
  have hx := B.exec
  have hb := B.bytes
  have hr := B.returns
  have hts := hts_tl (atoms_spec (ws := (.code yJ6_bitCount_0f7a4 cJ6_bitCount_0f7a4 1 (some .int) :: TB)) B.pre)
  have hown : s.vm.findClass RJ6 = some m.cls := findClass_of_methodNamed B.named
  have hlocks := B.notSynchronized
  have hA : ∀ q : Nat, q < s.heap.size → (fun _ : Nat => False) q → False := fun _ _ h => h
  have hS : va_S (fun _ => False) s.heap s.heap [] := va_S.rf
  have hl := lv_entry ([.int (nI g)]) (n := 1) (Nat.le_of_ble_eq_true rfl)
  rw [lg_entry_eq]
  generalize (lg_sl ([.int (nI g)]) ++ List.replicate (1 - (lg_sl ([.int (nI g)])).length) Slot.unset).toArray = ls at hl ⊢
  have hl : lv_has ls 1 [(0, .int (nI g))] := hl
  refine lv_iload_n hx hb dJ6_bitCount_0f7a4_0 rfl (lv_at hl 0 rfl) ?_
  refine lv_iload_n hx hb dJ6_bitCount_0f7a4_1 rfl (lv_at hl 0 rfl) ?_
  refine lv_iconst (v := nI 1) hx hb dJ6_bitCount_0f7a4_2 (by decide) ?_
  refine lv_iushr (v := ((nI g).toUInt32 >>> ((nI 1).toUInt32 &&& Int32.toUInt32 31)).toInt32) hx hb dJ6_bitCount_0f7a4_3 rfl ?_
  refine lv_ldcw hx hb hown (hts _ k_kc_J6_265) dJ6_bitCount_0f7a4_4 ?_
  refine lv_iand hx hb dJ6_bitCount_0f7a4_7 ?_
  refine lv_isub hx hb dJ6_bitCount_0f7a4_8 ?_
  refine lv_topi (fun y1 ey1 => ?_)
  refine lv_istore_n (lv' := [(0, .int y1)]) hx hb dJ6_bitCount_0f7a4_9 rfl hl (by decide) rfl (fun ls hl => ?_)
  refine lv_iload_n hx hb dJ6_bitCount_0f7a4_10 rfl (lv_at hl 0 rfl) ?_
  refine lv_ldcw hx hb hown (hts _ k_kc_J6_266) dJ6_bitCount_0f7a4_11 ?_
  refine lv_iand hx hb dJ6_bitCount_0f7a4_14 ?_
  refine lv_iload_n hx hb dJ6_bitCount_0f7a4_15 rfl (lv_at hl 0 rfl) ?_
  refine lv_iconst (v := nI 2) hx hb dJ6_bitCount_0f7a4_16 (by decide) ?_
  refine lv_iushr (v := (y1.toUInt32 >>> ((nI 2).toUInt32 &&& Int32.toUInt32 31)).toInt32) hx hb dJ6_bitCount_0f7a4_17 rfl ?_
  refine lv_ldcw hx hb hown (hts _ k_kc_J6_266) dJ6_bitCount_0f7a4_18 ?_
  refine lv_iand hx hb dJ6_bitCount_0f7a4_21 ?_
  refine lv_iadd hx hb dJ6_bitCount_0f7a4_22 ?_
  refine lv_topi (fun y2 ey2 => ?_)
  refine lv_istore_n (lv' := [(0, .int y2)]) hx hb dJ6_bitCount_0f7a4_23 rfl hl (by decide) rfl (fun ls hl => ?_)
  refine lv_iload_n hx hb dJ6_bitCount_0f7a4_24 rfl (lv_at hl 0 rfl) ?_
  refine lv_iload_n hx hb dJ6_bitCount_0f7a4_25 rfl (lv_at hl 0 rfl) ?_
  refine lv_iconst (v := nI 4) hx hb dJ6_bitCount_0f7a4_26 (by decide) ?_
  refine lv_iushr (v := (y2.toUInt32 >>> ((nI 4).toUInt32 &&& Int32.toUInt32 31)).toInt32) hx hb dJ6_bitCount_0f7a4_27 rfl ?_
  refine lv_iadd hx hb dJ6_bitCount_0f7a4_28 ?_
  refine lv_ldcw hx hb hown (hts _ k_kc_J6_267) dJ6_bitCount_0f7a4_29 ?_
  refine lv_iand hx hb dJ6_bitCount_0f7a4_32 ?_
  refine lv_topi (fun y3 ey3 => ?_)
  refine lv_istore_n (lv' := [(0, .int y3)]) hx hb dJ6_bitCount_0f7a4_33 rfl hl (by decide) rfl (fun ls hl => ?_)
  refine lv_iload_n hx hb dJ6_bitCount_0f7a4_34 rfl (lv_at hl 0 rfl) ?_
  refine lv_iload_n hx hb dJ6_bitCount_0f7a4_35 rfl (lv_at hl 0 rfl) ?_
  refine lv_bipush (v := nI 8) hx hb dJ6_bitCount_0f7a4_36 (by decide) ?_
  refine lv_iushr (v := (y3.toUInt32 >>> ((nI 8).toUInt32 &&& Int32.toUInt32 31)).toInt32) hx hb dJ6_bitCount_0f7a4_38 rfl ?_
  refine lv_iadd hx hb dJ6_bitCount_0f7a4_39 ?_
  refine lv_topi (fun y4 ey4 => ?_)
  refine lv_istore_n (lv' := [(0, .int y4)]) hx hb dJ6_bitCount_0f7a4_40 rfl hl (by decide) rfl (fun ls hl => ?_)
  refine lv_iload_n hx hb dJ6_bitCount_0f7a4_41 rfl (lv_at hl 0 rfl) ?_
  refine lv_iload_n hx hb dJ6_bitCount_0f7a4_42 rfl (lv_at hl 0 rfl) ?_
  refine lv_bipush (v := nI 16) hx hb dJ6_bitCount_0f7a4_43 (by decide) ?_
  refine lv_iushr (v := (y4.toUInt32 >>> ((nI 16).toUInt32 &&& Int32.toUInt32 31)).toInt32) hx hb dJ6_bitCount_0f7a4_45 rfl ?_
  refine lv_iadd hx hb dJ6_bitCount_0f7a4_46 ?_
  refine lv_topi (fun y5 ey5 => ?_)
  refine lv_istore_n (lv' := [(0, .int y5)]) hx hb dJ6_bitCount_0f7a4_47 rfl hl (by decide) rfl (fun ls hl => ?_)
  refine lv_iload_n hx hb dJ6_bitCount_0f7a4_48 rfl (lv_at hl 0 rfl) ?_
  refine lv_bipush (v := nI 63) hx hb dJ6_bitCount_0f7a4_49 (by decide) ?_
  refine lv_iand hx hb dJ6_bitCount_0f7a4_51 ?_
  exact W.iret (v := y5 &&& (nI 63)) hx hb hr (fun t9 ht9 hW => ⟨⟨y5 &&& (nI 63), (), rfl, by rw [← bc_all g hg, ey5, ey4, ey3, ey2, ey1]; rfl, trivial⟩, hS.F ht9⟩) hS.2.2 dJ6_bitCount_0f7a4_52
set_option maxHeartbeats 4000000 in
set_option maxRecDepth 100000 in
theorem c_X2_forget (l : Launch) (D : va_G) (K : Nat → ClassId) (g : Nat → Nat) (ma : Nat → Int32) (nu de : Nat → Int64) (ne di : Nat → Int32) (n : Nat) (fr : Int32) (sz : Nat)  : Met l yX2_forget (.code yX2_forget cX2_forget 1 none :: TB) ({ frames := 0, cells := 0, slots := 0, locals := 0 } : Room) (va_Pc [.ref (g 0)] (cP D K (WG K g ma nu de ne di (nI n) fr) sz)) (va_Qv (fun (_ : Unit) => True) (fun (u : Unit) t => cB D K (va_A (WG K g ma nu de ne di (nI n) fr) sz) (WG K g ma nu de ne di (nI n) (nI 0)) t) (va_A (WG K g ma nu de ne di (nI n) fr) sz)) 0 0 (va_A (WG K g ma nu de ne di (nI n) fr) sz) := by
  refine Met.ofW (cc := cX2_forget) (maxL := 1) (ret := none) (by decide) rfl ?_
  intro p e s m args below meth c s₁ B hml hv
  obtain ⟨rfl, hsz, hP, hK, hD0⟩ := hv
  have hx := B.exec
  have hb := B.bytes
  have hr := B.returns
  have hts := hts_tl (atoms_spec (ws := (.code yX2_forget cX2_forget 1 none :: TB)) B.pre)
  have hown : s.vm.findClass RX2 = some m.cls := findClass_of_methodNamed B.named
  have hlocks := B.notSynchronized
  subst hsz
  have hD := hD0.self (sz := s.heap.size)
  generalize hAe : (va_A (WG K g ma nu de ne di (nI n) fr) s.heap.size) = A at hD ⊢
  have hA : ∀ q : Nat, s.heap.size ≤ q → A q := fun q h => by rw [← hAe]; exact Or.inr h
  have hS : va_S A s.heap s.heap [] := va_S.rf
  have hl := lv_entry ([.ref (g 0)]) (n := 1) (Nat.le_of_ble_eq_true rfl)
  rw [lg_entry_eq]
  generalize (lg_sl ([.ref (g 0)]) ++ List.replicate (1 - (lg_sl ([.ref (g 0)])).length) Slot.unset).toArray = ls at hl ⊢
  have hl : lv_has ls 1 [(0, .ref (g 0))] := hl
  refine lv_aload_n hx hb dX2_forget_0 rfl (lv_at hl 0 rfl) ?_
  refine lv_iconst (v := nI 0) hx hb dX2_forget_1 (by decide) ?_
  refine va_put (D := D) (ci := 2) (v := .int (nI 0)) (ty := .boolean) (C := RX2) (T := TX2) (N := 7) hx hb hts iX2 tyX2 tyX2_ok nmX2 hown hK hP hD hS 0 rfl rfl 6 (by decide) (hts _ k_f_X2_29) (fun _ h9 => h9) rfl (by decide +kernel) (by decide) (by decide) (Nat.le_of_ble_eq_true rfl) dX2_forget_2 (fun H locs hP hD hS => ?_)
  have hP : va_P D vwCl (WG K g ma nu de ne di (nI n) (nI 0)) H := hP
  have hD : va_D A (WG K g ma nu de ne di (nI n) (nI 0)) := hD
  exact W.vret hx hb hr (fun t9 ht9 hW => ⟨⟨(), rfl, trivial, by rw [ht9]; exact hP, va_K.moved hW.alike hK, hD⟩, hS.F ht9⟩) hS.2.2 dX2_forget_5
set_option maxHeartbeats 4000000 in
set_option maxRecDepth 100000 in
theorem c_X2_size (l : Launch) (D : va_G) (K : Nat → ClassId) (g : Nat → Nat) (ma : Nat → Int32) (nu de : Nat → Int64) (ne di : Nat → Int32) (n : Nat) (fr : Int32) (sz : Nat)  : Met l yX2_size (.code yX2_size cX2_size 1 (some .int) :: TB) ({ frames := 0, cells := 0, slots := 0, locals := 0 } : Room) (va_Pc [.ref (g 0)] (cP D K (WG K g ma nu de ne di (nI n) fr) sz)) (va_Qi (fun (z : Int32) (_ : Unit) => z = nI n) (fun _ _ => True) (fun _ => False)) 0 0 (fun _ => False) := by
  refine Met.ofW (cc := cX2_size) (maxL := 1) (ret := (some .int)) (by decide) rfl ?_
  intro p e s m args below meth c s₁ B hml hv
  obtain ⟨rfl, hsz, hP, hK, hD0⟩ := hv
  have hx := B.exec
  have hb := B.bytes
  have hr := B.returns
  have hts := hts_tl (atoms_spec (ws := (.code yX2_size cX2_size 1 (some .int) :: TB)) B.pre)
  have hown : s.vm.findClass RX2 = some m.cls := findClass_of_methodNamed B.named
  have hlocks := B.notSynchronized
  subst hsz
  have hA : ∀ q : Nat, q < s.heap.size → (fun _ : Nat => False) q → False := fun _ _ h => h
  have hS : va_S (fun _ => False) s.heap s.heap [] := va_S.rf
  have hl := lv_entry ([.ref (g 0)]) (n := 1) (Nat.le_of_ble_eq_true rfl)
  rw [lg_entry_eq]
  generalize (lg_sl ([.ref (g 0)]) ++ List.replicate (1 - (lg_sl ([.ref (g 0)])).length) Slot.unset).toArray = ls at hl ⊢
  have hl : lv_has ls 1 [(0, .ref (g 0))] := hl
  refine lv_aload_n hx hb dX2_size_0 rfl (lv_at hl 0 rfl) ?_
  refine va_get (D := D) (ci := 2) (C := RX2) (T := TX2) (N := 7) hx hb hts iX2 hown hK hP 0 rfl rfl 5 (by decide) (hts _ k_f_X2_33) (fun _ h9 => h9) rfl dX2_size_1 ?_
  exact W.iret (v := (nI n)) hx hb hr (fun t9 ht9 hW => ⟨⟨(nI n), (), rfl, rfl, trivial⟩, hS.F ht9⟩) hS.2.2 dX2_size_4
set_option maxHeartbeats 4000000 in
set_option maxRecDepth 100000 in
theorem c_X2_hasGear (l : Launch) (D : va_G) (K : Nat → ClassId) (g : Nat → Nat) (ma : Nat → Int32) (nu de : Nat → Int64) (ne di : Nat → Int32) (n : Nat) (fr : Int32) (x : Int32) (sz : Nat) (hn : n ≤ 64) : Met l yX2_hasGear (.code yX2_hasGear cX2_hasGear 2 (some .boolean) :: TB) ({ frames := 0, cells := 0, slots := 0, locals := 0 } : Room) (va_Pc [.ref (g 0), .int x] (cP D K (WG K g ma nu de ne di (nI n) fr) sz)) (va_Qi (fun (z : Int32) (_ : Unit) => z = bI (∃ i : Nat, i < n ∧ x = nI i)) (fun _ _ => True) (fun _ => False)) 0 0 (fun _ => False) := by
  refine Met.ofW (cc := cX2_hasGear) (maxL := 2) (ret := (some .boolean)) (by decide) rfl ?_
  intro p e s m args below meth c s₁ B hml hv
  obtain ⟨rfl, hsz, hP, hK, hD0⟩ := hv
  have hx := B.exec
  have hb := B.bytes
  have hr := B.returns
  have hts := hts_tl (atoms_spec (ws := (.code yX2_hasGear cX2_hasGear 2 (some .boolean) :: TB)) B.pre)
  have hown : s.vm.findClass RX2 = some m.cls := findClass_of_methodNamed B.named
  have hlocks := B.notSynchronized
  subst hsz
  have hA : ∀ q : Nat, q < s.heap.size → (fun _ : Nat => False) q → False := fun _ _ h => h
  have hS : va_S (fun _ => False) s.heap s.heap [] := va_S.rf
  have hl := lv_entry ([.ref (g 0), .int x]) (n := 2) (Nat.le_of_ble_eq_true rfl)
  rw [lg_entry_eq]
  generalize (lg_sl ([.ref (g 0), .int x]) ++ List.replicate (2 - (lg_sl ([.ref (g 0), .int x])).length) Slot.unset).toArray = ls at hl ⊢
  have hl : lv_has ls 2 [(0, .ref (g 0)), (1, .int x)] := hl
  refine lv_iload_n hx hb dX2_hasGear_0 rfl (lv_at hl 1 rfl) ?_
  refine b_if_lt hx hb rfl dX2_hasGear_1 (tgt := 22) (by decide) (fun c1 => ?_) (fun c1 => ?_)
  · refine lv_iconst (v := nI 0) hx hb dX2_hasGear_22 (by decide) ?_
    exact W.zret (v := nI 0) hx hb hr (by decide) (fun t9 ht9 hW => ⟨⟨nI 0, (), rfl, bI_f (by rintro ⟨k, hk, rfl⟩; have e9 := nI_toIntI (show k < 2147483648 by omega); first | exact absurd c1 (by omega) | exact absurd c9 (by omega)), trivial⟩, hS.F ht9⟩) hS.2.2 dX2_hasGear_23
  refine lv_iload_n hx hb dX2_hasGear_4 rfl (lv_at hl 1 rfl) ?_
  refine lv_aload_n hx hb dX2_hasGear_5 rfl (lv_at hl 0 rfl) ?_
  refine va_get (D := D) (ci := 2) (C := RX2) (T := TX2) (N := 7) hx hb hts iX2 hown hK hP 0 rfl rfl 5 (by decide) (hts _ k_f_X2_33) (fun _ h9 => h9) rfl dX2_hasGear_6 ?_
  refine t_i (show _ = nI n from rfl) ?_
  refine b_icmp_ge hx hb rfl (nI_toIntI (by omega)) dX2_hasGear_9 (tgt := 22) (by decide) (fun c9 => ?_) (fun c9 => ?_)
  · refine lv_iconst (v := nI 0) hx hb dX2_hasGear_22 (by decide) ?_
    exact W.zret (v := nI 0) hx hb hr (by decide) (fun t9 ht9 hW => ⟨⟨nI 0, (), rfl, bI_f (by rintro ⟨k, hk, rfl⟩; have e9 := nI_toIntI (show k < 2147483648 by omega); first | exact absurd c1 (by omega) | exact absurd c9 (by omega)), trivial⟩, hS.F ht9⟩) hS.2.2 dX2_hasGear_23
  refine lv_iload_n hx hb dX2_hasGear_12 rfl (lv_at hl 1 rfl) ?_
  refine lv_bipush (v := nI 64) hx hb dX2_hasGear_13 (by decide) ?_
  refine b_icmp_ge hx hb rfl (nI_toIntI (by omega)) dX2_hasGear_15 (tgt := 22) (by decide) (fun c15 => absurd c15 (by omega)) (fun c15 => ?_)
  refine lv_iconst (v := nI 1) hx hb dX2_hasGear_18 (by decide) ?_
  refine lv_goto (tgt := 23) hx hb dX2_hasGear_19 (by decide) ?_
  exact W.zret (v := nI 1) hx hb hr (by decide) (fun t9 ht9 hW => ⟨⟨nI 1, (), rfl, bI_t (by obtain ⟨j, hj, e⟩ := nI_of (x := x) (by rw [i32_lt]; exact Int.not_lt.mpr c1); subst e; have e9 := nI_toIntI (show j < 2147483648 by omega); exact ⟨j, by omega, rfl⟩), trivial⟩, hS.F ht9⟩) hS.2.2 dX2_hasGear_23
set_option maxHeartbeats 4000000 in
set_option maxRecDepth 100000 in
theorem c_X2_maskOf (l : Launch) (D : va_G) (K : Nat → ClassId) (g : Nat → Nat) (ma : Nat → Int32) (nu de : Nat → Int64) (ne di : Nat → Int32) (n : Nat) (fr : Int32) (i : Nat) (sz : Nat) (hn : n ≤ 64) (hi : i < n) : Met l yX2_maskOf (.code yX2_maskOf cX2_maskOf 2 (some .int) :: TB) ({ frames := 1, cells := 0, slots := 0, locals := 21 } : Room) (va_Pc [.ref (g 0), .int (nI i)] (cP D K (WG K g ma nu de ne di (nI n) fr) sz)) (va_Qi (fun (z : Int32) (_ : Unit) => z = ma i) (fun _ _ => True) (fun _ => False)) 0 0 (fun _ => False) := by
  refine Met.ofW (cc := cX2_maskOf) (maxL := 2) (ret := (some .int)) (by decide) rfl ?_
  intro p e s m args below meth c s₁ B hml hv
  obtain ⟨rfl, hsz, hP, hK, hD0⟩ := hv
  have hx := B.exec
  have hb := B.bytes
  have hr := B.returns
  have hts := hts_tl (atoms_spec (ws := (.code yX2_maskOf cX2_maskOf 2 (some .int) :: TB)) B.pre)
  have hown : s.vm.findClass RX2 = some m.cls := findClass_of_methodNamed B.named
  have hlocks := B.notSynchronized
  subst hsz
  have hA : ∀ q : Nat, q < s.heap.size → (fun _ : Nat => False) q → False := fun _ _ h => h
  have hS : va_S (fun _ => False) s.heap s.heap [] := va_S.rf
  have hl := lv_entry ([.ref (g 0), .int (nI i)]) (n := 2) (Nat.le_of_ble_eq_true rfl)
  rw [lg_entry_eq]
  generalize (lg_sl ([.ref (g 0), .int (nI i)]) ++ List.replicate (2 - (lg_sl ([.ref (g 0), .int (nI i)])).length) Slot.unset).toArray = ls at hl ⊢
  have hl : lv_has ls 2 [(0, .ref (g 0)), (1, .int (nI i))] := hl
  refine lv_aload_n hx hb dX2_maskOf_0 rfl (lv_at hl 0 rfl) ?_
  refine lv_iload_n hx hb dX2_maskOf_1 rfl (lv_at hl 1 rfl) ?_
  refine va_calli (va_runV (As := [.int (nI i)]) (rest := []) ⟨hx, hb, hml, hown, hts⟩ (c_X2_hasGear l D K g ma nu de ne di n fr (nI i) s.heap.size hn) (cwV 1 hts (TB_V k_m_X2_64 k_im_X2_hasGear k_se_X2_hasGear k_in_X2 k_co_X2_hasGear (fun _ h => h)) rfl rfl rfl (by decide +kernel) ⟨Nat.le_of_ble_eq_true rfl, Nat.le_of_ble_eq_true rfl⟩) ⟨cP_blind, va_recv hK hP (ci := 2) (q0 := 0) rfl rfl, cP_of hP hK hD0⟩ rfl rfl hl.1 rfl (lv_room (Nat.le_of_ble_eq_true rfl)) dX2_maskOf_2 ⟨Nat.le_of_ble_eq_true rfl, Nat.le_of_ble_eq_true rfl⟩) hS (fun q _ h => absurd h id) (fun q h => absurd h id) (fun hg9 u9 t9 H locs ht9 hvm hw hB hz1 hk1 hS => ?_)
  have hP := P_same hP hk1
  refine t_i (hw.trans (bI_t ⟨i, by omega, rfl⟩).symm) ?_
  refine b_if_eq hx hb (nI_toIntI (by omega)) dX2_maskOf_5 (tgt := 17) (by decide) (fun c5 => absurd c5 (by omega)) (fun c5 => ?_)
  refine lv_aload_n hx hb dX2_maskOf_8 rfl (lv_at hl 0 rfl) ?_
  refine va_get (D := D) (ci := 2) (C := RX2) (T := TX2) (N := 7) hx hb hts iX2 hown hK hP 0 rfl rfl 0 (by decide) (hts _ k_f_X2_9) (fun _ h9 => h9) rfl dX2_maskOf_9 ?_
  refine lv_iload_n hx hb dX2_maskOf_12 rfl (lv_at hl 1 rfl) ?_
  refine n_iald hx hb hK hP 1 0 rfl rfl (i := i) (n := 64) (by omega) (by decide) dX2_maskOf_13 ?_
  refine lv_goto (tgt := 18) hx hb dX2_maskOf_14 (by decide) ?_
  exact W.iret (v := ma i) hx hb hr (fun t9 ht9 hW => ⟨⟨ma i, (), rfl, rfl, trivial⟩, hS.F ht9⟩) hS.2.2 dX2_maskOf_18
set_option maxHeartbeats 4000000 in
set_option maxRecDepth 100000 in
theorem c_X2_shiftsLeft (l : Launch) (D : va_G) (K : Nat → ClassId) (g : Nat → Nat) (ma : Nat → Int32) (nu de : Nat → Int64) (ne di : Nat → Int32) (n : Nat) (fr : Int32) (i : Nat) (sz : Nat) (hn : n ≤ 64) (hi : i < n) : Met l yX2_shiftsLeft (.code yX2_shiftsLeft cX2_shiftsLeft 2 (some .int) :: TB) ({ frames := 1, cells := 0, slots := 0, locals := 21 } : Room) (va_Pc [.ref (g 0), .int (nI i)] (cP D K (WG K g ma nu de ne di (nI n) fr) sz)) (va_Qi (fun (z : Int32) (_ : Unit) => z = di i) (fun _ _ => True) (fun _ => False)) 0 0 (fun _ => False) := by
  refine Met.ofW (cc := cX2_shiftsLeft) (maxL := 2) (ret := (some .int)) (by decide) rfl ?_
  intro p e s m args below meth c s₁ B hml hv
  obtain ⟨rfl, hsz, hP, hK, hD0⟩ := hv
  have hx := B.exec
  have hb := B.bytes
  have hr := B.returns
  have hts := hts_tl (atoms_spec (ws := (.code yX2_shiftsLeft cX2_shiftsLeft 2 (some .int) :: TB)) B.pre)
  have hown : s.vm.findClass RX2 = some m.cls := findClass_of_methodNamed B.named
  have hlocks := B.notSynchronized
  subst hsz
  have hA : ∀ q : Nat, q < s.heap.size → (fun _ : Nat => False) q → False := fun _ _ h => h
  have hS : va_S (fun _ => False) s.heap s.heap [] := va_S.rf
  have hl := lv_entry ([.ref (g 0), .int (nI i)]) (n := 2) (Nat.le_of_ble_eq_true rfl)
  rw [lg_entry_eq]
  generalize (lg_sl ([.ref (g 0), .int (nI i)]) ++ List.replicate (2 - (lg_sl ([.ref (g 0), .int (nI i)])).length) Slot.unset).toArray = ls at hl ⊢
  have hl : lv_has ls 2 [(0, .ref (g 0)), (1, .int (nI i))] := hl
  refine lv_aload_n hx hb dX2_shiftsLeft_0 rfl (lv_at hl 0 rfl) ?_
  refine lv_iload_n hx hb dX2_shiftsLeft_1 rfl (lv_at hl 1 rfl) ?_
  refine va_calli (va_runV (As := [.int (nI i)]) (rest := []) ⟨hx, hb, hml, hown, hts⟩ (c_X2_hasGear l D K g ma nu de ne di n fr (nI i) s.heap.size hn) (cwV 1 hts (TB_V k_m_X2_64 k_im_X2_hasGear k_se_X2_hasGear k_in_X2 k_co_X2_hasGear (fun _ h => h)) rfl rfl rfl (by decide +kernel) ⟨Nat.le_of_ble_eq_true rfl, Nat.le_of_ble_eq_true rfl⟩) ⟨cP_blind, va_recv hK hP (ci := 2) (q0 := 0) rfl rfl, cP_of hP hK hD0⟩ rfl rfl hl.1 rfl (lv_room (Nat.le_of_ble_eq_true rfl)) dX2_shiftsLeft_2 ⟨Nat.le_of_ble_eq_true rfl, Nat.le_of_ble_eq_true rfl⟩) hS (fun q _ h => absurd h id) (fun q h => absurd h id) (fun hg9 u9 t9 H locs ht9 hvm hw hB hz1 hk1 hS => ?_)
  have hP := P_same hP hk1
  refine t_i (hw.trans (bI_t ⟨i, by omega, rfl⟩).symm) ?_
  refine b_if_eq hx hb (nI_toIntI (by omega)) dX2_shiftsLeft_5 (tgt := 17) (by decide) (fun c5 => absurd c5 (by omega)) (fun c5 => ?_)
  refine lv_aload_n hx hb dX2_shiftsLeft_8 rfl (lv_at hl 0 rfl) ?_
  refine va_get (D := D) (ci := 2) (C := RX2) (T := TX2) (N := 7) hx hb hts iX2 hown hK hP 0 rfl rfl 4 (by decide) (hts _ k_f_X2_26) (fun _ h9 => h9) rfl dX2_shiftsLeft_9 ?_
  refine lv_iload_n hx hb dX2_shiftsLeft_12 rfl (lv_at hl 1 rfl) ?_
  refine n_iald hx hb hK hP 5 0 rfl rfl (i := i) (n := 64) (by omega) (by decide) dX2_shiftsLeft_13 ?_
  refine lv_goto (tgt := 18) hx hb dX2_shiftsLeft_14 (by decide) ?_
  exact W.iret (v := di i) hx hb hr (fun t9 ht9 hW => ⟨⟨di i, (), rfl, rfl, trivial⟩, hS.F ht9⟩) hS.2.2 dX2_shiftsLeft_18
set_option maxHeartbeats 4000000 in
set_option maxRecDepth 100000 in
theorem c_X2_ratioPart (l : Launch) (D : va_G) (K : Nat → ClassId) (g : Nat → Nat) (ma : Nat → Int32) (nu de : Nat → Int64) (ne di : Nat → Int32) (n : Nat) (fr : Int32) (i pt : Nat) (sz : Nat) (hn : n ≤ 64) (hi : i < n) (hpt : pt ≤ 1) : Met l yX2_ratioPart (.code yX2_ratioPart cX2_ratioPart 3 (some .long) :: TB) ({ frames := 1, cells := 0, slots := 0, locals := 21 } : Room) (va_Pc [.ref (g 0), .int (nI i), .int (nI pt)] (cP D K (WG K g ma nu de ne di (nI n) fr) sz)) (va_Ql (fun (z : Int64) (_ : Unit) => z = if pt = 0 then nu i else de i) (fun _ _ => True) (fun _ => False)) 0 0 (fun _ => False) := by
  refine Met.ofW (cc := cX2_ratioPart) (maxL := 3) (ret := (some .long)) (by decide) rfl ?_
  intro p e s m args below meth c s₁ B hml hv
  obtain ⟨rfl, hsz, hP, hK, hD0⟩ := hv
  have hx := B.exec
  have hb := B.bytes
  have hr := B.returns
  have hts := hts_tl (atoms_spec (ws := (.code yX2_ratioPart cX2_ratioPart 3 (some .long) :: TB)) B.pre)
  have hown : s.vm.findClass RX2 = some m.cls := findClass_of_methodNamed B.named
  have hlocks := B.notSynchronized
  subst hsz
  have hA : ∀ q : Nat, q < s.heap.size → (fun _ : Nat => False) q → False := fun _ _ h => h
  have hS : va_S (fun _ => False) s.heap s.heap [] := va_S.rf
  have hl := lv_entry ([.ref (g 0), .int (nI i), .int (nI pt)]) (n := 3) (Nat.le_of_ble_eq_true rfl)
  rw [lg_entry_eq]
  generalize (lg_sl ([.ref (g 0), .int (nI i), .int (nI pt)]) ++ List.replicate (3 - (lg_sl ([.ref (g 0), .int (nI i), .int (nI pt)])).length) Slot.unset).toArray = ls at hl ⊢
  have hl : lv_has ls 3 [(0, .ref (g 0)), (1, .int (nI i)), (2, .int (nI pt))] := hl
  refine lv_aload_n hx hb dX2_ratioPart_0 rfl (lv_at hl 0 rfl) ?_
  refine lv_iload_n hx hb dX2_ratioPart_1 rfl (lv_at hl 1 rfl) ?_
  refine va_calli (va_runV (As := [.int (nI i)]) (rest := []) ⟨hx, hb, hml, hown, hts⟩ (c_X2_hasGear l D K g ma nu de ne di n fr (nI i) s.heap.size hn) (cwV 1 hts (TB_V k_m_X2_64 k_im_X2_hasGear k_se_X2_hasGear k_in_X2 k_co_X2_hasGear (fun _ h => h)) rfl rfl rfl (by decide +kernel) ⟨Nat.le_of_ble_eq_true rfl, Nat.le_of_ble_eq_true rfl⟩) ⟨cP_blind, va_recv hK hP (ci := 2) (q0 := 0) rfl rfl, cP_of hP hK hD0⟩ rfl rfl hl.1 rfl (lv_room (Nat.le_of_ble_eq_true rfl)) dX2_ratioPart_2 ⟨Nat.le_of_ble_eq_true rfl, Nat.le_of_ble_eq_true rfl⟩) hS (fun q _ h => absurd h id) (fun q h => absurd h id) (fun hg9 u9 t9 H locs ht9 hvm hw hB hz1 hk1 hS => ?_)
  have hP := P_same hP hk1
  refine t_i (hw.trans (bI_t ⟨i, by omega, rfl⟩).symm) ?_
  refine b_if_ne hx hb (nI_toIntI (by omega)) dX2_ratioPart_5 (tgt := 10) (by decide) (fun c5 => ?_) (fun c5 => absurd c5 (by omega))
  refine lv_iload_n hx hb dX2_ratioPart_10 rfl (lv_at hl 2 rfl) ?_
  refine b_if_ne hx hb (nI_toIntI (by omega)) dX2_ratioPart_11 (tgt := 23) (by decide) (fun c11 => ?_) (fun c11 => ?_)
  · refine lv_aload_n hx hb dX2_ratioPart_23 rfl (lv_at hl 0 rfl) ?_
    refine va_get (D := D) (ci := 2) (C := RX2) (T := TX2) (N := 7) hx hb hts iX2 hown hK hP 0 rfl rfl 2 (by decide) (hts _ k_f_X2_19) (fun _ h9 => h9) rfl dX2_ratioPart_24 ?_
    refine lv_iload_n hx hb dX2_ratioPart_27 rfl (lv_at hl 1 rfl) ?_
    refine n_lald hx hb hK hP 3 1 rfl rfl (i := i) (n := 64) (by omega) (by decide) dX2_ratioPart_28 ?_
    exact W.lret (v := de i) hx hb hr (fun t9 ht9 hW => ⟨⟨de i, (), rfl, (if_neg (show ¬ pt = 0 by omega)).symm, trivial⟩, hS.F ht9⟩) hS.2.2 dX2_ratioPart_29
  refine lv_aload_n hx hb dX2_ratioPart_14 rfl (lv_at hl 0 rfl) ?_
  refine va_get (D := D) (ci := 2) (C := RX2) (T := TX2) (N := 7) hx hb hts iX2 hown hK hP 0 rfl rfl 1 (by decide) (hts _ k_f_X2_15) (fun _ h9 => h9) rfl dX2_ratioPart_15 ?_
  refine lv_iload_n hx hb dX2_ratioPart_18 rfl (lv_at hl 1 rfl) ?_
  refine n_lald hx hb hK hP 2 1 rfl rfl (i := i) (n := 64) (by omega) (by decide) dX2_ratioPart_19 ?_
  refine lv_goto (tgt := 29) hx hb dX2_ratioPart_20 (by decide) ?_
  exact W.lret (v := nu i) hx hb hr (fun t9 ht9 hW => ⟨⟨nu i, (), rfl, (if_pos (show pt = 0 by omega)).symm, trivial⟩, hS.F ht9⟩) hS.2.2 dX2_ratioPart_29
set_option maxHeartbeats 4000000 in
set_option maxRecDepth 100000 in
theorem c_X2_find (l : Launch) (D : va_G) (K : Nat → ClassId) (g : Nat → Nat) (ma : Nat → Int32) (nu de : Nat → Int64) (ne di : Nat → Int32) (n : Nat) (fr : Int32) (x : Int32) (sz : Nat) (hn : n ≤ 64) : Met l yX2_find (.code yX2_find cX2_find 3 (some .int) :: TB) ({ frames := 0, cells := 0, slots := 0, locals := 0 } : Room) (va_Pc [.ref (g 0), .int x] (cP D K (WG K g ma nu de ne di (nI n) fr) sz)) (va_Qi (fun (z : Int32) (_ : Unit) => (∃ i, i < n ∧ z = nI i ∧ ma i = x ∧ ∀ j, j < i → ¬ ma j = x) ∨ (z = -1 ∧ ∀ j, j < n → ¬ ma j = x)) (fun _ _ => True) (fun _ => False)) 0 0 (fun _ => False) := by
  refine Met.ofW (cc := cX2_find) (maxL := 3) (ret := (some .int)) (by decide) rfl ?_
  intro p e s m args below meth c s₁ B hml hv
  obtain ⟨rfl, hsz, hP, hK, hD0⟩ := hv
  have hx := B.exec
  have hb := B.bytes
  have hr := B.returns
  have hts := hts_tl (atoms_spec (ws := (.code yX2_find cX2_find 3 (some .int) :: TB)) B.pre)
  have hown : s.vm.findClass RX2 = some m.cls := findClass_of_methodNamed B.named
  have hlocks := B.notSynchronized
  subst hsz
  have hA : ∀ q : Nat, q < s.heap.size → (fun _ : Nat => False) q → False := fun _ _ h => h
  have hS : va_S (fun _ => False) s.heap s.heap [] := va_S.rf
  have hl := lv_entry ([.ref (g 0), .int x]) (n := 3) (Nat.le_of_ble_eq_true rfl)
  rw [lg_entry_eq]
  generalize (lg_sl ([.ref (g 0), .int x]) ++ List.replicate (3 - (lg_sl ([.ref (g 0), .int x])).length) Slot.unset).toArray = ls at hl ⊢
  have hl : lv_has ls 3 [(0, .ref (g 0)), (1, .int x)] := hl
  refine lv_iconst (v := nI 0) hx hb dX2_find_0 (by decide) ?_
  refine lv_istore_n (lv' := [(2, .int (nI 0)), (0, .ref (g 0)), (1, .int x)]) hx hb dX2_find_1 rfl hl (by decide) rfl (fun ls hl => ?_)
  have L2 : ∀ (fuel : Nat) (i : Nat) (ls : Array Slot), n - i < fuel → (i ≤ n) → (∀ j, j < i → ¬ ma j = x) → lv_has ls 3 [(2, .int (nI i)), (0, .ref (g 0)), (1, .int x)] → W p l e ({ frames := 0, cells := 0, slots := 0, locals := 0 } : Room) s m [.ref (g 0), .int x].toArray below meth c s.heap [] 0 0 (MQ below (va_Qi (fun (z : Int32) (_ : Unit) => (∃ i, i < n ∧ z = nI i ∧ ma i = x ∧ ∀ j, j < i → ¬ ma j = x) ∨ (z = -1 ∧ ∀ j, j < n → ¬ ma j = x)) (fun _ _ => True) (fun _ => False)) [.ref (g 0), .int x].toArray s 0 0 (fun _ => False)) (F0 m 2 ls []) := by
    intro fuel
    induction fuel with
    | zero =>
      intro i ls hfu
      exact absurd hfu (Nat.not_lt_zero _)
    | succ fuel ih2 =>
      intro i ls hfu hi hno hl
      refine lv_iload_n hx hb dX2_find_2 rfl (lv_at hl 0 rfl) ?_
      refine lv_aload_n hx hb dX2_find_3 rfl (lv_at hl 1 rfl) ?_
      refine va_get (D := D) (ci := 2) (C := RX2) (T := TX2) (N := 7) hx hb hts iX2 hown hK hP 0 rfl rfl 5 (by decide) (hts _ k_f_X2_33) (fun _ h9 => h9) rfl dX2_find_4 ?_
      refine t_i (show _ = nI n from rfl) ?_
      refine b_icmp_ge hx hb (nI_toIntI (by omega)) (nI_toIntI (by omega)) dX2_find_7 (tgt := 34) (by decide) (fun c7 => ?_) (fun c7 => ?_)
      · refine lv_iconst (v := (-1)) hx hb dX2_find_34 (by decide) ?_
        exact W.iret (v := (-1)) hx hb hr (fun t9 ht9 hW => ⟨⟨(-1), (), rfl, Or.inr ⟨rfl, fun j hj => hno j (by omega)⟩, trivial⟩, hS.F ht9⟩) hS.2.2 dX2_find_35
      refine lv_iload_n hx hb dX2_find_10 rfl (lv_at hl 0 rfl) ?_
      refine lv_bipush (v := nI 64) hx hb dX2_find_11 (by decide) ?_
      refine b_icmp_ge hx hb (nI_toIntI (by omega)) (nI_toIntI (by omega)) dX2_find_13 (tgt := 34) (by decide) (fun c13 => absurd c13 (by omega)) (fun c13 => ?_)
      refine lv_aload_n hx hb dX2_find_16 rfl (lv_at hl 1 rfl) ?_
      refine va_get (D := D) (ci := 2) (C := RX2) (T := TX2) (N := 7) hx hb hts iX2 hown hK hP 0 rfl rfl 0 (by decide) (hts _ k_f_X2_9) (fun _ h9 => h9) rfl dX2_find_17 ?_
      refine lv_iload_n hx hb dX2_find_20 rfl (lv_at hl 0 rfl) ?_
      refine n_iald hx hb hK hP 1 0 rfl rfl (i := i) (n := 64) (by omega) (by decide) dX2_find_21 ?_
      refine lv_iload_n hx hb dX2_find_22 rfl (lv_at hl 2 rfl) ?_
      refine b_icmp_ne hx hb rfl rfl dX2_find_23 (tgt := 28) (by decide) (fun c23 => ?_) (fun c23 => ?_)
      · refine lv_iinc (v := nI (i + 1)) (lv' := [(2, .int (nI (i + 1))), (0, .ref (g 0)), (1, .int x)]) hx hb dX2_find_28 hl (k := 0) rfl (nI_add i 1) (by decide) rfl (fun ls hl => ?_)
        refine lv_goto (tgt := 2) hx hb dX2_find_31 (by decide) ?_
        have hno2 : ∀ j, j < i + 1 → ¬ ma j = x := fun j hj => by
          by_cases q : j = i
          · subst q; exact fun z => c23 ((i32_eq _ _).mp z)
          · exact hno j (by omega)
        exact ih2 (i + 1) _ (by omega) (by omega) hno2 (lv_sub hl [0, 1, 2] rfl)
      refine lv_iload_n hx hb dX2_find_26 rfl (lv_at hl 0 rfl) ?_
      exact W.iret (v := nI i) hx hb hr (fun t9 ht9 hW => ⟨⟨nI i, (), rfl, Or.inl ⟨i, by omega, rfl, (i32_eq _ _).mpr c23, hno⟩, trivial⟩, hS.F ht9⟩) hS.2.2 dX2_find_27
  exact L2 _ 0 _ (Nat.lt_succ_self _) (Nat.zero_le _) (fun j h => absurd h (Nat.not_lt_zero _)) (lv_sub hl [0, 1, 2] rfl)
set_option maxHeartbeats 4000000 in
set_option maxRecDepth 100000 in
theorem c_X2_areNeighbours (l : Launch) (xa xb : Nat) (ha9 : xa < 64) (hb9 : xb < 64) : Met l yX2_areNeighbours (.code yX2_areNeighbours cX2_areNeighbours 2 (some .boolean) :: TB) ({ frames := 1, cells := 0, slots := 0, locals := 20 } : Room) (va_Pc [.int (nI xa), .int (nI xb)] (fun _ => True)) (va_Qi (fun (z : Int32) (_ : Unit) => z = bI (nbr xa xb)) (fun _ _ => True) (fun _ => False)) 0 0 (fun _ => False) := by
  refine Met.ofW (cc := cX2_areNeighbours) (maxL := 2) (ret := (some .boolean)) (by decide) rfl ?_
  intro p e s m args below meth c s₁ B hml hv
  obtain ⟨rfl, -⟩ := hv
  have hx := B.exec
  have hb := B.bytes
  have hr := B.returns
  have hts := hts_tl (atoms_spec (ws := (.code yX2_areNeighbours cX2_areNeighbours 2 (some .boolean) :: TB)) B.pre)
  have hown : s.vm.findClass RX2 = some m.cls := findClass_of_methodNamed B.named
  have hlocks := B.notSynchronized
  have hA : ∀ q : Nat, q < s.heap.size → (fun _ : Nat => False) q → False := fun _ _ h => h
  have hS : va_S (fun _ => False) s.heap s.heap [] := va_S.rf
  have hl := lv_entry ([.int (nI xa), .int (nI xb)]) (n := 2) (Nat.le_of_ble_eq_true rfl)
  rw [lg_entry_eq]
  generalize (lg_sl ([.int (nI xa), .int (nI xb)]) ++ List.replicate (2 - (lg_sl ([.int (nI xa), .int (nI xb)])).length) Slot.unset).toArray = ls at hl ⊢
  have hl : lv_has ls 2 [(0, .int (nI xa)), (1, .int (nI xb))] := hl
  refine lv_iload_n hx hb dX2_areNeighbours_0 rfl (lv_at hl 0 rfl) ?_
  refine lv_iload_n hx hb dX2_areNeighbours_1 rfl (lv_at hl 1 rfl) ?_
  refine lv_iconst (v := (-1)) hx hb dX2_areNeighbours_2 (by decide) ?_
  refine lv_ixor hx hb dX2_areNeighbours_3 ?_
  refine lv_iand hx hb dX2_areNeighbours_4 ?_
  refine t_i (w_anN xa ha9 xb hb9) ?_
  refine va_calli (va_runS (As := [.int (nI (anN xa xb))]) (rest := []) ⟨hx, hb, hml, hown, hts⟩ (c_J6_bitCount_0f7a4 l (anN xa xb) (anN_lt xa ha9 xb hb9)) (va_cwS 1 hts (TB_S k_m_X2_79 k_st_J6_bitCount_0f7a4 k_in_J6 k_co_J6_bitCount_0f7a4 (fun _ h => h)) rfl rfl rfl (by decide +kernel) ⟨Nat.le_of_ble_eq_true rfl, Nat.le_of_ble_eq_true rfl⟩) ⟨tP_blind, tP_of⟩ rfl rfl hl.1 rfl (lv_room (Nat.le_of_ble_eq_true rfl)) dX2_areNeighbours_5 ⟨Nat.le_of_ble_eq_true rfl, Nat.le_of_ble_eq_true rfl⟩) hS (fun q _ h => absurd h id) (fun q h => absurd h id) (fun pc5 u9 t9 H locs ht9 hvm hw hB hz1 hk1 hS => ?_)
  subst hw
  have hpc5 := pcn_le (anN xa xb)
  refine lv_iconst (v := nI 1) hx hb dX2_areNeighbours_8 (by decide) ?_
  refine b_icmp_ne hx hb (nI_toIntI (by omega)) (nI_toIntI (by omega)) dX2_areNeighbours_9 (tgt := 28) (by decide) (fun c9 => ?_) (fun c9 => ?_)
  · refine lv_iconst (v := nI 0) hx hb dX2_areNeighbours_28 (by decide) ?_
    exact W.zret (v := nI 0) hx hb hr (by decide) (fun t9 ht9 hW => ⟨⟨nI 0, (), rfl, bI_f (fun q => by have := q.1; have := q.2; omega), trivial⟩, hS.F ht9⟩) hS.2.2 dX2_areNeighbours_29
  refine lv_iload_n hx hb dX2_areNeighbours_12 rfl (lv_at hl 1 rfl) ?_
  refine lv_iload_n hx hb dX2_areNeighbours_13 rfl (lv_at hl 0 rfl) ?_
  refine lv_iconst (v := (-1)) hx hb dX2_areNeighbours_14 (by decide) ?_
  refine lv_ixor hx hb dX2_areNeighbours_15 ?_
  refine lv_iand hx hb dX2_areNeighbours_16 ?_
  refine t_i (w_anN xb hb9 xa ha9) ?_
  refine va_calli (va_runS (As := [.int (nI (anN xb xa))]) (rest := []) ⟨hx, hb, hml, hown, hts⟩ (c_J6_bitCount_0f7a4 l (anN xb xa) (anN_lt xb hb9 xa ha9)) (va_cwS 1 hts (TB_S k_m_X2_79 k_st_J6_bitCount_0f7a4 k_in_J6 k_co_J6_bitCount_0f7a4 (fun _ h => h)) rfl rfl rfl (by decide +kernel) ⟨Nat.le_of_ble_eq_true rfl, Nat.le_of_ble_eq_true rfl⟩) ⟨tP_blind, tP_of⟩ rfl rfl hl.1 rfl (lv_room (Nat.le_of_ble_eq_true rfl)) dX2_areNeighbours_17 ⟨Nat.le_of_ble_eq_true rfl, Nat.le_of_ble_eq_true rfl⟩) hS (fun q _ h => absurd h id) (fun q h => absurd h id) (fun pc17 u9 t9 H locs ht9 hvm hw hB hz1 hk1 hS => ?_)
  subst hw
  have hpc17 := pcn_le (anN xb xa)
  refine lv_iconst (v := nI 1) hx hb dX2_areNeighbours_20 (by decide) ?_
  refine b_icmp_ne hx hb (nI_toIntI (by omega)) (nI_toIntI (by omega)) dX2_areNeighbours_21 (tgt := 28) (by decide) (fun c21 => ?_) (fun c21 => ?_)
  · refine lv_iconst (v := nI 0) hx hb dX2_areNeighbours_28 (by decide) ?_
    exact W.zret (v := nI 0) hx hb hr (by decide) (fun t9 ht9 hW => ⟨⟨nI 0, (), rfl, bI_f (fun q => by have := q.1; have := q.2; omega), trivial⟩, hS.F ht9⟩) hS.2.2 dX2_areNeighbours_29
  refine lv_iconst (v := nI 1) hx hb dX2_areNeighbours_24 (by decide) ?_
  refine lv_goto (tgt := 29) hx hb dX2_areNeighbours_25 (by decide) ?_
  exact W.zret (v := nI 1) hx hb hr (by decide) (fun t9 ht9 hW => ⟨⟨nI 1, (), rfl, bI_t ⟨by omega, by omega⟩, trivial⟩, hS.F ht9⟩) hS.2.2 dX2_areNeighbours_29
set_option maxHeartbeats 4000000 in
set_option maxRecDepth 100000 in
theorem c_X2_neighbourAt (l : Launch) (D : va_G) (K : Nat → ClassId) (g : Nat → Nat) (ma : Nat → Int32) (nu de : Nat → Int64) (ne di : Nat → Int32) (n : Nat) (fr : Int32) (G : Nat → Nat) (i : Nat) (sh : Int32) (sz : Nat) (hn : n ≤ 64) (hi : i < n) (hG : ∀ j, j < n → G j < 64 ∧ ma j = nI (G j)) : Met l yX2_neighbourAt (.code yX2_neighbourAt cX2_neighbourAt 4 (some .int) :: TB) ({ frames := 2, cells := 0, slots := 0, locals := 41 } : Room) (va_Pc [.ref (g 0), .int (nI i), .int sh] (cP D K (WG K g ma nu de ne di (nI n) fr) sz)) (va_Qi (fun (z : Int32) (_ : Unit) => (∃ h, h < n ∧ z = nI h ∧ di h = sh ∧ nbr (G i) (G h) ∧ ∀ j, j < h → ¬ (di j = sh ∧ nbr (G i) (G j))) ∨ (z = -1 ∧ ∀ j, j < n → ¬ (di j = sh ∧ nbr (G i) (G j)))) (fun _ _ => True) (fun _ => False)) 0 0 (fun _ => False) := by
  refine Met.ofW (cc := cX2_neighbourAt) (maxL := 4) (ret := (some .int)) (by decide) rfl ?_
  intro p e s m args below meth c s₁ B hml hv
  obtain ⟨rfl, hsz, hP, hK, hD0⟩ := hv
  have hx := B.exec
  have hb := B.bytes
  have hr := B.returns
  have hts := hts_tl (atoms_spec (ws := (.code yX2_neighbourAt cX2_neighbourAt 4 (some .int) :: TB)) B.pre)
  have hown : s.vm.findClass RX2 = some m.cls := findClass_of_methodNamed B.named
  have hlocks := B.notSynchronized
  subst hsz
  have hA : ∀ q : Nat, q < s.heap.size → (fun _ : Nat => False) q → False := fun _ _ h => h
  have hS : va_S (fun _ => False) s.heap s.heap [] := va_S.rf
  have hl := lv_entry ([.ref (g 0), .int (nI i), .int sh]) (n := 4) (Nat.le_of_ble_eq_true rfl)
  rw [lg_entry_eq]
  generalize (lg_sl ([.ref (g 0), .int (nI i), .int sh]) ++ List.replicate (4 - (lg_sl ([.ref (g 0), .int (nI i), .int sh])).length) Slot.unset).toArray = ls at hl ⊢
  have hl : lv_has ls 4 [(0, .ref (g 0)), (1, .int (nI i)), (2, .int sh)] := hl
  refine lv_aload_n hx hb dX2_neighbourAt_0 rfl (lv_at hl 0 rfl) ?_
  refine lv_iload_n hx hb dX2_neighbourAt_1 rfl (lv_at hl 1 rfl) ?_
  refine va_calli (va_runV (As := [.int (nI i)]) (rest := []) ⟨hx, hb, hml, hown, hts⟩ (c_X2_hasGear l D K g ma nu de ne di n fr (nI i) s.heap.size hn) (cwV 1 hts (TB_V k_m_X2_64 k_im_X2_hasGear k_se_X2_hasGear k_in_X2 k_co_X2_hasGear (fun _ h => h)) rfl rfl rfl (by decide +kernel) ⟨Nat.le_of_ble_eq_true rfl, Nat.le_of_ble_eq_true rfl⟩) ⟨cP_blind, va_recv hK hP (ci := 2) (q0 := 0) rfl rfl, cP_of hP hK hD0⟩ rfl rfl hl.1 rfl (lv_room (Nat.le_of_ble_eq_true rfl)) dX2_neighbourAt_2 ⟨Nat.le_of_ble_eq_true rfl, Nat.le_of_ble_eq_true rfl⟩) hS (fun q _ h => absurd h id) (fun q h => absurd h id) (fun hg9 u9 t9 H locs ht9 hvm hw hB hz1 hk1 hS => ?_)
  have hP := P_same hP hk1
  refine t_i (hw.trans (bI_t ⟨i, by omega, rfl⟩).symm) ?_
  refine b_if_ne hx hb (nI_toIntI (by omega)) dX2_neighbourAt_5 (tgt := 10) (by decide) (fun c5 => ?_) (fun c5 => absurd c5 (by omega))
  refine lv_iconst (v := nI 0) hx hb dX2_neighbourAt_10 (by decide) ?_
  refine lv_istore_n (lv' := [(3, .int (nI 0)), (0, .ref (g 0)), (1, .int (nI i)), (2, .int sh)]) hx hb dX2_neighbourAt_11 rfl hl (by decide) rfl (fun ls hl => ?_)
  have L12 : ∀ (fuel : Nat) (k : Nat) (H : Heap) (locs : List Loc) (ls : Array Slot), n - k < fuel → (k ≤ n) → (∀ j, j < k → ¬ (di j = sh ∧ nbr (G i) (G j))) → va_P D vwCl (WG K g ma nu de ne di (nI n) fr) H → va_S (fun _ => False) s.heap H locs → lv_has ls 4 [(3, .int (nI k)), (0, .ref (g 0)), (1, .int (nI i)), (2, .int sh)] → W p l e ({ frames := 2, cells := 0, slots := 0, locals := 41 } : Room) s m [.ref (g 0), .int (nI i), .int sh].toArray below meth c H locs 0 0 (MQ below (va_Qi (fun (z : Int32) (_ : Unit) => (∃ h, h < n ∧ z = nI h ∧ di h = sh ∧ nbr (G i) (G h) ∧ ∀ j, j < h → ¬ (di j = sh ∧ nbr (G i) (G j))) ∨ (z = -1 ∧ ∀ j, j < n → ¬ (di j = sh ∧ nbr (G i) (G j)))) (fun _ _ => True) (fun _ => False)) [.ref (g 0), .int (nI i), .int sh].toArray s 0 0 (fun _ => False)) (F0 m 12 ls []) := by
    intro fuel
    induction fuel with
    | zero =>
      intro k H locs ls hfu
      exact absurd hfu (Nat.not_lt_zero _)
    | succ fuel ih12 =>
      intro k H locs ls hfu hk hno hP hS hl
      refine lv_iload_n hx hb dX2_neighbourAt_12 rfl (lv_at hl 0 rfl) ?_
      refine lv_aload_n hx hb dX2_neighbourAt_13 rfl (lv_at hl 1 rfl) ?_
      refine va_get (D := D) (ci := 2) (C := RX2) (T := TX2) (N := 7) hx hb hts iX2 hown hK hP 0 rfl rfl 5 (by decide) (hts _ k_f_X2_33) (fun _ h9 => h9) rfl dX2_neighbourAt_14 ?_
      refine t_i (show _ = nI n from rfl) ?_
      refine b_icmp_ge hx hb (nI_toIntI (by omega)) (nI_toIntI (by omega)) dX2_neighbourAt_17 (tgt := 62) (by decide) (fun c17 => ?_) (fun c17 => ?_)
      · refine lv_iconst (v := (-1)) hx hb dX2_neighbourAt_62 (by decide) ?_
        exact W.iret (v := (-1)) hx hb hr (fun t9 ht9 hW => ⟨⟨(-1), (), rfl, Or.inr ⟨rfl, fun j hj => hno j (by omega)⟩, trivial⟩, hS.F ht9⟩) hS.2.2 dX2_neighbourAt_63
      refine lv_iload_n hx hb dX2_neighbourAt_20 rfl (lv_at hl 0 rfl) ?_
      refine lv_bipush (v := nI 64) hx hb dX2_neighbourAt_21 (by decide) ?_
      refine b_icmp_ge hx hb (nI_toIntI (by omega)) (nI_toIntI (by omega)) dX2_neighbourAt_23 (tgt := 62) (by decide) (fun c23 => absurd c23 (by omega)) (fun c23 => ?_)
      refine lv_aload_n hx hb dX2_neighbourAt_26 rfl (lv_at hl 1 rfl) ?_
      refine va_get (D := D) (ci := 2) (C := RX2) (T := TX2) (N := 7) hx hb hts iX2 hown hK hP 0 rfl rfl 4 (by decide) (hts _ k_f_X2_26) (fun _ h9 => h9) rfl dX2_neighbourAt_27 ?_
      refine lv_iload_n hx hb dX2_neighbourAt_30 rfl (lv_at hl 0 rfl) ?_
      refine n_iald hx hb hK hP 5 0 rfl rfl (i := k) (n := 64) (by omega) (by decide) dX2_neighbourAt_31 ?_
      refine lv_iload_n hx hb dX2_neighbourAt_32 rfl (lv_at hl 3 rfl) ?_
      refine b_icmp_ne hx hb rfl rfl dX2_neighbourAt_33 (tgt := 56) (by decide) (fun c33 => ?_) (fun c33 => ?_)
      · refine lv_iinc (v := nI (k + 1)) (lv' := [(3, .int (nI (k + 1))), (0, .ref (g 0)), (1, .int (nI i)), (2, .int sh)]) hx hb dX2_neighbourAt_56 hl (k := 0) rfl (nI_add k 1) (by decide) rfl (fun ls hl => ?_)
        refine lv_goto (tgt := 12) hx hb dX2_neighbourAt_59 (by decide) ?_
        have hno2 : ∀ j, j < k + 1 → ¬ (di j = sh ∧ nbr (G i) (G j)) := fun j hj => by
          by_cases q : j = k
          · subst q; first | exact fun z => hnb z.2 | exact fun z => c33 ((i32_eq _ _).mp z.1)
          · exact hno j (by omega)
        exact ih12 (k + 1) _ _ _ (by omega) (by omega) hno2 hP hS (lv_sub hl [0, 1, 2, 3] rfl)
      refine lv_aload_n hx hb dX2_neighbourAt_36 rfl (lv_at hl 1 rfl) ?_
      refine va_get (D := D) (ci := 2) (C := RX2) (T := TX2) (N := 7) hx hb hts iX2 hown hK hP 0 rfl rfl 0 (by decide) (hts _ k_f_X2_9) (fun _ h9 => h9) rfl dX2_neighbourAt_37 ?_
      refine lv_iload_n hx hb dX2_neighbourAt_40 rfl (lv_at hl 2 rfl) ?_
      refine n_iald hx hb hK hP 1 0 rfl rfl (i := i) (n := 64) (by omega) (by decide) dX2_neighbourAt_41 ?_
      refine t_i (show _ = nI (G i) from (hG i (by omega)).2) ?_
      refine lv_aload_n hx hb dX2_neighbourAt_42 rfl (lv_at hl 1 rfl) ?_
      refine va_get (D := D) (ci := 2) (C := RX2) (T := TX2) (N := 7) hx hb hts iX2 hown hK hP 0 rfl rfl 0 (by decide) (hts _ k_f_X2_9) (fun _ h9 => h9) rfl dX2_neighbourAt_43 ?_
      refine lv_iload_n hx hb dX2_neighbourAt_46 rfl (lv_at hl 0 rfl) ?_
      refine n_iald hx hb hK hP 1 0 rfl rfl (i := k) (n := 64) (by omega) (by decide) dX2_neighbourAt_47 ?_
      refine t_i (show _ = nI (G k) from (hG k (by omega)).2) ?_
      have hGi := (hG i (by omega)).1
      have hGk := (hG k (by omega)).1
      refine va_calli (va_runS (As := [.int (nI (G i)), .int (nI (G k))]) (rest := []) ⟨hx, hb, hml, hown, hts⟩ (c_X2_areNeighbours l (G i) (G k) hGi hGk) (va_cwS 2 hts (TB_S k_m_X2_75 k_st_X2_areNeighbours k_in_X2 k_co_X2_areNeighbours (fun _ h => h)) rfl rfl rfl (by decide +kernel) ⟨Nat.le_of_ble_eq_true rfl, Nat.le_of_ble_eq_true rfl⟩) ⟨tP_blind, tP_of⟩ rfl rfl hl.1 rfl (lv_room (Nat.le_of_ble_eq_true rfl)) dX2_neighbourAt_48 ⟨Nat.le_of_ble_eq_true rfl, Nat.le_of_ble_eq_true rfl⟩) hS (fun q _ h => absurd h id) (fun q h => absurd h id) (fun nb u9 t9 H locs ht9 hvm hw hB hz1 hk1 hS => ?_)
      have hP := P_same hP hk1
      by_cases hnb : nbr (G i) (G k)
      · refine t_i (hw.trans (bI_t hnb).symm) ?_
        refine b_if_eq hx hb (nI_toIntI (by omega)) dX2_neighbourAt_51 (tgt := 56) (by decide) (fun c51 => absurd c51 (by omega)) (fun c51 => ?_)
        refine lv_iload_n hx hb dX2_neighbourAt_54 rfl (lv_at hl 0 rfl) ?_
        exact W.iret (v := nI k) hx hb hr (fun t9 ht9 hW => ⟨⟨nI k, (), rfl, Or.inl ⟨k, by omega, rfl, (i32_eq _ _).mpr c33, hnb, hno⟩, trivial⟩, hS.F ht9⟩) hS.2.2 dX2_neighbourAt_55
      refine t_i (hw.trans (bI_f hnb).symm) ?_
      refine b_if_eq hx hb (nI_toIntI (by omega)) dX2_neighbourAt_51 (tgt := 56) (by decide) (fun c51 => ?_) (fun c51 => absurd c51 (by omega))
      refine lv_iinc (v := nI (k + 1)) (lv' := [(3, .int (nI (k + 1))), (0, .ref (g 0)), (1, .int (nI i)), (2, .int sh)]) hx hb dX2_neighbourAt_56 hl (k := 0) rfl (nI_add k 1) (by decide) rfl (fun ls hl => ?_)
      refine lv_goto (tgt := 12) hx hb dX2_neighbourAt_59 (by decide) ?_
      have hno2 : ∀ j, j < k + 1 → ¬ (di j = sh ∧ nbr (G i) (G j)) := fun j hj => by
        by_cases q : j = k
        · subst q; first | exact fun z => hnb z.2 | exact fun z => c33 ((i32_eq _ _).mp z.1)
        · exact hno j (by omega)
      exact ih12 (k + 1) _ _ _ (by omega) (by omega) hno2 hP hS (lv_sub hl [0, 1, 2, 3] rfl)
  exact L12 _ 0 _ _ _ (Nat.lt_succ_self _) (Nat.zero_le _) (fun j h => absurd h (Nat.not_lt_zero _)) hP hS (lv_sub hl [0, 1, 2, 3] rfl)
set_option maxHeartbeats 4000000 in
set_option maxRecDepth 100000 in
theorem c_X2_areSmallerNeutral (l : Launch) (D : va_G) (K : Nat → ClassId) (g : Nat → Nat) (ma : Nat → Int32) (nu de : Nat → Int64) (ne di : Nat → Int32) (n : Nat) (fr : Int32) (t : Nat) (sz : Nat) (ht : t < 64) : Met l yX2_areSmallerNeutral (.code yX2_areSmallerNeutral cX2_areSmallerNeutral 4 (some .boolean) :: TB) ({ frames := 0, cells := 0, slots := 0, locals := 0 } : Room) (va_Pc [.ref (g 0), .int (nI t)] (cP D K (WG K g ma nu de ne di (nI n) fr) sz)) (va_Qi (fun (z : Int32) (_ : Unit) => z = bI (∀ e, e < 6 → t.testBit e = true → ¬ (ne (cl1 t e)).toInt = 0)) (fun _ _ => True) (fun _ => False)) 0 0 (fun _ => False) := by
  refine Met.ofW (cc := cX2_areSmallerNeutral) (maxL := 4) (ret := (some .boolean)) (by decide) rfl ?_
  intro p e s m args below meth c s₁ B hml hv
  obtain ⟨rfl, hsz, hP, hK, hD0⟩ := hv
  have hx := B.exec
  have hb := B.bytes
  have hr := B.returns
  have hts := hts_tl (atoms_spec (ws := (.code yX2_areSmallerNeutral cX2_areSmallerNeutral 4 (some .boolean) :: TB)) B.pre)
  have hown : s.vm.findClass RX2 = some m.cls := findClass_of_methodNamed B.named
  have hlocks := B.notSynchronized
  subst hsz
  have hA : ∀ q : Nat, q < s.heap.size → (fun _ : Nat => False) q → False := fun _ _ h => h
  have hS : va_S (fun _ => False) s.heap s.heap [] := va_S.rf
  have hl := lv_entry ([.ref (g 0), .int (nI t)]) (n := 4) (Nat.le_of_ble_eq_true rfl)
  rw [lg_entry_eq]
  generalize (lg_sl ([.ref (g 0), .int (nI t)]) ++ List.replicate (4 - (lg_sl ([.ref (g 0), .int (nI t)])).length) Slot.unset).toArray = ls at hl ⊢
  have hl : lv_has ls 4 [(0, .ref (g 0)), (1, .int (nI t))] := hl
  refine lv_iconst (v := nI 0) hx hb dX2_areSmallerNeutral_0 (by decide) ?_
  refine lv_istore_n (lv' := [(2, .int (nI 0)), (0, .ref (g 0)), (1, .int (nI t))]) hx hb dX2_areSmallerNeutral_1 rfl hl (by decide) rfl (fun ls hl => ?_)
  have L2 : ∀ (fuel : Nat) (k : Nat) (ls : Array Slot), 6 - k < fuel → (k ≤ 6) → (∀ e, e < k → t.testBit e = true → ¬ (ne (cl1 t e)).toInt = 0) → lv_has ls 4 [(2, .int (nI k)), (0, .ref (g 0)), (1, .int (nI t))] → W p l e ({ frames := 0, cells := 0, slots := 0, locals := 0 } : Room) s m [.ref (g 0), .int (nI t)].toArray below meth c s.heap [] 0 0 (MQ below (va_Qi (fun (z : Int32) (_ : Unit) => z = bI (∀ e, e < 6 → t.testBit e = true → ¬ (ne (cl1 t e)).toInt = 0)) (fun _ _ => True) (fun _ => False)) [.ref (g 0), .int (nI t)].toArray s 0 0 (fun _ => False)) (F0 m 2 ls []) := by
    intro fuel
    induction fuel with
    | zero =>
      intro k ls hfu
      exact absurd hfu (Nat.not_lt_zero _)
    | succ fuel ih2 =>
      intro k ls hfu hk hal hl
      refine lv_iload_n hx hb dX2_areSmallerNeutral_2 rfl (lv_at hl 0 rfl) ?_
      refine lv_bipush (v := nI 6) hx hb dX2_areSmallerNeutral_3 (by decide) ?_
      refine b_icmp_ge hx hb (nI_toIntI (by omega)) (nI_toIntI (by omega)) dX2_areSmallerNeutral_5 (tgt := 48) (by decide) (fun c5 => ?_) (fun c5 => ?_)
      · refine lv_iconst (v := nI 1) hx hb dX2_areSmallerNeutral_48 (by decide) ?_
        exact W.zret (v := nI 1) hx hb hr (by decide) (fun t9 ht9 hW => ⟨⟨nI 1, (), rfl, bI_t (fun e he hb9 => hal e (by omega) hb9), trivial⟩, hS.F ht9⟩) hS.2.2 dX2_areSmallerNeutral_49
      refine lv_iload_n hx hb dX2_areSmallerNeutral_8 rfl (lv_at hl 2 rfl) ?_
      refine lv_iconst (v := nI 1) hx hb dX2_areSmallerNeutral_9 (by decide) ?_
      refine lv_iload_n hx hb dX2_areSmallerNeutral_10 rfl (lv_at hl 0 rfl) ?_
      refine lv_ishl hx hb dX2_areSmallerNeutral_11 ?_
      refine lv_iconst (v := (-1)) hx hb dX2_areSmallerNeutral_12 (by decide) ?_
      refine lv_ixor hx hb dX2_areSmallerNeutral_13 ?_
      refine lv_iand hx hb dX2_areSmallerNeutral_14 ?_
      refine t_i (w_clr t ht k (by omega)) ?_
      obtain ⟨hcl, hcy, hcn⟩ := cl1_lt t ht k (by omega)
      refine lv_istore_n (lv' := [(3, .int (nI (cl1 t k))), (2, .int (nI k)), (0, .ref (g 0)), (1, .int (nI t))]) hx hb dX2_areSmallerNeutral_15 rfl hl (by decide) rfl (fun ls hl => ?_)
      refine lv_iload_n hx hb dX2_areSmallerNeutral_16 rfl (lv_at hl 0 rfl) ?_
      refine lv_iload_n hx hb dX2_areSmallerNeutral_17 rfl (lv_at hl 3 rfl) ?_
      refine b_icmp_eq hx hb (nI_toIntI (by omega)) (nI_toIntI (by omega)) dX2_areSmallerNeutral_18 (tgt := 42) (by decide) (fun c18 => ?_) (fun c18 => ?_)
      · refine lv_iinc (v := nI (k + 1)) (lv' := [(2, .int (nI (k + 1))), (3, .int (nI (cl1 t k))), (0, .ref (g 0)), (1, .int (nI t))]) hx hb dX2_areSmallerNeutral_42 hl (k := 1) rfl (nI_add k 1) (by decide) rfl (fun ls hl => ?_)
        refine lv_goto (tgt := 2) hx hb dX2_areSmallerNeutral_45 (by decide) ?_
        have hal2 : ∀ e, e < k + 1 → t.testBit e = true → ¬ (ne (cl1 t e)).toInt = 0 := fun e he hb9 => by
          by_cases q : e = k
          · subst q; first | exact c37 | exact absurd c18 (by have := (hcy hb9).1; omega)
          · exact hal e (by omega) hb9
        exact ih2 (k + 1) _ (by omega) (by omega) hal2 (lv_sub hl [0, 2, 3] rfl)
      refine lv_iload_n hx hb dX2_areSmallerNeutral_21 rfl (lv_at hl 0 rfl) ?_
      refine b_if_lt hx hb (nI_toIntI (by omega)) dX2_areSmallerNeutral_22 (tgt := 42) (by decide) (fun c22 => absurd c22 (by omega)) (fun c22 => ?_)
      refine lv_iload_n hx hb dX2_areSmallerNeutral_25 rfl (lv_at hl 0 rfl) ?_
      refine lv_bipush (v := nI 64) hx hb dX2_areSmallerNeutral_26 (by decide) ?_
      refine b_icmp_ge hx hb (nI_toIntI (by omega)) (nI_toIntI (by omega)) dX2_areSmallerNeutral_28 (tgt := 42) (by decide) (fun c28 => absurd c28 (by omega)) (fun c28 => ?_)
      refine lv_aload_n hx hb dX2_areSmallerNeutral_31 rfl (lv_at hl 2 rfl) ?_
      refine va_get (D := D) (ci := 2) (C := RX2) (T := TX2) (N := 7) hx hb hts iX2 hown hK hP 0 rfl rfl 3 (by decide) (hts _ k_f_X2_22) (fun _ h9 => h9) rfl dX2_areSmallerNeutral_32 ?_
      refine lv_iload_n hx hb dX2_areSmallerNeutral_35 rfl (lv_at hl 0 rfl) ?_
      refine n_zald hx hb hK hP 4 2 rfl rfl (i := cl1 t k) (n := 64) (by omega) (by decide) dX2_areSmallerNeutral_36 ?_
      refine b_if_ne hx hb rfl dX2_areSmallerNeutral_37 (tgt := 42) (by decide) (fun c37 => ?_) (fun c37 => ?_)
      · refine lv_iinc (v := nI (k + 1)) (lv' := [(2, .int (nI (k + 1))), (3, .int (nI (cl1 t k))), (0, .ref (g 0)), (1, .int (nI t))]) hx hb dX2_areSmallerNeutral_42 hl (k := 1) rfl (nI_add k 1) (by decide) rfl (fun ls hl => ?_)
        refine lv_goto (tgt := 2) hx hb dX2_areSmallerNeutral_45 (by decide) ?_
        have hal2 : ∀ e, e < k + 1 → t.testBit e = true → ¬ (ne (cl1 t e)).toInt = 0 := fun e he hb9 => by
          by_cases q : e = k
          · subst q; first | exact c37 | exact absurd c18 (by have := (hcy hb9).1; omega)
          · exact hal e (by omega) hb9
        exact ih2 (k + 1) _ (by omega) (by omega) hal2 (lv_sub hl [0, 2, 3] rfl)
      refine lv_iconst (v := nI 0) hx hb dX2_areSmallerNeutral_40 (by decide) ?_
      exact W.zret (v := nI 0) hx hb hr (by decide) (fun t9 ht9 hW => ⟨⟨nI 0, (), rfl, bI_f (fun q => q k (by omega) (Classical.byContradiction fun z => c18 (by rw [hcn z])) c37), trivial⟩, hS.F ht9⟩) hS.2.2 dX2_areSmallerNeutral_41
  exact L2 _ 0 _ (Nat.lt_succ_self _) (by omega) (fun e h => absurd h (Nat.not_lt_zero _)) (lv_sub hl [0, 1, 2] rfl)
