/-! PlanetaryGearboxModel: its world, numbers -/
def WM (K : Nat → ClassId) (mm : Nat → Nat) (ta : Nat → Int32) (sl : Nat → Int32) (ss : Nat → Int32) (be : Nat → Int32) (ch : Int32) (th : Int32) (M : Nat → Nat → Int64) (rq : Int32) (cq : Int32) (pv : Nat → Int32) (so : Int32) (st : Nat → Int32) (gs : Int32) (gm : Nat → Int32) (gu : Nat → Int64) (gl : Nat → Int64) (aw : Nat → Int32) : va_W := [(mm 0, .inr (7, [.ref (mm 1), .ref (mm 2), .ref (mm 3), .ref (mm 4), .int ch, .int th, .ref (mm 5), .int rq, .int cq, .ref (mm 6), .int so, .ref (mm 7), .int gs, .ref (mm 8), .ref (mm 9), .ref (mm 10), .ref (mm 11)])), (mm 1, .inl (K 0, 36, .inl ta)), (mm 2, .inl (K 0, 72, .inl sl)), (mm 3, .inl (K 2, 2, .inl ss)), (mm 4, .inl (K 0, 20, .inl be)), (mm 5, .inl (K 1, 121, .inr (.inl (cL M)))), (mm 6, .inl (K 0, 10, .inl pv)), (mm 7, .inl (K 0, 64, .inl st)), (mm 8, .inl (K 0, 64, .inl gm)), (mm 9, .inl (K 1, 64, .inr (.inl gu))), (mm 10, .inl (K 1, 64, .inr (.inl gl))), (mm 11, .inl (K 0, 64, .inl aw))]
theorem shl1 : ∀ m, m ≤ 6 → nI 1 <<< (nI m &&& 31) = nI (2 ^ m) := by decide +kernel
set_option maxHeartbeats 4000000 in
set_option maxRecDepth 100000 in
theorem c_X7_in (l : Launch) (x lo hi : Int32)  : Met l yX7_in (.code yX7_in cX7_in 3 (some .boolean) :: TB) ({ frames := 0, cells := 0, slots := 0, locals := 0 } : Room) (va_Pc [.int x, .int lo, .int hi] (fun _ => True)) (va_Qi (fun (z : Int32) (_ : Unit) => z = bI (lo.toInt ≤ x.toInt ∧ x.toInt ≤ hi.toInt)) (fun _ _ => True) (fun _ => False)) 0 0 (fun _ => False) := by
  refine Met.ofW (cc := cX7_in) (maxL := 3) (ret := (some .boolean)) (by decide) rfl ?_
  intro p e s m args below meth c s₁ B hml hv
  obtain ⟨rfl, -⟩ := hv
  have hx := B.exec
  have hb := B.bytes
  have hr := B.returns
  have hts := hts_tl (atoms_spec (ws := (.code yX7_in cX7_in 3 (some .boolean) :: TB)) B.pre)
  have hown : s.vm.findClass RX7 = some m.cls := findClass_of_methodNamed B.named
  have hlocks := B.notSynchronized
  have hA : ∀ q : Nat, q < s.heap.size → (fun _ : Nat => False) q → False := fun _ _ h => h
  have hS : va_S (fun _ => False) s.heap s.heap [] := va_S.rf
  have hl := lv_entry ([.int x, .int lo, .int hi]) (n := 3) (Nat.le_of_ble_eq_true rfl)
  rw [lg_entry_eq]
  generalize (lg_sl ([.int x, .int lo, .int hi]) ++ List.replicate (3 - (lg_sl ([.int x, .int lo, .int hi])).length) Slot.unset).toArray = ls at hl ⊢
  have hl : lv_has ls 3 [(0, .int x), (1, .int lo), (2, .int hi)] := hl
  refine lv_iload_n hx hb dX7_in_0 rfl (lv_at hl 0 rfl) ?_
  refine lv_iload_n hx hb dX7_in_1 rfl (lv_at hl 1 rfl) ?_
  refine b_icmp_lt hx hb rfl rfl dX7_in_2 (tgt := 14) (by decide) (fun c2 => ?_) (fun c2 => ?_)
  · refine lv_iconst (v := nI 0) hx hb dX7_in_14 (by decide) ?_
    exact W.zret (v := nI 0) hx hb hr (by decide) (fun t9 ht9 hW => ⟨⟨nI 0, (), rfl, bI_f (by omega), trivial⟩, hS.F ht9⟩) hS.2.2 dX7_in_15
  refine lv_iload_n hx hb dX7_in_5 rfl (lv_at hl 0 rfl) ?_
  refine lv_iload_n hx hb dX7_in_6 rfl (lv_at hl 2 rfl) ?_
  refine b_icmp_gt hx hb rfl rfl dX7_in_7 (tgt := 14) (by decide) (fun c7 => ?_) (fun c7 => ?_)
  · refine lv_iconst (v := nI 0) hx hb dX7_in_14 (by decide) ?_
    exact W.zret (v := nI 0) hx hb hr (by decide) (fun t9 ht9 hW => ⟨⟨nI 0, (), rfl, bI_f (by omega), trivial⟩, hS.F ht9⟩) hS.2.2 dX7_in_15
  refine lv_iconst (v := nI 1) hx hb dX7_in_10 (by decide) ?_
  refine lv_goto (tgt := 15) hx hb dX7_in_11 (by decide) ?_
  exact W.zret (v := nI 1) hx hb hr (by decide) (fun t9 ht9 hW => ⟨⟨nI 1, (), rfl, bI_t (by omega), trivial⟩, hS.F ht9⟩) hS.2.2 dX7_in_15
set_option maxHeartbeats 4000000 in
set_option maxRecDepth 100000 in
theorem c_X7_isShaft (l : Launch) (x : Int32)  : Met l yX7_isShaft (.code yX7_isShaft cX7_isShaft 1 (some .boolean) :: TB) ({ frames := 1, cells := 0, slots := 0, locals := 22 } : Room) (va_Pc [.int x] (fun _ => True)) (va_Qi (fun (z : Int32) (_ : Unit) => z = bI (shf x)) (fun _ _ => True) (fun _ => False)) 0 0 (fun _ => False) := by
  refine Met.ofW (cc := cX7_isShaft) (maxL := 1) (ret := (some .boolean)) (by decide) rfl ?_
  intro p e s m args below meth c s₁ B hml hv
  obtain ⟨rfl, -⟩ := hv
  have hx := B.exec
  have hb := B.bytes
  have hr := B.returns
  have hts := hts_tl (atoms_spec (ws := (.code yX7_isShaft cX7_isShaft 1 (some .boolean) :: TB)) B.pre)
  have hown : s.vm.findClass RX7 = some m.cls := findClass_of_methodNamed B.named
  have hlocks := B.notSynchronized
  have hA : ∀ q : Nat, q < s.heap.size → (fun _ : Nat => False) q → False := fun _ _ h => h
  have hS : va_S (fun _ => False) s.heap s.heap [] := va_S.rf
  have hl := lv_entry ([.int x]) (n := 1) (Nat.le_of_ble_eq_true rfl)
  rw [lg_entry_eq]
  generalize (lg_sl ([.int x]) ++ List.replicate (1 - (lg_sl ([.int x])).length) Slot.unset).toArray = ls at hl ⊢
  have hl : lv_has ls 1 [(0, .int x)] := hl
  refine lv_iload_n hx hb dX7_isShaft_0 rfl (lv_at hl 0 rfl) ?_
  refine lv_iconst (v := nI 0) hx hb dX7_isShaft_1 (by decide) ?_
  refine lv_iconst (v := nI 5) hx hb dX7_isShaft_2 (by decide) ?_
  refine va_calli (va_runS (As := [.int x, .int (nI 0), .int (nI 5)]) (rest := []) ⟨hx, hb, hml, hown, hts⟩ (c_X7_in l x (nI 0) (nI 5) ) (va_cwS 3 hts (TB_S k_m_X7_49 k_st_X7_in k_in_X7 k_co_X7_in (fun _ h => h)) rfl rfl rfl (by decide +kernel) ⟨Nat.le_of_ble_eq_true rfl, Nat.le_of_ble_eq_true rfl⟩) ⟨tP_blind, tP_of⟩ rfl rfl hl.1 rfl (lv_room (Nat.le_of_ble_eq_true rfl)) dX7_isShaft_3 ⟨Nat.le_of_ble_eq_true rfl, Nat.le_of_ble_eq_true rfl⟩) hS (fun q _ h => absurd h id) (fun q h => absurd h id) (fun z u9 t9 H locs ht9 hvm hw hB hz1 hk1 hS => ?_)
  have hw := hw.trans (bI_iff (show _ ↔ shf x by rw [nI_toIntI (by omega), nI_toIntI (by omega), shf_iff]; omega))
  subst hw
  exact W.zret (v := bI (shf x)) hx hb hr (by rcases bI_01 (shf x) with e | e <;> rw [e] <;> decide) (fun t9 ht9 hW => ⟨⟨bI (shf x), (), rfl, rfl, trivial⟩, hS.F ht9⟩) hS.2.2 dX7_isShaft_6
set_option maxHeartbeats 4000000 in
set_option maxRecDepth 100000 in
theorem c_X7_isPart (l : Launch) (x : Int32)  : Met l yX7_isPart (.code yX7_isPart cX7_isPart 1 (some .boolean) :: TB) ({ frames := 1, cells := 0, slots := 0, locals := 22 } : Room) (va_Pc [.int x] (fun _ => True)) (va_Qi (fun (z : Int32) (_ : Unit) => z = bI (prt x)) (fun _ _ => True) (fun _ => False)) 0 0 (fun _ => False) := by
  refine Met.ofW (cc := cX7_isPart) (maxL := 1) (ret := (some .boolean)) (by decide) rfl ?_
  intro p e s m args below meth c s₁ B hml hv
  obtain ⟨rfl, -⟩ := hv
  have hx := B.exec
  have hb := B.bytes
  have hr := B.returns
  have hts := hts_tl (atoms_spec (ws := (.code yX7_isPart cX7_isPart 1 (some .boolean) :: TB)) B.pre)
  have hown : s.vm.findClass RX7 = some m.cls := findClass_of_methodNamed B.named
  have hlocks := B.notSynchronized
  have hA : ∀ q : Nat, q < s.heap.size → (fun _ : Nat => False) q → False := fun _ _ h => h
  have hS : va_S (fun _ => False) s.heap s.heap [] := va_S.rf
  have hl := lv_entry ([.int x]) (n := 1) (Nat.le_of_ble_eq_true rfl)
  rw [lg_entry_eq]
  generalize (lg_sl ([.int x]) ++ List.replicate (1 - (lg_sl ([.int x])).length) Slot.unset).toArray = ls at hl ⊢
  have hl : lv_has ls 1 [(0, .int x)] := hl
  refine lv_iload_n hx hb dX7_isPart_0 rfl (lv_at hl 0 rfl) ?_
  refine lv_iconst (v := nI 0) hx hb dX7_isPart_1 (by decide) ?_
  refine lv_iconst (v := nI 1) hx hb dX7_isPart_2 (by decide) ?_
  refine va_calli (va_runS (As := [.int x, .int (nI 0), .int (nI 1)]) (rest := []) ⟨hx, hb, hml, hown, hts⟩ (c_X7_in l x (nI 0) (nI 1) ) (va_cwS 3 hts (TB_S k_m_X7_49 k_st_X7_in k_in_X7 k_co_X7_in (fun _ h => h)) rfl rfl rfl (by decide +kernel) ⟨Nat.le_of_ble_eq_true rfl, Nat.le_of_ble_eq_true rfl⟩) ⟨tP_blind, tP_of⟩ rfl rfl hl.1 rfl (lv_room (Nat.le_of_ble_eq_true rfl)) dX7_isPart_3 ⟨Nat.le_of_ble_eq_true rfl, Nat.le_of_ble_eq_true rfl⟩) hS (fun q _ h => absurd h id) (fun q h => absurd h id) (fun z u9 t9 H locs ht9 hvm hw hB hz1 hk1 hS => ?_)
  have hw := hw.trans (bI_iff (show _ ↔ prt x by rw [nI_toIntI (by omega), nI_toIntI (by omega), prt_iff]; omega))
  subst hw
  exact W.zret (v := bI (prt x)) hx hb hr (by rcases bI_01 (prt x) with e | e <;> rw [e] <;> decide) (fun t9 ht9 hW => ⟨⟨bI (prt x), (), rfl, rfl, trivial⟩, hS.F ht9⟩) hS.2.2 dX7_isPart_6
set_option maxHeartbeats 4000000 in
set_option maxRecDepth 100000 in
theorem c_X7_has (l : Launch) (k g : Nat) (hk : k < 31) (hg : g < 2147483648) : Met l yX7_has (.code yX7_has cX7_has 2 (some .boolean) :: TB) ({ frames := 0, cells := 0, slots := 0, locals := 0 } : Room) (va_Pc [.int (nI g), .int (nI k)] (fun _ => True)) (va_Qi (fun (z : Int32) (_ : Unit) => z = bI (g.testBit k = true)) (fun _ _ => True) (fun _ => False)) 0 0 (fun _ => False) := by
  refine Met.ofW (cc := cX7_has) (maxL := 2) (ret := (some .boolean)) (by decide) rfl ?_
  intro p e s m args below meth c s₁ B hml hv
  obtain ⟨rfl, -⟩ := hv
  have hx := B.exec
  have hb := B.bytes
  have hr := B.returns
  have hts := hts_tl (atoms_spec (ws := (.code yX7_has cX7_has 2 (some .boolean) :: TB)) B.pre)
  have hown : s.vm.findClass RX7 = some m.cls := findClass_of_methodNamed B.named
  have hlocks := B.notSynchronized
  have hA : ∀ q : Nat, q < s.heap.size → (fun _ : Nat => False) q → False := fun _ _ h => h
  have hS : va_S (fun _ => False) s.heap s.heap [] := va_S.rf
  have hl := lv_entry ([.int (nI g), .int (nI k)]) (n := 2) (Nat.le_of_ble_eq_true rfl)
  rw [lg_entry_eq]
  generalize (lg_sl ([.int (nI g), .int (nI k)]) ++ List.replicate (2 - (lg_sl ([.int (nI g), .int (nI k)])).length) Slot.unset).toArray = ls at hl ⊢
  have hl : lv_has ls 2 [(0, .int (nI g)), (1, .int (nI k))] := hl
  refine lv_iload_n hx hb dX7_has_0 rfl (lv_at hl 0 rfl) ?_
  refine lv_iload_n hx hb dX7_has_1 rfl (lv_at hl 1 rfl) ?_
  refine lv_ishr hx hb dX7_has_2 ?_
  have hdl := div_lt (g := g) (k := k) hg
  refine t_i (sh_r hg (by omega)) ?_
  refine lv_iconst (v := nI 1) hx hb dX7_has_3 (by decide) ?_
  refine lv_iand hx hb dX7_has_4 ?_
  refine t_i (and_1 hdl) ?_
  have htb := tb_div g k
  generalize hX : g / 2 ^ k % 2 = X at htb ⊢
  have hX2 : X ≤ 1 := by rw [← hX]; omega
  refine lv_iconst (v := nI 1) hx hb dX7_has_5 (by decide) ?_
  refine b_icmp_ne hx hb (nI_toIntI (by omega)) (nI_toIntI (by omega)) dX7_has_6 (tgt := 13) (by decide) (fun c6 => ?_) (fun c6 => ?_)
  · refine lv_iconst (v := nI 0) hx hb dX7_has_13 (by decide) ?_
    exact W.zret (v := nI 0) hx hb hr (by decide) (fun t9 ht9 hW => ⟨⟨nI 0, (), rfl, bI_f (fun q => by rw [if_pos q] at htb; omega), trivial⟩, hS.F ht9⟩) hS.2.2 dX7_has_14
  refine lv_iconst (v := nI 1) hx hb dX7_has_9 (by decide) ?_
  refine lv_goto (tgt := 14) hx hb dX7_has_10 (by decide) ?_
  exact W.zret (v := nI 1) hx hb hr (by decide) (fun t9 ht9 hW => ⟨⟨nI 1, (), rfl, bI_t (by by_cases q : g.testBit k = true; exact q; rw [if_neg q] at htb; omega), trivial⟩, hS.F ht9⟩) hS.2.2 dX7_has_14
set_option maxHeartbeats 4000000 in
set_option maxRecDepth 100000 in
theorem c_X7_thrown (l : Launch) (D : va_G) (K : Nat → ClassId) (mm : Nat → Nat) (ta : Nat → Int32) (sl : Nat → Int32) (ss : Nat → Int32) (be : Nat → Int32) (ch : Int32) (th : Int32) (M : Nat → Nat → Int64) (rq : Int32) (cq : Int32) (pv : Nat → Int32) (so : Int32) (st : Nat → Int32) (gs : Int32) (gm : Nat → Int32) (gu : Nat → Int64) (gl : Nat → Int64) (aw : Nat → Int32) (sz : Nat)  : Met l yX7_thrown (.code yX7_thrown cX7_thrown 1 (some .int) :: TB) ({ frames := 0, cells := 0, slots := 0, locals := 0 } : Room) (va_Pc [.ref (mm 0)] (cP D K (WM K mm ta sl ss be ch th M rq cq pv so st gs gm gu gl aw) sz)) (va_Qi (fun (z : Int32) (_ : Unit) => z = th) (fun _ _ => True) (fun _ => False)) 0 0 (fun _ => False) := by
  refine Met.ofW (cc := cX7_thrown) (maxL := 1) (ret := (some .int)) (by decide) rfl ?_
  intro p e s m args below meth c s₁ B hml hv
  obtain ⟨rfl, hsz, hP, hK, hD0⟩ := hv
  have hx := B.exec
  have hb := B.bytes
  have hr := B.returns
  have hts := hts_tl (atoms_spec (ws := (.code yX7_thrown cX7_thrown 1 (some .int) :: TB)) B.pre)
  have hown : s.vm.findClass RX7 = some m.cls := findClass_of_methodNamed B.named
  have hlocks := B.notSynchronized
  subst hsz
  have hA : ∀ q : Nat, q < s.heap.size → (fun _ : Nat => False) q → False := fun _ _ h => h
  have hS : va_S (fun _ => False) s.heap s.heap [] := va_S.rf
  have hl := lv_entry ([.ref (mm 0)]) (n := 1) (Nat.le_of_ble_eq_true rfl)
  rw [lg_entry_eq]
  generalize (lg_sl ([.ref (mm 0)]) ++ List.replicate (1 - (lg_sl ([.ref (mm 0)])).length) Slot.unset).toArray = ls at hl ⊢
  have hl : lv_has ls 1 [(0, .ref (mm 0))] := hl
  refine lv_aload_n hx hb dX7_thrown_0 rfl (lv_at hl 0 rfl) ?_
  refine va_get (D := D) (ci := 7) (C := RX7) (T := TX7) (N := 17) hx hb hts iX7 hown hK hP 0 rfl rfl 5 (by decide) (hts _ k_f_X7_45) (fun _ h9 => h9) rfl dX7_thrown_1 ?_
  exact W.iret (v := th) hx hb hr (fun t9 ht9 hW => ⟨⟨th, (), rfl, rfl, trivial⟩, hS.F ht9⟩) hS.2.2 dX7_thrown_4
set_option maxHeartbeats 4000000 in
set_option maxRecDepth 100000 in
theorem c_X7_isElement (l : Launch) (D : va_G) (K : Nat → ClassId) (mm : Nat → Nat) (ta : Nat → Int32) (sl : Nat → Int32) (ss : Nat → Int32) (be : Nat → Int32) (ch : Int32) (th : Int32) (M : Nat → Nat → Int64) (rq : Int32) (cq : Int32) (pv : Nat → Int32) (so : Int32) (st : Nat → Int32) (gs : Int32) (gm : Nat → Int32) (gu : Nat → Int64) (gl : Nat → Int64) (aw : Nat → Int32) (m1 : Nat) (x : Int32) (sz : Nat) (hm : m1 ≤ 6) (h34 : ta 34 = nI m1) : Met l yX7_isElement (.code yX7_isElement cX7_isElement 2 (some .boolean) :: TB) ({ frames := 1, cells := 0, slots := 0, locals := 22 } : Room) (va_Pc [.ref (mm 0), .int x] (cP D K (WM K mm ta sl ss be ch th M rq cq pv so st gs gm gu gl aw) sz)) (va_Qi (fun (z : Int32) (_ : Unit) => z = bI (∃ k : Nat, k < m1 ∧ x = nI k)) (fun _ _ => True) (fun _ => False)) 0 0 (fun _ => False) := by
  refine Met.ofW (cc := cX7_isElement) (maxL := 2) (ret := (some .boolean)) (by decide) rfl ?_
  intro p e s m args below meth c s₁ B hml hv
  obtain ⟨rfl, hsz, hP, hK, hD0⟩ := hv
  have hx := B.exec
  have hb := B.bytes
  have hr := B.returns
  have hts := hts_tl (atoms_spec (ws := (.code yX7_isElement cX7_isElement 2 (some .boolean) :: TB)) B.pre)
  have hown : s.vm.findClass RX7 = some m.cls := findClass_of_methodNamed B.named
  have hlocks := B.notSynchronized
  subst hsz
  have hA : ∀ q : Nat, q < s.heap.size → (fun _ : Nat => False) q → False := fun _ _ h => h
  have hS : va_S (fun _ => False) s.heap s.heap [] := va_S.rf
  have hl := lv_entry ([.ref (mm 0), .int x]) (n := 2) (Nat.le_of_ble_eq_true rfl)
  rw [lg_entry_eq]
  generalize (lg_sl ([.ref (mm 0), .int x]) ++ List.replicate (2 - (lg_sl ([.ref (mm 0), .int x])).length) Slot.unset).toArray = ls at hl ⊢
  have hl : lv_has ls 2 [(0, .ref (mm 0)), (1, .int x)] := hl
  refine lv_iload_n hx hb dX7_isElement_0 rfl (lv_at hl 1 rfl) ?_
  refine lv_iconst (v := nI 0) hx hb dX7_isElement_1 (by decide) ?_
  refine lv_aload_n hx hb dX7_isElement_2 rfl (lv_at hl 0 rfl) ?_
  refine va_get (D := D) (ci := 7) (C := RX7) (T := TX7) (N := 17) hx hb hts iX7 hown hK hP 0 rfl rfl 0 (by decide) (hts _ k_f_X7_7) (fun _ h9 => h9) rfl dX7_isElement_3 ?_
  refine lv_bipush (v := nI 34) hx hb dX7_isElement_6 (by decide) ?_
  refine n_iald hx hb hK hP 1 0 rfl rfl (i := 34) (n := 36) (by omega) (by decide) dX7_isElement_8 ?_
  refine t_i (show _ = nI m1 from h34) ?_
  refine lv_iconst (v := nI 1) hx hb dX7_isElement_9 (by decide) ?_
  refine lv_isub hx hb dX7_isElement_10 ?_
  refine va_calli (va_runS (As := [.int x, .int (nI 0), .int ((nI m1) - (nI 1))]) (rest := []) ⟨hx, hb, hml, hown, hts⟩ (c_X7_in l x (nI 0) (nI m1 - nI 1) ) (va_cwS 3 hts (TB_S k_m_X7_49 k_st_X7_in k_in_X7 k_co_X7_in (fun _ h => h)) rfl rfl rfl (by decide +kernel) ⟨Nat.le_of_ble_eq_true rfl, Nat.le_of_ble_eq_true rfl⟩) ⟨tP_blind, tP_of⟩ rfl rfl hl.1 rfl (lv_room (Nat.le_of_ble_eq_true rfl)) dX7_isElement_11 ⟨Nat.le_of_ble_eq_true rfl, Nat.le_of_ble_eq_true rfl⟩) hS (fun q _ h => absurd h id) (fun q h => absurd h id) (fun z u9 t9 H locs ht9 hvm hw hB hz1 hk1 hS => ?_)
  have hP := P_same hP hk1
  have hp : (nI m1 - nI 1).toInt = (m1 : Int) - 1 := nP_I (by omega)
  have hw := hw.trans (bI_iff (show _ ↔ (∃ k : Nat, k < m1 ∧ x = nI k) by
    rw [hp, nI_toIntI (by omega)]
    exact ⟨fun z => ⟨x.toInt.toNat, by omega, nIt (by omega)⟩, fun ⟨k, hk, e⟩ => by have := nI_neg e (by omega); omega⟩))
  subst hw
  exact W.zret (v := bI (∃ k : Nat, k < m1 ∧ x = nI k)) hx hb hr (by rcases bI_01 (∃ k : Nat, k < m1 ∧ x = nI k) with e | e <;> rw [e] <;> decide) (fun t9 ht9 hW => ⟨⟨bI (∃ k : Nat, k < m1 ∧ x = nI k), (), rfl, rfl, trivial⟩, hS.F ht9⟩) hS.2.2 dX7_isElement_14
set_option maxHeartbeats 4000000 in
set_option maxRecDepth 100000 in
theorem c_X7_isMask (l : Launch) (D : va_G) (K : Nat → ClassId) (mm : Nat → Nat) (ta : Nat → Int32) (sl : Nat → Int32) (ss : Nat → Int32) (be : Nat → Int32) (ch : Int32) (th : Int32) (M : Nat → Nat → Int64) (rq : Int32) (cq : Int32) (pv : Nat → Int32) (so : Int32) (st : Nat → Int32) (gs : Int32) (gm : Nat → Int32) (gu : Nat → Int64) (gl : Nat → Int64) (aw : Nat → Int32) (m1 : Nat) (x : Int32) (sz : Nat) (hm : m1 ≤ 6) (h34 : ta 34 = nI m1) : Met l yX7_isMask (.code yX7_isMask cX7_isMask 2 (some .boolean) :: TB) ({ frames := 1, cells := 0, slots := 0, locals := 22 } : Room) (va_Pc [.ref (mm 0), .int x] (cP D K (WM K mm ta sl ss be ch th M rq cq pv so st gs gm gu gl aw) sz)) (va_Qi (fun (z : Int32) (_ : Unit) => z = bI (∃ k : Nat, k < 2 ^ m1 ∧ x = nI k)) (fun _ _ => True) (fun _ => False)) 0 0 (fun _ => False) := by
  refine Met.ofW (cc := cX7_isMask) (maxL := 2) (ret := (some .boolean)) (by decide) rfl ?_
  intro p e s m args below meth c s₁ B hml hv
  obtain ⟨rfl, hsz, hP, hK, hD0⟩ := hv
  have hx := B.exec
  have hb := B.bytes
  have hr := B.returns
  have hts := hts_tl (atoms_spec (ws := (.code yX7_isMask cX7_isMask 2 (some .boolean) :: TB)) B.pre)
  have hown : s.vm.findClass RX7 = some m.cls := findClass_of_methodNamed B.named
  have hlocks := B.notSynchronized
  subst hsz
  have hA : ∀ q : Nat, q < s.heap.size → (fun _ : Nat => False) q → False := fun _ _ h => h
  have hS : va_S (fun _ => False) s.heap s.heap [] := va_S.rf
  have hl := lv_entry ([.ref (mm 0), .int x]) (n := 2) (Nat.le_of_ble_eq_true rfl)
  rw [lg_entry_eq]
  generalize (lg_sl ([.ref (mm 0), .int x]) ++ List.replicate (2 - (lg_sl ([.ref (mm 0), .int x])).length) Slot.unset).toArray = ls at hl ⊢
  have hl : lv_has ls 2 [(0, .ref (mm 0)), (1, .int x)] := hl
  refine lv_iload_n hx hb dX7_isMask_0 rfl (lv_at hl 1 rfl) ?_
  refine lv_iconst (v := nI 0) hx hb dX7_isMask_1 (by decide) ?_
  refine lv_iconst (v := nI 1) hx hb dX7_isMask_2 (by decide) ?_
  refine lv_aload_n hx hb dX7_isMask_3 rfl (lv_at hl 0 rfl) ?_
  refine va_get (D := D) (ci := 7) (C := RX7) (T := TX7) (N := 17) hx hb hts iX7 hown hK hP 0 rfl rfl 0 (by decide) (hts _ k_f_X7_7) (fun _ h9 => h9) rfl dX7_isMask_4 ?_
  refine lv_bipush (v := nI 34) hx hb dX7_isMask_7 (by decide) ?_
  refine n_iald hx hb hK hP 1 0 rfl rfl (i := 34) (n := 36) (by omega) (by decide) dX7_isMask_9 ?_
  refine t_i (show _ = nI m1 from h34) ?_
  refine lv_ishl hx hb dX7_isMask_10 ?_
  refine t_i (shl1 m1 hm) ?_
  refine lv_iconst (v := nI 1) hx hb dX7_isMask_11 (by decide) ?_
  refine lv_isub hx hb dX7_isMask_12 ?_
  refine va_calli (va_runS (As := [.int x, .int (nI 0), .int ((nI (2 ^ m1)) - (nI 1))]) (rest := []) ⟨hx, hb, hml, hown, hts⟩ (c_X7_in l x (nI 0) (nI (2 ^ m1) - nI 1) ) (va_cwS 3 hts (TB_S k_m_X7_49 k_st_X7_in k_in_X7 k_co_X7_in (fun _ h => h)) rfl rfl rfl (by decide +kernel) ⟨Nat.le_of_ble_eq_true rfl, Nat.le_of_ble_eq_true rfl⟩) ⟨tP_blind, tP_of⟩ rfl rfl hl.1 rfl (lv_room (Nat.le_of_ble_eq_true rfl)) dX7_isMask_13 ⟨Nat.le_of_ble_eq_true rfl, Nat.le_of_ble_eq_true rfl⟩) hS (fun q _ h => absurd h id) (fun q h => absurd h id) (fun z u9 t9 H locs ht9 hvm hw hB hz1 hk1 hS => ?_)
  have hP := P_same hP hk1
  have hp6 : 2 ^ m1 ≤ 64 := Nat.pow_le_pow_right (show 0 < 2 by decide) hm
  have hp : (nI (2 ^ m1) - nI 1).toInt = ((2 ^ m1 : Nat) : Int) - 1 := nP_I (by omega)
  have hw := hw.trans (bI_iff (show _ ↔ (∃ k : Nat, k < 2 ^ m1 ∧ x = nI k) by
    rw [hp, nI_toIntI (by omega)]
    exact ⟨fun z => ⟨x.toInt.toNat, by omega, nIt (by omega)⟩, fun ⟨k, hk, e⟩ => by have := nI_neg e (by omega); omega⟩))
  subst hw
  exact W.zret (v := bI (∃ k : Nat, k < 2 ^ m1 ∧ x = nI k)) hx hb hr (by rcases bI_01 (∃ k : Nat, k < 2 ^ m1 ∧ x = nI k) with e | e <;> rw [e] <;> decide) (fun t9 ht9 hW => ⟨⟨bI (∃ k : Nat, k < 2 ^ m1 ∧ x = nI k), (), rfl, rfl, trivial⟩, hS.F ht9⟩) hS.2.2 dX7_isMask_16
set_option maxHeartbeats 4000000 in
set_option maxRecDepth 100000 in
theorem c_X7_divisor (l : Launch) (x y : Int64) (hx0 : -9223372036854775808 < x.toInt) (hy0 : -9223372036854775808 < y.toInt) : Met l yX7_divisor (.code yX7_divisor cX7_divisor 10 (some .long) :: TB) ({ frames := 0, cells := 0, slots := 0, locals := 0 } : Room) (va_Pc [.long x, .long y] (fun _ => True)) (va_Ql (fun (q : Int64) (_ : Unit) => q = lN (Nat.gcd x.toInt.natAbs y.toInt.natAbs)) (fun _ _ => True) (fun _ => False)) 0 0 (fun _ => False) := by
  refine Met.ofW (cc := cX7_divisor) (maxL := 10) (ret := (some .long)) (by decide) rfl ?_
  intro p e s m args below meth c s₁ B hml hv
  obtain ⟨rfl, -⟩ := hv
  have hx := B.exec
  have hb := B.bytes
  have hr := B.returns
  have hts := hts_tl (atoms_spec (ws := (.code yX7_divisor cX7_divisor 10 (some .long) :: TB)) B.pre)
  have hown : s.vm.findClass RX7 = some m.cls := findClass_of_methodNamed B.named
  have hlocks := B.notSynchronized
  have hA : ∀ q : Nat, q < s.heap.size → (fun _ : Nat => False) q → False := fun _ _ h => h
  have hS : va_S (fun _ => False) s.heap s.heap [] := va_S.rf
  have hl := lv_entry ([.long x, .long y]) (n := 10) (Nat.le_of_ble_eq_true rfl)
  rw [lg_entry_eq]
  generalize (lg_sl ([.long x, .long y]) ++ List.replicate (10 - (lg_sl ([.long x, .long y])).length) Slot.unset).toArray = ls at hl ⊢
  have hl : lv_has ls 10 [(0, .long x), (2, .long y)] := hl
  have hxb : x.toInt.natAbs < 9223372036854775808 := by have := Int64.toInt_lt x; omega
  have hyb : y.toInt.natAbs < 9223372036854775808 := by have := Int64.toInt_lt y; omega
  refine lv_lload_n hx hb dX7_divisor_0 rfl (lv_at hl 0 rfl) ?_
  refine lv_lconst (v := 0) hx hb dX7_divisor_1 (by decide) ?_
  refine b_lcmp_ge hx hb rfl (show (0 : Int64).toInt = 0 by decide) dX7_divisor_2 dX7_divisor_3 (tgt := 11) (by decide) (fun c2 => ?_) (fun c2 => ?_)
  · refine lv_lload_n hx hb dX7_divisor_11 rfl (lv_at hl 0 rfl) ?_
    refine t_l (L_pos c2) ?_
    refine lv_lstore (lv' := [(4, .long (lN x.toInt.natAbs)), (0, .long x), (2, .long y)]) hx hb dX7_divisor_12 hl (by decide) rfl (fun ls hl => ?_)
    refine lv_lload_n hx hb dX7_divisor_14 rfl (lv_at hl 2 rfl) ?_
    refine lv_lconst (v := 0) hx hb dX7_divisor_15 (by decide) ?_
    refine b_lcmp_ge hx hb rfl (show (0 : Int64).toInt = 0 by decide) dX7_divisor_16 dX7_divisor_17 (tgt := 25) (by decide) (fun c16 => ?_) (fun c16 => ?_)
    · refine lv_lload_n hx hb dX7_divisor_25 rfl (lv_at hl 2 rfl) ?_
      refine t_l (L_pos c16) ?_
      refine lv_lstore (lv' := [(6, .long (lN y.toInt.natAbs)), (4, .long (lN x.toInt.natAbs)), (0, .long x), (2, .long y)]) hx hb dX7_divisor_26 hl (by decide) rfl (fun ls hl => ?_)
      have L28 : ∀ (fuel : Nat) (X : Nat) (Y : Nat) (ls : Array Slot), Y < fuel → (X < 9223372036854775808) → (Y < 9223372036854775808) → (Nat.gcd X Y = Nat.gcd x.toInt.natAbs y.toInt.natAbs) → lv_has ls 10 [(6, .long (lN Y)), (4, .long (lN X))] → W p l e ({ frames := 0, cells := 0, slots := 0, locals := 0 } : Room) s m [.long x, .long y].toArray below meth c s.heap [] 0 0 (MQ below (va_Ql (fun (q : Int64) (_ : Unit) => q = lN (Nat.gcd x.toInt.natAbs y.toInt.natAbs)) (fun _ _ => True) (fun _ => False)) [.long x, .long y].toArray s 0 0 (fun _ => False)) (F0 m 28 ls []) := by
        intro fuel
        induction fuel with
        | zero =>
          intro X Y ls hfu
          exact absurd hfu (Nat.not_lt_zero _)
        | succ fuel ih28 =>
          intro X Y ls hfu hX hY hg hl
          refine lv_lload hx hb dX7_divisor_28 (lv_at hl 0 rfl) ?_
          refine lv_lconst (v := 0) hx hb dX7_divisor_30 (by decide) ?_
          refine b_lcmp_eq hx hb rfl (show (0 : Int64).toInt = 0 by decide) dX7_divisor_31 dX7_divisor_32 (tgt := 53) (by decide) (fun c31 => ?_) (fun c31 => ?_)
          · refine lv_lload hx hb dX7_divisor_53 (lv_at hl 1 rfl) ?_
            have hY0 : Y = 0 := by have c31 : (lN Y).toInt = 0 := c31; rw [lN_toI hY] at c31; omega
            exact W.lret (v := lN X) hx hb hr (fun t9 ht9 hW => ⟨⟨lN X, (), rfl, by rw [← hg, hY0]; exact congrArg lN (Nat.gcd_zero_right X).symm, trivial⟩, hS.F ht9⟩) hS.2.2 dX7_divisor_55
          refine lv_lload hx hb dX7_divisor_35 (lv_at hl 1 rfl) ?_
          refine lv_lload hx hb dX7_divisor_37 (lv_at hl 0 rfl) ?_
          refine lv_lrem hx hb dX7_divisor_39 (fun q => c31 (by rw [q]; decide)) ?_
          have hYp : 0 < Y := by
            rcases Nat.eq_zero_or_pos Y with q | q
            · exact absurd (by rw [q]; decide) c31
            · exact q
          refine t_l (pk_lRem hX hYp hY) ?_
          have hm := Nat.mod_lt X hYp
          refine lv_lstore (lv' := [(8, .long (lN (X % Y))), (6, .long (lN Y)), (4, .long (lN X))]) hx hb dX7_divisor_40 hl (by decide) rfl (fun ls hl => ?_)
          refine lv_lload hx hb dX7_divisor_42 (lv_at hl 1 rfl) ?_
          refine lv_lstore (lv' := [(4, .long (lN Y)), (8, .long (lN (X % Y))), (6, .long (lN Y))]) hx hb dX7_divisor_44 hl (by decide) rfl (fun ls hl => ?_)
          refine lv_lload hx hb dX7_divisor_46 (lv_at hl 1 rfl) ?_
          refine lv_lstore (lv' := [(6, .long (lN (X % Y))), (4, .long (lN Y)), (8, .long (lN (X % Y)))]) hx hb dX7_divisor_48 hl (by decide) rfl (fun ls hl => ?_)
          refine lv_goto (tgt := 28) hx hb dX7_divisor_50 (by decide) ?_
          exact ih28 Y (X % Y) _ (by omega) hY (by omega) ((gcd_step X Y).trans hg) (lv_sub hl [0, 1] rfl)
      exact L28 _ x.toInt.natAbs y.toInt.natAbs _ (Nat.lt_succ_self _) hxb hyb rfl (lv_sub hl [0, 1] rfl)
    refine lv_lload_n hx hb dX7_divisor_20 rfl (lv_at hl 2 rfl) ?_
    refine lv_lneg hx hb dX7_divisor_21 ?_
    refine lv_goto (tgt := 26) hx hb dX7_divisor_22 (by decide) ?_
    refine t_l (L_negA c16 hy0) ?_
    refine lv_lstore (lv' := [(6, .long (lN y.toInt.natAbs)), (4, .long (lN x.toInt.natAbs)), (0, .long x), (2, .long y)]) hx hb dX7_divisor_26 hl (by decide) rfl (fun ls hl => ?_)
    have L28 : ∀ (fuel : Nat) (X : Nat) (Y : Nat) (ls : Array Slot), Y < fuel → (X < 9223372036854775808) → (Y < 9223372036854775808) → (Nat.gcd X Y = Nat.gcd x.toInt.natAbs y.toInt.natAbs) → lv_has ls 10 [(6, .long (lN Y)), (4, .long (lN X))] → W p l e ({ frames := 0, cells := 0, slots := 0, locals := 0 } : Room) s m [.long x, .long y].toArray below meth c s.heap [] 0 0 (MQ below (va_Ql (fun (q : Int64) (_ : Unit) => q = lN (Nat.gcd x.toInt.natAbs y.toInt.natAbs)) (fun _ _ => True) (fun _ => False)) [.long x, .long y].toArray s 0 0 (fun _ => False)) (F0 m 28 ls []) := by
      intro fuel
      induction fuel with
      | zero =>
        intro X Y ls hfu
        exact absurd hfu (Nat.not_lt_zero _)
      | succ fuel ih28 =>
        intro X Y ls hfu hX hY hg hl
        refine lv_lload hx hb dX7_divisor_28 (lv_at hl 0 rfl) ?_
        refine lv_lconst (v := 0) hx hb dX7_divisor_30 (by decide) ?_
        refine b_lcmp_eq hx hb rfl (show (0 : Int64).toInt = 0 by decide) dX7_divisor_31 dX7_divisor_32 (tgt := 53) (by decide) (fun c31 => ?_) (fun c31 => ?_)
        · refine lv_lload hx hb dX7_divisor_53 (lv_at hl 1 rfl) ?_
          have hY0 : Y = 0 := by have c31 : (lN Y).toInt = 0 := c31; rw [lN_toI hY] at c31; omega
          exact W.lret (v := lN X) hx hb hr (fun t9 ht9 hW => ⟨⟨lN X, (), rfl, by rw [← hg, hY0]; exact congrArg lN (Nat.gcd_zero_right X).symm, trivial⟩, hS.F ht9⟩) hS.2.2 dX7_divisor_55
        refine lv_lload hx hb dX7_divisor_35 (lv_at hl 1 rfl) ?_
        refine lv_lload hx hb dX7_divisor_37 (lv_at hl 0 rfl) ?_
        refine lv_lrem hx hb dX7_divisor_39 (fun q => c31 (by rw [q]; decide)) ?_
        have hYp : 0 < Y := by
          rcases Nat.eq_zero_or_pos Y with q | q
          · exact absurd (by rw [q]; decide) c31
          · exact q
        refine t_l (pk_lRem hX hYp hY) ?_
        have hm := Nat.mod_lt X hYp
        refine lv_lstore (lv' := [(8, .long (lN (X % Y))), (6, .long (lN Y)), (4, .long (lN X))]) hx hb dX7_divisor_40 hl (by decide) rfl (fun ls hl => ?_)
        refine lv_lload hx hb dX7_divisor_42 (lv_at hl 1 rfl) ?_
        refine lv_lstore (lv' := [(4, .long (lN Y)), (8, .long (lN (X % Y))), (6, .long (lN Y))]) hx hb dX7_divisor_44 hl (by decide) rfl (fun ls hl => ?_)
        refine lv_lload hx hb dX7_divisor_46 (lv_at hl 1 rfl) ?_
        refine lv_lstore (lv' := [(6, .long (lN (X % Y))), (4, .long (lN Y)), (8, .long (lN (X % Y)))]) hx hb dX7_divisor_48 hl (by decide) rfl (fun ls hl => ?_)
        refine lv_goto (tgt := 28) hx hb dX7_divisor_50 (by decide) ?_
        exact ih28 Y (X % Y) _ (by omega) hY (by omega) ((gcd_step X Y).trans hg) (lv_sub hl [0, 1] rfl)
    exact L28 _ x.toInt.natAbs y.toInt.natAbs _ (Nat.lt_succ_self _) hxb hyb rfl (lv_sub hl [0, 1] rfl)
  refine lv_lload_n hx hb dX7_divisor_6 rfl (lv_at hl 0 rfl) ?_
  refine lv_lneg hx hb dX7_divisor_7 ?_
  refine lv_goto (tgt := 12) hx hb dX7_divisor_8 (by decide) ?_
  refine t_l (L_negA c2 hx0) ?_
  refine lv_lstore (lv' := [(4, .long (lN x.toInt.natAbs)), (0, .long x), (2, .long y)]) hx hb dX7_divisor_12 hl (by decide) rfl (fun ls hl => ?_)
  refine lv_lload_n hx hb dX7_divisor_14 rfl (lv_at hl 2 rfl) ?_
  refine lv_lconst (v := 0) hx hb dX7_divisor_15 (by decide) ?_
  refine b_lcmp_ge hx hb rfl (show (0 : Int64).toInt = 0 by decide) dX7_divisor_16 dX7_divisor_17 (tgt := 25) (by decide) (fun c16 => ?_) (fun c16 => ?_)
  · refine lv_lload_n hx hb dX7_divisor_25 rfl (lv_at hl 2 rfl) ?_
    refine t_l (L_pos c16) ?_
    refine lv_lstore (lv' := [(6, .long (lN y.toInt.natAbs)), (4, .long (lN x.toInt.natAbs)), (0, .long x), (2, .long y)]) hx hb dX7_divisor_26 hl (by decide) rfl (fun ls hl => ?_)
    have L28 : ∀ (fuel : Nat) (X : Nat) (Y : Nat) (ls : Array Slot), Y < fuel → (X < 9223372036854775808) → (Y < 9223372036854775808) → (Nat.gcd X Y = Nat.gcd x.toInt.natAbs y.toInt.natAbs) → lv_has ls 10 [(6, .long (lN Y)), (4, .long (lN X))] → W p l e ({ frames := 0, cells := 0, slots := 0, locals := 0 } : Room) s m [.long x, .long y].toArray below meth c s.heap [] 0 0 (MQ below (va_Ql (fun (q : Int64) (_ : Unit) => q = lN (Nat.gcd x.toInt.natAbs y.toInt.natAbs)) (fun _ _ => True) (fun _ => False)) [.long x, .long y].toArray s 0 0 (fun _ => False)) (F0 m 28 ls []) := by
      intro fuel
      induction fuel with
      | zero =>
        intro X Y ls hfu
        exact absurd hfu (Nat.not_lt_zero _)
      | succ fuel ih28 =>
        intro X Y ls hfu hX hY hg hl
        refine lv_lload hx hb dX7_divisor_28 (lv_at hl 0 rfl) ?_
        refine lv_lconst (v := 0) hx hb dX7_divisor_30 (by decide) ?_
        refine b_lcmp_eq hx hb rfl (show (0 : Int64).toInt = 0 by decide) dX7_divisor_31 dX7_divisor_32 (tgt := 53) (by decide) (fun c31 => ?_) (fun c31 => ?_)
        · refine lv_lload hx hb dX7_divisor_53 (lv_at hl 1 rfl) ?_
          have hY0 : Y = 0 := by have c31 : (lN Y).toInt = 0 := c31; rw [lN_toI hY] at c31; omega
          exact W.lret (v := lN X) hx hb hr (fun t9 ht9 hW => ⟨⟨lN X, (), rfl, by rw [← hg, hY0]; exact congrArg lN (Nat.gcd_zero_right X).symm, trivial⟩, hS.F ht9⟩) hS.2.2 dX7_divisor_55
        refine lv_lload hx hb dX7_divisor_35 (lv_at hl 1 rfl) ?_
        refine lv_lload hx hb dX7_divisor_37 (lv_at hl 0 rfl) ?_
        refine lv_lrem hx hb dX7_divisor_39 (fun q => c31 (by rw [q]; decide)) ?_
        have hYp : 0 < Y := by
          rcases Nat.eq_zero_or_pos Y with q | q
          · exact absurd (by rw [q]; decide) c31
          · exact q
        refine t_l (pk_lRem hX hYp hY) ?_
        have hm := Nat.mod_lt X hYp
        refine lv_lstore (lv' := [(8, .long (lN (X % Y))), (6, .long (lN Y)), (4, .long (lN X))]) hx hb dX7_divisor_40 hl (by decide) rfl (fun ls hl => ?_)
        refine lv_lload hx hb dX7_divisor_42 (lv_at hl 1 rfl) ?_
        refine lv_lstore (lv' := [(4, .long (lN Y)), (8, .long (lN (X % Y))), (6, .long (lN Y))]) hx hb dX7_divisor_44 hl (by decide) rfl (fun ls hl => ?_)
        refine lv_lload hx hb dX7_divisor_46 (lv_at hl 1 rfl) ?_
        refine lv_lstore (lv' := [(6, .long (lN (X % Y))), (4, .long (lN Y)), (8, .long (lN (X % Y)))]) hx hb dX7_divisor_48 hl (by decide) rfl (fun ls hl => ?_)
        refine lv_goto (tgt := 28) hx hb dX7_divisor_50 (by decide) ?_
        exact ih28 Y (X % Y) _ (by omega) hY (by omega) ((gcd_step X Y).trans hg) (lv_sub hl [0, 1] rfl)
    exact L28 _ x.toInt.natAbs y.toInt.natAbs _ (Nat.lt_succ_self _) hxb hyb rfl (lv_sub hl [0, 1] rfl)
  refine lv_lload_n hx hb dX7_divisor_20 rfl (lv_at hl 2 rfl) ?_
  refine lv_lneg hx hb dX7_divisor_21 ?_
  refine lv_goto (tgt := 26) hx hb dX7_divisor_22 (by decide) ?_
  refine t_l (L_negA c16 hy0) ?_
  refine lv_lstore (lv' := [(6, .long (lN y.toInt.natAbs)), (4, .long (lN x.toInt.natAbs)), (0, .long x), (2, .long y)]) hx hb dX7_divisor_26 hl (by decide) rfl (fun ls hl => ?_)
  have L28 : ∀ (fuel : Nat) (X : Nat) (Y : Nat) (ls : Array Slot), Y < fuel → (X < 9223372036854775808) → (Y < 9223372036854775808) → (Nat.gcd X Y = Nat.gcd x.toInt.natAbs y.toInt.natAbs) → lv_has ls 10 [(6, .long (lN Y)), (4, .long (lN X))] → W p l e ({ frames := 0, cells := 0, slots := 0, locals := 0 } : Room) s m [.long x, .long y].toArray below meth c s.heap [] 0 0 (MQ below (va_Ql (fun (q : Int64) (_ : Unit) => q = lN (Nat.gcd x.toInt.natAbs y.toInt.natAbs)) (fun _ _ => True) (fun _ => False)) [.long x, .long y].toArray s 0 0 (fun _ => False)) (F0 m 28 ls []) := by
    intro fuel
    induction fuel with
    | zero =>
      intro X Y ls hfu
      exact absurd hfu (Nat.not_lt_zero _)
    | succ fuel ih28 =>
      intro X Y ls hfu hX hY hg hl
      refine lv_lload hx hb dX7_divisor_28 (lv_at hl 0 rfl) ?_
      refine lv_lconst (v := 0) hx hb dX7_divisor_30 (by decide) ?_
      refine b_lcmp_eq hx hb rfl (show (0 : Int64).toInt = 0 by decide) dX7_divisor_31 dX7_divisor_32 (tgt := 53) (by decide) (fun c31 => ?_) (fun c31 => ?_)
      · refine lv_lload hx hb dX7_divisor_53 (lv_at hl 1 rfl) ?_
        have hY0 : Y = 0 := by have c31 : (lN Y).toInt = 0 := c31; rw [lN_toI hY] at c31; omega
        exact W.lret (v := lN X) hx hb hr (fun t9 ht9 hW => ⟨⟨lN X, (), rfl, by rw [← hg, hY0]; exact congrArg lN (Nat.gcd_zero_right X).symm, trivial⟩, hS.F ht9⟩) hS.2.2 dX7_divisor_55
      refine lv_lload hx hb dX7_divisor_35 (lv_at hl 1 rfl) ?_
      refine lv_lload hx hb dX7_divisor_37 (lv_at hl 0 rfl) ?_
      refine lv_lrem hx hb dX7_divisor_39 (fun q => c31 (by rw [q]; decide)) ?_
      have hYp : 0 < Y := by
        rcases Nat.eq_zero_or_pos Y with q | q
        · exact absurd (by rw [q]; decide) c31
        · exact q
      refine t_l (pk_lRem hX hYp hY) ?_
      have hm := Nat.mod_lt X hYp
      refine lv_lstore (lv' := [(8, .long (lN (X % Y))), (6, .long (lN Y)), (4, .long (lN X))]) hx hb dX7_divisor_40 hl (by decide) rfl (fun ls hl => ?_)
      refine lv_lload hx hb dX7_divisor_42 (lv_at hl 1 rfl) ?_
      refine lv_lstore (lv' := [(4, .long (lN Y)), (8, .long (lN (X % Y))), (6, .long (lN Y))]) hx hb dX7_divisor_44 hl (by decide) rfl (fun ls hl => ?_)
      refine lv_lload hx hb dX7_divisor_46 (lv_at hl 1 rfl) ?_
      refine lv_lstore (lv' := [(6, .long (lN (X % Y))), (4, .long (lN Y)), (8, .long (lN (X % Y)))]) hx hb dX7_divisor_48 hl (by decide) rfl (fun ls hl => ?_)
      refine lv_goto (tgt := 28) hx hb dX7_divisor_50 (by decide) ?_
      exact ih28 Y (X % Y) _ (by omega) hY (by omega) ((gcd_step X Y).trans hg) (lv_sub hl [0, 1] rfl)
  exact L28 _ x.toInt.natAbs y.toInt.natAbs _ (Nat.lt_succ_self _) hxb hyb rfl (lv_sub hl [0, 1] rfl)
set_option maxHeartbeats 4000000 in
set_option maxRecDepth 100000 in
theorem c_X7_clearRows (l : Launch) (D : va_G) (K : Nat → ClassId) (mm : Nat → Nat) (ta : Nat → Int32) (sl : Nat → Int32) (ss : Nat → Int32) (be : Nat → Int32) (ch : Int32) (th : Int32) (M : Nat → Nat → Int64) (rq : Int32) (cq : Int32) (pv : Nat → Int32) (so : Int32) (st : Nat → Int32) (gs : Int32) (gm : Nat → Int32) (gu : Nat → Int64) (gl : Nat → Int64) (aw : Nat → Int32) (x y : Int32) (sz : Nat)  : Met l yX7_clearRows (.code yX7_clearRows cX7_clearRows 4 none :: TB) ({ frames := 0, cells := 0, slots := 0, locals := 0 } : Room) (va_Pc [.ref (mm 0), .int x, .int y] (cP D K (WM K mm ta sl ss be ch th M rq cq pv so st gs gm gu gl aw) sz)) (va_Qv (fun (u : Nat → Nat → Int64) => ∀ i j, i < 11 → j < 11 → u i j = 0) (fun (u : Nat → Nat → Int64) t => cB D K (va_A (WM K mm ta sl ss be ch th M rq cq pv so st gs gm gu gl aw) sz) (WM K mm ta sl ss be ch th u x y pv so st gs gm gu gl aw) t) (va_A (WM K mm ta sl ss be ch th M rq cq pv so st gs gm gu gl aw) sz)) 0 0 (va_A (WM K mm ta sl ss be ch th M rq cq pv so st gs gm gu gl aw) sz) := by
  refine Met.ofW (cc := cX7_clearRows) (maxL := 4) (ret := none) (by decide) rfl ?_
  intro p e s m args below meth c s₁ B hml hv
  obtain ⟨rfl, hsz, hP, hK, hD0⟩ := hv
  have hx := B.exec
  have hb := B.bytes
  have hr := B.returns
  have hts := hts_tl (atoms_spec (ws := (.code yX7_clearRows cX7_clearRows 4 none :: TB)) B.pre)
  have hown : s.vm.findClass RX7 = some m.cls := findClass_of_methodNamed B.named
  have hlocks := B.notSynchronized
  subst hsz
  have hD := hD0.self (sz := s.heap.size)
  generalize hAe : (va_A (WM K mm ta sl ss be ch th M rq cq pv so st gs gm gu gl aw) s.heap.size) = A at hD ⊢
  have hA : ∀ q : Nat, s.heap.size ≤ q → A q := fun q h => by rw [← hAe]; exact Or.inr h
  have hS : va_S A s.heap s.heap [] := va_S.rf
  have hl := lv_entry ([.ref (mm 0), .int x, .int y]) (n := 4) (Nat.le_of_ble_eq_true rfl)
  rw [lg_entry_eq]
  generalize (lg_sl ([.ref (mm 0), .int x, .int y]) ++ List.replicate (4 - (lg_sl ([.ref (mm 0), .int x, .int y])).length) Slot.unset).toArray = ls at hl ⊢
  have hl : lv_has ls 4 [(0, .ref (mm 0)), (1, .int x), (2, .int y)] := hl
  refine lv_aload_n hx hb dX7_clearRows_0 rfl (lv_at hl 0 rfl) ?_
  refine lv_iload_n hx hb dX7_clearRows_1 rfl (lv_at hl 1 rfl) ?_
  refine va_put (D := D) (ci := 7) (v := .int x) (ty := .int) (C := RX7) (T := TX7) (N := 17) hx hb hts iX7 tyX7 tyX7_ok nmX7 hown hK hP hD hS 0 rfl rfl 7 (by decide) (hts _ k_f_X7_84) (fun _ h9 => h9) rfl (by decide +kernel) rfl rfl (Nat.le_of_ble_eq_true rfl) dX7_clearRows_2 (fun H locs hP hD hS => ?_)
  have hP : va_P D vwCl (WM K mm ta sl ss be ch th M x cq pv so st gs gm gu gl aw) H := hP
  have hD : va_D A (WM K mm ta sl ss be ch th M x cq pv so st gs gm gu gl aw) := hD
  refine lv_aload_n hx hb dX7_clearRows_5 rfl (lv_at hl 0 rfl) ?_
  refine lv_iload_n hx hb dX7_clearRows_6 rfl (lv_at hl 2 rfl) ?_
  refine va_put (D := D) (ci := 7) (v := .int y) (ty := .int) (C := RX7) (T := TX7) (N := 17) hx hb hts iX7 tyX7 tyX7_ok nmX7 hown hK hP hD hS 0 rfl rfl 8 (by decide) (hts _ k_f_X7_87) (fun _ h9 => h9) rfl (by decide +kernel) rfl rfl (Nat.le_of_ble_eq_true rfl) dX7_clearRows_7 (fun H locs hP hD hS => ?_)
  have hP : va_P D vwCl (WM K mm ta sl ss be ch th M x y pv so st gs gm gu gl aw) H := hP
  have hD : va_D A (WM K mm ta sl ss be ch th M x y pv so st gs gm gu gl aw) := hD
  refine lv_iconst (v := nI 0) hx hb dX7_clearRows_10 (by decide) ?_
  refine lv_istore_n (lv' := [(3, .int (nI 0)), (0, .ref (mm 0)), (1, .int x), (2, .int y)]) hx hb dX7_clearRows_11 rfl hl (by decide) rfl (fun ls hl => ?_)
  have L12 : ∀ (fuel : Nat) (k : Nat) (M2 : Nat → Nat → Int64) (H : Heap) (locs : List Loc) (ls : Array Slot), 121 - k < fuel → (k ≤ 121) → (∀ i j, j < 11 → 11 * i + j < k → M2 i j = 0) → va_P D vwCl (WM K mm ta sl ss be ch th M2 x y pv so st gs gm gu gl aw) H → va_D A (WM K mm ta sl ss be ch th M2 x y pv so st gs gm gu gl aw) → va_S A s.heap H locs → lv_has ls 4 [(3, .int (nI k)), (0, .ref (mm 0)), (1, .int x), (2, .int y)] → W p l e ({ frames := 0, cells := 0, slots := 0, locals := 0 } : Room) s m [.ref (mm 0), .int x, .int y].toArray below meth c H locs 0 0 (MQ below (va_Qv (fun (u : Nat → Nat → Int64) => ∀ i j, i < 11 → j < 11 → u i j = 0) (fun (u : Nat → Nat → Int64) t => cB D K A (WM K mm ta sl ss be ch th u x y pv so st gs gm gu gl aw) t) A) [.ref (mm 0), .int x, .int y].toArray s 0 0 A) (F0 m 12 ls []) := by
    intro fuel
    induction fuel with
    | zero =>
      intro k M2 H locs ls hfu
      exact absurd hfu (Nat.not_lt_zero _)
    | succ fuel ih12 =>
      intro k M2 H locs ls hfu hk hz hP hD hS hl
      refine lv_iload_n hx hb dX7_clearRows_12 rfl (lv_at hl 0 rfl) ?_
      refine lv_bipush (v := nI 121) hx hb dX7_clearRows_13 (by decide) ?_
      refine b_icmp_ge hx hb (nI_toIntI (by omega)) (nI_toIntI (by omega)) dX7_clearRows_15 (tgt := 31) (by decide) (fun c15 => ?_) (fun c15 => ?_)
      · exact W.vret hx hb hr (fun t9 ht9 hW => ⟨⟨M2, rfl, fun i j hi hj => hz i j hj (by omega), by rw [ht9]; exact hP, va_K.moved hW.alike hK, hD⟩, hS.F ht9⟩) hS.2.2 dX7_clearRows_31
      refine lv_aload_n hx hb dX7_clearRows_18 rfl (lv_at hl 1 rfl) ?_
      refine va_get (D := D) (ci := 7) (C := RX7) (T := TX7) (N := 17) hx hb hts iX7 hown hK hP 0 rfl rfl 6 (by decide) (hts _ k_f_X7_23) (fun _ h9 => h9) rfl dX7_clearRows_19 ?_
      refine lv_iload_n hx hb dX7_clearRows_22 rfl (lv_at hl 0 rfl) ?_
      refine lv_lconst (v := 0) hx hb dX7_clearRows_23 (by decide) ?_
      refine n_last hx hb hK hP hD hS 5 1 rfl rfl (i := k) (n := 121) (by omega) (by decide) dX7_clearRows_24 (fun H locs hP hD hS => ?_)
      have hcs : vp_updL (cL M2) k (0 : Int64) = cL (setM M2 (k / 11) (k % 11) (0 : Int64)) := cL_set (by omega) (by omega)
      have hP : va_P D vwCl (WM K mm ta sl ss be ch th (setM M2 (k / 11) (k % 11) (0 : Int64)) x y pv so st gs gm gu gl aw) H := by unfold WM; rw [← hcs]; exact hP
      have hD : va_D A (WM K mm ta sl ss be ch th (setM M2 (k / 11) (k % 11) (0 : Int64)) x y pv so st gs gm gu gl aw) := by unfold WM; rw [← hcs]; exact hD
      have hP : va_P D vwCl (WM K mm ta sl ss be ch th (setM M2 (k / 11) (k % 11) (0 : Int64)) x y pv so st gs gm gu gl aw) H := hP
      have hD : va_D A (WM K mm ta sl ss be ch th (setM M2 (k / 11) (k % 11) (0 : Int64)) x y pv so st gs gm gu gl aw) := hD
      refine lv_iinc (v := nI (k + 1)) (lv' := [(3, .int (nI (k + 1))), (0, .ref (mm 0)), (1, .int x), (2, .int y)]) hx hb dX7_clearRows_25 hl (k := 0) rfl (nI_add k 1) (by decide) rfl (fun ls hl => ?_)
      refine lv_goto (tgt := 12) hx hb dX7_clearRows_28 (by decide) ?_
      exact ih12 (k + 1) (setM M2 (k / 11) (k % 11) (0 : Int64)) _ _ _ (by omega) (by omega) (fun i j hj h => by
      show setM M2 (k / 11) (k % 11) (0 : Int64) i j = 0
      have hd := Nat.div_add_mod k 11
      unfold setM
      by_cases q : i = k / 11
      · rw [if_pos q]
        by_cases q2 : j = k % 11
        · rw [q2]; exact if_pos rfl
        · rw [show vp_updL (M2 (k / 11)) (k % 11) (0 : Int64) j = M2 (k / 11) j from if_neg q2, ← q]
          exact hz i j hj (by omega)
      · rw [if_neg q]
        exact hz i j hj (by have : 11 * i + j ≠ k := fun e => q (by omega)
                            omega)) hP hD hS (lv_sub hl [0, 1, 2, 3] rfl)
  exact L12 _ 0 M _ _ _ (Nat.lt_succ_self _) (by omega) (fun i j hj h => absurd h (Nat.not_lt_zero _)) hP hD hS (lv_sub hl [0, 1, 2, 3] rfl)
