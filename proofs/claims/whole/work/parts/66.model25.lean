/-! PlanetaryGearboxModel: shifts -/
def pc2 (x : Nat) : Nat → Nat
  | 0 => 0
  | k + 1 => pc2 x k + (x.testBit k).toNat
theorem pc2_6 (x : Nat) : pc2 x 6 = pcn x := by
  unfold pcn
  simp only [pc2, Nat.zero_add]
theorem bit_and : ∀ x, x < 64 → ∀ k, k < 6 → (nI x >>> (nI k &&& 31)) &&& nI 1 = nI (x.testBit k).toNat := by decide +kernel
theorem dD_back {G : Nat → Nat} {n last s i : Nat} : dD G n last (s + 1) i = (s : Int) ↔ dD G n last s i = (s : Int) := by
  by_cases h : dD G n last s i = -1 ∧ ∃ h, h < n ∧ dD G n last s h = (s : Int) ∧ nbr (G i) (G h)
  · rw [dD_yes h.1 h.2]
    have := h.1
    omega
  · rw [dD_no h]
set_option maxHeartbeats 4000000 in
set_option maxRecDepth 100000 in
theorem c_X7_bits (l : Launch) (x : Nat) (hx6 : x < 64) : Met l yX7_bits (.code yX7_bits cX7_bits 3 (some .int) :: TB) ({ frames := 0, cells := 0, slots := 0, locals := 0 } : Room) (va_Pc [.int (nI x)] (fun _ => True)) (va_Qi (fun (z : Int32) (_ : Unit) => z = nI (pcn x)) (fun _ _ => True) (fun _ => False)) 0 0 (fun _ => False) := by
  refine Met.ofW (cc := cX7_bits) (maxL := 3) (ret := (some .int)) (by decide) rfl ?_
  intro p e s m args below meth c s₁ B hml hv
  obtain ⟨rfl, -⟩ := hv
  have hx := B.exec
  have hb := B.bytes
  have hr := B.returns
  have hts := hts_tl (atoms_spec (ws := (.code yX7_bits cX7_bits 3 (some .int) :: TB)) B.pre)
  have hown : s.vm.findClass RX7 = some m.cls := findClass_of_methodNamed B.named
  have hlocks := B.notSynchronized
  have hA : ∀ q : Nat, q < s.heap.size → (fun _ : Nat => False) q → False := fun _ _ h => h
  have hS : va_S (fun _ => False) s.heap s.heap [] := va_S.rf
  have hl := lv_entry ([.int (nI x)]) (n := 3) (Nat.le_of_ble_eq_true rfl)
  rw [lg_entry_eq]
  generalize (lg_sl ([.int (nI x)]) ++ List.replicate (3 - (lg_sl ([.int (nI x)])).length) Slot.unset).toArray = ls at hl ⊢
  have hl : lv_has ls 3 [(0, .int (nI x))] := hl
  refine lv_iconst (v := nI 0) hx hb dX7_bits_0 (by decide) ?_
  refine lv_istore_n (lv' := [(1, .int (nI 0)), (0, .int (nI x))]) hx hb dX7_bits_1 rfl hl (by decide) rfl (fun ls hl => ?_)
  refine lv_iconst (v := nI 0) hx hb dX7_bits_2 (by decide) ?_
  refine lv_istore_n (lv' := [(2, .int (nI 0)), (1, .int (nI 0)), (0, .int (nI x))]) hx hb dX7_bits_3 rfl hl (by decide) rfl (fun ls hl => ?_)
  have L4 : ∀ (fuel : Nat) (k : Nat) (ls : Array Slot), 10 - k < fuel → (k ≤ 6) → lv_has ls 3 [(2, .int (nI k)), (1, .int (nI (pc2 x k))), (0, .int (nI x))] → W p l e ({ frames := 0, cells := 0, slots := 0, locals := 0 } : Room) s m [.int (nI x)].toArray below meth c s.heap [] 0 0 (MQ below (va_Qi (fun (z : Int32) (_ : Unit) => z = nI (pcn x)) (fun _ _ => True) (fun _ => False)) [.int (nI x)].toArray s 0 0 (fun _ => False)) (F0 m 4 ls []) := by
    intro fuel
    induction fuel with
    | zero =>
      intro k ls hfu
      exact absurd hfu (Nat.not_lt_zero _)
    | succ fuel ih4 =>
      intro k ls hfu hk hl
      refine lv_iload_n hx hb dX7_bits_4 rfl (lv_at hl 0 rfl) ?_
      refine lv_bipush (v := nI 6) hx hb dX7_bits_5 (by decide) ?_
      refine b_icmp_ge hx hb (nI_toIntI (by omega)) (nI_toIntI (by omega)) dX7_bits_7 (tgt := 24) (by decide) (fun c7 => ?_) (fun c7 => ?_)
      · refine lv_iload_n hx hb dX7_bits_24 rfl (lv_at hl 1 rfl) ?_
        exact W.iret (v := nI (pc2 x k)) hx hb hr (fun t9 ht9 hW => ⟨⟨nI (pc2 x k), (), rfl, (by rw [show k = 6 by omega]; exact congrArg nI (pc2_6 x)), trivial⟩, hS.F ht9⟩) hS.2.2 dX7_bits_25
      refine lv_iload_n hx hb dX7_bits_10 rfl (lv_at hl 1 rfl) ?_
      refine lv_iload_n hx hb dX7_bits_11 rfl (lv_at hl 2 rfl) ?_
      refine lv_iload_n hx hb dX7_bits_12 rfl (lv_at hl 0 rfl) ?_
      refine lv_ishr hx hb dX7_bits_13 ?_
      refine lv_iconst (v := nI 1) hx hb dX7_bits_14 (by decide) ?_
      refine lv_iand hx hb dX7_bits_15 ?_
      refine t_i (bit_and x hx6 k (by omega)) ?_
      refine lv_iadd hx hb dX7_bits_16 ?_
      refine t_i (nI_add _ _) ?_
      refine lv_istore_n (lv' := [(1, .int (nI (pc2 x k + (x.testBit k).toNat))), (2, .int (nI k)), (0, .int (nI x))]) hx hb dX7_bits_17 rfl hl (by decide) rfl (fun ls hl => ?_)
      refine lv_iinc (v := nI (k + 1)) (lv' := [(2, .int (nI (k + 1))), (1, .int (nI (pc2 x k + (x.testBit k).toNat))), (0, .int (nI x))]) hx hb dX7_bits_18 hl (k := 1) rfl (nI_add k 1) (by decide) rfl (fun ls hl => ?_)
      refine lv_goto (tgt := 4) hx hb dX7_bits_21 (by decide) ?_
      exact ih4 (k + 1) _ (by omega) (by omega) (lv_sub hl [0, 1, 2] rfl)
  exact L4 _ 0 _ (Nat.lt_succ_self _) (by omega) (lv_sub hl [0, 1, 2] rfl)
set_option maxHeartbeats 4000000 in
set_option maxRecDepth 100000 in
theorem c_X7_areNeighbours (l : Launch) (D : va_G) (K : Nat → ClassId) (mm : Nat → Nat) (ta : Nat → Int32) (sl : Nat → Int32) (ss : Nat → Int32) (be : Nat → Int32) (ch : Int32) (th : Int32) (M : Nat → Nat → Int64) (rq : Int32) (cq : Int32) (pv : Nat → Int32) (so : Int32) (st : Nat → Int32) (gs : Int32) (gm : Nat → Int32) (gu : Nat → Int64) (gl : Nat → Int64) (aw : Nat → Int32) (G : Nat → Nat) (n i j : Nat) (sz : Nat) (hn : n ≤ 64) (hG : ∀ j, j < n → G j < 64 ∧ gm j = nI (G j)) (hi : i < n) (hj : j < n) : Met l yX7_areNeighbours (.code yX7_areNeighbours cX7_areNeighbours 3 (some .boolean) :: TB) ({ frames := 1, cells := 0, slots := 0, locals := 22 } : Room) (va_Pc [.ref (mm 0), .int (nI i), .int (nI j)] (cP D K (WM K mm ta sl ss be ch th M rq cq pv so st gs gm gu gl aw) sz)) (va_Qi (fun (z : Int32) (_ : Unit) => z = bI (nbr (G i) (G j))) (fun _ _ => True) (fun _ => False)) 0 0 (fun _ => False) := by
  refine Met.ofW (cc := cX7_areNeighbours) (maxL := 3) (ret := (some .boolean)) (by decide) rfl ?_
  intro p e s m args below meth c s₁ B hml hv
  obtain ⟨rfl, hsz, hP, hK, hD0⟩ := hv
  have hx := B.exec
  have hb := B.bytes
  have hr := B.returns
  have hts := hts_tl (atoms_spec (ws := (.code yX7_areNeighbours cX7_areNeighbours 3 (some .boolean) :: TB)) B.pre)
  have hown : s.vm.findClass RX7 = some m.cls := findClass_of_methodNamed B.named
  have hlocks := B.notSynchronized
  subst hsz
  have hA : ∀ q : Nat, q < s.heap.size → (fun _ : Nat => False) q → False := fun _ _ h => h
  have hS : va_S (fun _ => False) s.heap s.heap [] := va_S.rf
  have hl := lv_entry ([.ref (mm 0), .int (nI i), .int (nI j)]) (n := 3) (Nat.le_of_ble_eq_true rfl)
  rw [lg_entry_eq]
  generalize (lg_sl ([.ref (mm 0), .int (nI i), .int (nI j)]) ++ List.replicate (3 - (lg_sl ([.ref (mm 0), .int (nI i), .int (nI j)])).length) Slot.unset).toArray = ls at hl ⊢
  have hl : lv_has ls 3 [(0, .ref (mm 0)), (1, .int (nI i)), (2, .int (nI j))] := hl
  obtain ⟨hi6, hiv⟩ := hG i hi
  obtain ⟨hj6, hjv⟩ := hG j hj
  refine lv_aload_n hx hb dX7_areNeighbours_0 rfl (lv_at hl 0 rfl) ?_
  refine va_get (D := D) (ci := 7) (C := RX7) (T := TX7) (N := 17) hx hb hts iX7 hown hK hP 0 rfl rfl 13 (by decide) (hts _ k_f_X7_33) (fun _ h9 => h9) rfl dX7_areNeighbours_1 ?_
  refine lv_iload_n hx hb dX7_areNeighbours_4 rfl (lv_at hl 1 rfl) ?_
  refine n_iald hx hb hK hP 8 0 rfl rfl (i := i) (n := 64) (by omega) (by decide) dX7_areNeighbours_5 ?_
  refine t_i (show _ = nI (G i) from hiv) ?_
  refine lv_aload_n hx hb dX7_areNeighbours_6 rfl (lv_at hl 0 rfl) ?_
  refine va_get (D := D) (ci := 7) (C := RX7) (T := TX7) (N := 17) hx hb hts iX7 hown hK hP 0 rfl rfl 13 (by decide) (hts _ k_f_X7_33) (fun _ h9 => h9) rfl dX7_areNeighbours_7 ?_
  refine lv_iload_n hx hb dX7_areNeighbours_10 rfl (lv_at hl 2 rfl) ?_
  refine n_iald hx hb hK hP 8 0 rfl rfl (i := j) (n := 64) (by omega) (by decide) dX7_areNeighbours_11 ?_
  refine t_i (show _ = nI (G j) from hjv) ?_
  refine lv_iconst (v := (-1)) hx hb dX7_areNeighbours_12 (by decide) ?_
  refine lv_ixor hx hb dX7_areNeighbours_13 ?_
  refine lv_iand hx hb dX7_areNeighbours_14 ?_
  refine t_i (w_anN (G i) hi6 (G j) hj6) ?_
  have hani := anN_lt (G i) hi6 (G j) hj6
  refine va_calli (va_runS (As := [.int (nI (anN (G i) (G j)))]) (rest := []) ⟨hx, hb, hml, hown, hts⟩ (c_X7_bits l (anN (G i) (G j)) hani) (va_cwS 1 hts (TB_S k_m_X7_160 k_st_X7_bits k_in_X7 k_co_X7_bits (fun _ h => h)) rfl rfl rfl (by decide +kernel) ⟨Nat.le_of_ble_eq_true rfl, Nat.le_of_ble_eq_true rfl⟩) ⟨tP_blind, tP_of⟩ rfl rfl hl.1 rfl (lv_room (Nat.le_of_ble_eq_true rfl)) dX7_areNeighbours_15 ⟨Nat.le_of_ble_eq_true rfl, Nat.le_of_ble_eq_true rfl⟩) hS (fun q _ h => absurd h id) (fun q h => absurd h id) (fun bz u9 t9 H locs ht9 hvm hw hB hz1 hk1 hS => ?_)
  have hP := P_same hP hk1
  refine t_i hw ?_
  have hpl15 := pcn_le (anN (G i) (G j))
  refine lv_iconst (v := nI 1) hx hb dX7_areNeighbours_18 (by decide) ?_
  refine b_icmp_ne hx hb (nI_toIntI (by omega)) (nI_toIntI (by omega)) dX7_areNeighbours_19 (tgt := 48) (by decide) (fun c19 => ?_) (fun c19 => ?_)
  · refine lv_iconst (v := nI 0) hx hb dX7_areNeighbours_48 (by decide) ?_
    exact W.zret (v := nI 0) hx hb hr (by decide) (fun t9 ht9 hW => ⟨⟨nI 0, (), rfl, (bI_f (fun z => by
      obtain ⟨z1, z2⟩ := z
      first
      | exact absurd z1 (by omega)
      | exact absurd z2 (by omega))), trivial⟩, hS.F ht9⟩) hS.2.2 dX7_areNeighbours_49
  refine lv_aload_n hx hb dX7_areNeighbours_22 rfl (lv_at hl 0 rfl) ?_
  refine va_get (D := D) (ci := 7) (C := RX7) (T := TX7) (N := 17) hx hb hts iX7 hown hK hP 0 rfl rfl 13 (by decide) (hts _ k_f_X7_33) (fun _ h9 => h9) rfl dX7_areNeighbours_23 ?_
  refine lv_iload_n hx hb dX7_areNeighbours_26 rfl (lv_at hl 2 rfl) ?_
  refine n_iald hx hb hK hP 8 0 rfl rfl (i := j) (n := 64) (by omega) (by decide) dX7_areNeighbours_27 ?_
  refine t_i (show _ = nI (G j) from hjv) ?_
  refine lv_aload_n hx hb dX7_areNeighbours_28 rfl (lv_at hl 0 rfl) ?_
  refine va_get (D := D) (ci := 7) (C := RX7) (T := TX7) (N := 17) hx hb hts iX7 hown hK hP 0 rfl rfl 13 (by decide) (hts _ k_f_X7_33) (fun _ h9 => h9) rfl dX7_areNeighbours_29 ?_
  refine lv_iload_n hx hb dX7_areNeighbours_32 rfl (lv_at hl 1 rfl) ?_
  refine n_iald hx hb hK hP 8 0 rfl rfl (i := i) (n := 64) (by omega) (by decide) dX7_areNeighbours_33 ?_
  refine t_i (show _ = nI (G i) from hiv) ?_
  refine lv_iconst (v := (-1)) hx hb dX7_areNeighbours_34 (by decide) ?_
  refine lv_ixor hx hb dX7_areNeighbours_35 ?_
  refine lv_iand hx hb dX7_areNeighbours_36 ?_
  refine t_i (w_anN (G j) hj6 (G i) hi6) ?_
  have hanj := anN_lt (G j) hj6 (G i) hi6
  refine va_calli (va_runS (As := [.int (nI (anN (G j) (G i)))]) (rest := []) ⟨hx, hb, hml, hown, hts⟩ (c_X7_bits l (anN (G j) (G i)) hanj) (va_cwS 1 hts (TB_S k_m_X7_160 k_st_X7_bits k_in_X7 k_co_X7_bits (fun _ h => h)) rfl rfl rfl (by decide +kernel) ⟨Nat.le_of_ble_eq_true rfl, Nat.le_of_ble_eq_true rfl⟩) ⟨tP_blind, tP_of⟩ rfl rfl hl.1 rfl (lv_room (Nat.le_of_ble_eq_true rfl)) dX7_areNeighbours_37 ⟨Nat.le_of_ble_eq_true rfl, Nat.le_of_ble_eq_true rfl⟩) hS (fun q _ h => absurd h id) (fun q h => absurd h id) (fun bz u9 t9 H locs ht9 hvm hw hB hz1 hk1 hS => ?_)
  have hP := P_same hP hk1
  refine t_i hw ?_
  have hpl37 := pcn_le (anN (G j) (G i))
  refine lv_iconst (v := nI 1) hx hb dX7_areNeighbours_40 (by decide) ?_
  refine b_icmp_ne hx hb (nI_toIntI (by omega)) (nI_toIntI (by omega)) dX7_areNeighbours_41 (tgt := 48) (by decide) (fun c41 => ?_) (fun c41 => ?_)
  · refine lv_iconst (v := nI 0) hx hb dX7_areNeighbours_48 (by decide) ?_
    exact W.zret (v := nI 0) hx hb hr (by decide) (fun t9 ht9 hW => ⟨⟨nI 0, (), rfl, (bI_f (fun z => by
      obtain ⟨z1, z2⟩ := z
      first
      | exact absurd z1 (by omega)
      | exact absurd z2 (by omega))), trivial⟩, hS.F ht9⟩) hS.2.2 dX7_areNeighbours_49
  refine lv_iconst (v := nI 1) hx hb dX7_areNeighbours_44 (by decide) ?_
  refine lv_goto (tgt := 49) hx hb dX7_areNeighbours_45 (by decide) ?_
  exact W.zret (v := nI 1) hx hb hr (by decide) (fun t9 ht9 hW => ⟨⟨nI 1, (), rfl, (bI_t ⟨by omega, by omega⟩), trivial⟩, hS.F ht9⟩) hS.2.2 dX7_areNeighbours_49
set_option maxHeartbeats 4000000 in
set_option maxRecDepth 100000 in
theorem c_X7_layAway (l : Launch) (D : va_G) (K : Nat → ClassId) (mm : Nat → Nat) (ta : Nat → Int32) (sl : Nat → Int32) (ss : Nat → Int32) (be : Nat → Int32) (ch : Int32) (th : Int32) (M : Nat → Nat → Int64) (rq : Int32) (cq : Int32) (pv : Nat → Int32) (so : Int32) (st : Nat → Int32) (gs : Int32) (gm : Nat → Int32) (gu : Nat → Int64) (gl : Nat → Int64) (aw : Nat → Int32) (G : Nat → Nat) (n to9 : Nat) (sz : Nat) (hn : n ≤ 64) (hG : ∀ j, j < n → G j < 64 ∧ gm j = nI (G j)) (hto : to9 < n) : Met l yX7_layAway (.code yX7_layAway cX7_layAway 5 none :: TB) ({ frames := 2, cells := 0, slots := 0, locals := 44 } : Room) (va_Pc [.ref (mm 0), .int (nI to9)] (cP D K (WM K mm ta sl ss be ch th M rq cq pv so st (nI n) gm gu gl aw) sz)) (va_Qv (fun (u : Nat → Int32) => ∀ j, j < n → (u j).toInt = dD G n to9 (n - 1) j) (fun (u : Nat → Int32) t => cB D K (va_A (WM K mm ta sl ss be ch th M rq cq pv so st (nI n) gm gu gl aw) sz) (WM K mm ta sl ss be ch th M rq cq pv so st (nI n) gm gu gl u) t) (va_A (WM K mm ta sl ss be ch th M rq cq pv so st (nI n) gm gu gl aw) sz)) 0 0 (va_A (WM K mm ta sl ss be ch th M rq cq pv so st (nI n) gm gu gl aw) sz) := by
  refine Met.ofW (cc := cX7_layAway) (maxL := 5) (ret := none) (by decide) rfl ?_
  intro p e s m args below meth c s₁ B hml hv
  obtain ⟨rfl, hsz, hP, hK, hD0⟩ := hv
  have hx := B.exec
  have hb := B.bytes
  have hr := B.returns
  have hts := hts_tl (atoms_spec (ws := (.code yX7_layAway cX7_layAway 5 none :: TB)) B.pre)
  have hown : s.vm.findClass RX7 = some m.cls := findClass_of_methodNamed B.named
  have hlocks := B.notSynchronized
  subst hsz
  have hD := hD0.self (sz := s.heap.size)
  generalize hAe : (va_A (WM K mm ta sl ss be ch th M rq cq pv so st (nI n) gm gu gl aw) s.heap.size) = A at hD ⊢
  have hA : ∀ q : Nat, s.heap.size ≤ q → A q := fun q h => by rw [← hAe]; exact Or.inr h
  have hS : va_S A s.heap s.heap [] := va_S.rf
  have hl := lv_entry ([.ref (mm 0), .int (nI to9)]) (n := 5) (Nat.le_of_ble_eq_true rfl)
  rw [lg_entry_eq]
  generalize (lg_sl ([.ref (mm 0), .int (nI to9)]) ++ List.replicate (5 - (lg_sl ([.ref (mm 0), .int (nI to9)])).length) Slot.unset).toArray = ls at hl ⊢
  have hl : lv_has ls 5 [(0, .ref (mm 0)), (1, .int (nI to9))] := hl
  refine lv_iconst (v := nI 0) hx hb dX7_layAway_0 (by decide) ?_
  refine lv_istore_n (lv' := [(2, .int (nI 0)), (0, .ref (mm 0)), (1, .int (nI to9))]) hx hb dX7_layAway_1 rfl hl (by decide) rfl (fun ls hl => ?_)
  have L2 : ∀ (fuel : Nat) (g : Nat) (aw1 : Nat → Int32) (H : Heap) (locs : List Loc) (ls : Array Slot), 64 - g < fuel → (g ≤ n) → (∀ j, j < g → (aw1 j).toInt = dD G n to9 0 j) → va_P D vwCl (WM K mm ta sl ss be ch th M rq cq pv so st (nI n) gm gu gl aw1) H → va_D A (WM K mm ta sl ss be ch th M rq cq pv so st (nI n) gm gu gl aw1) → va_S A s.heap H locs → lv_has ls 5 [(2, .int (nI g)), (0, .ref (mm 0)), (1, .int (nI to9))] → W p l e ({ frames := 2, cells := 0, slots := 0, locals := 44 } : Room) s m [.ref (mm 0), .int (nI to9)].toArray below meth c H locs 0 0 (MQ below (va_Qv (fun (u : Nat → Int32) => ∀ j, j < n → (u j).toInt = dD G n to9 (n - 1) j) (fun (u : Nat → Int32) t => cB D K A (WM K mm ta sl ss be ch th M rq cq pv so st (nI n) gm gu gl u) t) A) [.ref (mm 0), .int (nI to9)].toArray s 0 0 A) (F0 m 2 ls []) := by
    intro fuel
    induction fuel with
    | zero =>
      intro g aw1 H locs ls hfu
      exact absurd hfu (Nat.not_lt_zero _)
    | succ fuel ih2 =>
      intro g aw1 H locs ls hfu hg hA hP hD hS hl
      refine lv_iload_n hx hb dX7_layAway_2 rfl (lv_at hl 0 rfl) ?_
      refine lv_aload_n hx hb dX7_layAway_3 rfl (lv_at hl 1 rfl) ?_
      refine va_get (D := D) (ci := 7) (C := RX7) (T := TX7) (N := 17) hx hb hts iX7 hown hK hP 0 rfl rfl 12 (by decide) (hts _ k_f_X7_67) (fun _ h9 => h9) rfl dX7_layAway_4 ?_
      refine b_icmp_ge hx hb (nI_toIntI (by omega)) (nI_toIntI (by omega)) dX7_layAway_7 (tgt := 32) (by decide) (fun c7 => ?_) (fun c7 => ?_)
      · refine lv_iconst (v := nI 1) hx hb dX7_layAway_32 (by decide) ?_
        refine lv_istore_n (lv' := [(2, .int (nI 1)), (0, .ref (mm 0)), (1, .int (nI to9))]) hx hb dX7_layAway_33 rfl hl (by decide) rfl (fun ls hl => ?_)
        have L34 : ∀ (fuel : Nat) (s9 : Nat) (aw2 : Nat → Int32) (H : Heap) (locs : List Loc) (ls : Array Slot), 64 - s9 < fuel → (s9 + 1 ≤ n) → (∀ j, j < n → (aw2 j).toInt = dD G n to9 s9 j) → va_P D vwCl (WM K mm ta sl ss be ch th M rq cq pv so st (nI n) gm gu gl aw2) H → va_D A (WM K mm ta sl ss be ch th M rq cq pv so st (nI n) gm gu gl aw2) → va_S A s.heap H locs → lv_has ls 5 [(2, .int (nI (s9 + 1))), (0, .ref (mm 0)), (1, .int (nI to9))] → W p l e ({ frames := 2, cells := 0, slots := 0, locals := 44 } : Room) s m [.ref (mm 0), .int (nI to9)].toArray below meth c H locs 0 0 (MQ below (va_Qv (fun (u : Nat → Int32) => ∀ j, j < n → (u j).toInt = dD G n to9 (n - 1) j) (fun (u : Nat → Int32) t => cB D K A (WM K mm ta sl ss be ch th M rq cq pv so st (nI n) gm gu gl u) t) A) [.ref (mm 0), .int (nI to9)].toArray s 0 0 A) (F0 m 34 ls []) := by
          intro fuel
          induction fuel with
          | zero =>
            intro s9 aw2 H locs ls hfu
            exact absurd hfu (Nat.not_lt_zero _)
          | succ fuel ih34 =>
            intro s9 aw2 H locs ls hfu hs9 hB hP hD hS hl
            refine lv_iload_n hx hb dX7_layAway_34 rfl (lv_at hl 0 rfl) ?_
            refine lv_aload_n hx hb dX7_layAway_35 rfl (lv_at hl 1 rfl) ?_
            refine va_get (D := D) (ci := 7) (C := RX7) (T := TX7) (N := 17) hx hb hts iX7 hown hK hP 0 rfl rfl 12 (by decide) (hts _ k_f_X7_67) (fun _ h9 => h9) rfl dX7_layAway_36 ?_
            refine b_icmp_ge hx hb (nI_toIntI (by omega)) (nI_toIntI (by omega)) dX7_layAway_39 (tgt := 126) (by decide) (fun c39 => ?_) (fun c39 => ?_)
            · exact W.vret hx hb hr (fun t9 ht9 hW => ⟨⟨aw2, rfl, (by rw [show n - 1 = s9 by omega]; exact hB), by rw [ht9]; exact hP, va_K.moved hW.alike hK, hD⟩, hS.F ht9⟩) hS.2.2 dX7_layAway_126
            refine lv_iconst (v := nI 0) hx hb dX7_layAway_42 (by decide) ?_
            refine lv_istore_n (lv' := [(3, .int (nI 0)), (2, .int (nI (s9 + 1))), (0, .ref (mm 0)), (1, .int (nI to9))]) hx hb dX7_layAway_43 rfl hl (by decide) rfl (fun ls hl => ?_)
            have L44 : ∀ (fuel : Nat) (g2 : Nat) (aw3 : Nat → Int32) (H : Heap) (locs : List Loc) (ls : Array Slot), 64 - g2 < fuel → (g2 ≤ n) → (∀ j, j < n → (aw3 j).toInt = if j < g2 then dD G n to9 (s9 + 1) j else dD G n to9 s9 j) → va_P D vwCl (WM K mm ta sl ss be ch th M rq cq pv so st (nI n) gm gu gl aw3) H → va_D A (WM K mm ta sl ss be ch th M rq cq pv so st (nI n) gm gu gl aw3) → va_S A s.heap H locs → lv_has ls 5 [(3, .int (nI g2)), (2, .int (nI (s9 + 1))), (0, .ref (mm 0)), (1, .int (nI to9))] → W p l e ({ frames := 2, cells := 0, slots := 0, locals := 44 } : Room) s m [.ref (mm 0), .int (nI to9)].toArray below meth c H locs 0 0 (MQ below (va_Qv (fun (u : Nat → Int32) => ∀ j, j < n → (u j).toInt = dD G n to9 (n - 1) j) (fun (u : Nat → Int32) t => cB D K A (WM K mm ta sl ss be ch th M rq cq pv so st (nI n) gm gu gl u) t) A) [.ref (mm 0), .int (nI to9)].toArray s 0 0 A) (F0 m 44 ls []) := by
              intro fuel
              induction fuel with
              | zero =>
                intro g2 aw3 H locs ls hfu
                exact absurd hfu (Nat.not_lt_zero _)
              | succ fuel ih44 =>
                intro g2 aw3 H locs ls hfu hg2 hC hP hD hS hl
                refine lv_iload_n hx hb dX7_layAway_44 rfl (lv_at hl 0 rfl) ?_
                refine lv_aload_n hx hb dX7_layAway_45 rfl (lv_at hl 2 rfl) ?_
                refine va_get (D := D) (ci := 7) (C := RX7) (T := TX7) (N := 17) hx hb hts iX7 hown hK hP 0 rfl rfl 12 (by decide) (hts _ k_f_X7_67) (fun _ h9 => h9) rfl dX7_layAway_46 ?_
                refine b_icmp_ge hx hb (nI_toIntI (by omega)) (nI_toIntI (by omega)) dX7_layAway_49 (tgt := 120) (by decide) (fun c49 => ?_) (fun c49 => ?_)
                · refine lv_iinc (v := nI (s9 + 1 + 1)) (lv' := [(2, .int (nI (s9 + 1 + 1))), (3, .int (nI g2)), (0, .ref (mm 0)), (1, .int (nI to9))]) hx hb dX7_layAway_120 hl (k := 1) rfl (nI_add (s9 + 1) 1) (by decide) rfl (fun ls hl => ?_)
                  refine lv_goto (tgt := 34) hx hb dX7_layAway_123 (by decide) ?_
                  exact ih34 (s9 + 1) aw3 _ _ _ (by omega) (by omega) (fun j hj => by rw [hC j hj, if_pos (by omega)]) hP hD hS (lv_sub hl [0, 2, 3] rfl)
                refine lv_iconst (v := nI 0) hx hb dX7_layAway_52 (by decide) ?_
                refine lv_istore (lv' := [(4, .int (nI 0)), (3, .int (nI g2)), (2, .int (nI (s9 + 1))), (0, .ref (mm 0)), (1, .int (nI to9))]) hx hb dX7_layAway_53 hl (by decide) rfl (fun ls hl => ?_)
                have hCg := hC g2 (by omega)
                rw [if_neg (Nat.lt_irrefl _)] at hCg
                have L55 : ∀ (fuel : Nat) (h3 : Nat) (aw4 : Nat → Int32) (H : Heap) (locs : List Loc) (ls : Array Slot), 64 - h3 < fuel → (h3 ≤ n) → (∀ j, j < n → ¬ j = g2 → (aw4 j).toInt = if j < g2 then dD G n to9 (s9 + 1) j else dD G n to9 s9 j) → (((aw4 g2).toInt = dD G n to9 (s9 + 1) g2 ∧ ¬ (aw4 g2).toInt = -1) ∨ ((aw4 g2).toInt = -1 ∧ dD G n to9 s9 g2 = -1 ∧ ∀ h2, h2 < h3 → dD G n to9 s9 h2 = (s9 : Int) → nbr (G g2) (G h2) → False)) → va_P D vwCl (WM K mm ta sl ss be ch th M rq cq pv so st (nI n) gm gu gl aw4) H → va_D A (WM K mm ta sl ss be ch th M rq cq pv so st (nI n) gm gu gl aw4) → va_S A s.heap H locs → lv_has ls 5 [(4, .int (nI h3)), (3, .int (nI g2)), (2, .int (nI (s9 + 1))), (0, .ref (mm 0)), (1, .int (nI to9))] → W p l e ({ frames := 2, cells := 0, slots := 0, locals := 44 } : Room) s m [.ref (mm 0), .int (nI to9)].toArray below meth c H locs 0 0 (MQ below (va_Qv (fun (u : Nat → Int32) => ∀ j, j < n → (u j).toInt = dD G n to9 (n - 1) j) (fun (u : Nat → Int32) t => cB D K A (WM K mm ta sl ss be ch th M rq cq pv so st (nI n) gm gu gl u) t) A) [.ref (mm 0), .int (nI to9)].toArray s 0 0 A) (F0 m 55 ls []) := by
                  intro fuel
                  induction fuel with
                  | zero =>
                    intro h3 aw4 H locs ls hfu
                    exact absurd hfu (Nat.not_lt_zero _)
                  | succ fuel ih55 =>
                    intro h3 aw4 H locs ls hfu hh3 hD4 hE hP hD hS hl
                    refine lv_iload hx hb dX7_layAway_55 (lv_at hl 0 rfl) ?_
                    refine lv_aload_n hx hb dX7_layAway_57 rfl (lv_at hl 3 rfl) ?_
                    refine va_get (D := D) (ci := 7) (C := RX7) (T := TX7) (N := 17) hx hb hts iX7 hown hK hP 0 rfl rfl 12 (by decide) (hts _ k_f_X7_67) (fun _ h9 => h9) rfl dX7_layAway_58 ?_
                    refine b_icmp_ge hx hb (nI_toIntI (by omega)) (nI_toIntI (by omega)) dX7_layAway_61 (tgt := 114) (by decide) (fun c61 => ?_) (fun c61 => ?_)
                    · refine lv_iinc (v := nI (g2 + 1)) (lv' := [(3, .int (nI (g2 + 1))), (4, .int (nI h3)), (2, .int (nI (s9 + 1))), (0, .ref (mm 0)), (1, .int (nI to9))]) hx hb dX7_layAway_114 hl (k := 1) rfl (nI_add g2 1) (by decide) rfl (fun ls hl => ?_)
                      refine lv_goto (tgt := 44) hx hb dX7_layAway_117 (by decide) ?_
                      exact ih44 (g2 + 1) aw4 _ _ _ (by omega) (by omega) (fun j hj => by
      by_cases q : j = g2
      · subst q
        rw [if_pos (by omega)]
        rcases hE with ⟨z1, z2⟩ | ⟨z1, z2, z3⟩
        · exact z1
        · first
          | exact absurd z1 (by omega)
          | (rw [z1, dD_no (fun ⟨_, h8, h9, h10, h11⟩ => z3 h8 (by omega) h10 h11)]; exact z2.symm)
      · rw [hD4 j hj q]
        by_cases q2 : j < g2
        · rw [if_pos q2, if_pos (by omega)]
        · rw [if_neg q2, if_neg (by omega)]) hP hD hS (lv_sub hl [0, 2, 3, 4] rfl)
                    refine lv_aload_n hx hb dX7_layAway_64 rfl (lv_at hl 3 rfl) ?_
                    refine va_get (D := D) (ci := 7) (C := RX7) (T := TX7) (N := 17) hx hb hts iX7 hown hK hP 0 rfl rfl 16 (by decide) (hts _ k_f_X7_42) (fun _ h9 => h9) rfl dX7_layAway_65 ?_
                    refine lv_iload_n hx hb dX7_layAway_68 rfl (lv_at hl 1 rfl) ?_
                    refine n_iald hx hb hK hP 11 0 rfl rfl (i := g2) (n := 64) (by omega) (by decide) dX7_layAway_69 ?_
                    refine lv_iconst (v := (-1)) hx hb dX7_layAway_70 (by decide) ?_
                    refine b_icmp_ne hx hb rfl (show (-1 : Int32).toInt = -1 by decide) dX7_layAway_71 (tgt := 114) (by decide) (fun c71 => ?_) (fun c71 => ?_)
                    · refine lv_iinc (v := nI (g2 + 1)) (lv' := [(3, .int (nI (g2 + 1))), (4, .int (nI h3)), (2, .int (nI (s9 + 1))), (0, .ref (mm 0)), (1, .int (nI to9))]) hx hb dX7_layAway_114 hl (k := 1) rfl (nI_add g2 1) (by decide) rfl (fun ls hl => ?_)
                      refine lv_goto (tgt := 44) hx hb dX7_layAway_117 (by decide) ?_
                      exact ih44 (g2 + 1) aw4 _ _ _ (by omega) (by omega) (fun j hj => by
      by_cases q : j = g2
      · subst q
        rw [if_pos (by omega)]
        rcases hE with ⟨z1, z2⟩ | ⟨z1, z2, z3⟩
        · exact z1
        · first
          | exact absurd z1 (by omega)
          | (rw [z1, dD_no (fun ⟨_, h8, h9, h10, h11⟩ => z3 h8 (by omega) h10 h11)]; exact z2.symm)
      · rw [hD4 j hj q]
        by_cases q2 : j < g2
        · rw [if_pos q2, if_pos (by omega)]
        · rw [if_neg q2, if_neg (by omega)]) hP hD hS (lv_sub hl [0, 2, 3, 4] rfl)
                    have hE3 : (aw4 g2).toInt = -1 ∧ dD G n to9 s9 g2 = -1 ∧ ∀ h2, h2 < h3 → dD G n to9 s9 h2 = (s9 : Int) → nbr (G g2) (G h2) → False := by
                      rcases hE with ⟨z1, z2⟩ | z
                      · exact absurd c71 (by omega)
                      · exact z
                    have hdiff : (aw4 h3).toInt = (s9 : Int) ↔ dD G n to9 s9 h3 = (s9 : Int) := by
                      by_cases q : h3 = g2
                      · subst q; constructor <;> intro z <;> omega
                      · rw [hD4 h3 (by omega) q]
                        by_cases q2 : h3 < g2
                        · rw [if_pos q2]; exact dD_back
                        · rw [if_neg q2]
                    refine lv_aload_n hx hb dX7_layAway_74 rfl (lv_at hl 3 rfl) ?_
                    refine va_get (D := D) (ci := 7) (C := RX7) (T := TX7) (N := 17) hx hb hts iX7 hown hK hP 0 rfl rfl 16 (by decide) (hts _ k_f_X7_42) (fun _ h9 => h9) rfl dX7_layAway_75 ?_
                    refine lv_iload_n hx hb dX7_layAway_78 rfl (lv_at hl 1 rfl) ?_
                    refine lv_aload_n hx hb dX7_layAway_79 rfl (lv_at hl 3 rfl) ?_
                    refine va_get (D := D) (ci := 7) (C := RX7) (T := TX7) (N := 17) hx hb hts iX7 hown hK hP 0 rfl rfl 16 (by decide) (hts _ k_f_X7_42) (fun _ h9 => h9) rfl dX7_layAway_80 ?_
                    refine lv_iload hx hb dX7_layAway_83 (lv_at hl 0 rfl) ?_
                    refine n_iald hx hb hK hP 11 0 rfl rfl (i := h3) (n := 64) (by omega) (by decide) dX7_layAway_85 ?_
                    refine lv_iload_n hx hb dX7_layAway_86 rfl (lv_at hl 2 rfl) ?_
                    refine lv_iconst (v := nI 1) hx hb dX7_layAway_87 (by decide) ?_
                    refine lv_isub hx hb dX7_layAway_88 ?_
                    refine t_i (show nI (s9 + 1) - nI 1 = nI s9 from (pk_sub (by omega)).trans (congrArg nI (by omega))) ?_
                    by_cases hdh : dD G n to9 s9 h3 = (s9 : Int)
                    rotate_left
                    · refine b_icmp_ne hx hb rfl (nI_toIntI (by omega)) dX7_layAway_89 (tgt := 106) (by decide) (fun c89 => ?_) (fun c89 => absurd c89 (by omega))
                      refine lv_iconst (v := (-1)) hx hb dX7_layAway_106 (by decide) ?_
                      refine n_iast hx hb hK hP hD hS 11 0 rfl rfl (i := g2) (n := 64) (by omega) (by decide) dX7_layAway_107 (fun H locs hP hD hS => ?_)
                      have hP : va_P D vwCl (WM K mm ta sl ss be ch th M rq cq pv so st (nI n) gm gu gl (upd aw4 g2 (-1))) H := hP
                      have hD : va_D A (WM K mm ta sl ss be ch th M rq cq pv so st (nI n) gm gu gl (upd aw4 g2 (-1))) := hD
                      refine lv_iinc (v := nI (h3 + 1)) (lv' := [(4, .int (nI (h3 + 1))), (3, .int (nI g2)), (2, .int (nI (s9 + 1))), (0, .ref (mm 0)), (1, .int (nI to9))]) hx hb dX7_layAway_108 hl (k := 0) rfl (nI_add h3 1) (by decide) rfl (fun ls hl => ?_)
                      refine lv_goto (tgt := 55) hx hb dX7_layAway_111 (by decide) ?_
                      exact ih55 (h3 + 1) (upd aw4 g2 (-1)) _ _ _ (by omega) (by omega) (fun j hj q => by rw [updOther q]; exact hD4 j hj q) (Or.inr ⟨by rw [updSame]; decide, hE3.2.1, fun h2 hh z1 z2 => by
      by_cases q : h2 = h3
      · subst q; first | exact hnb z2 | exact hdh z1
      · exact hE3.2.2 h2 (by omega) z1 z2⟩) hP hD hS (lv_sub hl [0, 1, 2, 3, 4] rfl)
                    refine b_icmp_ne hx hb rfl (nI_toIntI (by omega)) dX7_layAway_89 (tgt := 106) (by decide) (fun c89 => absurd c89 (by omega)) (fun c89 => ?_)
                    refine lv_aload_n hx hb dX7_layAway_92 rfl (lv_at hl 3 rfl) ?_
                    refine lv_iload_n hx hb dX7_layAway_93 rfl (lv_at hl 1 rfl) ?_
                    refine lv_iload hx hb dX7_layAway_94 (lv_at hl 0 rfl) ?_
                    refine va_calli (va_runV (As := [.int (nI g2), .int (nI h3)]) (rest := [.int (nI g2), .ref (mm 11)]) ⟨hx, hb, hml, hown, hts⟩ (c_X7_areNeighbours l D K mm ta sl ss be ch th M rq cq pv so st (nI n) gm gu gl aw4 G n g2 h3 H.size hn hG (by omega) (by omega)) (cwV 2 hts (TB_V k_m_X7_163 k_im_X7_areNeighbours k_se_X7_areNeighbours k_in_X7 k_co_X7_areNeighbours (fun _ h => h)) rfl rfl rfl (by decide +kernel) ⟨Nat.le_of_ble_eq_true rfl, Nat.le_of_ble_eq_true rfl⟩) ⟨cP_blind, va_recv hK hP (ci := 7) (q0 := 0) rfl rfl, cP_of hP hK hD⟩ rfl rfl hl.1 rfl (lv_room (Nat.le_of_ble_eq_true rfl)) dX7_layAway_96 ⟨Nat.le_of_ble_eq_true rfl, Nat.le_of_ble_eq_true rfl⟩) hS (fun q _ h => absurd h id) (fun q h => absurd h id) (fun nz u9 t9 H locs ht9 hvm hw hB hz1 hk1 hS => ?_)
                    have hP := P_same hP hk1
                    by_cases hnb : nbr (G g2) (G h3)
                    rotate_left
                    · refine t_i (hw.trans (bI_f hnb).symm) ?_
                      refine b_if_eq hx hb (nI_toIntI (by omega)) dX7_layAway_99 (tgt := 106) (by decide) (fun c99 => ?_) (fun c99 => absurd c99 (by omega))
                      refine lv_iconst (v := (-1)) hx hb dX7_layAway_106 (by decide) ?_
                      refine n_iast hx hb hK hP hD hS 11 0 rfl rfl (i := g2) (n := 64) (by omega) (by decide) dX7_layAway_107 (fun H locs hP hD hS => ?_)
                      have hP : va_P D vwCl (WM K mm ta sl ss be ch th M rq cq pv so st (nI n) gm gu gl (upd aw4 g2 (-1))) H := hP
                      have hD : va_D A (WM K mm ta sl ss be ch th M rq cq pv so st (nI n) gm gu gl (upd aw4 g2 (-1))) := hD
                      refine lv_iinc (v := nI (h3 + 1)) (lv' := [(4, .int (nI (h3 + 1))), (3, .int (nI g2)), (2, .int (nI (s9 + 1))), (0, .ref (mm 0)), (1, .int (nI to9))]) hx hb dX7_layAway_108 hl (k := 0) rfl (nI_add h3 1) (by decide) rfl (fun ls hl => ?_)
                      refine lv_goto (tgt := 55) hx hb dX7_layAway_111 (by decide) ?_
                      exact ih55 (h3 + 1) (upd aw4 g2 (-1)) _ _ _ (by omega) (by omega) (fun j hj q => by rw [updOther q]; exact hD4 j hj q) (Or.inr ⟨by rw [updSame]; decide, hE3.2.1, fun h2 hh z1 z2 => by
      by_cases q : h2 = h3
      · subst q; first | exact hnb z2 | exact hdh z1
      · exact hE3.2.2 h2 (by omega) z1 z2⟩) hP hD hS (lv_sub hl [0, 1, 2, 3, 4] rfl)
                    refine t_i (hw.trans (bI_t hnb).symm) ?_
                    refine b_if_eq hx hb (nI_toIntI (by omega)) dX7_layAway_99 (tgt := 106) (by decide) (fun c99 => absurd c99 (by omega)) (fun c99 => ?_)
                    refine lv_iload_n hx hb dX7_layAway_102 rfl (lv_at hl 2 rfl) ?_
                    refine lv_goto (tgt := 107) hx hb dX7_layAway_103 (by decide) ?_
                    refine n_iast hx hb hK hP hD hS 11 0 rfl rfl (i := g2) (n := 64) (by omega) (by decide) dX7_layAway_107 (fun H locs hP hD hS => ?_)
                    have hP : va_P D vwCl (WM K mm ta sl ss be ch th M rq cq pv so st (nI n) gm gu gl (upd aw4 g2 (nI (s9 + 1)))) H := hP
                    have hD : va_D A (WM K mm ta sl ss be ch th M rq cq pv so st (nI n) gm gu gl (upd aw4 g2 (nI (s9 + 1)))) := hD
                    refine lv_iinc (v := nI (h3 + 1)) (lv' := [(4, .int (nI (h3 + 1))), (3, .int (nI g2)), (2, .int (nI (s9 + 1))), (0, .ref (mm 0)), (1, .int (nI to9))]) hx hb dX7_layAway_108 hl (k := 0) rfl (nI_add h3 1) (by decide) rfl (fun ls hl => ?_)
                    refine lv_goto (tgt := 55) hx hb dX7_layAway_111 (by decide) ?_
                    exact ih55 (h3 + 1) (upd aw4 g2 (nI (s9 + 1))) _ _ _ (by omega) (by omega) (fun j hj q => by rw [updOther q]; exact hD4 j hj q) (Or.inl ⟨by rw [updSame, nI_toIntI (by omega), dD_yes hE3.2.1 ⟨h3, by omega, hdh, hnb⟩]; omega, by rw [updSame, nI_toIntI (by omega)]; omega⟩) hP hD hS (lv_sub hl [0, 1, 2, 3, 4] rfl)
                exact L55 _ 0 aw3 _ _ _ (Nat.lt_succ_self _) (by omega) (fun j hj q => hC j hj) (by
      by_cases q : dD G n to9 s9 g2 = -1
      · exact Or.inr ⟨by omega, q, fun h2 hh => absurd hh (Nat.not_lt_zero _)⟩
      · exact Or.inl ⟨by rw [hCg, dD_no (fun z => q z.1)], by omega⟩) hP hD hS (lv_sub hl [0, 1, 2, 3, 4] rfl)
            exact L44 _ 0 aw2 _ _ _ (Nat.lt_succ_self _) (by omega) (fun j hj => by rw [hB j hj, if_neg (by omega)]) hP hD hS (lv_sub hl [0, 1, 2, 3] rfl)
        exact L34 _ 0 aw1 _ _ _ (Nat.lt_succ_self _) (by omega) (fun j hj => hA j (by omega)) hP hD hS (lv_sub hl [0, 1, 2] rfl)
      refine lv_aload_n hx hb dX7_layAway_10 rfl (lv_at hl 1 rfl) ?_
      refine va_get (D := D) (ci := 7) (C := RX7) (T := TX7) (N := 17) hx hb hts iX7 hown hK hP 0 rfl rfl 16 (by decide) (hts _ k_f_X7_42) (fun _ h9 => h9) rfl dX7_layAway_11 ?_
      refine lv_iload_n hx hb dX7_layAway_14 rfl (lv_at hl 0 rfl) ?_
      refine lv_iload_n hx hb dX7_layAway_15 rfl (lv_at hl 0 rfl) ?_
      refine lv_iload_n hx hb dX7_layAway_16 rfl (lv_at hl 2 rfl) ?_
      refine b_icmp_ne hx hb (nI_toIntI (by omega)) (nI_toIntI (by omega)) dX7_layAway_17 (tgt := 24) (by decide) (fun c17 => ?_) (fun c17 => ?_)
      · refine lv_iconst (v := (-1)) hx hb dX7_layAway_24 (by decide) ?_
        refine n_iast hx hb hK hP hD hS 11 0 rfl rfl (i := g) (n := 64) (by omega) (by decide) dX7_layAway_25 (fun H locs hP hD hS => ?_)
        have hP : va_P D vwCl (WM K mm ta sl ss be ch th M rq cq pv so st (nI n) gm gu gl (upd aw1 g (-1))) H := hP
        have hD : va_D A (WM K mm ta sl ss be ch th M rq cq pv so st (nI n) gm gu gl (upd aw1 g (-1))) := hD
        refine lv_iinc (v := nI (g + 1)) (lv' := [(2, .int (nI (g + 1))), (0, .ref (mm 0)), (1, .int (nI to9))]) hx hb dX7_layAway_26 hl (k := 0) rfl (nI_add g 1) (by decide) rfl (fun ls hl => ?_)
        refine lv_goto (tgt := 2) hx hb dX7_layAway_29 (by decide) ?_
        exact ih2 (g + 1) (upd aw1 g (-1)) _ _ _ (by omega) (by omega) (fun j hj => by
      by_cases q : j = g
      · subst q
        rw [updSame]
        show _ = (if j = to9 then (0 : Int) else -1)
        first
        | (rw [if_pos (by omega)]; exact nI_toIntI (by omega))
        | (rw [if_neg (by omega)]; decide)
      · rw [updOther q]; exact hA j (by omega)) hP hD hS (lv_sub hl [0, 1, 2] rfl)
      refine lv_iconst (v := nI 0) hx hb dX7_layAway_20 (by decide) ?_
      refine lv_goto (tgt := 25) hx hb dX7_layAway_21 (by decide) ?_
      refine n_iast hx hb hK hP hD hS 11 0 rfl rfl (i := g) (n := 64) (by omega) (by decide) dX7_layAway_25 (fun H locs hP hD hS => ?_)
      have hP : va_P D vwCl (WM K mm ta sl ss be ch th M rq cq pv so st (nI n) gm gu gl (upd aw1 g (nI 0))) H := hP
      have hD : va_D A (WM K mm ta sl ss be ch th M rq cq pv so st (nI n) gm gu gl (upd aw1 g (nI 0))) := hD
      refine lv_iinc (v := nI (g + 1)) (lv' := [(2, .int (nI (g + 1))), (0, .ref (mm 0)), (1, .int (nI to9))]) hx hb dX7_layAway_26 hl (k := 0) rfl (nI_add g 1) (by decide) rfl (fun ls hl => ?_)
      refine lv_goto (tgt := 2) hx hb dX7_layAway_29 (by decide) ?_
      exact ih2 (g + 1) (upd aw1 g (nI 0)) _ _ _ (by omega) (by omega) (fun j hj => by
      by_cases q : j = g
      · subst q
        rw [updSame]
        show _ = (if j = to9 then (0 : Int) else -1)
        first
        | (rw [if_pos (by omega)]; exact nI_toIntI (by omega))
        | (rw [if_neg (by omega)]; decide)
      · rw [updOther q]; exact hA j (by omega)) hP hD hS (lv_sub hl [0, 1, 2] rfl)
  exact L2 _ 0 aw _ _ _ (Nat.lt_succ_self _) (by omega) (fun j h => absurd h (Nat.not_lt_zero j)) hP hD hS (lv_sub hl [0, 1, 2] rfl)
