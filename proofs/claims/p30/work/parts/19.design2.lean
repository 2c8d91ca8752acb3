/-! Design: the equations that it writes -/
theorem tI_add {M : Nat → Nat → Int64} {i j : Nat} {v : Int64} (hj : j < 11) (h1 : -9223372036854775808 ≤ tI M i j + v.toInt) (h2 : tI M i j + v.toInt < 9223372036854775808) (x y : Nat) : tI (setM M i j (M i j + v)) x y = tI M x y + (if x = i ∧ y = j then v.toInt else 0) := by
  rw [tI_at hj] at h1 h2
  by_cases hx : x = i
  · subst hx
    by_cases hy : y = j
    · subst hy
      rw [tI_at hj, tI_at hj, setM_same, L_add h1 h2, if_pos ⟨rfl, rfl⟩]
    · rw [if_neg (fun q => hy q.2), Int.add_zero]
      unfold tI
      rw [setM_col hy]
  · rw [if_neg (fun q => hx q.1), Int.add_zero]
    unfold tI
    rw [setM_row hx]
theorem i2l_I (x : Int32) : x.toInt64.toInt = x.toInt := Int32.toInt_toInt64 x
theorem neg_nI {n : Nat} (h : n < 2147483648) : (-(nI n)).toInt = -(n : Int) := by
  have h1 := nI_toIntI h
  rw [Int32.toInt_neg, h1]
  exact Int.bmod_eq_of_le (by omega) (by omega)
/-- what the first k sets add to the speeds' rows -/
def sS (d : Nat → Nat → Int32) (k x y : Nat) : Int := if 1 ≤ x ∧ x < 1 + k then setc d (x - 1) y else 0
def eS (d : Nat → Nat → Int32) (g k x y : Nat) : Int := if 4 ≤ x ∧ x < 4 + k ∧ g.testBit (x - 4) = true then elc d (x - 4) y else 0
theorem sS_succ (d : Nat → Nat → Int32) (k x y : Nat) : sS d (k + 1) x y = sS d k x y + (if x = 1 + k then setc d k y else 0) := by
  unfold sS
  by_cases q : x = 1 + k
  · subst q
    rw [if_pos (by omega), if_neg (by omega), if_pos rfl, show 1 + k - 1 = k by omega]
    omega
  · rw [if_neg q]
    by_cases q2 : 1 ≤ x ∧ x < 1 + k
    · rw [if_pos (by omega), if_pos q2]; omega
    · rw [if_neg (by omega), if_neg q2]; rfl
theorem eS_yes {d : Nat → Nat → Int32} {g k : Nat} (h : g.testBit k = true) (x y : Nat) : eS d g (k + 1) x y = eS d g k x y + (if x = 4 + k then elc d k y else 0) := by
  unfold eS
  by_cases q : x = 4 + k
  · subst q
    have e : 4 + k - 4 = k := by omega
    rw [e, if_pos (by refine ⟨by omega, by omega, h⟩), if_neg (by omega), if_pos rfl]
    omega
  · rw [if_neg q]
    by_cases q2 : 4 ≤ x ∧ x < 4 + k ∧ g.testBit (x - 4) = true
    · rw [if_pos ⟨q2.1, by omega, q2.2.2⟩, if_pos q2]; omega
    · rw [if_neg (fun z => q2 ⟨z.1, by omega, z.2.2⟩), if_neg q2]; rfl
theorem eS_no {d : Nat → Nat → Int32} {g k : Nat} (h : ¬ g.testBit k = true) (x y : Nat) : eS d g (k + 1) x y = eS d g k x y := by
  unfold eS
  by_cases q : x = 4 + k
  · subst q
    have e : 4 + k - 4 = k := by omega
    rw [e, if_neg (fun z => h z.2.2), if_neg (fun z => h z.2.2)]
  · by_cases q2 : 4 ≤ x ∧ x < 4 + k ∧ g.testBit (x - 4) = true
    · rw [if_pos ⟨q2.1, by omega, q2.2.2⟩, if_pos q2]
    · rw [if_neg (fun z => q2 ⟨z.1, by omega, z.2.2⟩), if_neg q2]
theorem sS_self (d : Nat → Nat → Int32) (k y : Nat) : sS d k (1 + k) y = 0 := by
  unfold sS
  rw [if_neg (by omega)]
theorem eS_self (d : Nat → Nat → Int32) (g k y : Nat) : eS d g k (4 + k) y = 0 := by
  unfold eS
  rw [if_neg (by omega)]
theorem setc_abs {d : Nat → Nat → Int32} {k : Nat} (h : SetV d k) (j : Nat) : (setc d k j).natAbs ≤ 280 := Nat.le_trans (ent_rN j) (rN_setc h (List.nodup_cons.mpr ⟨List.not_mem_nil, List.nodup_nil⟩))
theorem elc_abs (d : Nat → Nat → Int32) (k j : Nat) : (elc d k j).natAbs ≤ 2 := Nat.le_trans (ent_rN j) (rN_elc d k (List.nodup_cons.mpr ⟨List.not_mem_nil, List.nodup_nil⟩))
/-- three numbers of a gear set, in a row -/
theorem add_set {M : Nat → Nat → Int64} {r a b c s t : Nat} {v1 v2 v3 : Int64} (ha : a < 11) (hb : b < 11) (hc : c < 11) (h1 : v1.toInt = s) (h2 : v2.toInt = t) (h3 : v3.toInt = -((s : Int) + t)) (hs : s ≤ 40) (ht : t ≤ 100) (hM : ∀ y, (tI M r y).natAbs ≤ 1000) (M1 M2 M3 : Nat → Nat → Int64) (e1 : M1 = setM M r a (M r a + v1)) (e2 : M2 = setM M1 r b (M1 r b + v2)) (e3 : M3 = setM M2 r c (M2 r c + v3)) (x y : Nat) : tI M3 x y = tI M x y + (if x = r then (if y = a then (s : Int) else 0) + ((if y = b then (t : Int) else 0) + (if y = c then -((s : Int) + t) else 0)) else 0) := by
  have A1 : ∀ x y, tI M1 x y = tI M x y + (if x = r ∧ y = a then v1.toInt else 0) := fun x y => by
    rw [e1]; have := hM a; exact tI_add ha (by omega) (by omega) x y
  have B1 : ∀ y, (tI M1 r y).natAbs ≤ 1040 := fun y => by
    have := hM y; have := A1 r y; split at this <;> omega
  have A2 : ∀ x y, tI M2 x y = tI M1 x y + (if x = r ∧ y = b then v2.toInt else 0) := fun x y => by
    rw [e2]; have := B1 b; exact tI_add hb (by omega) (by omega) x y
  have B2 : ∀ y, (tI M2 r y).natAbs ≤ 1140 := fun y => by
    have := B1 y; have := A2 r y; split at this <;> omega
  have A3 : tI M3 x y = tI M2 x y + (if x = r ∧ y = c then v3.toInt else 0) := by
    rw [e3]; have := B2 c; exact tI_add hc (by omega) (by omega) x y
  rw [A3, A2, A1, h1, h2, h3]
  by_cases q : x = r
  · simp only [q, true_and, if_true]; omega
  · simp only [q, false_and, if_false]; omega
/-- the same in a column -/
theorem add_setT {M : Nat → Nat → Int64} {r a b c s t : Nat} {v1 v2 v3 : Int64} (hr : r < 11) (ha : a < 10) (hb : b < 10) (hc : c < 10) (h1 : v1.toInt = s) (h2 : v2.toInt = t) (h3 : v3.toInt = -((s : Int) + t)) (hs : s ≤ 40) (ht : t ≤ 100) (hM : ∀ x, x < 10 → (tI M x r).natAbs ≤ 1000) (M1 M2 M3 : Nat → Nat → Int64) (e1 : M1 = setM M a r (M a r + v1)) (e2 : M2 = setM M1 b r (M1 b r + v2)) (e3 : M3 = setM M2 c r (M2 c r + v3)) (x y : Nat) : tI M3 x y = tI M x y + (if y = r then (if x = a then (s : Int) else 0) + ((if x = b then (t : Int) else 0) + (if x = c then -((s : Int) + t) else 0)) else 0) := by
  have A1 : ∀ x y, tI M1 x y = tI M x y + (if x = a ∧ y = r then v1.toInt else 0) := fun x y => by
    rw [e1]; have := hM a ha; exact tI_add hr (by omega) (by omega) x y
  have B1 : ∀ x, x < 10 → (tI M1 x r).natAbs ≤ 1040 := fun x hx => by
    have := hM x hx; have := A1 x r; split at this <;> omega
  have A2 : ∀ x y, tI M2 x y = tI M1 x y + (if x = b ∧ y = r then v2.toInt else 0) := fun x y => by
    rw [e2]; have := B1 b hb; exact tI_add hr (by omega) (by omega) x y
  have B2 : ∀ x, x < 10 → (tI M2 x r).natAbs ≤ 1140 := fun x hx => by
    have := B1 x hx; have := A2 x r; split at this <;> omega
  have A3 : tI M3 x y = tI M2 x y + (if x = c ∧ y = r then v3.toInt else 0) := by
    rw [e3]; have := B2 c hc; exact tI_add hr (by omega) (by omega) x y
  rw [A3, A2, A1, h1, h2, h3]
  by_cases q : y = r
  · simp only [q, and_true, if_true]; omega
  · simp only [q, and_false, if_false]; omega
theorem setc_eq {d : Nat → Nat → Int32} {k a b c s t : Nat} (e0 : d 0 k = nI a) (e1 : d 1 k = nI b) (e2 : d 2 k = nI c) (e3 : d 3 k = nI s) (e4 : d 4 k = nI t) (ha : a < 2147483648) (hb : b < 2147483648) (hc : c < 2147483648) (hs : s < 2147483648) (ht : t < 2147483648) (y : Nat) : setc d k y = (if y = a then (s : Int) else 0) + ((if y = b then (t : Int) else 0) + (if y = c then -((s : Int) + t) else 0)) := by
  unfold setc
  rw [dn_of e0 ha, dn_of e1 hb, dn_of e2 hc, dn_of e3 hs, dn_of e4 ht]
theorem elc_brake {d : Nat → Nat → Int32} {k a : Nat} (e5 : d 5 k = nI a) (e6 : d 6 k = -1) (ha : a < 2147483648) (y : Nat) : elc d k y = (if y = a then 1 else 0) := by
  unfold elc
  have e : ¬ (0 ≤ (-1 : Int32).toInt ∧ y = dn d 6 k) := fun q => absurd q.1 (by decide)
  rw [dn_of e5 ha, e6, if_neg e, Int.add_zero]
theorem elc_clutch {d : Nat → Nat → Int32} {k a b : Nat} (e5 : d 5 k = nI a) (e6 : d 6 k = nI b) (ha : a < 2147483648) (hb : b < 2147483648) (y : Nat) : elc d k y = (if y = a then 1 else 0) + (if y = b then -1 else 0) := by
  unfold elc
  have h := nI_toIntI hb
  have e : (0 ≤ (nI b).toInt ∧ y = b) = (y = b) := propext ⟨fun q => q.2, fun q => ⟨by omega, q⟩⟩
  rw [dn_of e5 ha, dn_of e6 hb, e6]
  simp only [e]
section
variable {p : Program} {l : Launch} {e : Env} {R : Room} {s : State} {m : MethodId} {args : Array Value} {below : List Frame} {meth : Method} {c : Code} {H : Heap} {locs : List Loc} {cells slots : Nat} {Q : State → Prop} {ls : Array Slot} {rest : List Value}
theorem t_i2 {v : Value} {x y : Int32} {pc : Nat} (h : x = y) (k : W p l e R s m args below meth c H locs cells slots Q (F0 m pc ls (v :: .int y :: rest))) : W p l e R s m args below meth c H locs cells slots Q (F0 m pc ls (v :: .int x :: rest)) := h ▸ k
end
set_option maxHeartbeats 4000000 in
set_option maxRecDepth 100000 in
theorem c_X0_writeSetSpeeds (l : Launch) (D : va_G) (K : Nat → ClassId) (a ao ap ab : Nat) (r : Nat → Nat) (M : Nat → Nat → Int64) (pv ip : Nat → Int32) (sv : Int32) (q : Nat → Nat) (d : Nat → Nat → Int32) (n : Nat) (sz : Nat) (hn : n ≤ 3) (h0 : d 8 0 = nI n) (hs : ∀ k, k < n → SetV d k) (hM : ∀ x y, x < 10 → (tI M x y).natAbs ≤ 1000) : Met l yX0_writeSetSpeeds (.code yX0_writeSetSpeeds cX0_writeSetSpeeds 5 none :: TB) ({ frames := 1, cells := 0, slots := 0, locals := 24 } : Room) (va_Pc [.ref (q 0), .ref a, .int (nI 1)] (cP D K (WE K a ao ap ab r M pv ip sv ++ (WD K q d)) sz)) (va_Qv (fun (u : Nat → Nat → Int64) => ∀ x y, tI u x y = tI M x y + sS d n x y) (fun (u : Nat → Nat → Int64) t => cB D K (va_A (WE K a ao ap ab r M pv ip sv ++ (WD K q d)) sz) (WE K a ao ap ab r u pv ip sv ++ (WD K q d)) t) (va_A (WE K a ao ap ab r M pv ip sv ++ (WD K q d)) sz)) 0 0 (va_A (WE K a ao ap ab r M pv ip sv ++ (WD K q d)) sz) := by
  refine Met.ofW (cc := cX0_writeSetSpeeds) (maxL := 5) (ret := none) (by decide) rfl ?_
  intro p e s m args below meth c s₁ B hml hv
  obtain ⟨rfl, hsz, hP, hK, hD0⟩ := hv
  have hx := B.exec
  have hb := B.bytes
  have hr := B.returns
  have hts := hts_tl (atoms_spec (ws := (.code yX0_writeSetSpeeds cX0_writeSetSpeeds 5 none :: TB)) B.pre)
  have hown : s.vm.findClass RX0 = some m.cls := findClass_of_methodNamed B.named
  have hlocks := B.notSynchronized
  subst hsz
  have hD := hD0.self (sz := s.heap.size)
  generalize hAe : (va_A (WE K a ao ap ab r M pv ip sv ++ (WD K q d)) s.heap.size) = A at hD ⊢
  have hA : ∀ q : Nat, s.heap.size ≤ q → A q := fun q h => by rw [← hAe]; exact Or.inr h
  have hS : va_S A s.heap s.heap [] := va_S.rf
  have hl := lv_entry ([.ref (q 0), .ref a, .int (nI 1)]) (n := 5) (Nat.le_of_ble_eq_true rfl)
  rw [lg_entry_eq]
  generalize (lg_sl ([.ref (q 0), .ref a, .int (nI 1)]) ++ List.replicate (5 - (lg_sl ([.ref (q 0), .ref a, .int (nI 1)])).length) Slot.unset).toArray = ls at hl ⊢
  have hl : lv_has ls 5 [(0, .ref (q 0)), (1, .ref a), (2, .int (nI 1))] := hl
  refine lv_iconst (v := nI 0) hx hb dX0_writeSetSpeeds_0 (by decide) ?_
  refine lv_istore_n (lv' := [(3, .int (nI 0)), (0, .ref (q 0)), (1, .ref a), (2, .int (nI 1))]) hx hb dX0_writeSetSpeeds_1 rfl hl (by decide) rfl (fun ls hl => ?_)
  have L2 : ∀ (fuel : Nat) (k : Nat) (M' : Nat → Nat → Int64) (H : Heap) (locs : List Loc) (ls : Array Slot), n - k < fuel → (k ≤ n) → (∀ x y, tI M' x y = tI M x y + sS d k x y) → va_P D vwCl (WE K a ao ap ab r M' pv ip sv ++ (WD K q d)) H → va_D A (WE K a ao ap ab r M' pv ip sv ++ (WD K q d)) → va_S A s.heap H locs → lv_has ls 5 [(3, .int (nI k)), (0, .ref (q 0)), (1, .ref a), (2, .int (nI 1))] → W p l e ({ frames := 1, cells := 0, slots := 0, locals := 24 } : Room) s m [.ref (q 0), .ref a, .int (nI 1)].toArray below meth c H locs 0 0 (MQ below (va_Qv (fun (u : Nat → Nat → Int64) => ∀ x y, tI u x y = tI M x y + sS d n x y) (fun (u : Nat → Nat → Int64) t => cB D K A (WE K a ao ap ab r u pv ip sv ++ (WD K q d)) t) A) [.ref (q 0), .ref a, .int (nI 1)].toArray s 0 0 A) (F0 m 2 ls []) := by
    intro fuel
    induction fuel with
    | zero =>
      intro k M' H locs ls hfu
      exact absurd hfu (Nat.not_lt_zero _)
    | succ fuel ih2 =>
      intro k M' H locs ls hfu hk hI hP hD hS hl
      refine lv_iload_n hx hb dX0_writeSetSpeeds_2 rfl (lv_at hl 0 rfl) ?_
      refine lv_aload_n hx hb dX0_writeSetSpeeds_3 rfl (lv_at hl 1 rfl) ?_
      refine va_get (D := D) (ci := 0) (C := RX0) (T := TX0) (N := 11) hx hb hts iX0 hown hK hP 14 rfl rfl 5 (by decide) (hts _ k_f_X0_36) (fun _ h9 => h9) rfl dX0_writeSetSpeeds_4 ?_
      refine t_i (show _ = nI n from h0) ?_
      refine b_icmp_ge hx hb (nI_toIntI (by omega)) (nI_toIntI (by omega)) dX0_writeSetSpeeds_7 (tgt := 91) (by decide) (fun c7 => ?_) (fun c7 => ?_)
      · exact W.vret hx hb hr (fun t9 ht9 hW => ⟨⟨M', rfl, (fun x y => by have h9 : k = n := (by omega); rw [← h9]; exact hI x y), by rw [ht9]; exact hP, va_K.moved hW.alike hK, hD⟩, hS.F ht9⟩) hS.2.2 dX0_writeSetSpeeds_91
      refine lv_iload_n hx hb dX0_writeSetSpeeds_10 rfl (lv_at hl 0 rfl) ?_
      refine lv_iconst (v := nI 3) hx hb dX0_writeSetSpeeds_11 (by decide) ?_
      refine b_icmp_ge hx hb (nI_toIntI (by omega)) (nI_toIntI (by omega)) dX0_writeSetSpeeds_12 (tgt := 91) (by decide) (fun c12 => absurd c12 (by omega)) (fun c12 => ?_)
      obtain ⟨sa, sb, sc, ss, sr, ⟨ha, hb9, hc⟩, -, ⟨hs1, hs2, hs3, hs4⟩, e0, e1, e2, e3, e4⟩ := hs k (by omega)
      refine lv_iload_n hx hb dX0_writeSetSpeeds_15 rfl (lv_at hl 3 rfl) ?_
      refine lv_iload_n hx hb dX0_writeSetSpeeds_16 rfl (lv_at hl 0 rfl) ?_
      refine lv_iadd hx hb dX0_writeSetSpeeds_17 ?_
      refine t_i (nI_add _ _) ?_
      refine lv_istore (lv' := [(4, .int (nI (1 + k))), (3, .int (nI k)), (0, .ref (q 0)), (1, .ref a), (2, .int (nI 1))]) hx hb dX0_writeSetSpeeds_18 hl (by decide) rfl (fun ls hl => ?_)
      refine lv_aload_n hx hb dX0_writeSetSpeeds_20 rfl (lv_at hl 3 rfl) ?_
      refine lv_iload hx hb dX0_writeSetSpeeds_21 (lv_at hl 0 rfl) ?_
      refine lv_aload_n hx hb dX0_writeSetSpeeds_23 rfl (lv_at hl 2 rfl) ?_
      refine va_get (D := D) (ci := 0) (C := RX0) (T := TX0) (N := 11) hx hb hts iX0 hown hK hP 14 rfl rfl 0 (by decide) (hts _ k_f_X0_9) (fun _ h9 => h9) rfl dX0_writeSetSpeeds_24 ?_
      refine lv_iload_n hx hb dX0_writeSetSpeeds_27 rfl (lv_at hl 1 rfl) ?_
      refine n_iald hx hb hK hP 15 0 rfl rfl (i := k) (n := 3) (by omega) (by decide) dX0_writeSetSpeeds_28 ?_
      refine t_i (show _ = nI sa from e0) ?_
      refine lv_aload_n hx hb dX0_writeSetSpeeds_29 rfl (lv_at hl 2 rfl) ?_
      refine va_get (D := D) (ci := 0) (C := RX0) (T := TX0) (N := 11) hx hb hts iX0 hown hK hP 14 rfl rfl 3 (by decide) (hts _ k_f_X0_21) (fun _ h9 => h9) rfl dX0_writeSetSpeeds_30 ?_
      refine lv_iload_n hx hb dX0_writeSetSpeeds_33 rfl (lv_at hl 1 rfl) ?_
      refine n_iald hx hb hK hP 18 0 rfl rfl (i := k) (n := 3) (by omega) (by decide) dX0_writeSetSpeeds_34 ?_
      refine t_i (show _ = nI ss from e3) ?_
      refine lv_i2l (v := (nI ss).toInt64) hx hb dX0_writeSetSpeeds_35 rfl ?_
      have hPc := bP0 hP
      have hDc := bD0 hD
      have hFc := bF0 hD hS hA
      refine va_callv (va_runV (As := [.int (nI (1 + k)), .int (nI sa), .long ((nI ss).toInt64)]) (rest := []) ⟨hx, hb, hml, hown, hts⟩ (c_X1_add l D K a ao ap ab r M' pv ip sv (1 + k) sa ((nI ss).toInt64) H.size (by omega) (by omega)) (cwV 3 hts (TB_V k_m_X0_54 k_im_X1_add k_se_X1_add k_in_X1 k_co_X1_add (fun _ h => h)) rfl rfl rfl (by decide +kernel) ⟨Nat.le_of_ble_eq_true rfl, Nat.le_of_ble_eq_true rfl⟩) ⟨cP_blind, va_recv hK hPc (ci := 1) (q0 := 0) rfl rfl, cP_of hPc hK hDc⟩ rfl rfl hl.1 rfl (lv_room (Nat.le_of_ble_eq_true rfl)) dX0_writeSetSpeeds_36 ⟨Nat.le_of_ble_eq_true rfl, Nat.le_of_ble_eq_true rfl⟩) hS (fun q _ h => hFc q h) hFc (fun u9 t9 H locs ht9 hvm hw hB hz1 hk1 hS => ?_)
      obtain ⟨hP1, hK1, hD1⟩ := hB
      rw [ht9] at hP1
      obtain ⟨hP, hD⟩ := bJ0 hP hD hk1 hFc hP1 hD1
      obtain ⟨N1_0, eN1_0⟩ : ∃ z, z = setM M' (1 + k) sa (M' (1 + k) sa + (nI ss).toInt64) := ⟨_, rfl⟩
      rw [← eN1_0] at hP hD
      refine lv_aload_n hx hb dX0_writeSetSpeeds_39 rfl (lv_at hl 3 rfl) ?_
      refine lv_iload hx hb dX0_writeSetSpeeds_40 (lv_at hl 0 rfl) ?_
      refine lv_aload_n hx hb dX0_writeSetSpeeds_42 rfl (lv_at hl 2 rfl) ?_
      refine va_get (D := D) (ci := 0) (C := RX0) (T := TX0) (N := 11) hx hb hts iX0 hown hK hP 14 rfl rfl 1 (by decide) (hts _ k_f_X0_15) (fun _ h9 => h9) rfl dX0_writeSetSpeeds_43 ?_
      refine lv_iload_n hx hb dX0_writeSetSpeeds_46 rfl (lv_at hl 1 rfl) ?_
      refine n_iald hx hb hK hP 16 0 rfl rfl (i := k) (n := 3) (by omega) (by decide) dX0_writeSetSpeeds_47 ?_
      refine t_i (show _ = nI sb from e1) ?_
      refine lv_aload_n hx hb dX0_writeSetSpeeds_48 rfl (lv_at hl 2 rfl) ?_
      refine va_get (D := D) (ci := 0) (C := RX0) (T := TX0) (N := 11) hx hb hts iX0 hown hK hP 14 rfl rfl 4 (by decide) (hts _ k_f_X0_24) (fun _ h9 => h9) rfl dX0_writeSetSpeeds_49 ?_
      refine lv_iload_n hx hb dX0_writeSetSpeeds_52 rfl (lv_at hl 1 rfl) ?_
      refine n_iald hx hb hK hP 19 0 rfl rfl (i := k) (n := 3) (by omega) (by decide) dX0_writeSetSpeeds_53 ?_
      refine t_i (show _ = nI sr from e4) ?_
      refine lv_i2l (v := (nI sr).toInt64) hx hb dX0_writeSetSpeeds_54 rfl ?_
      have hPc := bP0 hP
      have hDc := bD0 hD
      have hFc := bF0 hD hS hA
      refine va_callv (va_runV (As := [.int (nI (1 + k)), .int (nI sb), .long ((nI sr).toInt64)]) (rest := []) ⟨hx, hb, hml, hown, hts⟩ (c_X1_add l D K a ao ap ab r N1_0 pv ip sv (1 + k) sb ((nI sr).toInt64) H.size (by omega) (by omega)) (cwV 3 hts (TB_V k_m_X0_54 k_im_X1_add k_se_X1_add k_in_X1 k_co_X1_add (fun _ h => h)) rfl rfl rfl (by decide +kernel) ⟨Nat.le_of_ble_eq_true rfl, Nat.le_of_ble_eq_true rfl⟩) ⟨cP_blind, va_recv hK hPc (ci := 1) (q0 := 0) rfl rfl, cP_of hPc hK hDc⟩ rfl rfl hl.1 rfl (lv_room (Nat.le_of_ble_eq_true rfl)) dX0_writeSetSpeeds_55 ⟨Nat.le_of_ble_eq_true rfl, Nat.le_of_ble_eq_true rfl⟩) hS (fun q _ h => hFc q h) hFc (fun u9 t9 H locs ht9 hvm hw hB hz1 hk1 hS => ?_)
      obtain ⟨hP1, hK1, hD1⟩ := hB
      rw [ht9] at hP1
      obtain ⟨hP, hD⟩ := bJ0 hP hD hk1 hFc hP1 hD1
      obtain ⟨N2_0, eN2_0⟩ : ∃ z, z = setM N1_0 (1 + k) sb (N1_0 (1 + k) sb + (nI sr).toInt64) := ⟨_, rfl⟩
      rw [← eN2_0] at hP hD
      refine lv_aload_n hx hb dX0_writeSetSpeeds_58 rfl (lv_at hl 3 rfl) ?_
      refine lv_iload hx hb dX0_writeSetSpeeds_59 (lv_at hl 0 rfl) ?_
      refine lv_aload_n hx hb dX0_writeSetSpeeds_61 rfl (lv_at hl 2 rfl) ?_
      refine va_get (D := D) (ci := 0) (C := RX0) (T := TX0) (N := 11) hx hb hts iX0 hown hK hP 14 rfl rfl 2 (by decide) (hts _ k_f_X0_18) (fun _ h9 => h9) rfl dX0_writeSetSpeeds_62 ?_
      refine lv_iload_n hx hb dX0_writeSetSpeeds_65 rfl (lv_at hl 1 rfl) ?_
      refine n_iald hx hb hK hP 17 0 rfl rfl (i := k) (n := 3) (by omega) (by decide) dX0_writeSetSpeeds_66 ?_
      refine t_i (show _ = nI sc from e2) ?_
      refine lv_aload_n hx hb dX0_writeSetSpeeds_67 rfl (lv_at hl 2 rfl) ?_
      refine va_get (D := D) (ci := 0) (C := RX0) (T := TX0) (N := 11) hx hb hts iX0 hown hK hP 14 rfl rfl 3 (by decide) (hts _ k_f_X0_21) (fun _ h9 => h9) rfl dX0_writeSetSpeeds_68 ?_
      refine lv_iload_n hx hb dX0_writeSetSpeeds_71 rfl (lv_at hl 1 rfl) ?_
      refine n_iald hx hb hK hP 18 0 rfl rfl (i := k) (n := 3) (by omega) (by decide) dX0_writeSetSpeeds_72 ?_
      refine t_i (show _ = nI ss from e3) ?_
      refine lv_aload_n hx hb dX0_writeSetSpeeds_73 rfl (lv_at hl 2 rfl) ?_
      refine va_get (D := D) (ci := 0) (C := RX0) (T := TX0) (N := 11) hx hb hts iX0 hown hK hP 14 rfl rfl 4 (by decide) (hts _ k_f_X0_24) (fun _ h9 => h9) rfl dX0_writeSetSpeeds_74 ?_
      refine lv_iload_n hx hb dX0_writeSetSpeeds_77 rfl (lv_at hl 1 rfl) ?_
      refine n_iald hx hb hK hP 19 0 rfl rfl (i := k) (n := 3) (by omega) (by decide) dX0_writeSetSpeeds_78 ?_
      refine t_i (show _ = nI sr from e4) ?_
      refine lv_iadd hx hb dX0_writeSetSpeeds_79 ?_
      refine t_i (nI_add _ _) ?_
      refine lv_ineg hx hb dX0_writeSetSpeeds_80 ?_
      refine lv_i2l (v := (-(nI (ss + sr))).toInt64) hx hb dX0_writeSetSpeeds_81 rfl ?_
      have hPc := bP0 hP
      have hDc := bD0 hD
      have hFc := bF0 hD hS hA
      refine va_callv (va_runV (As := [.int (nI (1 + k)), .int (nI sc), .long ((-(nI (ss + sr))).toInt64)]) (rest := []) ⟨hx, hb, hml, hown, hts⟩ (c_X1_add l D K a ao ap ab r N2_0 pv ip sv (1 + k) sc ((-(nI (ss + sr))).toInt64) H.size (by omega) (by omega)) (cwV 3 hts (TB_V k_m_X0_54 k_im_X1_add k_se_X1_add k_in_X1 k_co_X1_add (fun _ h => h)) rfl rfl rfl (by decide +kernel) ⟨Nat.le_of_ble_eq_true rfl, Nat.le_of_ble_eq_true rfl⟩) ⟨cP_blind, va_recv hK hPc (ci := 1) (q0 := 0) rfl rfl, cP_of hPc hK hDc⟩ rfl rfl hl.1 rfl (lv_room (Nat.le_of_ble_eq_true rfl)) dX0_writeSetSpeeds_82 ⟨Nat.le_of_ble_eq_true rfl, Nat.le_of_ble_eq_true rfl⟩) hS (fun q _ h => hFc q h) hFc (fun u9 t9 H locs ht9 hvm hw hB hz1 hk1 hS => ?_)
      obtain ⟨hP1, hK1, hD1⟩ := hB
      rw [ht9] at hP1
      obtain ⟨hP, hD⟩ := bJ0 hP hD hk1 hFc hP1 hD1
      obtain ⟨N3_0, eN3_0⟩ : ∃ z, z = setM N2_0 (1 + k) sc (N2_0 (1 + k) sc + (-(nI (ss + sr))).toInt64) := ⟨_, rfl⟩
      rw [← eN3_0] at hP hD
      refine lv_iinc (v := nI (k + 1)) (lv' := [(3, .int (nI (k + 1))), (4, .int (nI (1 + k))), (0, .ref (q 0)), (1, .ref a), (2, .int (nI 1))]) hx hb dX0_writeSetSpeeds_85 hl (k := 1) rfl (nI_add k 1) (by decide) rfl (fun ls hl => ?_)
      refine lv_goto (tgt := 2) hx hb dX0_writeSetSpeeds_88 (by decide) ?_
      have hrow : ∀ z, (tI M' (1 + k) z).natAbs ≤ 1000 := fun z => by rw [hI]; have h9 := hM (1 + k) z (by omega); rw [sS_self]; simpa using h9
      have hI2 : ∀ x y, tI N3_0 x y = tI M x y + sS d (k + 1) x y := fun x y => by
        rw [add_set (r := 1 + k) (a := sa) (b := sb) (c := sc) (s := ss) (t := sr) (by omega) (by omega) (by omega) (by rw [i2l_I]; exact nI_toIntI (by omega)) (by rw [i2l_I]; exact nI_toIntI (by omega)) (by rw [i2l_I, neg_nI (by omega)]; omega) (by omega) (by omega) hrow N1_0 N2_0 N3_0 eN1_0 eN2_0 eN3_0 x y, hI x y, sS_succ, setc_eq e0 e1 e2 e3 e4 (by omega) (by omega) (by omega) (by omega) (by omega), Int.add_assoc]
      exact ih2 (k + 1) N3_0 _ _ _ (by omega) (by omega) hI2 hP hD hS (lv_sub hl [0, 2, 3, 4] rfl)
  exact L2 _ 0 M _ _ _ (Nat.lt_succ_self _) (Nat.zero_le _) (fun x y => by rw [show sS d 0 x y = 0 from if_neg (by omega), Int.add_zero]) hP hD hS (lv_sub hl [0, 1, 2, 3] rfl)
set_option maxHeartbeats 4000000 in
set_option maxRecDepth 100000 in
theorem c_X0_writeSetTorques (l : Launch) (D : va_G) (K : Nat → ClassId) (a ao ap ab : Nat) (r : Nat → Nat) (M : Nat → Nat → Int64) (pv ip : Nat → Int32) (sv : Int32) (q : Nat → Nat) (d : Nat → Nat → Int32) (n : Nat) (sz : Nat) (hn : n ≤ 3) (h0 : d 8 0 = nI n) (hs : ∀ k, k < n → SetV d k) (hM : ∀ x y, x < 10 → (tI M x y).natAbs ≤ 1000) : Met l yX0_writeSetTorques (.code yX0_writeSetTorques cX0_writeSetTorques 5 none :: TB) ({ frames := 1, cells := 0, slots := 0, locals := 24 } : Room) (va_Pc [.ref (q 0), .ref a, .int (nI 1)] (cP D K (WE K a ao ap ab r M pv ip sv ++ (WD K q d)) sz)) (va_Qv (fun (u : Nat → Nat → Int64) => ∀ x y, tI u x y = tI M x y + sS d n y x) (fun (u : Nat → Nat → Int64) t => cB D K (va_A (WE K a ao ap ab r M pv ip sv ++ (WD K q d)) sz) (WE K a ao ap ab r u pv ip sv ++ (WD K q d)) t) (va_A (WE K a ao ap ab r M pv ip sv ++ (WD K q d)) sz)) 0 0 (va_A (WE K a ao ap ab r M pv ip sv ++ (WD K q d)) sz) := by
  refine Met.ofW (cc := cX0_writeSetTorques) (maxL := 5) (ret := none) (by decide) rfl ?_
  intro p e s m args below meth c s₁ B hml hv
  obtain ⟨rfl, hsz, hP, hK, hD0⟩ := hv
  have hx := B.exec
  have hb := B.bytes
  have hr := B.returns
  have hts := hts_tl (atoms_spec (ws := (.code yX0_writeSetTorques cX0_writeSetTorques 5 none :: TB)) B.pre)
  have hown : s.vm.findClass RX0 = some m.cls := findClass_of_methodNamed B.named
  have hlocks := B.notSynchronized
  subst hsz
  have hD := hD0.self (sz := s.heap.size)
  generalize hAe : (va_A (WE K a ao ap ab r M pv ip sv ++ (WD K q d)) s.heap.size) = A at hD ⊢
  have hA : ∀ q : Nat, s.heap.size ≤ q → A q := fun q h => by rw [← hAe]; exact Or.inr h
  have hS : va_S A s.heap s.heap [] := va_S.rf
  have hl := lv_entry ([.ref (q 0), .ref a, .int (nI 1)]) (n := 5) (Nat.le_of_ble_eq_true rfl)
  rw [lg_entry_eq]
  generalize (lg_sl ([.ref (q 0), .ref a, .int (nI 1)]) ++ List.replicate (5 - (lg_sl ([.ref (q 0), .ref a, .int (nI 1)])).length) Slot.unset).toArray = ls at hl ⊢
  have hl : lv_has ls 5 [(0, .ref (q 0)), (1, .ref a), (2, .int (nI 1))] := hl
  refine lv_iconst (v := nI 0) hx hb dX0_writeSetTorques_0 (by decide) ?_
  refine lv_istore_n (lv' := [(3, .int (nI 0)), (0, .ref (q 0)), (1, .ref a), (2, .int (nI 1))]) hx hb dX0_writeSetTorques_1 rfl hl (by decide) rfl (fun ls hl => ?_)
  have L2 : ∀ (fuel : Nat) (k : Nat) (M' : Nat → Nat → Int64) (H : Heap) (locs : List Loc) (ls : Array Slot), n - k < fuel → (k ≤ n) → (∀ x y, tI M' x y = tI M x y + sS d k y x) → va_P D vwCl (WE K a ao ap ab r M' pv ip sv ++ (WD K q d)) H → va_D A (WE K a ao ap ab r M' pv ip sv ++ (WD K q d)) → va_S A s.heap H locs → lv_has ls 5 [(3, .int (nI k)), (0, .ref (q 0)), (1, .ref a), (2, .int (nI 1))] → W p l e ({ frames := 1, cells := 0, slots := 0, locals := 24 } : Room) s m [.ref (q 0), .ref a, .int (nI 1)].toArray below meth c H locs 0 0 (MQ below (va_Qv (fun (u : Nat → Nat → Int64) => ∀ x y, tI u x y = tI M x y + sS d n y x) (fun (u : Nat → Nat → Int64) t => cB D K A (WE K a ao ap ab r u pv ip sv ++ (WD K q d)) t) A) [.ref (q 0), .ref a, .int (nI 1)].toArray s 0 0 A) (F0 m 2 ls []) := by
    intro fuel
    induction fuel with
    | zero =>
      intro k M' H locs ls hfu
      exact absurd hfu (Nat.not_lt_zero _)
    | succ fuel ih2 =>
      intro k M' H locs ls hfu hk hI hP hD hS hl
      refine lv_iload_n hx hb dX0_writeSetTorques_2 rfl (lv_at hl 0 rfl) ?_
      refine lv_aload_n hx hb dX0_writeSetTorques_3 rfl (lv_at hl 1 rfl) ?_
      refine va_get (D := D) (ci := 0) (C := RX0) (T := TX0) (N := 11) hx hb hts iX0 hown hK hP 14 rfl rfl 5 (by decide) (hts _ k_f_X0_36) (fun _ h9 => h9) rfl dX0_writeSetTorques_4 ?_
      refine t_i (show _ = nI n from h0) ?_
      refine b_icmp_ge hx hb (nI_toIntI (by omega)) (nI_toIntI (by omega)) dX0_writeSetTorques_7 (tgt := 91) (by decide) (fun c7 => ?_) (fun c7 => ?_)
      · exact W.vret hx hb hr (fun t9 ht9 hW => ⟨⟨M', rfl, (fun x y => by have h9 : k = n := (by omega); rw [← h9]; exact hI x y), by rw [ht9]; exact hP, va_K.moved hW.alike hK, hD⟩, hS.F ht9⟩) hS.2.2 dX0_writeSetTorques_91
      refine lv_iload_n hx hb dX0_writeSetTorques_10 rfl (lv_at hl 0 rfl) ?_
      refine lv_iconst (v := nI 3) hx hb dX0_writeSetTorques_11 (by decide) ?_
      refine b_icmp_ge hx hb (nI_toIntI (by omega)) (nI_toIntI (by omega)) dX0_writeSetTorques_12 (tgt := 91) (by decide) (fun c12 => absurd c12 (by omega)) (fun c12 => ?_)
      obtain ⟨sa, sb, sc, ss, sr, ⟨ha, hb9, hc⟩, -, ⟨hs1, hs2, hs3, hs4⟩, e0, e1, e2, e3, e4⟩ := hs k (by omega)
      refine lv_iload_n hx hb dX0_writeSetTorques_15 rfl (lv_at hl 3 rfl) ?_
      refine lv_iload_n hx hb dX0_writeSetTorques_16 rfl (lv_at hl 0 rfl) ?_
      refine lv_iadd hx hb dX0_writeSetTorques_17 ?_
      refine t_i (nI_add _ _) ?_
      refine lv_istore (lv' := [(4, .int (nI (1 + k))), (3, .int (nI k)), (0, .ref (q 0)), (1, .ref a), (2, .int (nI 1))]) hx hb dX0_writeSetTorques_18 hl (by decide) rfl (fun ls hl => ?_)
      refine lv_aload_n hx hb dX0_writeSetTorques_20 rfl (lv_at hl 3 rfl) ?_
      refine lv_aload_n hx hb dX0_writeSetTorques_21 rfl (lv_at hl 2 rfl) ?_
      refine va_get (D := D) (ci := 0) (C := RX0) (T := TX0) (N := 11) hx hb hts iX0 hown hK hP 14 rfl rfl 0 (by decide) (hts _ k_f_X0_9) (fun _ h9 => h9) rfl dX0_writeSetTorques_22 ?_
      refine lv_iload_n hx hb dX0_writeSetTorques_25 rfl (lv_at hl 1 rfl) ?_
      refine n_iald hx hb hK hP 15 0 rfl rfl (i := k) (n := 3) (by omega) (by decide) dX0_writeSetTorques_26 ?_
      refine t_i (show _ = nI sa from e0) ?_
      refine lv_iload hx hb dX0_writeSetTorques_27 (lv_at hl 0 rfl) ?_
      refine lv_aload_n hx hb dX0_writeSetTorques_29 rfl (lv_at hl 2 rfl) ?_
      refine va_get (D := D) (ci := 0) (C := RX0) (T := TX0) (N := 11) hx hb hts iX0 hown hK hP 14 rfl rfl 3 (by decide) (hts _ k_f_X0_21) (fun _ h9 => h9) rfl dX0_writeSetTorques_30 ?_
      refine lv_iload_n hx hb dX0_writeSetTorques_33 rfl (lv_at hl 1 rfl) ?_
      refine n_iald hx hb hK hP 18 0 rfl rfl (i := k) (n := 3) (by omega) (by decide) dX0_writeSetTorques_34 ?_
      refine t_i (show _ = nI ss from e3) ?_
      refine lv_i2l (v := (nI ss).toInt64) hx hb dX0_writeSetTorques_35 rfl ?_
      have hPc := bP0 hP
      have hDc := bD0 hD
      have hFc := bF0 hD hS hA
      refine va_callv (va_runV (As := [.int (nI sa), .int (nI (1 + k)), .long ((nI ss).toInt64)]) (rest := []) ⟨hx, hb, hml, hown, hts⟩ (c_X1_add l D K a ao ap ab r M' pv ip sv sa (1 + k) ((nI ss).toInt64) H.size (by omega) (by omega)) (cwV 3 hts (TB_V k_m_X0_54 k_im_X1_add k_se_X1_add k_in_X1 k_co_X1_add (fun _ h => h)) rfl rfl rfl (by decide +kernel) ⟨Nat.le_of_ble_eq_true rfl, Nat.le_of_ble_eq_true rfl⟩) ⟨cP_blind, va_recv hK hPc (ci := 1) (q0 := 0) rfl rfl, cP_of hPc hK hDc⟩ rfl rfl hl.1 rfl (lv_room (Nat.le_of_ble_eq_true rfl)) dX0_writeSetTorques_36 ⟨Nat.le_of_ble_eq_true rfl, Nat.le_of_ble_eq_true rfl⟩) hS (fun q _ h => hFc q h) hFc (fun u9 t9 H locs ht9 hvm hw hB hz1 hk1 hS => ?_)
      obtain ⟨hP1, hK1, hD1⟩ := hB
      rw [ht9] at hP1
      obtain ⟨hP, hD⟩ := bJ0 hP hD hk1 hFc hP1 hD1
      obtain ⟨N1_0, eN1_0⟩ : ∃ z, z = setM M' sa (1 + k) (M' sa (1 + k) + (nI ss).toInt64) := ⟨_, rfl⟩
      rw [← eN1_0] at hP hD
      refine lv_aload_n hx hb dX0_writeSetTorques_39 rfl (lv_at hl 3 rfl) ?_
      refine lv_aload_n hx hb dX0_writeSetTorques_40 rfl (lv_at hl 2 rfl) ?_
      refine va_get (D := D) (ci := 0) (C := RX0) (T := TX0) (N := 11) hx hb hts iX0 hown hK hP 14 rfl rfl 1 (by decide) (hts _ k_f_X0_15) (fun _ h9 => h9) rfl dX0_writeSetTorques_41 ?_
      refine lv_iload_n hx hb dX0_writeSetTorques_44 rfl (lv_at hl 1 rfl) ?_
      refine n_iald hx hb hK hP 16 0 rfl rfl (i := k) (n := 3) (by omega) (by decide) dX0_writeSetTorques_45 ?_
      refine t_i (show _ = nI sb from e1) ?_
      refine lv_iload hx hb dX0_writeSetTorques_46 (lv_at hl 0 rfl) ?_
      refine lv_aload_n hx hb dX0_writeSetTorques_48 rfl (lv_at hl 2 rfl) ?_
      refine va_get (D := D) (ci := 0) (C := RX0) (T := TX0) (N := 11) hx hb hts iX0 hown hK hP 14 rfl rfl 4 (by decide) (hts _ k_f_X0_24) (fun _ h9 => h9) rfl dX0_writeSetTorques_49 ?_
      refine lv_iload_n hx hb dX0_writeSetTorques_52 rfl (lv_at hl 1 rfl) ?_
      refine n_iald hx hb hK hP 19 0 rfl rfl (i := k) (n := 3) (by omega) (by decide) dX0_writeSetTorques_53 ?_
      refine t_i (show _ = nI sr from e4) ?_
      refine lv_i2l (v := (nI sr).toInt64) hx hb dX0_writeSetTorques_54 rfl ?_
      have hPc := bP0 hP
      have hDc := bD0 hD
      have hFc := bF0 hD hS hA
      refine va_callv (va_runV (As := [.int (nI sb), .int (nI (1 + k)), .long ((nI sr).toInt64)]) (rest := []) ⟨hx, hb, hml, hown, hts⟩ (c_X1_add l D K a ao ap ab r N1_0 pv ip sv sb (1 + k) ((nI sr).toInt64) H.size (by omega) (by omega)) (cwV 3 hts (TB_V k_m_X0_54 k_im_X1_add k_se_X1_add k_in_X1 k_co_X1_add (fun _ h => h)) rfl rfl rfl (by decide +kernel) ⟨Nat.le_of_ble_eq_true rfl, Nat.le_of_ble_eq_true rfl⟩) ⟨cP_blind, va_recv hK hPc (ci := 1) (q0 := 0) rfl rfl, cP_of hPc hK hDc⟩ rfl rfl hl.1 rfl (lv_room (Nat.le_of_ble_eq_true rfl)) dX0_writeSetTorques_55 ⟨Nat.le_of_ble_eq_true rfl, Nat.le_of_ble_eq_true rfl⟩) hS (fun q _ h => hFc q h) hFc (fun u9 t9 H locs ht9 hvm hw hB hz1 hk1 hS => ?_)
      obtain ⟨hP1, hK1, hD1⟩ := hB
      rw [ht9] at hP1
      obtain ⟨hP, hD⟩ := bJ0 hP hD hk1 hFc hP1 hD1
      obtain ⟨N2_0, eN2_0⟩ : ∃ z, z = setM N1_0 sb (1 + k) (N1_0 sb (1 + k) + (nI sr).toInt64) := ⟨_, rfl⟩
      rw [← eN2_0] at hP hD
      refine lv_aload_n hx hb dX0_writeSetTorques_58 rfl (lv_at hl 3 rfl) ?_
      refine lv_aload_n hx hb dX0_writeSetTorques_59 rfl (lv_at hl 2 rfl) ?_
      refine va_get (D := D) (ci := 0) (C := RX0) (T := TX0) (N := 11) hx hb hts iX0 hown hK hP 14 rfl rfl 2 (by decide) (hts _ k_f_X0_18) (fun _ h9 => h9) rfl dX0_writeSetTorques_60 ?_
      refine lv_iload_n hx hb dX0_writeSetTorques_63 rfl (lv_at hl 1 rfl) ?_
      refine n_iald hx hb hK hP 17 0 rfl rfl (i := k) (n := 3) (by omega) (by decide) dX0_writeSetTorques_64 ?_
      refine t_i (show _ = nI sc from e2) ?_
      refine lv_iload hx hb dX0_writeSetTorques_65 (lv_at hl 0 rfl) ?_
      refine lv_aload_n hx hb dX0_writeSetTorques_67 rfl (lv_at hl 2 rfl) ?_
      refine va_get (D := D) (ci := 0) (C := RX0) (T := TX0) (N := 11) hx hb hts iX0 hown hK hP 14 rfl rfl 3 (by decide) (hts _ k_f_X0_21) (fun _ h9 => h9) rfl dX0_writeSetTorques_68 ?_
      refine lv_iload_n hx hb dX0_writeSetTorques_71 rfl (lv_at hl 1 rfl) ?_
      refine n_iald hx hb hK hP 18 0 rfl rfl (i := k) (n := 3) (by omega) (by decide) dX0_writeSetTorques_72 ?_
      refine t_i (show _ = nI ss from e3) ?_
      refine lv_aload_n hx hb dX0_writeSetTorques_73 rfl (lv_at hl 2 rfl) ?_
      refine va_get (D := D) (ci := 0) (C := RX0) (T := TX0) (N := 11) hx hb hts iX0 hown hK hP 14 rfl rfl 4 (by decide) (hts _ k_f_X0_24) (fun _ h9 => h9) rfl dX0_writeSetTorques_74 ?_
      refine lv_iload_n hx hb dX0_writeSetTorques_77 rfl (lv_at hl 1 rfl) ?_
      refine n_iald hx hb hK hP 19 0 rfl rfl (i := k) (n := 3) (by omega) (by decide) dX0_writeSetTorques_78 ?_
      refine t_i (show _ = nI sr from e4) ?_
      refine lv_iadd hx hb dX0_writeSetTorques_79 ?_
      refine t_i (nI_add _ _) ?_
      refine lv_ineg hx hb dX0_writeSetTorques_80 ?_
      refine lv_i2l (v := (-(nI (ss + sr))).toInt64) hx hb dX0_writeSetTorques_81 rfl ?_
      have hPc := bP0 hP
      have hDc := bD0 hD
      have hFc := bF0 hD hS hA
      refine va_callv (va_runV (As := [.int (nI sc), .int (nI (1 + k)), .long ((-(nI (ss + sr))).toInt64)]) (rest := []) ⟨hx, hb, hml, hown, hts⟩ (c_X1_add l D K a ao ap ab r N2_0 pv ip sv sc (1 + k) ((-(nI (ss + sr))).toInt64) H.size (by omega) (by omega)) (cwV 3 hts (TB_V k_m_X0_54 k_im_X1_add k_se_X1_add k_in_X1 k_co_X1_add (fun _ h => h)) rfl rfl rfl (by decide +kernel) ⟨Nat.le_of_ble_eq_true rfl, Nat.le_of_ble_eq_true rfl⟩) ⟨cP_blind, va_recv hK hPc (ci := 1) (q0 := 0) rfl rfl, cP_of hPc hK hDc⟩ rfl rfl hl.1 rfl (lv_room (Nat.le_of_ble_eq_true rfl)) dX0_writeSetTorques_82 ⟨Nat.le_of_ble_eq_true rfl, Nat.le_of_ble_eq_true rfl⟩) hS (fun q _ h => hFc q h) hFc (fun u9 t9 H locs ht9 hvm hw hB hz1 hk1 hS => ?_)
      obtain ⟨hP1, hK1, hD1⟩ := hB
      rw [ht9] at hP1
      obtain ⟨hP, hD⟩ := bJ0 hP hD hk1 hFc hP1 hD1
      obtain ⟨N3_0, eN3_0⟩ : ∃ z, z = setM N2_0 sc (1 + k) (N2_0 sc (1 + k) + (-(nI (ss + sr))).toInt64) := ⟨_, rfl⟩
      rw [← eN3_0] at hP hD
      refine lv_iinc (v := nI (k + 1)) (lv' := [(3, .int (nI (k + 1))), (4, .int (nI (1 + k))), (0, .ref (q 0)), (1, .ref a), (2, .int (nI 1))]) hx hb dX0_writeSetTorques_85 hl (k := 1) rfl (nI_add k 1) (by decide) rfl (fun ls hl => ?_)
      refine lv_goto (tgt := 2) hx hb dX0_writeSetTorques_88 (by decide) ?_
      have hrow : ∀ z, z < 10 → (tI M' z (1 + k)).natAbs ≤ 1000 := fun z hz9 => by rw [hI]; have h9 := hM z (1 + k) hz9; rw [sS_self]; simpa using h9
      have hI2 : ∀ x y, tI N3_0 x y = tI M x y + sS d (k + 1) y x := fun x y => by
        rw [add_setT (r := 1 + k) (a := sa) (b := sb) (c := sc) (s := ss) (t := sr) (by omega) (by omega) (by omega) (by omega) (by rw [i2l_I]; exact nI_toIntI (by omega)) (by rw [i2l_I]; exact nI_toIntI (by omega)) (by rw [i2l_I, neg_nI (by omega)]; omega) (by omega) (by omega) hrow N1_0 N2_0 N3_0 eN1_0 eN2_0 eN3_0 x y, hI x y, sS_succ, setc_eq e0 e1 e2 e3 e4 (by omega) (by omega) (by omega) (by omega) (by omega), Int.add_assoc]
      exact ih2 (k + 1) N3_0 _ _ _ (by omega) (by omega) hI2 hP hD hS (lv_sub hl [0, 2, 3, 4] rfl)
  exact L2 _ 0 M _ _ _ (Nat.lt_succ_self _) (Nat.zero_le _) (fun x y => by rw [show sS d 0 y x = 0 from if_neg (by omega), Int.add_zero]) hP hD hS (lv_sub hl [0, 1, 2, 3] rfl)
set_option maxHeartbeats 4000000 in
set_option maxRecDepth 100000 in
theorem c_X0_writeElementSpeeds (l : Launch) (D : va_G) (K : Nat → ClassId) (a ao ap ab : Nat) (r : Nat → Nat) (M : Nat → Nat → Int64) (pv ip : Nat → Int32) (sv : Int32) (q : Nat → Nat) (d : Nat → Nat → Int32) (m1 g : Nat) (sz : Nat) (hm : m1 ≤ 6) (hg : g < 2147483648) (h1 : d 8 1 = nI m1) (he : ∀ k, k < m1 → ElV d k) (hM : ∀ x y, x < 10 → (tI M x y).natAbs ≤ 1000) : Met l yX0_writeElementSpeeds (.code yX0_writeElementSpeeds cX0_writeElementSpeeds 5 none :: TB) ({ frames := 1, cells := 0, slots := 0, locals := 24 } : Room) (va_Pc [.ref (q 0), .ref a, .int (nI 4), .int (nI g)] (cP D K (WE K a ao ap ab r M pv ip sv ++ (WD K q d)) sz)) (va_Qv (fun (u : Nat → Nat → Int64) => ∀ x y, tI u x y = tI M x y + eS d g m1 x y) (fun (u : Nat → Nat → Int64) t => cB D K (va_A (WE K a ao ap ab r M pv ip sv ++ (WD K q d)) sz) (WE K a ao ap ab r u pv ip sv ++ (WD K q d)) t) (va_A (WE K a ao ap ab r M pv ip sv ++ (WD K q d)) sz)) 0 0 (va_A (WE K a ao ap ab r M pv ip sv ++ (WD K q d)) sz) := by
  refine Met.ofW (cc := cX0_writeElementSpeeds) (maxL := 5) (ret := none) (by decide) rfl ?_
  intro p e s m args below meth c s₁ B hml hv
  obtain ⟨rfl, hsz, hP, hK, hD0⟩ := hv
  have hx := B.exec
  have hb := B.bytes
  have hr := B.returns
  have hts := hts_tl (atoms_spec (ws := (.code yX0_writeElementSpeeds cX0_writeElementSpeeds 5 none :: TB)) B.pre)
  have hown : s.vm.findClass RX0 = some m.cls := findClass_of_methodNamed B.named
  have hlocks := B.notSynchronized
  subst hsz
  have hD := hD0.self (sz := s.heap.size)
  generalize hAe : (va_A (WE K a ao ap ab r M pv ip sv ++ (WD K q d)) s.heap.size) = A at hD ⊢
  have hA : ∀ q : Nat, s.heap.size ≤ q → A q := fun q h => by rw [← hAe]; exact Or.inr h
  have hS : va_S A s.heap s.heap [] := va_S.rf
  have hl := lv_entry ([.ref (q 0), .ref a, .int (nI 4), .int (nI g)]) (n := 5) (Nat.le_of_ble_eq_true rfl)
  rw [lg_entry_eq]
  generalize (lg_sl ([.ref (q 0), .ref a, .int (nI 4), .int (nI g)]) ++ List.replicate (5 - (lg_sl ([.ref (q 0), .ref a, .int (nI 4), .int (nI g)])).length) Slot.unset).toArray = ls at hl ⊢
  have hl : lv_has ls 5 [(0, .ref (q 0)), (1, .ref a), (2, .int (nI 4)), (3, .int (nI g))] := hl
  refine lv_iconst (v := nI 0) hx hb dX0_writeElementSpeeds_0 (by decide) ?_
  refine lv_istore (lv' := [(4, .int (nI 0)), (0, .ref (q 0)), (1, .ref a), (2, .int (nI 4)), (3, .int (nI g))]) hx hb dX0_writeElementSpeeds_1 hl (by decide) rfl (fun ls hl => ?_)
  have L3 : ∀ (fuel : Nat) (k : Nat) (M' : Nat → Nat → Int64) (H : Heap) (locs : List Loc) (ls : Array Slot), m1 - k < fuel → (k ≤ m1) → (∀ x y, tI M' x y = tI M x y + eS d g k x y) → va_P D vwCl (WE K a ao ap ab r M' pv ip sv ++ (WD K q d)) H → va_D A (WE K a ao ap ab r M' pv ip sv ++ (WD K q d)) → va_S A s.heap H locs → lv_has ls 5 [(4, .int (nI k)), (0, .ref (q 0)), (1, .ref a), (2, .int (nI 4)), (3, .int (nI g))] → W p l e ({ frames := 1, cells := 0, slots := 0, locals := 24 } : Room) s m [.ref (q 0), .ref a, .int (nI 4), .int (nI g)].toArray below meth c H locs 0 0 (MQ below (va_Qv (fun (u : Nat → Nat → Int64) => ∀ x y, tI u x y = tI M x y + eS d g m1 x y) (fun (u : Nat → Nat → Int64) t => cB D K A (WE K a ao ap ab r u pv ip sv ++ (WD K q d)) t) A) [.ref (q 0), .ref a, .int (nI 4), .int (nI g)].toArray s 0 0 A) (F0 m 3 ls []) := by
    intro fuel
    induction fuel with
    | zero =>
      intro k M' H locs ls hfu
      exact absurd hfu (Nat.not_lt_zero _)
    | succ fuel ih3 =>
      intro k M' H locs ls hfu hk hI hP hD hS hl
      refine lv_iload hx hb dX0_writeElementSpeeds_3 (lv_at hl 0 rfl) ?_
      refine lv_aload_n hx hb dX0_writeElementSpeeds_5 rfl (lv_at hl 1 rfl) ?_
      refine va_get (D := D) (ci := 0) (C := RX0) (T := TX0) (N := 11) hx hb hts iX0 hown hK hP 14 rfl rfl 9 (by decide) (hts _ k_f_X0_40) (fun _ h9 => h9) rfl dX0_writeElementSpeeds_6 ?_
      refine t_i (show _ = nI m1 from h1) ?_
      refine b_icmp_ge hx hb (nI_toIntI (by omega)) (nI_toIntI (by omega)) dX0_writeElementSpeeds_9 (tgt := 79) (by decide) (fun c9 => ?_) (fun c9 => ?_)
      · exact W.vret hx hb hr (fun t9 ht9 hW => ⟨⟨M', rfl, (fun x y => by have h9 : k = m1 := (by omega); rw [← h9]; exact hI x y), by rw [ht9]; exact hP, va_K.moved hW.alike hK, hD⟩, hS.F ht9⟩) hS.2.2 dX0_writeElementSpeeds_79
      refine lv_iload hx hb dX0_writeElementSpeeds_12 (lv_at hl 0 rfl) ?_
      refine lv_bipush (v := nI 6) hx hb dX0_writeElementSpeeds_14 (by decide) ?_
      refine b_icmp_ge hx hb (nI_toIntI (by omega)) (nI_toIntI (by omega)) dX0_writeElementSpeeds_16 (tgt := 79) (by decide) (fun c16 => absurd c16 (by omega)) (fun c16 => ?_)
      refine lv_iload hx hb dX0_writeElementSpeeds_19 (lv_at hl 0 rfl) ?_
      refine lv_iload_n hx hb dX0_writeElementSpeeds_21 rfl (lv_at hl 4 rfl) ?_
      refine va_calli (va_runS (As := [.int (nI k), .int (nI g)]) (rest := []) ⟨hx, hb, hml, hown, hts⟩ (c_X0_isIn l k g (by omega) hg) (va_cwS 2 hts (TB_S k_m_X0_50 k_st_X0_isIn k_in_X0 k_co_X0_isIn (fun _ h => h)) rfl rfl rfl (by decide +kernel) ⟨Nat.le_of_ble_eq_true rfl, Nat.le_of_ble_eq_true rfl⟩) ⟨tP_blind, tP_of⟩ rfl rfl hl.1 rfl (lv_room (Nat.le_of_ble_eq_true rfl)) dX0_writeElementSpeeds_22 ⟨Nat.le_of_ble_eq_true rfl, Nat.le_of_ble_eq_true rfl⟩) hS (fun q _ h => absurd h id) (fun q h => absurd h id) (fun b2 u9 t9 H locs ht9 hvm hw hB hz1 hk1 hS => ?_)
      have hP := P_same hP hk1
      subst hw
      by_cases htb : g.testBit k = true
      · refine t_i (bI_t htb).symm ?_
        refine b_if_eq hx hb (nI_toIntI (by omega)) dX0_writeElementSpeeds_25 (tgt := 73) (by decide) (fun c25 => absurd c25 (by omega)) (fun c25 => ?_)
        obtain ⟨ea, ec, hea, e5, e6, -, -, -⟩ := he k (by omega)
        refine lv_aload_n hx hb dX0_writeElementSpeeds_28 rfl (lv_at hl 2 rfl) ?_
        refine lv_iload_n hx hb dX0_writeElementSpeeds_29 rfl (lv_at hl 3 rfl) ?_
        refine lv_iload hx hb dX0_writeElementSpeeds_30 (lv_at hl 0 rfl) ?_
        refine lv_iadd hx hb dX0_writeElementSpeeds_32 ?_
        refine t_i (nI_add _ _) ?_
        refine lv_aload_n hx hb dX0_writeElementSpeeds_33 rfl (lv_at hl 1 rfl) ?_
        refine va_get (D := D) (ci := 0) (C := RX0) (T := TX0) (N := 11) hx hb hts iX0 hown hK hP 14 rfl rfl 6 (by decide) (hts _ k_f_X0_27) (fun _ h9 => h9) rfl dX0_writeElementSpeeds_34 ?_
        refine lv_iload hx hb dX0_writeElementSpeeds_37 (lv_at hl 0 rfl) ?_
        refine n_iald hx hb hK hP 20 0 rfl rfl (i := k) (n := 6) (by omega) (by decide) dX0_writeElementSpeeds_39 ?_
        refine t_i (show _ = nI ea from e5) ?_
        refine lv_lconst (v := 1) hx hb dX0_writeElementSpeeds_40 (by decide) ?_
        have hPc := bP0 hP
        have hDc := bD0 hD
        have hFc := bF0 hD hS hA
        refine va_callv (va_runV (As := [.int (nI (4 + k)), .int (nI ea), .long (1 : Int64)]) (rest := []) ⟨hx, hb, hml, hown, hts⟩ (c_X1_add l D K a ao ap ab r M' pv ip sv (4 + k) ea (1 : Int64) H.size (by omega) (by omega)) (cwV 3 hts (TB_V k_m_X0_54 k_im_X1_add k_se_X1_add k_in_X1 k_co_X1_add (fun _ h => h)) rfl rfl rfl (by decide +kernel) ⟨Nat.le_of_ble_eq_true rfl, Nat.le_of_ble_eq_true rfl⟩) ⟨cP_blind, va_recv hK hPc (ci := 1) (q0 := 0) rfl rfl, cP_of hPc hK hDc⟩ rfl rfl hl.1 rfl (lv_room (Nat.le_of_ble_eq_true rfl)) dX0_writeElementSpeeds_41 ⟨Nat.le_of_ble_eq_true rfl, Nat.le_of_ble_eq_true rfl⟩) hS (fun q _ h => hFc q h) hFc (fun u9 t9 H locs ht9 hvm hw hB hz1 hk1 hS => ?_)
        obtain ⟨hP1, hK1, hD1⟩ := hB
        rw [ht9] at hP1
        obtain ⟨hP, hD⟩ := bJ0 hP hD hk1 hFc hP1 hD1
        obtain ⟨N1_0, eN1_0⟩ : ∃ z, z = setM M' (4 + k) ea (M' (4 + k) ea + (1 : Int64)) := ⟨_, rfl⟩
        rw [← eN1_0] at hP hD
        rcases e6 with e6 | ⟨eb, heb, hne, e6⟩
        · refine lv_aload_n hx hb dX0_writeElementSpeeds_44 rfl (lv_at hl 1 rfl) ?_
          refine va_get (D := D) (ci := 0) (C := RX0) (T := TX0) (N := 11) hx hb hts iX0 hown hK hP 14 rfl rfl 7 (by decide) (hts _ k_f_X0_30) (fun _ h9 => h9) rfl dX0_writeElementSpeeds_45 ?_
          refine lv_iload hx hb dX0_writeElementSpeeds_48 (lv_at hl 0 rfl) ?_
          refine n_iald hx hb hK hP 21 0 rfl rfl (i := k) (n := 6) (by omega) (by decide) dX0_writeElementSpeeds_50 ?_
          refine lv_iconst (v := (-1)) hx hb dX0_writeElementSpeeds_51 (by decide) ?_
          refine t_i2 e6 ?_
          refine b_icmp_eq hx hb (show (-1 : Int32).toInt = -1 by decide) (show (-1 : Int32).toInt = -1 by decide) dX0_writeElementSpeeds_52 (tgt := 73) (by decide) (fun c52 => ?_) (fun c52 => absurd c52 (by decide))
          refine lv_iinc (v := nI (k + 1)) (lv' := [(4, .int (nI (k + 1))), (0, .ref (q 0)), (1, .ref a), (2, .int (nI 4)), (3, .int (nI g))]) hx hb dX0_writeElementSpeeds_73 hl (k := 0) rfl (nI_add k 1) (by decide) rfl (fun ls hl => ?_)
          refine lv_goto (tgt := 3) hx hb dX0_writeElementSpeeds_76 (by decide) ?_
          have hrow : ∀ z, (tI M' (4 + k) z).natAbs ≤ 1000 := fun z => by rw [hI]; have h9 := hM (4 + k) z (by omega); rw [eS_self]; simpa using h9
          have hI2 : ∀ x y, tI N1_0 x y = tI M x y + eS d g (k + 1) x y := fun x y => by
            have A1 : ∀ x y, tI N1_0 x y = tI M' x y + (if x = 4 + k ∧ y = ea then (1 : Int64).toInt else 0) := fun x y => by
              rw [eN1_0]; have := hrow ea; have o1 : (1 : Int64).toInt = 1 := by decide
              exact tI_add (by omega) (by omega) (by omega) x y
            have o1 : (1 : Int64).toInt = 1 := by decide
            rw [A1 x y, hI x y, eS_yes htb, elc_brake e5 e6 (by omega), o1, Int.add_assoc]
            by_cases q1 : y = ea <;> by_cases q2 : x = 4 + k <;> simp [q1, q2]
          exact ih3 (k + 1) N1_0 _ _ _ (by omega) (by omega) hI2 hP hD hS (lv_sub hl [0, 1, 2, 3, 4] rfl)
        refine lv_aload_n hx hb dX0_writeElementSpeeds_44 rfl (lv_at hl 1 rfl) ?_
        refine va_get (D := D) (ci := 0) (C := RX0) (T := TX0) (N := 11) hx hb hts iX0 hown hK hP 14 rfl rfl 7 (by decide) (hts _ k_f_X0_30) (fun _ h9 => h9) rfl dX0_writeElementSpeeds_45 ?_
        refine lv_iload hx hb dX0_writeElementSpeeds_48 (lv_at hl 0 rfl) ?_
        refine n_iald hx hb hK hP 21 0 rfl rfl (i := k) (n := 6) (by omega) (by decide) dX0_writeElementSpeeds_50 ?_
        refine t_i (show _ = nI eb from e6) ?_
        refine lv_iconst (v := (-1)) hx hb dX0_writeElementSpeeds_51 (by decide) ?_
        refine b_icmp_eq hx hb (nI_toIntI (by omega)) (show (-1 : Int32).toInt = -1 by decide) dX0_writeElementSpeeds_52 (tgt := 73) (by decide) (fun c52 => absurd c52 (by omega)) (fun c52 => ?_)
        refine lv_aload_n hx hb dX0_writeElementSpeeds_55 rfl (lv_at hl 2 rfl) ?_
        refine lv_iload_n hx hb dX0_writeElementSpeeds_56 rfl (lv_at hl 3 rfl) ?_
        refine lv_iload hx hb dX0_writeElementSpeeds_57 (lv_at hl 0 rfl) ?_
        refine lv_iadd hx hb dX0_writeElementSpeeds_59 ?_
        refine t_i (nI_add _ _) ?_
        refine lv_aload_n hx hb dX0_writeElementSpeeds_60 rfl (lv_at hl 1 rfl) ?_
        refine va_get (D := D) (ci := 0) (C := RX0) (T := TX0) (N := 11) hx hb hts iX0 hown hK hP 14 rfl rfl 7 (by decide) (hts _ k_f_X0_30) (fun _ h9 => h9) rfl dX0_writeElementSpeeds_61 ?_
        refine lv_iload hx hb dX0_writeElementSpeeds_64 (lv_at hl 0 rfl) ?_
        refine n_iald hx hb hK hP 21 0 rfl rfl (i := k) (n := 6) (by omega) (by decide) dX0_writeElementSpeeds_66 ?_
        refine t_i (show _ = nI eb from e6) ?_
        refine lv_ldc2 hx hb hown (hts _ k_kl_X0_60) dX0_writeElementSpeeds_67 ?_
        have hPc := bP0 hP
        have hDc := bD0 hD
        have hFc := bF0 hD hS hA
        refine va_callv (va_runV (As := [.int (nI (4 + k)), .int (nI eb), .long (-1 : Int64)]) (rest := []) ⟨hx, hb, hml, hown, hts⟩ (c_X1_add l D K a ao ap ab r N1_0 pv ip sv (4 + k) eb (-1 : Int64) H.size (by omega) (by omega)) (cwV 3 hts (TB_V k_m_X0_54 k_im_X1_add k_se_X1_add k_in_X1 k_co_X1_add (fun _ h => h)) rfl rfl rfl (by decide +kernel) ⟨Nat.le_of_ble_eq_true rfl, Nat.le_of_ble_eq_true rfl⟩) ⟨cP_blind, va_recv hK hPc (ci := 1) (q0 := 0) rfl rfl, cP_of hPc hK hDc⟩ rfl rfl hl.1 rfl (lv_room (Nat.le_of_ble_eq_true rfl)) dX0_writeElementSpeeds_70 ⟨Nat.le_of_ble_eq_true rfl, Nat.le_of_ble_eq_true rfl⟩) hS (fun q _ h => hFc q h) hFc (fun u9 t9 H locs ht9 hvm hw hB hz1 hk1 hS => ?_)
        obtain ⟨hP1, hK1, hD1⟩ := hB
        rw [ht9] at hP1
        obtain ⟨hP, hD⟩ := bJ0 hP hD hk1 hFc hP1 hD1
        obtain ⟨N2_0, eN2_0⟩ : ∃ z, z = setM N1_0 (4 + k) eb (N1_0 (4 + k) eb + (-1 : Int64)) := ⟨_, rfl⟩
        rw [← eN2_0] at hP hD
        refine lv_iinc (v := nI (k + 1)) (lv' := [(4, .int (nI (k + 1))), (0, .ref (q 0)), (1, .ref a), (2, .int (nI 4)), (3, .int (nI g))]) hx hb dX0_writeElementSpeeds_73 hl (k := 0) rfl (nI_add k 1) (by decide) rfl (fun ls hl => ?_)
        refine lv_goto (tgt := 3) hx hb dX0_writeElementSpeeds_76 (by decide) ?_
        have hrow : ∀ z, (tI M' (4 + k) z).natAbs ≤ 1000 := fun z => by rw [hI]; have h9 := hM (4 + k) z (by omega); rw [eS_self]; simpa using h9
        have hI2 : ∀ x y, tI N2_0 x y = tI M x y + eS d g (k + 1) x y := fun x y => by
          have A1 : ∀ x y, tI N1_0 x y = tI M' x y + (if x = 4 + k ∧ y = ea then (1 : Int64).toInt else 0) := fun x y => by
            rw [eN1_0]; have := hrow ea; have o1 : (1 : Int64).toInt = 1 := by decide
            exact tI_add (by omega) (by omega) (by omega) x y
          have o1 : (1 : Int64).toInt = 1 := by decide
          have B1 : ∀ z, (tI N1_0 (4 + k) z).natAbs ≤ 1001 := fun z => by have h8 := hrow z; have h9 := A1 (4 + k) z; split at h9 <;> omega
          have A2 : ∀ x y, tI N2_0 x y = tI N1_0 x y + (if x = 4 + k ∧ y = eb then (-1 : Int64).toInt else 0) := fun x y => by
            rw [eN2_0]; have := B1 eb; have o1 : (-1 : Int64).toInt = -1 := by decide
            exact tI_add (by omega) (by omega) (by omega) x y
          have o2 : (-1 : Int64).toInt = -1 := by decide
          rw [A2 x y, A1 x y, hI x y, eS_yes htb, elc_clutch e5 e6 (by omega) (by omega), o1, o2, Int.add_assoc, Int.add_assoc]
          by_cases q1 : y = ea <;> by_cases q3 : y = eb <;> by_cases q2 : x = 4 + k <;> simp [q1, q2, q3] <;> omega
        exact ih3 (k + 1) N2_0 _ _ _ (by omega) (by omega) hI2 hP hD hS (lv_sub hl [0, 1, 2, 3, 4] rfl)
      refine t_i (bI_f htb).symm ?_
      refine b_if_eq hx hb (nI_toIntI (by omega)) dX0_writeElementSpeeds_25 (tgt := 73) (by decide) (fun c25 => ?_) (fun c25 => absurd c25 (by omega))
      refine lv_iinc (v := nI (k + 1)) (lv' := [(4, .int (nI (k + 1))), (0, .ref (q 0)), (1, .ref a), (2, .int (nI 4)), (3, .int (nI g))]) hx hb dX0_writeElementSpeeds_73 hl (k := 0) rfl (nI_add k 1) (by decide) rfl (fun ls hl => ?_)
      refine lv_goto (tgt := 3) hx hb dX0_writeElementSpeeds_76 (by decide) ?_
      have hI2 : ∀ x y, tI M' x y = tI M x y + eS d g (k + 1) x y := fun x y => by rw [hI x y, eS_no htb]
      exact ih3 (k + 1) M' _ _ _ (by omega) (by omega) hI2 hP hD hS (lv_sub hl [0, 1, 2, 3, 4] rfl)
  exact L3 _ 0 M _ _ _ (Nat.lt_succ_self _) (Nat.zero_le _) (fun x y => by rw [show eS d g 0 x y = 0 from if_neg (by omega), Int.add_zero]) hP hD hS (lv_sub hl [0, 1, 2, 3, 4] rfl)
set_option maxHeartbeats 4000000 in
set_option maxRecDepth 100000 in
theorem c_X0_writeElementTorques (l : Launch) (D : va_G) (K : Nat → ClassId) (a ao ap ab : Nat) (r : Nat → Nat) (M : Nat → Nat → Int64) (pv ip : Nat → Int32) (sv : Int32) (q : Nat → Nat) (d : Nat → Nat → Int32) (m1 g : Nat) (sz : Nat) (hm : m1 ≤ 6) (hg : g < 2147483648) (h1 : d 8 1 = nI m1) (he : ∀ k, k < m1 → ElV d k) (hM : ∀ x y, x < 10 → (tI M x y).natAbs ≤ 1000) : Met l yX0_writeElementTorques (.code yX0_writeElementTorques cX0_writeElementTorques 5 none :: TB) ({ frames := 1, cells := 0, slots := 0, locals := 24 } : Room) (va_Pc [.ref (q 0), .ref a, .int (nI 4), .int (nI g)] (cP D K (WE K a ao ap ab r M pv ip sv ++ (WD K q d)) sz)) (va_Qv (fun (u : Nat → Nat → Int64) => ∀ x y, tI u x y = tI M x y + eS d g m1 y x) (fun (u : Nat → Nat → Int64) t => cB D K (va_A (WE K a ao ap ab r M pv ip sv ++ (WD K q d)) sz) (WE K a ao ap ab r u pv ip sv ++ (WD K q d)) t) (va_A (WE K a ao ap ab r M pv ip sv ++ (WD K q d)) sz)) 0 0 (va_A (WE K a ao ap ab r M pv ip sv ++ (WD K q d)) sz) := by
  refine Met.ofW (cc := cX0_writeElementTorques) (maxL := 5) (ret := none) (by decide) rfl ?_
  intro p e s m args below meth c s₁ B hml hv
  obtain ⟨rfl, hsz, hP, hK, hD0⟩ := hv
  have hx := B.exec
  have hb := B.bytes
  have hr := B.returns
  have hts := hts_tl (atoms_spec (ws := (.code yX0_writeElementTorques cX0_writeElementTorques 5 none :: TB)) B.pre)
  have hown : s.vm.findClass RX0 = some m.cls := findClass_of_methodNamed B.named
  have hlocks := B.notSynchronized
  subst hsz
  have hD := hD0.self (sz := s.heap.size)
  generalize hAe : (va_A (WE K a ao ap ab r M pv ip sv ++ (WD K q d)) s.heap.size) = A at hD ⊢
  have hA : ∀ q : Nat, s.heap.size ≤ q → A q := fun q h => by rw [← hAe]; exact Or.inr h
  have hS : va_S A s.heap s.heap [] := va_S.rf
  have hl := lv_entry ([.ref (q 0), .ref a, .int (nI 4), .int (nI g)]) (n := 5) (Nat.le_of_ble_eq_true rfl)
  rw [lg_entry_eq]
  generalize (lg_sl ([.ref (q 0), .ref a, .int (nI 4), .int (nI g)]) ++ List.replicate (5 - (lg_sl ([.ref (q 0), .ref a, .int (nI 4), .int (nI g)])).length) Slot.unset).toArray = ls at hl ⊢
  have hl : lv_has ls 5 [(0, .ref (q 0)), (1, .ref a), (2, .int (nI 4)), (3, .int (nI g))] := hl
  refine lv_iconst (v := nI 0) hx hb dX0_writeElementTorques_0 (by decide) ?_
  refine lv_istore (lv' := [(4, .int (nI 0)), (0, .ref (q 0)), (1, .ref a), (2, .int (nI 4)), (3, .int (nI g))]) hx hb dX0_writeElementTorques_1 hl (by decide) rfl (fun ls hl => ?_)
  have L3 : ∀ (fuel : Nat) (k : Nat) (M' : Nat → Nat → Int64) (H : Heap) (locs : List Loc) (ls : Array Slot), m1 - k < fuel → (k ≤ m1) → (∀ x y, tI M' x y = tI M x y + eS d g k y x) → va_P D vwCl (WE K a ao ap ab r M' pv ip sv ++ (WD K q d)) H → va_D A (WE K a ao ap ab r M' pv ip sv ++ (WD K q d)) → va_S A s.heap H locs → lv_has ls 5 [(4, .int (nI k)), (0, .ref (q 0)), (1, .ref a), (2, .int (nI 4)), (3, .int (nI g))] → W p l e ({ frames := 1, cells := 0, slots := 0, locals := 24 } : Room) s m [.ref (q 0), .ref a, .int (nI 4), .int (nI g)].toArray below meth c H locs 0 0 (MQ below (va_Qv (fun (u : Nat → Nat → Int64) => ∀ x y, tI u x y = tI M x y + eS d g m1 y x) (fun (u : Nat → Nat → Int64) t => cB D K A (WE K a ao ap ab r u pv ip sv ++ (WD K q d)) t) A) [.ref (q 0), .ref a, .int (nI 4), .int (nI g)].toArray s 0 0 A) (F0 m 3 ls []) := by
    intro fuel
    induction fuel with
    | zero =>
      intro k M' H locs ls hfu
      exact absurd hfu (Nat.not_lt_zero _)
    | succ fuel ih3 =>
      intro k M' H locs ls hfu hk hI hP hD hS hl
      refine lv_iload hx hb dX0_writeElementTorques_3 (lv_at hl 0 rfl) ?_
      refine lv_aload_n hx hb dX0_writeElementTorques_5 rfl (lv_at hl 1 rfl) ?_
      refine va_get (D := D) (ci := 0) (C := RX0) (T := TX0) (N := 11) hx hb hts iX0 hown hK hP 14 rfl rfl 9 (by decide) (hts _ k_f_X0_40) (fun _ h9 => h9) rfl dX0_writeElementTorques_6 ?_
      refine t_i (show _ = nI m1 from h1) ?_
      refine b_icmp_ge hx hb (nI_toIntI (by omega)) (nI_toIntI (by omega)) dX0_writeElementTorques_9 (tgt := 79) (by decide) (fun c9 => ?_) (fun c9 => ?_)
      · exact W.vret hx hb hr (fun t9 ht9 hW => ⟨⟨M', rfl, (fun x y => by have h9 : k = m1 := (by omega); rw [← h9]; exact hI x y), by rw [ht9]; exact hP, va_K.moved hW.alike hK, hD⟩, hS.F ht9⟩) hS.2.2 dX0_writeElementTorques_79
      refine lv_iload hx hb dX0_writeElementTorques_12 (lv_at hl 0 rfl) ?_
      refine lv_bipush (v := nI 6) hx hb dX0_writeElementTorques_14 (by decide) ?_
      refine b_icmp_ge hx hb (nI_toIntI (by omega)) (nI_toIntI (by omega)) dX0_writeElementTorques_16 (tgt := 79) (by decide) (fun c16 => absurd c16 (by omega)) (fun c16 => ?_)
      refine lv_iload hx hb dX0_writeElementTorques_19 (lv_at hl 0 rfl) ?_
      refine lv_iload_n hx hb dX0_writeElementTorques_21 rfl (lv_at hl 4 rfl) ?_
      refine va_calli (va_runS (As := [.int (nI k), .int (nI g)]) (rest := []) ⟨hx, hb, hml, hown, hts⟩ (c_X0_isIn l k g (by omega) hg) (va_cwS 2 hts (TB_S k_m_X0_50 k_st_X0_isIn k_in_X0 k_co_X0_isIn (fun _ h => h)) rfl rfl rfl (by decide +kernel) ⟨Nat.le_of_ble_eq_true rfl, Nat.le_of_ble_eq_true rfl⟩) ⟨tP_blind, tP_of⟩ rfl rfl hl.1 rfl (lv_room (Nat.le_of_ble_eq_true rfl)) dX0_writeElementTorques_22 ⟨Nat.le_of_ble_eq_true rfl, Nat.le_of_ble_eq_true rfl⟩) hS (fun q _ h => absurd h id) (fun q h => absurd h id) (fun b2 u9 t9 H locs ht9 hvm hw hB hz1 hk1 hS => ?_)
      have hP := P_same hP hk1
      subst hw
      by_cases htb : g.testBit k = true
      · refine t_i (bI_t htb).symm ?_
        refine b_if_eq hx hb (nI_toIntI (by omega)) dX0_writeElementTorques_25 (tgt := 73) (by decide) (fun c25 => absurd c25 (by omega)) (fun c25 => ?_)
        obtain ⟨ea, ec, hea, e5, e6, -, -, -⟩ := he k (by omega)
        refine lv_aload_n hx hb dX0_writeElementTorques_28 rfl (lv_at hl 2 rfl) ?_
        refine lv_aload_n hx hb dX0_writeElementTorques_29 rfl (lv_at hl 1 rfl) ?_
        refine va_get (D := D) (ci := 0) (C := RX0) (T := TX0) (N := 11) hx hb hts iX0 hown hK hP 14 rfl rfl 6 (by decide) (hts _ k_f_X0_27) (fun _ h9 => h9) rfl dX0_writeElementTorques_30 ?_
        refine lv_iload hx hb dX0_writeElementTorques_33 (lv_at hl 0 rfl) ?_
        refine n_iald hx hb hK hP 20 0 rfl rfl (i := k) (n := 6) (by omega) (by decide) dX0_writeElementTorques_35 ?_
        refine t_i (show _ = nI ea from e5) ?_
        refine lv_iload_n hx hb dX0_writeElementTorques_36 rfl (lv_at hl 3 rfl) ?_
        refine lv_iload hx hb dX0_writeElementTorques_37 (lv_at hl 0 rfl) ?_
        refine lv_iadd hx hb dX0_writeElementTorques_39 ?_
        refine t_i (nI_add _ _) ?_
        refine lv_lconst (v := 1) hx hb dX0_writeElementTorques_40 (by decide) ?_
        have hPc := bP0 hP
        have hDc := bD0 hD
        have hFc := bF0 hD hS hA
        refine va_callv (va_runV (As := [.int (nI ea), .int (nI (4 + k)), .long (1 : Int64)]) (rest := []) ⟨hx, hb, hml, hown, hts⟩ (c_X1_add l D K a ao ap ab r M' pv ip sv ea (4 + k) (1 : Int64) H.size (by omega) (by omega)) (cwV 3 hts (TB_V k_m_X0_54 k_im_X1_add k_se_X1_add k_in_X1 k_co_X1_add (fun _ h => h)) rfl rfl rfl (by decide +kernel) ⟨Nat.le_of_ble_eq_true rfl, Nat.le_of_ble_eq_true rfl⟩) ⟨cP_blind, va_recv hK hPc (ci := 1) (q0 := 0) rfl rfl, cP_of hPc hK hDc⟩ rfl rfl hl.1 rfl (lv_room (Nat.le_of_ble_eq_true rfl)) dX0_writeElementTorques_41 ⟨Nat.le_of_ble_eq_true rfl, Nat.le_of_ble_eq_true rfl⟩) hS (fun q _ h => hFc q h) hFc (fun u9 t9 H locs ht9 hvm hw hB hz1 hk1 hS => ?_)
        obtain ⟨hP1, hK1, hD1⟩ := hB
        rw [ht9] at hP1
        obtain ⟨hP, hD⟩ := bJ0 hP hD hk1 hFc hP1 hD1
        obtain ⟨N1_0, eN1_0⟩ : ∃ z, z = setM M' ea (4 + k) (M' ea (4 + k) + (1 : Int64)) := ⟨_, rfl⟩
        rw [← eN1_0] at hP hD
        rcases e6 with e6 | ⟨eb, heb, hne, e6⟩
        · refine lv_aload_n hx hb dX0_writeElementTorques_44 rfl (lv_at hl 1 rfl) ?_
          refine va_get (D := D) (ci := 0) (C := RX0) (T := TX0) (N := 11) hx hb hts iX0 hown hK hP 14 rfl rfl 7 (by decide) (hts _ k_f_X0_30) (fun _ h9 => h9) rfl dX0_writeElementTorques_45 ?_
          refine lv_iload hx hb dX0_writeElementTorques_48 (lv_at hl 0 rfl) ?_
          refine n_iald hx hb hK hP 21 0 rfl rfl (i := k) (n := 6) (by omega) (by decide) dX0_writeElementTorques_50 ?_
          refine lv_iconst (v := (-1)) hx hb dX0_writeElementTorques_51 (by decide) ?_
          refine t_i2 e6 ?_
          refine b_icmp_eq hx hb (show (-1 : Int32).toInt = -1 by decide) (show (-1 : Int32).toInt = -1 by decide) dX0_writeElementTorques_52 (tgt := 73) (by decide) (fun c52 => ?_) (fun c52 => absurd c52 (by decide))
          refine lv_iinc (v := nI (k + 1)) (lv' := [(4, .int (nI (k + 1))), (0, .ref (q 0)), (1, .ref a), (2, .int (nI 4)), (3, .int (nI g))]) hx hb dX0_writeElementTorques_73 hl (k := 0) rfl (nI_add k 1) (by decide) rfl (fun ls hl => ?_)
          refine lv_goto (tgt := 3) hx hb dX0_writeElementTorques_76 (by decide) ?_
          have hrow : ∀ z, z < 10 → (tI M' z (4 + k)).natAbs ≤ 1000 := fun z hz9 => by rw [hI]; have h9 := hM z (4 + k) hz9; rw [eS_self]; simpa using h9
          have hI2 : ∀ x y, tI N1_0 x y = tI M x y + eS d g (k + 1) y x := fun x y => by
            have A1 : ∀ x y, tI N1_0 x y = tI M' x y + (if x = ea ∧ y = 4 + k then (1 : Int64).toInt else 0) := fun x y => by
              rw [eN1_0]; have := hrow ea (by omega); have o1 : (1 : Int64).toInt = 1 := by decide
              exact tI_add (by omega) (by omega) (by omega) x y
            have o1 : (1 : Int64).toInt = 1 := by decide
            rw [A1 x y, hI x y, eS_yes htb, elc_brake e5 e6 (by omega), o1, Int.add_assoc]
            by_cases q1 : x = ea <;> by_cases q2 : y = 4 + k <;> simp [q1, q2]
          exact ih3 (k + 1) N1_0 _ _ _ (by omega) (by omega) hI2 hP hD hS (lv_sub hl [0, 1, 2, 3, 4] rfl)
        refine lv_aload_n hx hb dX0_writeElementTorques_44 rfl (lv_at hl 1 rfl) ?_
        refine va_get (D := D) (ci := 0) (C := RX0) (T := TX0) (N := 11) hx hb hts iX0 hown hK hP 14 rfl rfl 7 (by decide) (hts _ k_f_X0_30) (fun _ h9 => h9) rfl dX0_writeElementTorques_45 ?_
        refine lv_iload hx hb dX0_writeElementTorques_48 (lv_at hl 0 rfl) ?_
        refine n_iald hx hb hK hP 21 0 rfl rfl (i := k) (n := 6) (by omega) (by decide) dX0_writeElementTorques_50 ?_
        refine t_i (show _ = nI eb from e6) ?_
        refine lv_iconst (v := (-1)) hx hb dX0_writeElementTorques_51 (by decide) ?_
        refine b_icmp_eq hx hb (nI_toIntI (by omega)) (show (-1 : Int32).toInt = -1 by decide) dX0_writeElementTorques_52 (tgt := 73) (by decide) (fun c52 => absurd c52 (by omega)) (fun c52 => ?_)
        refine lv_aload_n hx hb dX0_writeElementTorques_55 rfl (lv_at hl 2 rfl) ?_
        refine lv_aload_n hx hb dX0_writeElementTorques_56 rfl (lv_at hl 1 rfl) ?_
        refine va_get (D := D) (ci := 0) (C := RX0) (T := TX0) (N := 11) hx hb hts iX0 hown hK hP 14 rfl rfl 7 (by decide) (hts _ k_f_X0_30) (fun _ h9 => h9) rfl dX0_writeElementTorques_57 ?_
        refine lv_iload hx hb dX0_writeElementTorques_60 (lv_at hl 0 rfl) ?_
        refine n_iald hx hb hK hP 21 0 rfl rfl (i := k) (n := 6) (by omega) (by decide) dX0_writeElementTorques_62 ?_
        refine t_i (show _ = nI eb from e6) ?_
        refine lv_iload_n hx hb dX0_writeElementTorques_63 rfl (lv_at hl 3 rfl) ?_
        refine lv_iload hx hb dX0_writeElementTorques_64 (lv_at hl 0 rfl) ?_
        refine lv_iadd hx hb dX0_writeElementTorques_66 ?_
        refine t_i (nI_add _ _) ?_
        refine lv_ldc2 hx hb hown (hts _ k_kl_X0_60) dX0_writeElementTorques_67 ?_
        have hPc := bP0 hP
        have hDc := bD0 hD
        have hFc := bF0 hD hS hA
        refine va_callv (va_runV (As := [.int (nI eb), .int (nI (4 + k)), .long (-1 : Int64)]) (rest := []) ⟨hx, hb, hml, hown, hts⟩ (c_X1_add l D K a ao ap ab r N1_0 pv ip sv eb (4 + k) (-1 : Int64) H.size (by omega) (by omega)) (cwV 3 hts (TB_V k_m_X0_54 k_im_X1_add k_se_X1_add k_in_X1 k_co_X1_add (fun _ h => h)) rfl rfl rfl (by decide +kernel) ⟨Nat.le_of_ble_eq_true rfl, Nat.le_of_ble_eq_true rfl⟩) ⟨cP_blind, va_recv hK hPc (ci := 1) (q0 := 0) rfl rfl, cP_of hPc hK hDc⟩ rfl rfl hl.1 rfl (lv_room (Nat.le_of_ble_eq_true rfl)) dX0_writeElementTorques_70 ⟨Nat.le_of_ble_eq_true rfl, Nat.le_of_ble_eq_true rfl⟩) hS (fun q _ h => hFc q h) hFc (fun u9 t9 H locs ht9 hvm hw hB hz1 hk1 hS => ?_)
        obtain ⟨hP1, hK1, hD1⟩ := hB
        rw [ht9] at hP1
        obtain ⟨hP, hD⟩ := bJ0 hP hD hk1 hFc hP1 hD1
        obtain ⟨N2_0, eN2_0⟩ : ∃ z, z = setM N1_0 eb (4 + k) (N1_0 eb (4 + k) + (-1 : Int64)) := ⟨_, rfl⟩
        rw [← eN2_0] at hP hD
        refine lv_iinc (v := nI (k + 1)) (lv' := [(4, .int (nI (k + 1))), (0, .ref (q 0)), (1, .ref a), (2, .int (nI 4)), (3, .int (nI g))]) hx hb dX0_writeElementTorques_73 hl (k := 0) rfl (nI_add k 1) (by decide) rfl (fun ls hl => ?_)
        refine lv_goto (tgt := 3) hx hb dX0_writeElementTorques_76 (by decide) ?_
        have hrow : ∀ z, z < 10 → (tI M' z (4 + k)).natAbs ≤ 1000 := fun z hz9 => by rw [hI]; have h9 := hM z (4 + k) hz9; rw [eS_self]; simpa using h9
        have hI2 : ∀ x y, tI N2_0 x y = tI M x y + eS d g (k + 1) y x := fun x y => by
          have A1 : ∀ x y, tI N1_0 x y = tI M' x y + (if x = ea ∧ y = 4 + k then (1 : Int64).toInt else 0) := fun x y => by
            rw [eN1_0]; have := hrow ea (by omega); have o1 : (1 : Int64).toInt = 1 := by decide
            exact tI_add (by omega) (by omega) (by omega) x y
          have o1 : (1 : Int64).toInt = 1 := by decide
          have B1 : ∀ z, z < 10 → (tI N1_0 z (4 + k)).natAbs ≤ 1001 := fun z hz9 => by have h8 := hrow z hz9; have h9 := A1 z (4 + k); split at h9 <;> omega
          have A2 : ∀ x y, tI N2_0 x y = tI N1_0 x y + (if x = eb ∧ y = 4 + k then (-1 : Int64).toInt else 0) := fun x y => by
            rw [eN2_0]; have := B1 eb (by omega); have o1 : (-1 : Int64).toInt = -1 := by decide
            exact tI_add (by omega) (by omega) (by omega) x y
          have o2 : (-1 : Int64).toInt = -1 := by decide
          rw [A2 x y, A1 x y, hI x y, eS_yes htb, elc_clutch e5 e6 (by omega) (by omega), o1, o2, Int.add_assoc, Int.add_assoc]
          by_cases q1 : x = ea <;> by_cases q3 : x = eb <;> by_cases q2 : y = 4 + k <;> simp [q1, q2, q3] <;> omega
        exact ih3 (k + 1) N2_0 _ _ _ (by omega) (by omega) hI2 hP hD hS (lv_sub hl [0, 1, 2, 3, 4] rfl)
      refine t_i (bI_f htb).symm ?_
      refine b_if_eq hx hb (nI_toIntI (by omega)) dX0_writeElementTorques_25 (tgt := 73) (by decide) (fun c25 => ?_) (fun c25 => absurd c25 (by omega))
      refine lv_iinc (v := nI (k + 1)) (lv' := [(4, .int (nI (k + 1))), (0, .ref (q 0)), (1, .ref a), (2, .int (nI 4)), (3, .int (nI g))]) hx hb dX0_writeElementTorques_73 hl (k := 0) rfl (nI_add k 1) (by decide) rfl (fun ls hl => ?_)
      refine lv_goto (tgt := 3) hx hb dX0_writeElementTorques_76 (by decide) ?_
      have hI2 : ∀ x y, tI M' x y = tI M x y + eS d g (k + 1) y x := fun x y => by rw [hI x y, eS_no htb]
      exact ih3 (k + 1) M' _ _ _ (by omega) (by omega) hI2 hP hD hS (lv_sub hl [0, 1, 2, 3, 4] rfl)
  exact L3 _ 0 M _ _ _ (Nat.lt_succ_self _) (Nat.zero_le _) (fun x y => by rw [show eS d g 0 y x = 0 from if_neg (by omega), Int.add_zero]) hP hD hS (lv_sub hl [0, 1, 2, 3, 4] rfl)
