/-! the law: its rounds, what they need -/
section RO
/-- the latest mask in the history -/
def HT (w : CV) (y : Nat) : Prop := 0 < w.2.2.2.2.2.2 ∧ w.2.2.2.2.2.1 (w.2.2.2.2.2.2 - 1) = nI y
variable {v w u : CV} {x y : Nat} {z : Int32}
theorem HT_chg (h : IV v) (hE : EG v x w) (hy : y < 64) (hne : ¬ y = x) (hc : CHG w (nI y) z u) : HT u x := by
  have hx := EG_64 h hE
  rcases hc with ⟨h1, -, -⟩ | ⟨-, -, hs⟩
  · rw [(EG_2 h hE).1] at h1
    exact absurd ((nI_eq (by omega) (by omega)).mp h1) hne
  · obtain ⟨-, -, -, -, -, s6, s7⟩ := hs
    unfold HT
    have hp : 0 < u.2.2.2.2.2.2 := by rw [s6]; split <;> omega
    refine ⟨hp, ?_⟩
    rw [s7 _ (by omega), s6]
    unfold hsA
    by_cases q : w.2.2.2.2.2.2 = 20
    · rw [if_pos q, if_pos q, if_neg (by omega)]; exact (EG_2 h hE).1
    · rw [if_neg q, if_neg q, if_pos (by omega)]; exact (EG_2 h hE).1
theorem HT_same {t : Nat} (h : IV v) (hE : EG v x w) (hc : CHG w (nI x) z u) (ht : HT w t) : HT u t := by
  rcases hc with ⟨-, -, rfl⟩ | ⟨h1, -, -⟩
  · exact ht
  · exact absurd (EG_2 h hE).1.symm h1
theorem w_and : ∀ a, a < 64 → ∀ b, b < 64 → nI a &&& nI b = nI (a &&& b) := by decide +kernel
theorem w_xorA : ∀ t, t < 64 → ∀ e, e < 6 → nI t ^^^ (nI 1 <<< (nI e &&& 31)) = nI (t ^^^ 2 ^ e) ∧ ¬ (t ^^^ 2 ^ e) = t ∧ t ^^^ 2 ^ e < 64 := by decide +kernel
theorem w_xorB : ∀ t, t < 64 → ∀ e, e < 6 → t.testBit e = true → cl1 t e = t ^^^ 2 ^ e ∧ t ||| 2 ^ e = t ∧ cl1 (t ^^^ 2 ^ e) e = t ^^^ 2 ^ e := by decide +kernel
theorem w_xorC : ∀ t, t < 64 → ∀ e, e < 6 → ¬ t.testBit e = true → t ||| 2 ^ e = t ^^^ 2 ^ e ∧ cl1 t e = t ∧ (t ^^^ 2 ^ e) ||| 2 ^ e = t ^^^ 2 ^ e := by decide +kernel
theorem w_xor (t : Nat) (ht : t < 64) (e : Nat) (he : e < 6) : nI t ^^^ (nI 1 <<< (nI e &&& 31)) = nI (t ^^^ 2 ^ e) ∧ (t.testBit e = true → cl1 t e = t ^^^ 2 ^ e ∧ t ||| 2 ^ e = t ∧ cl1 (t ^^^ 2 ^ e) e = t ^^^ 2 ^ e) ∧ (¬ t.testBit e = true → t ||| 2 ^ e = t ^^^ 2 ^ e ∧ cl1 t e = t ∧ (t ^^^ 2 ^ e) ||| 2 ^ e = t ^^^ 2 ^ e) ∧ ¬ (t ^^^ 2 ^ e) = t ∧ t ^^^ 2 ^ e < 64 := ⟨(w_xorA t ht e he).1, w_xorB t ht e he, w_xorC t ht e he, (w_xorA t ht e he).2⟩
theorem xor_lt : ∀ m, m < 7 → ∀ e, e < m → ∀ t, t < 64 → t < 2 ^ m → t ^^^ 2 ^ e < 2 ^ m := by decide +kernel
theorem w_shl : ∀ m, m < 7 → nI 1 <<< (nI m &&& 31) = nI (2 ^ m) := by decide +kernel
theorem pow_64 : ∀ m, m < 7 → 1 ≤ 2 ^ m ∧ 2 ^ m ≤ 64 := by decide +kernel
theorem bit_lt : ∀ m, m < 7 → ∀ t, t < 64 → t < 2 ^ m → ∀ j, j < 6 → t.testBit j = true → j < m := by decide +kernel
theorem and_0 : ∀ a, a < 64 → ∀ b, b < 64 → a &&& b = 0 ∨ ∃ j, j < 6 ∧ a.testBit j = true ∧ b.testBit j = true := by decide +kernel
/-- brakes alone are engaged: where no clutch is -/
theorem brk_iff {d : Nat → Nat → Int32} {cl : Nat} (h : DV d) (h64 : cl < 64) (hcl : ∀ j, j < dn d 8 1 → (cl.testBit j = true ↔ ¬ d 6 j = -1)) : (dn d 8 2 &&& cl = 0 → rs_brakesOnly d = 1) ∧ (¬ dn d 8 2 &&& cl = 0 → rs_brakesOnly d = 0) := by
  obtain ⟨g1, -, g3, g4⟩ := DV_g h
  have hm := DV_m h
  constructor
  · intro h0
    unfold rs_brakesOnly
    refine cI_f (fun hz => ?_)
    obtain ⟨k, hk, hb, hne⟩ := hz
    have h1 := (hcl k hk).mpr hne
    have h2 : (dn d 8 2 &&& cl).testBit k = true := by rw [Nat.testBit_and, hb, h1]; rfl
    rw [h0, Nat.zero_testBit] at h2
    exact Bool.false_ne_true h2
  · intro h0
    unfold rs_brakesOnly
    refine cI_t ?_
    rcases and_0 _ g4 cl h64 with q | ⟨j, hj, h1, h2⟩
    · exact absurd q h0
    · have hjm := bit_lt (dn d 8 1) (by omega) _ g4 g1 j hj h1
      exact ⟨j, hjm, h1, (hcl j hjm).mp h2⟩
theorem rsE_engage0 {e : Nat} (h : IV v) (hE : EG v x w) (he : e < dn v.1 8 1) (hb : x ||| 2 ^ e = x) : rs_engage w.1 (nI e) = (0, 0) := by
  have h6 := DV_m h.1
  unfold rs_engage
  rw [cI_f (fun z => z (elm_at (by rw [EG_m hE]; exact he))), nI_tt (by omega), (EG_2 h hE).2, cI_t hb]
theorem rsE_release0 {e : Nat} (h : IV v) (hE : EG v x w) (he : e < dn v.1 8 1) (hb : cl1 x e = x) : rs_release w.1 (nI e) = (0, 0) := by
  have h6 := DV_m h.1
  unfold rs_release
  rw [cI_f (fun z => z (elm_at (by rw [EG_m hE]; exact he))), nI_tt (by omega), (EG_2 h hE).2, cI_t hb]
theorem rsE_release1 {e : Nat} (h : IV v) (hE : EG v x w) (he : e < dn v.1 8 1) (hb : ¬ cl1 x e = x) : rs_release w.1 (nI e) = (0, 1) := by
  have h6 := DV_m h.1
  unfold rs_release
  rw [cI_f (fun z => z (elm_at (by rw [EG_m hE]; exact he))), nI_tt (by omega), (EG_2 h hE).2, cI_f hb]
theorem rsE_gear2 {k : Nat} (hE : EG v x w) (hk : k < gN v.1) : rs_gear w.1 (nI k) = (0, ((gF v.1 k : Nat) : Int)) := rsE_gear hE hk
theorem EG_undo (h : IV v) (hE : EG v x w) (hy : y < 2 ^ dn v.1 8 1) (ht : HT w y) (hu : u = (dU w.1 8 2 (w.2.2.2.2.2.1 (w.2.2.2.2.2.2 - 1)), w.2.1, w.2.2.1, w.2.2.2.1, w.2.2.2.2.1, w.2.2.2.2.2.1, w.2.2.2.2.2.2 - 1)) : EG v y u := by
  obtain ⟨e0, e1, e2, e3, e4, e5⟩ := hE
  rw [hu]
  refine ⟨hy, ?_, e2, e3, e4, e5⟩
  show dU w.1 8 2 (w.2.2.2.2.2.1 (w.2.2.2.2.2.2 - 1)) = _
  rw [ht.2, e1, dU_dU]
/-- what the law has built, and saved -/
def BL (v : CV) (me cl : Nat) : Prop := IV v ∧ me = dn v.1 8 1 ∧ 3 ≤ me ∧ cl < 64 ∧ (∀ j, j < dn v.1 8 1 → (cl.testBit j = true ↔ ¬ v.1 6 j = -1)) ∧ v.2.2.2.2.1 = nI 1 ∧ spM v.2.2.1 = spM v.1 ∧ dn v.2.2.1 8 1 = dn v.1 8 1 ∧ v.2.2.1 8 2 = nI 0 ∧ ¬ (v.1 7 0).toInt = 9999
theorem BL_EG {me cl : Nat} (h : BL v me cl) (hE : EG v x w) (hw : IV w) : BL w me cl := by
  obtain ⟨h1, h2, h3, h4, h5, h6, h7, h8, h9, h10⟩ := h
  have e7 : w.1 7 = v.1 7 := by rw [hE.2.1]; rfl
  have em := EG_m hE
  obtain ⟨-, -, -, e2, -, e4⟩ := id hE
  exact ⟨hw, by rw [em]; exact h2, h3, h4, fun j hj => by rw [EG_6 hE]; exact h5 j (by omega), e4.trans h6, by rw [e2, EG_sp hE]; exact h7, by rw [e2, em]; exact h8, by rw [e2]; exact h9, by rw [e7]; exact h10⟩
end RO
set_option maxHeartbeats 4000000 in
set_option maxRecDepth 100000 in
theorem law_rounds {p : Program} {l : Launch} {e : Env} {s : State} {m : MethodId} {below : List Frame} {meth : Method} {c : Code} {b L : Nat} {xs : Nat → Int32} {D : va_G} {K : Nat → ClassId} {A : Nat → Prop} (hlf : l.stackTraces = false) (hx : p.tables.exec = Jvm.exec) (hb : c.code = cL_law) (hml : c.maxLocals = 13) (hown : s.vm.findClass RL = some m.cls) (hts : ∀ w ∈ TB, w.before #[Value.ref b] s = true) (hX : va_X b L xs s s.heap) (hbl : b < s.heap.size) (hbA : ¬ A b) (hA : ∀ q, s.heap.size ≤ q → A q) (hK : va_K D vwCl (TY K) s) (hTX : TX A s.heap s) (hCL : CL s) (hL : L ≤ 260) (hr : meth.sig.returnType = ret) (hlocks : meth.locks = false) (hAs : ∀ q, A q → s.heap.size ≤ q) {ad q q1 q2 g r r2 : Nat → Nat} {me cl a9 x : Nat} {v vw : CV} {i : CI} (hBL : BL v me cl) (hI : IV vw) (hJ : II vw.1 i) (hE : EG v x vw) (ha9 : a9 ≤ 30) {H : Heap} {locs : List Loc} {ls : Array Slot} (hP : va_P D vwCl (WX K ad q q1 q2 g r r2 vw i) H) (hD : va_D A (WX K ad q q1 q2 g r r2 vw i)) (hS : va_S A s.heap H locs) (hl : lv_has ls 13 [(0, .ref b), (1, .ref (ad 0)), (2, .int (nI a9)), (4, .int (nI cl)), (5, .int (nI me))]) : W p l e room_1 s m #[Value.ref b] below meth c H locs 153255 920930 (lw_Z below #[Value.ref b] s) (F0 m 388 ls []) := by
  obtain ⟨hI0, hme, hme3, hcl64, hcl, -, -, -, -, -⟩ := id hBL
  have hm6 := DV_m hI0.1
  obtain ⟨hgl, hge2, hp64, hge64⟩ := DV_g hI0.1
  have hg64 := gN_le v.1
  refine lv_iconst (v := nI 0) hx hb dL_law_388 (by decide) ?_
  refine lv_istore (lv' := [(6, .int (nI 0)), (0, .ref b), (1, .ref (ad 0)), (2, .int (nI a9)), (4, .int (nI cl)), (5, .int (nI me))]) hx hb dL_law_389 hl (by decide) rfl (fun ls hl => ?_)
  refine W.widen (k := 153255 + 0 * 40) (n := 920930 + 0 * 240) (by omega) (by omega) ?_
  have L391 : ∀ (fuel : Nat) (vw : CV) (i : CI) (k : Nat) (a9 : Nat) (x : Nat) (H : Heap) (locs : List Loc) (ls : Array Slot), 8 - k < fuel → (IV vw) → (II vw.1 i) → (EG v x vw) → (k ≤ 8) → (a9 ≤ 30 + k) → va_P D vwCl (WX K ad q q1 q2 g r r2 vw i) H → va_D A (WX K ad q q1 q2 g r r2 vw i) → va_S A s.heap H locs → lv_has ls 13 [(0, .ref b), (1, .ref (ad 0)), (2, .int (nI a9)), (4, .int (nI cl)), (5, .int (nI me)), (6, .int (nI k))] → W p l e room_1 s m #[Value.ref b] below meth c H locs (153255 + k * 40) (920930 + k * 240) (lw_Z below #[Value.ref b] s) (F0 m 391 ls []) := by
    intro fuel
    induction fuel with
    | zero =>
      intro vw i k a9 x H locs ls hfu
      exact absurd hfu (Nat.not_lt_zero _)
    | succ fuel ih391 =>
      intro vw i k a9 x H locs ls hfu hI hJ hE hk ha9 hP hD hS hl
      have hx64 := EG_64 hI0 hE
      refine lv_iload hx hb dL_law_391 (lv_at hl 5 rfl) ?_
      refine lv_bipush (v := nI 8) hx hb dL_law_393 (by decide) ?_
      refine b_icmp_ge hx hb (nI_toIntI (by omega)) (nI_toIntI (by omega)) dL_law_395 (tgt := 651) (by decide) (fun c395 => ?_) (fun c395 => ?_)
      · refine lv_aload_n hx hb dL_law_651 rfl (lv_at hl 1 rfl) ?_
        refine lv_iload hx hb dL_law_652 (lv_at hl 4 rfl) ?_
        have hBv := BL_EG hBL hE hI
        obtain ⟨-, hb2, hb3, -, -, hb6, hb7, hb8, hb9, hb10⟩ := hBv
        have hFc := freeAll hD hS hA
        refine va_calli (va_runS (As := [.ref (ad 0), .int (nI me)]) (rest := []) ⟨hx, hb, hml, hown, hts⟩ (c_L_saved l hlf D K ad q q1 q2 g r r2 vw i me H.size hI hJ hb2 (by omega) hb6 hb7 hb8 hb9 hb10) (va_cwS 2 hts (TB_S k_m_L_82 k_st_L_saved k_in_L k_co_L_saved (fun _ h => h)) rfl rfl rfl (by decide +kernel) ⟨Nat.le_of_ble_eq_true rfl, Nat.le_of_ble_eq_true rfl⟩) ⟨cPM_blind, cPM_of hP hK hD hTX hCL hS hFc⟩ rfl rfl hl.1 rfl (lv_room (Nat.le_of_ble_eq_true rfl)) dL_law_654 ⟨(show (153255 + k * 40) + 14 ≤ 611516 by omega), (show (920930 + k * 240) + 84 ≤ 7267151 by omega)⟩) hS (fun q _ h => hFc q h) hFc (fun rz u9 t9 H locs ht9 hal hw hB hz1 hk1 hS => ?_)
        obtain ⟨v9, i9⟩ := u9
        obtain ⟨hP1, hK1, hD1⟩ := hB
        rw [ht9] at hP1
        have hP2 := hP1
        have hD2 := hD1.weaken (fun _ _ _ h => hFc _ h)
        have hz : rz = nI 1 := hw
        refine t_i (show rz = 1 from hz.trans (by decide)) ?_
        refine va_forget (fun q hq => hAs _ (hS.2.2 q hq)) ?_
        refine W.widen (k := 611516) (n := 7267151) (by omega) (by omega) ?_
        exact W.base (lw_ret (d0 := s.drawn) (Drawn.sameBut.refl s.drawn lw_cs) hx hb hr hlocks dL_law_657)
      refine lv_aload_n hx hb dL_law_398 rfl (lv_at hl 0 rfl) ?_
      refine lv_iload_n hx hb dL_law_399 rfl (lv_at hl 2 rfl) ?_
      refine lv_iinc (v := nI (a9 + 1)) (lv' := [(2, .int (nI (a9 + 1))), (0, .ref b), (1, .ref (ad 0)), (4, .int (nI cl)), (5, .int (nI me)), (6, .int (nI k))]) hx hb dL_law_400 hl (k := 2) rfl (nI_add a9 1) (by decide) rfl (fun ls hl => ?_)
      refine va_calli (va_runS (As := [.ref b, .int (nI a9)]) (rest := []) ⟨hx, hb, hml, hown, hts⟩ (c_L_cell l b L a9 xs (by omega) (by omega)) (va_cwS 2 hts (TB_S k_m_L_12 k_st_L_cell k_in_L k_co_L_cell (fun _ h => h)) rfl rfl rfl (by decide +kernel) ⟨Nat.le_of_ble_eq_true rfl, Nat.le_of_ble_eq_true rfl⟩) ⟨cXs_blind, cXs_of hX hbl hbA hS⟩ rfl rfl hl.1 rfl (lv_room (Nat.le_of_ble_eq_true rfl)) dL_law_403 ⟨(show (153255 + k * 40) + 0 ≤ 611516 by omega), (show (920930 + k * 240) + 0 ≤ 7267151 by omega)⟩) hS (fun q _ h => absurd h id) (fun q h => absurd h id) (fun cv_1 u9 t9 H locs ht9 hvm hw hB hz1 hk1 hS => ?_)
      have hP := P_same hP hk1
      refine lv_istore (lv' := [(7, .int cv_1), (2, .int (nI (a9 + 1))), (0, .ref b), (1, .ref (ad 0)), (4, .int (nI cl)), (5, .int (nI me)), (6, .int (nI k))]) hx hb dL_law_406 hl (by decide) rfl (fun ls hl => ?_)
      refine lv_aload_n hx hb dL_law_408 rfl (lv_at hl 3 rfl) ?_
      have hFc := freeAll hD hS hA
      refine va_calli (va_runV (As := []) (rest := []) ⟨hx, hb, hml, hown, hts⟩ (c_X6_engaged l D K ad q q1 q2 g r r2 vw i  H.size hI hJ) (cwV 0 hts (TB_V k_m_L_51 k_im_X6_engaged k_se_X6_engaged k_in_X6 k_co_X6_engaged (fun _ h => h)) rfl rfl rfl (by decide +kernel) ⟨Nat.le_of_ble_eq_true rfl, Nat.le_of_ble_eq_true rfl⟩) ⟨cP_blind, va_recv hK hP (ci := 6) (q0 := 0) rfl rfl, cP_of hP hK hD⟩ rfl rfl hl.1 rfl (lv_room (Nat.le_of_ble_eq_true rfl)) dL_law_409 ⟨(show ((153255 + k * 40) + 0) + 0 ≤ 611516 by omega), (show ((920930 + k * 240) + 0) + 0 ≤ 7267151 by omega)⟩) hS (fun q _ h => hFc q h) hFc (fun rz u9 t9 H locs ht9 hal hw hB hz1 hk1 hS => ?_)
      obtain ⟨v9, i9⟩ := u9
      obtain ⟨hP1, hK1, hD1⟩ := hB
      rw [ht9] at hP1
      have hP2 := hP1
      have hD2 := hD1.weaken (fun _ _ _ h => hFc _ h)
      obtain ⟨hv9, hJ9, hr9⟩ := hw
      have hv9 : v9 = vw := hv9
      dsimp only at hJ9 hr9
      rw [hv9] at hP2 hD2 hJ9
      dsimp only at hP2 hD2
      have hJ : II vw.1 i9 := hJ9
      have hP : va_P D vwCl (WX K ad q q1 q2 g r r2 vw i9) H := hP2
      have hD : va_D A (WX K ad q q1 q2 g r r2 vw i9) := hD2
      refine t_i (hr9.trans (EG_2 hI0 hE).1) ?_
      refine lv_istore (lv' := [(8, .int (nI x)), (7, .int cv_1), (2, .int (nI (a9 + 1))), (0, .ref b), (1, .ref (ad 0)), (4, .int (nI cl)), (5, .int (nI me)), (6, .int (nI k))]) hx hb dL_law_412 hl (by decide) rfl (fun ls hl => ?_)
      suffices h475 : ∀ (y : Nat) (i : CI) (H : Heap) (locs : List Loc) (ls : Array Slot), y < 2 ^ dn v.1 8 1 → II vw.1 i → va_P D vwCl (WX K ad q q1 q2 g r r2 vw i) H → va_D A (WX K ad q q1 q2 g r r2 vw i) → va_S A s.heap H locs → lv_has ls 13 [(0, .ref b), (1, .ref (ad 0)), (2, .int (nI (a9 + 1))), (4, .int (nI cl)), (5, .int (nI me)), (6, .int (nI k)), (7, .int cv_1), (8, .int (nI x)), (10, .int (nI y))] → W p l e room_1 s m #[Value.ref b] below meth c H locs ((153255 + k * 40) + 3) ((920930 + k * 240) + 18) (lw_Z below #[Value.ref b] s) (F0 m 475 ls []) by
        refine lv_iload hx hb dL_law_414 (lv_at hl 1 rfl) ?_
        refine lv_iconst (v := nI 2) hx hb dL_law_416 (by decide) ?_
        refine va_calli (va_runS (As := [.int cv_1, .int (nI 2)]) (rest := []) ⟨hx, hb, hml, hown, hts⟩ (c_L_up l cv_1 2 (by omega) (by omega)) (va_cwS 2 hts (TB_S k_m_L_22 k_st_L_up k_in_L k_co_L_up (fun _ h => h)) rfl rfl rfl (by decide +kernel) ⟨Nat.le_of_ble_eq_true rfl, Nat.le_of_ble_eq_true rfl⟩) ⟨tP_blind, tP_of⟩ rfl rfl hl.1 rfl (lv_room (Nat.le_of_ble_eq_true rfl)) dL_law_417 ⟨(show (((153255 + k * 40) + 0) + 0) + 0 ≤ 611516 by omega), (show (((920930 + k * 240) + 0) + 0) + 0 ≤ 7267151 by omega)⟩) hS (fun q _ h => absurd h id) (fun q h => absurd h id) (fun ru u9 t9 H locs ht9 hvm hw hB hz1 hk1 hS => ?_)
        have hP := P_same hP hk1
        obtain ⟨up_2, hup_2, eup_2⟩ := hw
        refine t_i eup_2 ?_
        refine b_if_ne hx hb (nI_toIntI (by omega)) dL_law_420 (tgt := 435) (by decide) (fun c420 => ?_) (fun c420 => ?_)
        · refine lv_iconst (v := nI 0) hx hb dL_law_435 (by decide) ?_
          refine lv_istore (lv' := [(9, .int (nI 0)), (8, .int (nI x)), (7, .int cv_1), (2, .int (nI (a9 + 1))), (0, .ref b), (1, .ref (ad 0)), (4, .int (nI cl)), (5, .int (nI me)), (6, .int (nI k))]) hx hb dL_law_436 hl (by decide) rfl (fun ls hl => ?_)
          refine lv_iload hx hb dL_law_438 (lv_at hl 0 rfl) ?_
          refine b_if_eq hx hb (nI_toIntI (by omega)) dL_law_440 (tgt := 462) (by decide) (fun c440 => ?_) (fun c440 => absurd c440 (by omega))
          refine lv_iload hx hb dL_law_462 (lv_at hl 2 rfl) ?_
          refine lv_iconst (v := nI 4) hx hb dL_law_464 (by decide) ?_
          refine lv_ishr hx hb dL_law_465 ?_
          refine lv_iconst (v := nI 1) hx hb dL_law_466 (by decide) ?_
          refine lv_iload hx hb dL_law_467 (lv_at hl 7 rfl) ?_
          refine lv_ishl hx hb dL_law_469 ?_
          obtain ⟨hpw1, hpw2⟩ := pow_64 me (by omega)
          refine t_i (w_shl me (by omega)) ?_
          refine va_calli (va_runS (As := [.int (cv_1 >>> ((nI 4) &&& 31)), .int (nI (2 ^ me))]) (rest := []) ⟨hx, hb, hml, hown, hts⟩ (c_L_up l (cv_1 >>> ((nI 4) &&& 31)) (2 ^ me) (by omega) (by omega)) (va_cwS 2 hts (TB_S k_m_L_22 k_st_L_up k_in_L k_co_L_up (fun _ h => h)) rfl rfl rfl (by decide +kernel) ⟨Nat.le_of_ble_eq_true rfl, Nat.le_of_ble_eq_true rfl⟩) ⟨tP_blind, tP_of⟩ rfl rfl hl.1 rfl (lv_room (Nat.le_of_ble_eq_true rfl)) dL_law_470 ⟨(show ((((153255 + k * 40) + 0) + 0) + 0) + 0 ≤ 611516 by omega), (show ((((920930 + k * 240) + 0) + 0) + 0) + 0 ≤ 7267151 by omega)⟩) hS (fun q _ h => absurd h id) (fun q h => absurd h id) (fun ru u9 t9 H locs ht9 hvm hw hB hz1 hk1 hS => ?_)
          have hP := P_same hP hk1
          obtain ⟨up_3, hup_3, eup_3⟩ := hw
          refine t_i eup_3 ?_
          refine lv_istore (lv' := [(10, .int (nI up_3)), (9, .int (nI 0)), (8, .int (nI x)), (7, .int cv_1), (2, .int (nI (a9 + 1))), (0, .ref b), (1, .ref (ad 0)), (4, .int (nI cl)), (5, .int (nI me)), (6, .int (nI k))]) hx hb dL_law_473 hl (by decide) rfl (fun ls hl => ?_)
          refine W.widen (k := (153255 + k * 40) + 3) (n := (920930 + k * 240) + 18) (by omega) (by omega) ?_
          exact h475 up_3 _ _ _ _ (by rw [← hme]; exact hup_3) hJ hP hD hS (lv_sub hl [5, 6, 4, 7, 8, 9, 3, 2, 0] rfl)
        refine lv_aload_n hx hb dL_law_423 rfl (lv_at hl 4 rfl) ?_
        refine lv_iconst (v := nI 2) hx hb dL_law_424 (by decide) ?_
        have hrs : rs_count vw.1 (nI 2) = (0, ((gN v.1 : Nat) : Int)) := ((rs_count2 _).trans (by rw [EG_gN hE]))
        have hFc := freeAll hD hS hA
        refine vx_calli (vx_runV (As := [.int (nI 2)]) (rest := []) ⟨hx, hb, hml, hown, hts⟩ (c_X6_count l hlf D K ad q q1 q2 g r r2 vw i9 (nI 2) H.size hI hJ) (cwV 1 hts (TB_V k_m_L_55 k_im_X6_count k_se_X6_count k_in_X6 k_co_X6_count (fun _ h => h)) rfl rfl rfl (by decide +kernel) ⟨Nat.le_of_ble_eq_true rfl, Nat.le_of_ble_eq_true rfl⟩) ⟨cPT_blind, va_recv hK hP (ci := 6) (q0 := 0) rfl rfl, cPT_of hP hK hD hTX hS hFc⟩ rfl rfl hl.1 rfl (lv_room (Nat.le_of_ble_eq_true rfl)) dL_law_425 ⟨(show ((((153255 + k * 40) + 0) + 0) + 0) + 1 ≤ 611516 by omega), (show ((((920930 + k * 240) + 0) + 0) + 0) + 6 ≤ 7267151 by omega)⟩) hS (fun q _ h => hFc q h) hFc (fun q _ h => hFc q h) (fun E ce q9 u9 t9 H locs ht9 hal hpx hB hz1 hk1 hS hce hcv hcl => ?_) (fun rz u9 t9 H locs ht9 hal hw hB hz1 hk1 hS => ?_)
        · exact absurd hB.1.1 (by rw [hrs]; exact Nat.lt_irrefl 0)
        obtain ⟨v9, i9⟩ := u9
        obtain ⟨hP1, hK1, hD1⟩ := hB
        rw [ht9] at hP1
        have hP2 := hP1
        have hD2 := hD1.weaken (fun _ _ _ h => hFc _ h)
        obtain ⟨hv9, hJ9, hr9⟩ := hw
        have hv9 : v9 = vw := hv9
        dsimp only at hJ9 hr9
        rw [hv9] at hP2 hD2 hJ9
        dsimp only at hP2 hD2
        have hJ : II vw.1 i9 := hJ9
        have hP : va_P D vwCl (WX K ad q q1 q2 g r r2 vw i9) H := hP2
        have hD : va_D A (WX K ad q q1 q2 g r r2 vw i9) := hD2
        have hz : rz.toInt = ((gN v.1 : Nat) : Int) := (Prod.mk.inj (hr9.symm.trans hrs)).2
        refine t_i ((i32_eq rz (nI (gN v.1))).mpr (by rw [nI_toIntI (by omega)]; exact hz)) ?_
        refine b_if_le hx hb (nI_toIntI (by omega)) dL_law_428 (tgt := 435) (by decide) (fun c428 => ?_) (fun c428 => ?_)
        · refine lv_iconst (v := nI 0) hx hb dL_law_435 (by decide) ?_
          refine lv_istore (lv' := [(9, .int (nI 0)), (8, .int (nI x)), (7, .int cv_1), (2, .int (nI (a9 + 1))), (0, .ref b), (1, .ref (ad 0)), (4, .int (nI cl)), (5, .int (nI me)), (6, .int (nI k))]) hx hb dL_law_436 hl (by decide) rfl (fun ls hl => ?_)
          refine lv_iload hx hb dL_law_438 (lv_at hl 0 rfl) ?_
          refine b_if_eq hx hb (nI_toIntI (by omega)) dL_law_440 (tgt := 462) (by decide) (fun c440 => ?_) (fun c440 => absurd c440 (by omega))
          refine lv_iload hx hb dL_law_462 (lv_at hl 2 rfl) ?_
          refine lv_iconst (v := nI 4) hx hb dL_law_464 (by decide) ?_
          refine lv_ishr hx hb dL_law_465 ?_
          refine lv_iconst (v := nI 1) hx hb dL_law_466 (by decide) ?_
          refine lv_iload hx hb dL_law_467 (lv_at hl 7 rfl) ?_
          refine lv_ishl hx hb dL_law_469 ?_
          obtain ⟨hpw1, hpw2⟩ := pow_64 me (by omega)
          refine t_i (w_shl me (by omega)) ?_
          refine va_calli (va_runS (As := [.int (cv_1 >>> ((nI 4) &&& 31)), .int (nI (2 ^ me))]) (rest := []) ⟨hx, hb, hml, hown, hts⟩ (c_L_up l (cv_1 >>> ((nI 4) &&& 31)) (2 ^ me) (by omega) (by omega)) (va_cwS 2 hts (TB_S k_m_L_22 k_st_L_up k_in_L k_co_L_up (fun _ h => h)) rfl rfl rfl (by decide +kernel) ⟨Nat.le_of_ble_eq_true rfl, Nat.le_of_ble_eq_true rfl⟩) ⟨tP_blind, tP_of⟩ rfl rfl hl.1 rfl (lv_room (Nat.le_of_ble_eq_true rfl)) dL_law_470 ⟨(show (((((153255 + k * 40) + 0) + 0) + 0) + 1) + 0 ≤ 611516 by omega), (show (((((920930 + k * 240) + 0) + 0) + 0) + 6) + 0 ≤ 7267151 by omega)⟩) hS (fun q _ h => absurd h id) (fun q h => absurd h id) (fun ru u9 t9 H locs ht9 hvm hw hB hz1 hk1 hS => ?_)
          have hP := P_same hP hk1
          obtain ⟨up_4, hup_4, eup_4⟩ := hw
          refine t_i eup_4 ?_
          refine lv_istore (lv' := [(10, .int (nI up_4)), (9, .int (nI 0)), (8, .int (nI x)), (7, .int cv_1), (2, .int (nI (a9 + 1))), (0, .ref b), (1, .ref (ad 0)), (4, .int (nI cl)), (5, .int (nI me)), (6, .int (nI k))]) hx hb dL_law_473 hl (by decide) rfl (fun ls hl => ?_)
          refine W.widen (k := (153255 + k * 40) + 3) (n := (920930 + k * 240) + 18) (by omega) (by omega) ?_
          exact h475 up_4 _ _ _ _ (by rw [← hme]; exact hup_4) hJ hP hD hS (lv_sub hl [5, 6, 4, 7, 8, 9, 3, 2, 0] rfl)
        refine lv_iconst (v := nI 1) hx hb dL_law_431 (by decide) ?_
        refine lv_goto (tgt := 436) hx hb dL_law_432 (by decide) ?_
        refine lv_istore (lv' := [(9, .int (nI 1)), (8, .int (nI x)), (7, .int cv_1), (2, .int (nI (a9 + 1))), (0, .ref b), (1, .ref (ad 0)), (4, .int (nI cl)), (5, .int (nI me)), (6, .int (nI k))]) hx hb dL_law_436 hl (by decide) rfl (fun ls hl => ?_)
        refine lv_iload hx hb dL_law_438 (lv_at hl 0 rfl) ?_
        refine b_if_eq hx hb (nI_toIntI (by omega)) dL_law_440 (tgt := 462) (by decide) (fun c440 => absurd c440 (by omega)) (fun c440 => ?_)
        refine lv_aload_n hx hb dL_law_443 rfl (lv_at hl 5 rfl) ?_
        refine lv_iload hx hb dL_law_444 (lv_at hl 2 rfl) ?_
        refine lv_iconst (v := nI 4) hx hb dL_law_446 (by decide) ?_
        refine lv_ishr hx hb dL_law_447 ?_
        refine lv_aload_n hx hb dL_law_448 rfl (lv_at hl 5 rfl) ?_
        refine lv_iconst (v := nI 2) hx hb dL_law_449 (by decide) ?_
        have hrs : rs_count vw.1 (nI 2) = (0, ((gN v.1 : Nat) : Int)) := ((rs_count2 _).trans (by rw [EG_gN hE]))
        have hFc := freeAll hD hS hA
        refine vx_calli (vx_runV (As := [.int (nI 2)]) (rest := [.int (cv_1 >>> ((nI 4) &&& 31)), .ref (ad 0)]) ⟨hx, hb, hml, hown, hts⟩ (c_X6_count l hlf D K ad q q1 q2 g r r2 vw i9 (nI 2) H.size hI hJ) (cwV 1 hts (TB_V k_m_L_55 k_im_X6_count k_se_X6_count k_in_X6 k_co_X6_count (fun _ h => h)) rfl rfl rfl (by decide +kernel) ⟨Nat.le_of_ble_eq_true rfl, Nat.le_of_ble_eq_true rfl⟩) ⟨cPT_blind, va_recv hK hP (ci := 6) (q0 := 0) rfl rfl, cPT_of hP hK hD hTX hS hFc⟩ rfl rfl hl.1 rfl (lv_room (Nat.le_of_ble_eq_true rfl)) dL_law_450 ⟨(show (((((153255 + k * 40) + 0) + 0) + 0) + 1) + 1 ≤ 611516 by omega), (show (((((920930 + k * 240) + 0) + 0) + 0) + 6) + 6 ≤ 7267151 by omega)⟩) hS (fun q _ h => hFc q h) hFc (fun q _ h => hFc q h) (fun E ce q9 u9 t9 H locs ht9 hal hpx hB hz1 hk1 hS hce hcv hcl => ?_) (fun rz u9 t9 H locs ht9 hal hw hB hz1 hk1 hS => ?_)
        · exact absurd hB.1.1 (by rw [hrs]; exact Nat.lt_irrefl 0)
        obtain ⟨v9, i9⟩ := u9
        obtain ⟨hP1, hK1, hD1⟩ := hB
        rw [ht9] at hP1
        have hP2 := hP1
        have hD2 := hD1.weaken (fun _ _ _ h => hFc _ h)
        obtain ⟨hv9, hJ9, hr9⟩ := hw
        have hv9 : v9 = vw := hv9
        dsimp only at hJ9 hr9
        rw [hv9] at hP2 hD2 hJ9
        dsimp only at hP2 hD2
        have hJ : II vw.1 i9 := hJ9
        have hP : va_P D vwCl (WX K ad q q1 q2 g r r2 vw i9) H := hP2
        have hD : va_D A (WX K ad q q1 q2 g r r2 vw i9) := hD2
        have hz : rz.toInt = ((gN v.1 : Nat) : Int) := (Prod.mk.inj (hr9.symm.trans hrs)).2
        refine t_i ((i32_eq rz (nI (gN v.1))).mpr (by rw [nI_toIntI (by omega)]; exact hz)) ?_
        refine va_calli (va_runS (As := [.int (cv_1 >>> ((nI 4) &&& 31)), .int (nI (gN v.1))]) (rest := [.ref (ad 0)]) ⟨hx, hb, hml, hown, hts⟩ (c_L_up l (cv_1 >>> ((nI 4) &&& 31)) (gN v.1) (by omega) (by omega)) (va_cwS 2 hts (TB_S k_m_L_22 k_st_L_up k_in_L k_co_L_up (fun _ h => h)) rfl rfl rfl (by decide +kernel) ⟨Nat.le_of_ble_eq_true rfl, Nat.le_of_ble_eq_true rfl⟩) ⟨tP_blind, tP_of⟩ rfl rfl hl.1 rfl (lv_room (Nat.le_of_ble_eq_true rfl)) dL_law_453 ⟨(show ((((((153255 + k * 40) + 0) + 0) + 0) + 1) + 1) + 0 ≤ 611516 by omega), (show ((((((920930 + k * 240) + 0) + 0) + 0) + 6) + 6) + 0 ≤ 7267151 by omega)⟩) hS (fun q _ h => absurd h id) (fun q h => absurd h id) (fun ru u9 t9 H locs ht9 hvm hw hB hz1 hk1 hS => ?_)
        have hP := P_same hP hk1
        obtain ⟨up_5, hup_5, eup_5⟩ := hw
        refine t_i eup_5 ?_
        have hrs : rs_gear vw.1 (nI up_5) = (0, ((gF v.1 up_5 : Nat) : Int)) := (rsE_gear hE hup_5)
        have hFc := freeAll hD hS hA
        refine vx_calli (vx_runV (As := [.int (nI up_5)]) (rest := []) ⟨hx, hb, hml, hown, hts⟩ (c_X6_gear l hlf D K ad q q1 q2 g r r2 vw i9 (nI up_5) H.size hI hJ) (cwV 1 hts (TB_V k_m_L_58 k_im_X6_gear k_se_X6_gear k_in_X6 k_co_X6_gear (fun _ h => h)) rfl rfl rfl (by decide +kernel) ⟨Nat.le_of_ble_eq_true rfl, Nat.le_of_ble_eq_true rfl⟩) ⟨cPT_blind, va_recv hK hP (ci := 6) (q0 := 0) rfl rfl, cPT_of hP hK hD hTX hS hFc⟩ rfl rfl hl.1 rfl (lv_room (Nat.le_of_ble_eq_true rfl)) dL_law_456 ⟨(show (((((((153255 + k * 40) + 0) + 0) + 0) + 1) + 1) + 0) + 1 ≤ 611516 by omega), (show (((((((920930 + k * 240) + 0) + 0) + 0) + 6) + 6) + 0) + 6 ≤ 7267151 by omega)⟩) hS (fun q _ h => hFc q h) hFc (fun q _ h => hFc q h) (fun E ce q9 u9 t9 H locs ht9 hal hpx hB hz1 hk1 hS hce hcv hcl => ?_) (fun rz u9 t9 H locs ht9 hal hw hB hz1 hk1 hS => ?_)
        · exact absurd hB.1.1 (by rw [hrs]; exact Nat.lt_irrefl 0)
        obtain ⟨v9, i9⟩ := u9
        obtain ⟨hP1, hK1, hD1⟩ := hB
        rw [ht9] at hP1
        have hP2 := hP1
        have hD2 := hD1.weaken (fun _ _ _ h => hFc _ h)
        obtain ⟨hv9, hJ9, hr9⟩ := hw
        have hv9 : v9 = vw := hv9
        dsimp only at hJ9 hr9
        rw [hv9] at hP2 hD2 hJ9
        dsimp only at hP2 hD2
        have hJ : II vw.1 i9 := hJ9
        have hP : va_P D vwCl (WX K ad q q1 q2 g r r2 vw i9) H := hP2
        have hD : va_D A (WX K ad q q1 q2 g r r2 vw i9) := hD2
        have hz : rz.toInt = ((gF v.1 up_5 : Nat) : Int) := (Prod.mk.inj (hr9.symm.trans hrs)).2
        have hgk64 := (gF_isG hup_5).2
        refine t_i ((i32_eq rz (nI (gF v.1 up_5))).mpr (by rw [nI_toIntI (by omega)]; exact hz)) ?_
        refine lv_goto (tgt := 473) hx hb dL_law_459 (by decide) ?_
        refine lv_istore (lv' := [(10, .int (nI (gF v.1 up_5))), (9, .int (nI 1)), (8, .int (nI x)), (7, .int cv_1), (2, .int (nI (a9 + 1))), (0, .ref b), (1, .ref (ad 0)), (4, .int (nI cl)), (5, .int (nI me)), (6, .int (nI k))]) hx hb dL_law_473 hl (by decide) rfl (fun ls hl => ?_)
        refine W.widen (k := (153255 + k * 40) + 3) (n := (920930 + k * 240) + 18) (by omega) (by omega) ?_
        exact h475 (gF v.1 up_5) _ _ _ _ (gF_lt hup_5) hJ hP hD hS (lv_sub hl [5, 6, 4, 7, 8, 9, 3, 2, 0] rfl)
      intro y i H locs ls hy hJ hP hD hS hl
      have hy64 : y < 64 := by omega
      refine lv_aload_n hx hb dL_law_475 rfl (lv_at hl 1 rfl) ?_
      refine lv_iload hx hb dL_law_476 (lv_at hl 8 rfl) ?_
      have hrs : rs_select vw.1 (nI y) = (0, ((x : Nat) : Int)) := (rsE_select hI0 hE hy)
      have hFc := freeAll hD hS hA
      refine vx_calli (vx_runV (As := [.int (nI y)]) (rest := []) ⟨hx, hb, hml, hown, hts⟩ (c_X6_select l hlf D K ad q q1 q2 g r r2 vw i (nI y) H.size hI hJ) (cwV 1 hts (TB_V k_m_L_61 k_im_X6_select k_se_X6_select k_in_X6 k_co_X6_select (fun _ h => h)) rfl rfl rfl (by decide +kernel) ⟨Nat.le_of_ble_eq_true rfl, Nat.le_of_ble_eq_true rfl⟩) ⟨cPT_blind, va_recv hK hP (ci := 6) (q0 := 0) rfl rfl, cPT_of hP hK hD hTX hS hFc⟩ rfl rfl hl.1 rfl (lv_room (Nat.le_of_ble_eq_true rfl)) dL_law_478 ⟨(show ((153255 + k * 40) + 3) + 1 ≤ 611516 by omega), (show ((920930 + k * 240) + 18) + 6 ≤ 7267151 by omega)⟩) hS (fun q _ h => hFc q h) hFc (fun q _ h => hFc q h) (fun E ce q9 u9 t9 H locs ht9 hal hpx hB hz1 hk1 hS hce hcv hcl => ?_) (fun rz u9 t9 H locs ht9 hal hw hB hz1 hk1 hS => ?_)
      · exact absurd hB.1.1 (by rw [hrs]; exact Nat.lt_irrefl 0)
      obtain ⟨vx1, i9⟩ := u9
      obtain ⟨hP1, hK1, hD1⟩ := hB
      rw [ht9] at hP1
      have hP2 := hP1
      have hD2 := hD1.weaken (fun _ _ _ h => hFc _ h)
      dsimp only at hw
      obtain ⟨⟨z1, hch⟩, hI9, hJ9, hr9⟩ := hw
      have hz : rz.toInt = ((x : Nat) : Int) := (Prod.mk.inj (hr9.symm.trans hrs)).2
      have hE9 : EG v (y) vx1 := EG_chg hI0 hE hy hch
      have hI := hI9
      have hJ := hJ9
      have hE := hE9
      have hP : va_P D vwCl (WX K ad q q1 q2 g r r2 vx1 i9) H := hP2
      have hD : va_D A (WX K ad q q1 q2 g r r2 vx1 i9) := hD2
      refine t_i ((i32_eq rz (nI x)).mpr (by rw [nI_toIntI (by omega)]; exact hz)) ?_
      refine lv_iload hx hb dL_law_481 (lv_at hl 7 rfl) ?_
      refine b_icmp_ne hx hb (nI_toIntI (by omega)) (nI_toIntI (by omega)) dL_law_483 (tgt := 517) (by decide) (fun c483 => absurd c483 (by omega)) (fun c483 => ?_)
      refine lv_aload_n hx hb dL_law_486 rfl (lv_at hl 1 rfl) ?_
      have hFc := freeAll hD hS hA
      refine va_calli (va_runV (As := []) (rest := []) ⟨hx, hb, hml, hown, hts⟩ (c_X6_brakesOnly l D K ad q q1 q2 g r r2 vx1 i9  H.size hI hJ) (cwV 0 hts (TB_V k_m_L_64 k_im_X6_brakesOnly k_se_X6_brakesOnly k_in_X6 k_co_X6_brakesOnly (fun _ h => h)) rfl rfl rfl (by decide +kernel) ⟨Nat.le_of_ble_eq_true rfl, Nat.le_of_ble_eq_true rfl⟩) ⟨cP_blind, va_recv hK hP (ci := 6) (q0 := 0) rfl rfl, cP_of hP hK hD⟩ rfl rfl hl.1 rfl (lv_room (Nat.le_of_ble_eq_true rfl)) dL_law_487 ⟨(show (((153255 + k * 40) + 3) + 1) + 0 ≤ 611516 by omega), (show (((920930 + k * 240) + 18) + 6) + 0 ≤ 7267151 by omega)⟩) hS (fun q _ h => hFc q h) hFc (fun rz u9 t9 H locs ht9 hal hw hB hz1 hk1 hS => ?_)
      obtain ⟨v9, i9⟩ := u9
      obtain ⟨hP1, hK1, hD1⟩ := hB
      rw [ht9] at hP1
      have hP2 := hP1
      have hD2 := hD1.weaken (fun _ _ _ h => hFc _ h)
      obtain ⟨hv9, hJ9, hr9⟩ := hw
      have hv9 : v9 = vx1 := hv9
      dsimp only at hJ9 hr9
      rw [hv9] at hP2 hD2 hJ9
      dsimp only at hP2 hD2
      have hJ : II vx1.1 i9 := hJ9
      have hP : va_P D vwCl (WX K ad q q1 q2 g r r2 vx1 i9) H := hP2
      have hD : va_D A (WX K ad q q1 q2 g r r2 vx1 i9) := hD2
      have hBv := BL_EG hBL hE hI
      obtain ⟨hbk1, hbk0⟩ := brk_iff hI.1 hcl64 hBv.2.2.2.2.1
      rw [(EG_2 hI0 hE).2] at hbk1 hbk0
      suffices h506 : W p l e room_1 s m #[Value.ref b] below meth c H locs ((((153255 + k * 40) + 3) + 1) + 0) ((((920930 + k * 240) + 18) + 6) + 0) (lw_Z below #[Value.ref b] s) (F0 m 506 ls []) by
        by_cases hyc : y &&& cl = 0
        · refine t_i ((i32_eq rz (nI 1)).mpr (by rw [nI_toIntI (by decide), hr9, hbk1 hyc]; rfl)) ?_
          refine lv_iload hx hb dL_law_490 (lv_at hl 8 rfl) ?_
          refine lv_iload hx hb dL_law_492 (lv_at hl 3 rfl) ?_
          refine lv_iand hx hb dL_law_494 ?_
          have hyc64 : y &&& cl < 64 := Nat.lt_of_le_of_lt Nat.and_le_left hy64
          refine t_i (w_and y hy64 cl hcl64) ?_
          refine b_if_ne hx hb (nI_toIntI (by omega)) dL_law_495 (tgt := 502) (by decide) (fun c495 => absurd c495 (by omega)) (fun c495 => ?_)
          refine lv_iconst (v := nI 1) hx hb dL_law_498 (by decide) ?_
          refine lv_goto (tgt := 503) hx hb dL_law_499 (by decide) ?_
          refine b_icmp_ne hx hb (nI_toIntI (by omega)) (nI_toIntI (by omega)) dL_law_503 (tgt := 517) (by decide) (fun c503 => absurd c503 (by omega)) (fun c503 => ?_)
          exact h506
        · refine t_i ((i32_eq rz (nI 0)).mpr (by rw [nI_toIntI (by decide), hr9, hbk0 hyc]; rfl)) ?_
          refine lv_iload hx hb dL_law_490 (lv_at hl 8 rfl) ?_
          refine lv_iload hx hb dL_law_492 (lv_at hl 3 rfl) ?_
          refine lv_iand hx hb dL_law_494 ?_
          have hyc64 : y &&& cl < 64 := Nat.lt_of_le_of_lt Nat.and_le_left hy64
          refine t_i (w_and y hy64 cl hcl64) ?_
          refine b_if_ne hx hb (nI_toIntI (by omega)) dL_law_495 (tgt := 502) (by decide) (fun c495 => ?_) (fun c495 => absurd c495 (by omega))
          refine lv_iconst (v := nI 0) hx hb dL_law_502 (by decide) ?_
          refine b_icmp_ne hx hb (nI_toIntI (by omega)) (nI_toIntI (by omega)) dL_law_503 (tgt := 517) (by decide) (fun c503 => absurd c503 (by omega)) (fun c503 => ?_)
          exact h506
      refine lv_aload_n hx hb dL_law_506 rfl (lv_at hl 1 rfl) ?_
      refine lv_iload hx hb dL_law_507 (lv_at hl 4 rfl) ?_
      refine lv_iload hx hb dL_law_509 (lv_at hl 3 rfl) ?_
      have hFc := freeAll hD hS hA
      refine va_calli (va_runS (As := [.ref (ad 0), .int (nI me), .int (nI cl)]) (rest := []) ⟨hx, hb, hml, hown, hts⟩ (c_L_powers l hlf D K ad q q1 q2 g r r2 vx1 i9 me cl H.size hI hJ hBv.2.1 hcl64 hBv.2.2.2.2.1) (va_cwS 3 hts (TB_S k_m_L_68 k_st_L_powers k_in_L k_co_L_powers (fun _ h => h)) rfl rfl rfl (by decide +kernel) ⟨Nat.le_of_ble_eq_true rfl, Nat.le_of_ble_eq_true rfl⟩) ⟨cPM_blind, cPM_of hP hK hD hTX hCL hS hFc⟩ rfl rfl hl.1 rfl (lv_room (Nat.le_of_ble_eq_true rfl)) dL_law_511 ⟨(show ((((153255 + k * 40) + 3) + 1) + 0) + 29 ≤ 611516 by omega), (show ((((920930 + k * 240) + 18) + 6) + 0) + 174 ≤ 7267151 by omega)⟩) hS (fun q _ h => hFc q h) hFc (fun rz u9 t9 H locs ht9 hal hw hB hz1 hk1 hS => ?_)
      obtain ⟨v9, i9⟩ := u9
      obtain ⟨hP1, hK1, hD1⟩ := hB
      rw [ht9] at hP1
      have hP2 := hP1
      have hD2 := hD1.weaken (fun _ _ _ h => hFc _ h)
      obtain ⟨hz, hv9, hJ9⟩ := hw
      have hv9 : v9 = vx1 := hv9
      dsimp only at hJ9 hz
      rw [hv9] at hP2 hD2 hJ9
      dsimp only at hP2 hD2
      have hJ : II vx1.1 i9 := hJ9
      have hP : va_P D vwCl (WX K ad q q1 q2 g r r2 vx1 i9) H := hP2
      have hD : va_D A (WX K ad q q1 q2 g r r2 vx1 i9) := hD2
      refine t_i hz ?_
      refine b_if_ne hx hb (nI_toIntI (by omega)) dL_law_514 (tgt := 519) (by decide) (fun c514 => ?_) (fun c514 => absurd c514 (by omega))
      refine lv_iload hx hb dL_law_519 (lv_at hl 6 rfl) ?_
      refine lv_bipush (v := nI 12) hx hb dL_law_521 (by decide) ?_
      refine lv_ishr hx hb dL_law_523 ?_
      refine lv_iload hx hb dL_law_524 (lv_at hl 4 rfl) ?_
      refine va_calli (va_runS (As := [.int (cv_1 >>> ((nI 12) &&& 31)), .int (nI me)]) (rest := []) ⟨hx, hb, hml, hown, hts⟩ (c_L_up l (cv_1 >>> ((nI 12) &&& 31)) me (by omega) (by omega)) (va_cwS 2 hts (TB_S k_m_L_22 k_st_L_up k_in_L k_co_L_up (fun _ h => h)) rfl rfl rfl (by decide +kernel) ⟨Nat.le_of_ble_eq_true rfl, Nat.le_of_ble_eq_true rfl⟩) ⟨tP_blind, tP_of⟩ rfl rfl hl.1 rfl (lv_room (Nat.le_of_ble_eq_true rfl)) dL_law_526 ⟨(show (((((153255 + k * 40) + 3) + 1) + 0) + 29) + 0 ≤ 611516 by omega), (show (((((920930 + k * 240) + 18) + 6) + 0) + 174) + 0 ≤ 7267151 by omega)⟩) hS (fun q _ h => absurd h id) (fun q h => absurd h id) (fun ru u9 t9 H locs ht9 hvm hw hB hz1 hk1 hS => ?_)
      have hP := P_same hP hk1
      obtain ⟨up_6, hup_6, eup_6⟩ := hw
      refine t_i eup_6 ?_
      refine lv_istore (lv' := [(11, .int (nI up_6)), (0, .ref b), (1, .ref (ad 0)), (2, .int (nI (a9 + 1))), (4, .int (nI cl)), (5, .int (nI me)), (6, .int (nI k)), (7, .int cv_1), (8, .int (nI x)), (10, .int (nI y))]) hx hb dL_law_529 hl (by decide) rfl (fun ls hl => ?_)
      obtain ⟨e9, he9⟩ : ∃ t, t = up_6 := ⟨_, rfl⟩
      have he9m : e9 < dn v.1 8 1 := by omega
      have he96 : e9 < 6 := by omega
      obtain ⟨hx1, hx2, hx3, hx4, hx5⟩ := w_xor y hy64 e9 he96
      have hx6 := xor_lt (dn v.1 8 1) (by omega) e9 he9m y hy64 hy
      rw [← he9] at hl
      suffices h613 : ∀ (vz : CV) (i : CI) (H : Heap) (locs : List Loc) (ls : Array Slot), IV vz → II vz.1 i → EG v (y ^^^ 2 ^ e9) vz → HT vz y → va_P D vwCl (WX K ad q q1 q2 g r r2 vz i) H → va_D A (WX K ad q q1 q2 g r r2 vz i) → va_S A s.heap H locs → lv_has ls 13 [(0, .ref b), (1, .ref (ad 0)), (2, .int (nI (a9 + 1))), (4, .int (nI cl)), (5, .int (nI me)), (6, .int (nI k)), (10, .int (nI y)), (11, .int (nI e9))] → W p l e room_1 s m #[Value.ref b] below meth c H locs ((153255 + k * 40) + 36) ((920930 + k * 240) + 216) (lw_Z below #[Value.ref b] s) (F0 m 613 ls []) by
        refine lv_iload hx hb dL_law_531 (lv_at hl 9 rfl) ?_
        refine lv_iload hx hb dL_law_533 (lv_at hl 0 rfl) ?_
        refine lv_ishr hx hb dL_law_535 ?_
        refine lv_iconst (v := nI 1) hx hb dL_law_536 (by decide) ?_
        refine lv_iand hx hb dL_law_537 ?_
        by_cases hbe : y.testBit e9 = true
        rotate_left
        · obtain ⟨hn1, hn2, hn3⟩ := hx3 hbe
          refine t_i (w_bit0 hy64 he96 hbe) ?_
          refine lv_iconst (v := nI 1) hx hb dL_law_538 (by decide) ?_
          refine b_icmp_ne hx hb (nI_toIntI (by omega)) (nI_toIntI (by omega)) dL_law_539 (tgt := 546) (by decide) (fun c539 => ?_) (fun c539 => absurd c539 (by omega))
          refine lv_iconst (v := nI 0) hx hb dL_law_546 (by decide) ?_
          refine lv_istore (lv' := [(12, .int (nI 0)), (11, .int (nI e9)), (0, .ref b), (1, .ref (ad 0)), (2, .int (nI (a9 + 1))), (4, .int (nI cl)), (5, .int (nI me)), (6, .int (nI k)), (7, .int cv_1), (8, .int (nI x)), (10, .int (nI y))]) hx hb dL_law_547 hl (by decide) rfl (fun ls hl => ?_)
          refine lv_iload hx hb dL_law_549 (lv_at hl 0 rfl) ?_
          refine b_if_eq hx hb (nI_toIntI (by omega)) dL_law_551 (tgt := 584) (by decide) (fun c551 => ?_) (fun c551 => absurd c551 (by omega))
          refine lv_aload_n hx hb dL_law_584 rfl (lv_at hl 3 rfl) ?_
          refine lv_iload hx hb dL_law_585 (lv_at hl 1 rfl) ?_
          have hrs : rs_release vx1.1 (nI e9) = (0, 0) := (rsE_release0 hI0 hE he9m hn2)
          have hFc := freeAll hD hS hA
          refine vx_calli (vx_runV (As := [.int (nI e9)]) (rest := []) ⟨hx, hb, hml, hown, hts⟩ (c_X6_release l hlf D K ad q q1 q2 g r r2 vx1 i9 (nI e9) H.size hI hJ) (cwV 1 hts (TB_V k_m_L_76 k_im_X6_release k_se_X6_release k_in_X6 k_co_X6_release (fun _ h => h)) rfl rfl rfl (by decide +kernel) ⟨Nat.le_of_ble_eq_true rfl, Nat.le_of_ble_eq_true rfl⟩) ⟨cPT_blind, va_recv hK hP (ci := 6) (q0 := 0) rfl rfl, cPT_of hP hK hD hTX hS hFc⟩ rfl rfl hl.1 rfl (lv_room (Nat.le_of_ble_eq_true rfl)) dL_law_587 ⟨(show ((((((153255 + k * 40) + 3) + 1) + 0) + 29) + 0) + 1 ≤ 611516 by omega), (show ((((((920930 + k * 240) + 18) + 6) + 0) + 174) + 0) + 6 ≤ 7267151 by omega)⟩) hS (fun q _ h => hFc q h) hFc (fun q _ h => hFc q h) (fun E ce q9 u9 t9 H locs ht9 hal hpx hB hz1 hk1 hS hce hcv hcl => ?_) (fun rz u9 t9 H locs ht9 hal hw hB hz1 hk1 hS => ?_)
          · exact absurd hB.1.1 (by rw [hrs]; exact Nat.lt_irrefl 0)
          obtain ⟨vx2, i9⟩ := u9
          obtain ⟨hP1, hK1, hD1⟩ := hB
          rw [ht9] at hP1
          have hP2 := hP1
          have hD2 := hD1.weaken (fun _ _ _ h => hFc _ h)
          dsimp only at hw
          obtain ⟨hch, hI9, hJ9, hr9⟩ := hw
          have hz : rz.toInt = 0 := (Prod.mk.inj (hr9.symm.trans hrs)).2
          rw [nI_tt (by omega), (EG_2 hI0 hE).2] at hch
          rw [hn2] at hch
          have hE9 : EG v (y) vx2 := EG_chg hI0 hE hy hch
          have hI := hI9
          have hJ := hJ9
          have hE := hE9
          have hP : va_P D vwCl (WX K ad q q1 q2 g r r2 vx2 i9) H := hP2
          have hD : va_D A (WX K ad q q1 q2 g r r2 vx2 i9) := hD2
          refine t_i ((i32_eq rz (nI 0)).mpr (by rw [nI_toIntI (by decide)]; exact hz)) ?_
          refine b_if_ne hx hb (nI_toIntI (by omega)) dL_law_590 (tgt := 611) (by decide) (fun c590 => absurd c590 (by omega)) (fun c590 => ?_)
          refine lv_aload_n hx hb dL_law_593 rfl (lv_at hl 3 rfl) ?_
          refine lv_iload hx hb dL_law_594 (lv_at hl 1 rfl) ?_
          have hrs : rs_engage vx2.1 (nI e9) = (0, 1) := (rsE_engage hI0 hE he9m (by rw [hn1]; exact hx4))
          have hFc := freeAll hD hS hA
          refine vx_calli (vx_runV (As := [.int (nI e9)]) (rest := []) ⟨hx, hb, hml, hown, hts⟩ (c_X6_engage l hlf D K ad q q1 q2 g r r2 vx2 i9 (nI e9) H.size hI hJ) (cwV 1 hts (TB_V k_m_L_72 k_im_X6_engage k_se_X6_engage k_in_X6 k_co_X6_engage (fun _ h => h)) rfl rfl rfl (by decide +kernel) ⟨Nat.le_of_ble_eq_true rfl, Nat.le_of_ble_eq_true rfl⟩) ⟨cPT_blind, va_recv hK hP (ci := 6) (q0 := 0) rfl rfl, cPT_of hP hK hD hTX hS hFc⟩ rfl rfl hl.1 rfl (lv_room (Nat.le_of_ble_eq_true rfl)) dL_law_596 ⟨(show (((((((153255 + k * 40) + 3) + 1) + 0) + 29) + 0) + 1) + 1 ≤ 611516 by omega), (show (((((((920930 + k * 240) + 18) + 6) + 0) + 174) + 0) + 6) + 6 ≤ 7267151 by omega)⟩) hS (fun q _ h => hFc q h) hFc (fun q _ h => hFc q h) (fun E ce q9 u9 t9 H locs ht9 hal hpx hB hz1 hk1 hS hce hcv hcl => ?_) (fun rz u9 t9 H locs ht9 hal hw hB hz1 hk1 hS => ?_)
          · exact absurd hB.1.1 (by rw [hrs]; exact Nat.lt_irrefl 0)
          obtain ⟨vx3, i9⟩ := u9
          obtain ⟨hP1, hK1, hD1⟩ := hB
          rw [ht9] at hP1
          have hP2 := hP1
          have hD2 := hD1.weaken (fun _ _ _ h => hFc _ h)
          dsimp only at hw
          obtain ⟨hch, hI9, hJ9, hr9⟩ := hw
          have hz : rz.toInt = 1 := (Prod.mk.inj (hr9.symm.trans hrs)).2
          rw [nI_tt (by omega), (EG_2 hI0 hE).2] at hch
          rw [hn1] at hch
          have hHT : HT vx3 y := HT_chg hI0 hE hx5 hx4 hch
          have hE9 : EG v (y ^^^ 2 ^ e9) vx3 := EG_chg hI0 hE hx6 hch
          have hI := hI9
          have hJ := hJ9
          have hE := hE9
          have hP : va_P D vwCl (WX K ad q q1 q2 g r r2 vx3 i9) H := hP2
          have hD : va_D A (WX K ad q q1 q2 g r r2 vx3 i9) := hD2
          refine t_i ((i32_eq rz (nI 1)).mpr (by rw [nI_toIntI (by decide)]; exact hz)) ?_
          refine b_if_eq hx hb (nI_toIntI (by omega)) dL_law_599 (tgt := 611) (by decide) (fun c599 => absurd c599 (by omega)) (fun c599 => ?_)
          refine lv_aload_n hx hb dL_law_602 rfl (lv_at hl 3 rfl) ?_
          refine lv_iload hx hb dL_law_603 (lv_at hl 1 rfl) ?_
          have hrs : rs_engage vx3.1 (nI e9) = (0, 0) := (rsE_engage0 hI0 hE he9m hn3)
          have hFc := freeAll hD hS hA
          refine vx_calli (vx_runV (As := [.int (nI e9)]) (rest := []) ⟨hx, hb, hml, hown, hts⟩ (c_X6_engage l hlf D K ad q q1 q2 g r r2 vx3 i9 (nI e9) H.size hI hJ) (cwV 1 hts (TB_V k_m_L_72 k_im_X6_engage k_se_X6_engage k_in_X6 k_co_X6_engage (fun _ h => h)) rfl rfl rfl (by decide +kernel) ⟨Nat.le_of_ble_eq_true rfl, Nat.le_of_ble_eq_true rfl⟩) ⟨cPT_blind, va_recv hK hP (ci := 6) (q0 := 0) rfl rfl, cPT_of hP hK hD hTX hS hFc⟩ rfl rfl hl.1 rfl (lv_room (Nat.le_of_ble_eq_true rfl)) dL_law_605 ⟨(show ((((((((153255 + k * 40) + 3) + 1) + 0) + 29) + 0) + 1) + 1) + 1 ≤ 611516 by omega), (show ((((((((920930 + k * 240) + 18) + 6) + 0) + 174) + 0) + 6) + 6) + 6 ≤ 7267151 by omega)⟩) hS (fun q _ h => hFc q h) hFc (fun q _ h => hFc q h) (fun E ce q9 u9 t9 H locs ht9 hal hpx hB hz1 hk1 hS hce hcv hcl => ?_) (fun rz u9 t9 H locs ht9 hal hw hB hz1 hk1 hS => ?_)
          · exact absurd hB.1.1 (by rw [hrs]; exact Nat.lt_irrefl 0)
          obtain ⟨vx4, i9⟩ := u9
          obtain ⟨hP1, hK1, hD1⟩ := hB
          rw [ht9] at hP1
          have hP2 := hP1
          have hD2 := hD1.weaken (fun _ _ _ h => hFc _ h)
          dsimp only at hw
          obtain ⟨hch, hI9, hJ9, hr9⟩ := hw
          have hz : rz.toInt = 0 := (Prod.mk.inj (hr9.symm.trans hrs)).2
          rw [nI_tt (by omega), (EG_2 hI0 hE).2] at hch
          rw [hn3] at hch
          have hHT : HT vx4 y := HT_same hI0 hE hch hHT
          have hE9 : EG v (y ^^^ 2 ^ e9) vx4 := EG_chg hI0 hE hx6 hch
          have hI := hI9
          have hJ := hJ9
          have hE := hE9
          have hP : va_P D vwCl (WX K ad q q1 q2 g r r2 vx4 i9) H := hP2
          have hD : va_D A (WX K ad q q1 q2 g r r2 vx4 i9) := hD2
          refine t_i ((i32_eq rz (nI 0)).mpr (by rw [nI_toIntI (by decide)]; exact hz)) ?_
          refine b_if_eq hx hb (nI_toIntI (by omega)) dL_law_608 (tgt := 613) (by decide) (fun c608 => ?_) (fun c608 => absurd c608 (by omega))
          refine W.widen (k := (153255 + k * 40) + 36) (n := (920930 + k * 240) + 216) (by omega) (by omega) ?_
          exact h613 _ _ _ _ _ hI hJ hE hHT hP hD hS (lv_sub hl [2, 3, 4, 5, 6, 7, 10, 1] rfl)
        obtain ⟨hn1, hn2, hn3⟩ := hx2 hbe
        refine t_i (w_bit1 hy64 he96 hbe) ?_
        refine lv_iconst (v := nI 1) hx hb dL_law_538 (by decide) ?_
        refine b_icmp_ne hx hb (nI_toIntI (by omega)) (nI_toIntI (by omega)) dL_law_539 (tgt := 546) (by decide) (fun c539 => absurd c539 (by omega)) (fun c539 => ?_)
        refine lv_iconst (v := nI 1) hx hb dL_law_542 (by decide) ?_
        refine lv_goto (tgt := 547) hx hb dL_law_543 (by decide) ?_
        refine lv_istore (lv' := [(12, .int (nI 1)), (11, .int (nI e9)), (0, .ref b), (1, .ref (ad 0)), (2, .int (nI (a9 + 1))), (4, .int (nI cl)), (5, .int (nI me)), (6, .int (nI k)), (7, .int cv_1), (8, .int (nI x)), (10, .int (nI y))]) hx hb dL_law_547 hl (by decide) rfl (fun ls hl => ?_)
        refine lv_iload hx hb dL_law_549 (lv_at hl 0 rfl) ?_
        refine b_if_eq hx hb (nI_toIntI (by omega)) dL_law_551 (tgt := 584) (by decide) (fun c551 => absurd c551 (by omega)) (fun c551 => ?_)
        refine lv_aload_n hx hb dL_law_554 rfl (lv_at hl 3 rfl) ?_
        refine lv_iload hx hb dL_law_555 (lv_at hl 1 rfl) ?_
        have hrs : rs_engage vx1.1 (nI e9) = (0, 0) := (rsE_engage0 hI0 hE he9m hn2)
        have hFc := freeAll hD hS hA
        refine vx_calli (vx_runV (As := [.int (nI e9)]) (rest := []) ⟨hx, hb, hml, hown, hts⟩ (c_X6_engage l hlf D K ad q q1 q2 g r r2 vx1 i9 (nI e9) H.size hI hJ) (cwV 1 hts (TB_V k_m_L_72 k_im_X6_engage k_se_X6_engage k_in_X6 k_co_X6_engage (fun _ h => h)) rfl rfl rfl (by decide +kernel) ⟨Nat.le_of_ble_eq_true rfl, Nat.le_of_ble_eq_true rfl⟩) ⟨cPT_blind, va_recv hK hP (ci := 6) (q0 := 0) rfl rfl, cPT_of hP hK hD hTX hS hFc⟩ rfl rfl hl.1 rfl (lv_room (Nat.le_of_ble_eq_true rfl)) dL_law_557 ⟨(show ((((((153255 + k * 40) + 3) + 1) + 0) + 29) + 0) + 1 ≤ 611516 by omega), (show ((((((920930 + k * 240) + 18) + 6) + 0) + 174) + 0) + 6 ≤ 7267151 by omega)⟩) hS (fun q _ h => hFc q h) hFc (fun q _ h => hFc q h) (fun E ce q9 u9 t9 H locs ht9 hal hpx hB hz1 hk1 hS hce hcv hcl => ?_) (fun rz u9 t9 H locs ht9 hal hw hB hz1 hk1 hS => ?_)
        · exact absurd hB.1.1 (by rw [hrs]; exact Nat.lt_irrefl 0)
        obtain ⟨vx5, i9⟩ := u9
        obtain ⟨hP1, hK1, hD1⟩ := hB
        rw [ht9] at hP1
        have hP2 := hP1
        have hD2 := hD1.weaken (fun _ _ _ h => hFc _ h)
        dsimp only at hw
        obtain ⟨hch, hI9, hJ9, hr9⟩ := hw
        have hz : rz.toInt = 0 := (Prod.mk.inj (hr9.symm.trans hrs)).2
        rw [nI_tt (by omega), (EG_2 hI0 hE).2] at hch
        rw [hn2] at hch
        have hE9 : EG v (y) vx5 := EG_chg hI0 hE hy hch
        have hI := hI9
        have hJ := hJ9
        have hE := hE9
        have hP : va_P D vwCl (WX K ad q q1 q2 g r r2 vx5 i9) H := hP2
        have hD : va_D A (WX K ad q q1 q2 g r r2 vx5 i9) := hD2
        refine t_i ((i32_eq rz (nI 0)).mpr (by rw [nI_toIntI (by decide)]; exact hz)) ?_
        refine b_if_ne hx hb (nI_toIntI (by omega)) dL_law_560 (tgt := 611) (by decide) (fun c560 => absurd c560 (by omega)) (fun c560 => ?_)
        refine lv_aload_n hx hb dL_law_563 rfl (lv_at hl 3 rfl) ?_
        refine lv_iload hx hb dL_law_564 (lv_at hl 1 rfl) ?_
        have hrs : rs_release vx5.1 (nI e9) = (0, 1) := (rsE_release1 hI0 hE he9m (by rw [hn1]; exact hx4))
        have hFc := freeAll hD hS hA
        refine vx_calli (vx_runV (As := [.int (nI e9)]) (rest := []) ⟨hx, hb, hml, hown, hts⟩ (c_X6_release l hlf D K ad q q1 q2 g r r2 vx5 i9 (nI e9) H.size hI hJ) (cwV 1 hts (TB_V k_m_L_76 k_im_X6_release k_se_X6_release k_in_X6 k_co_X6_release (fun _ h => h)) rfl rfl rfl (by decide +kernel) ⟨Nat.le_of_ble_eq_true rfl, Nat.le_of_ble_eq_true rfl⟩) ⟨cPT_blind, va_recv hK hP (ci := 6) (q0 := 0) rfl rfl, cPT_of hP hK hD hTX hS hFc⟩ rfl rfl hl.1 rfl (lv_room (Nat.le_of_ble_eq_true rfl)) dL_law_566 ⟨(show (((((((153255 + k * 40) + 3) + 1) + 0) + 29) + 0) + 1) + 1 ≤ 611516 by omega), (show (((((((920930 + k * 240) + 18) + 6) + 0) + 174) + 0) + 6) + 6 ≤ 7267151 by omega)⟩) hS (fun q _ h => hFc q h) hFc (fun q _ h => hFc q h) (fun E ce q9 u9 t9 H locs ht9 hal hpx hB hz1 hk1 hS hce hcv hcl => ?_) (fun rz u9 t9 H locs ht9 hal hw hB hz1 hk1 hS => ?_)
        · exact absurd hB.1.1 (by rw [hrs]; exact Nat.lt_irrefl 0)
        obtain ⟨vx6, i9⟩ := u9
        obtain ⟨hP1, hK1, hD1⟩ := hB
        rw [ht9] at hP1
        have hP2 := hP1
        have hD2 := hD1.weaken (fun _ _ _ h => hFc _ h)
        dsimp only at hw
        obtain ⟨hch, hI9, hJ9, hr9⟩ := hw
        have hz : rz.toInt = 1 := (Prod.mk.inj (hr9.symm.trans hrs)).2
        rw [nI_tt (by omega), (EG_2 hI0 hE).2] at hch
        rw [hn1] at hch
        have hHT : HT vx6 y := HT_chg hI0 hE hx5 hx4 hch
        have hE9 : EG v (y ^^^ 2 ^ e9) vx6 := EG_chg hI0 hE hx6 hch
        have hI := hI9
        have hJ := hJ9
        have hE := hE9
        have hP : va_P D vwCl (WX K ad q q1 q2 g r r2 vx6 i9) H := hP2
        have hD : va_D A (WX K ad q q1 q2 g r r2 vx6 i9) := hD2
        refine t_i ((i32_eq rz (nI 1)).mpr (by rw [nI_toIntI (by decide)]; exact hz)) ?_
        refine b_if_eq hx hb (nI_toIntI (by omega)) dL_law_569 (tgt := 611) (by decide) (fun c569 => absurd c569 (by omega)) (fun c569 => ?_)
        refine lv_aload_n hx hb dL_law_572 rfl (lv_at hl 3 rfl) ?_
        refine lv_iload hx hb dL_law_573 (lv_at hl 1 rfl) ?_
        have hrs : rs_release vx6.1 (nI e9) = (0, 0) := (rsE_release0 hI0 hE he9m hn3)
        have hFc := freeAll hD hS hA
        refine vx_calli (vx_runV (As := [.int (nI e9)]) (rest := []) ⟨hx, hb, hml, hown, hts⟩ (c_X6_release l hlf D K ad q q1 q2 g r r2 vx6 i9 (nI e9) H.size hI hJ) (cwV 1 hts (TB_V k_m_L_76 k_im_X6_release k_se_X6_release k_in_X6 k_co_X6_release (fun _ h => h)) rfl rfl rfl (by decide +kernel) ⟨Nat.le_of_ble_eq_true rfl, Nat.le_of_ble_eq_true rfl⟩) ⟨cPT_blind, va_recv hK hP (ci := 6) (q0 := 0) rfl rfl, cPT_of hP hK hD hTX hS hFc⟩ rfl rfl hl.1 rfl (lv_room (Nat.le_of_ble_eq_true rfl)) dL_law_575 ⟨(show ((((((((153255 + k * 40) + 3) + 1) + 0) + 29) + 0) + 1) + 1) + 1 ≤ 611516 by omega), (show ((((((((920930 + k * 240) + 18) + 6) + 0) + 174) + 0) + 6) + 6) + 6 ≤ 7267151 by omega)⟩) hS (fun q _ h => hFc q h) hFc (fun q _ h => hFc q h) (fun E ce q9 u9 t9 H locs ht9 hal hpx hB hz1 hk1 hS hce hcv hcl => ?_) (fun rz u9 t9 H locs ht9 hal hw hB hz1 hk1 hS => ?_)
        · exact absurd hB.1.1 (by rw [hrs]; exact Nat.lt_irrefl 0)
        obtain ⟨vx7, i9⟩ := u9
        obtain ⟨hP1, hK1, hD1⟩ := hB
        rw [ht9] at hP1
        have hP2 := hP1
        have hD2 := hD1.weaken (fun _ _ _ h => hFc _ h)
        dsimp only at hw
        obtain ⟨hch, hI9, hJ9, hr9⟩ := hw
        have hz : rz.toInt = 0 := (Prod.mk.inj (hr9.symm.trans hrs)).2
        rw [nI_tt (by omega), (EG_2 hI0 hE).2] at hch
        rw [hn3] at hch
        have hHT : HT vx7 y := HT_same hI0 hE hch hHT
        have hE9 : EG v (y ^^^ 2 ^ e9) vx7 := EG_chg hI0 hE hx6 hch
        have hI := hI9
        have hJ := hJ9
        have hE := hE9
        have hP : va_P D vwCl (WX K ad q q1 q2 g r r2 vx7 i9) H := hP2
        have hD : va_D A (WX K ad q q1 q2 g r r2 vx7 i9) := hD2
        refine t_i ((i32_eq rz (nI 0)).mpr (by rw [nI_toIntI (by decide)]; exact hz)) ?_
        refine b_if_eq hx hb (nI_toIntI (by omega)) dL_law_578 (tgt := 613) (by decide) (fun c578 => ?_) (fun c578 => absurd c578 (by omega))
        refine W.widen (k := (153255 + k * 40) + 36) (n := (920930 + k * 240) + 216) (by omega) (by omega) ?_
        exact h613 _ _ _ _ _ hI hJ hE hHT hP hD hS (lv_sub hl [2, 3, 4, 5, 6, 7, 10, 1] rfl)
      intro vz i H locs ls hI hJ hE hHT hP hD hS hl
      refine lv_aload_n hx hb dL_law_613 rfl (lv_at hl 1 rfl) ?_
      have hFc := freeAll hD hS hA
      refine va_calli (va_runV (As := []) (rest := []) ⟨hx, hb, hml, hown, hts⟩ (c_X6_engaged l D K ad q q1 q2 g r r2 vz i  H.size hI hJ) (cwV 0 hts (TB_V k_m_L_51 k_im_X6_engaged k_se_X6_engaged k_in_X6 k_co_X6_engaged (fun _ h => h)) rfl rfl rfl (by decide +kernel) ⟨Nat.le_of_ble_eq_true rfl, Nat.le_of_ble_eq_true rfl⟩) ⟨cP_blind, va_recv hK hP (ci := 6) (q0 := 0) rfl rfl, cP_of hP hK hD⟩ rfl rfl hl.1 rfl (lv_room (Nat.le_of_ble_eq_true rfl)) dL_law_614 ⟨(show ((153255 + k * 40) + 36) + 0 ≤ 611516 by omega), (show ((920930 + k * 240) + 216) + 0 ≤ 7267151 by omega)⟩) hS (fun q _ h => hFc q h) hFc (fun rz u9 t9 H locs ht9 hal hw hB hz1 hk1 hS => ?_)
      obtain ⟨v9, i9⟩ := u9
      obtain ⟨hP1, hK1, hD1⟩ := hB
      rw [ht9] at hP1
      have hP2 := hP1
      have hD2 := hD1.weaken (fun _ _ _ h => hFc _ h)
      obtain ⟨hv9, hJ9, hr9⟩ := hw
      have hv9 : v9 = vz := hv9
      dsimp only at hJ9 hr9
      rw [hv9] at hP2 hD2 hJ9
      dsimp only at hP2 hD2
      have hJ : II vz.1 i9 := hJ9
      have hP : va_P D vwCl (WX K ad q q1 q2 g r r2 vz i9) H := hP2
      have hD : va_D A (WX K ad q q1 q2 g r r2 vz i9) := hD2
      refine t_i (hr9.trans (EG_2 hI0 hE).1) ?_
      refine lv_iload hx hb dL_law_617 (lv_at hl 6 rfl) ?_
      refine lv_iconst (v := nI 1) hx hb dL_law_619 (by decide) ?_
      refine lv_iload hx hb dL_law_620 (lv_at hl 7 rfl) ?_
      refine lv_ishl hx hb dL_law_622 ?_
      refine lv_ixor hx hb dL_law_623 ?_
      refine t_i hx1 ?_
      refine b_icmp_ne hx hb (nI_toIntI (by omega)) (nI_toIntI (by omega)) dL_law_624 (tgt := 643) (by decide) (fun c624 => absurd c624 (by omega)) (fun c624 => ?_)
      refine lv_aload_n hx hb dL_law_627 rfl (lv_at hl 1 rfl) ?_
      have hFc := freeAll hD hS hA
      refine va_calli (va_runV (As := []) (rest := []) ⟨hx, hb, hml, hown, hts⟩ (c_X6_undo l D K ad q q1 q2 g r r2 vz i9  H.size hI hJ) (cwV 0 hts (TB_V k_m_L_79 k_im_X6_undo k_se_X6_undo k_in_X6 k_co_X6_undo (fun _ h => h)) rfl rfl rfl (by decide +kernel) ⟨Nat.le_of_ble_eq_true rfl, Nat.le_of_ble_eq_true rfl⟩) ⟨cP_blind, va_recv hK hP (ci := 6) (q0 := 0) rfl rfl, cP_of hP hK hD⟩ rfl rfl hl.1 rfl (lv_room (Nat.le_of_ble_eq_true rfl)) dL_law_628 ⟨(show (((153255 + k * 40) + 36) + 0) + 0 ≤ 611516 by omega), (show (((920930 + k * 240) + 216) + 0) + 0 ≤ 7267151 by omega)⟩) hS (fun q _ h => hFc q h) hFc (fun rz u9 t9 H locs ht9 hal hw hB hz1 hk1 hS => ?_)
      obtain ⟨vx8, i9⟩ := u9
      obtain ⟨hP1, hK1, hD1⟩ := hB
      rw [ht9] at hP1
      have hP2 := hP1
      have hD2 := hD1.weaken (fun _ _ _ h => hFc _ h)
      dsimp only at hw
      obtain ⟨hI9, hJ9, hh9⟩ := hw
      rcases hh9 with ⟨hz, -⟩ | ⟨-, hz, hv9⟩
      · exact absurd hHT.1 (by omega)
      have hE9 := EG_undo hI0 hE hy hHT hv9
      have hI := hI9
      have hJ := hJ9
      have hE := hE9
      have hP : va_P D vwCl (WX K ad q q1 q2 g r r2 vx8 i9) H := hP2
      have hD : va_D A (WX K ad q q1 q2 g r r2 vx8 i9) := hD2
      refine t_i hz ?_
      refine b_if_eq hx hb (nI_toIntI (by omega)) dL_law_631 (tgt := 643) (by decide) (fun c631 => absurd c631 (by omega)) (fun c631 => ?_)
      refine lv_aload_n hx hb dL_law_634 rfl (lv_at hl 1 rfl) ?_
      have hFc := freeAll hD hS hA
      refine va_calli (va_runV (As := []) (rest := []) ⟨hx, hb, hml, hown, hts⟩ (c_X6_engaged l D K ad q q1 q2 g r r2 vx8 i9  H.size hI hJ) (cwV 0 hts (TB_V k_m_L_51 k_im_X6_engaged k_se_X6_engaged k_in_X6 k_co_X6_engaged (fun _ h => h)) rfl rfl rfl (by decide +kernel) ⟨Nat.le_of_ble_eq_true rfl, Nat.le_of_ble_eq_true rfl⟩) ⟨cP_blind, va_recv hK hP (ci := 6) (q0 := 0) rfl rfl, cP_of hP hK hD⟩ rfl rfl hl.1 rfl (lv_room (Nat.le_of_ble_eq_true rfl)) dL_law_635 ⟨(show ((((153255 + k * 40) + 36) + 0) + 0) + 0 ≤ 611516 by omega), (show ((((920930 + k * 240) + 216) + 0) + 0) + 0 ≤ 7267151 by omega)⟩) hS (fun q _ h => hFc q h) hFc (fun rz u9 t9 H locs ht9 hal hw hB hz1 hk1 hS => ?_)
      obtain ⟨v9, i9⟩ := u9
      obtain ⟨hP1, hK1, hD1⟩ := hB
      rw [ht9] at hP1
      have hP2 := hP1
      have hD2 := hD1.weaken (fun _ _ _ h => hFc _ h)
      obtain ⟨hv9, hJ9, hr9⟩ := hw
      have hv9 : v9 = vx8 := hv9
      dsimp only at hJ9 hr9
      rw [hv9] at hP2 hD2 hJ9
      dsimp only at hP2 hD2
      have hJ : II vx8.1 i9 := hJ9
      have hP : va_P D vwCl (WX K ad q q1 q2 g r r2 vx8 i9) H := hP2
      have hD : va_D A (WX K ad q q1 q2 g r r2 vx8 i9) := hD2
      refine t_i (hr9.trans (EG_2 hI0 hE).1) ?_
      refine lv_iload hx hb dL_law_638 (lv_at hl 6 rfl) ?_
      refine b_icmp_eq hx hb (nI_toIntI (by omega)) (nI_toIntI (by omega)) dL_law_640 (tgt := 645) (by decide) (fun c640 => ?_) (fun c640 => absurd c640 (by omega))
      refine lv_iinc (v := nI (k + 1)) (lv' := [(6, .int (nI (k + 1))), (0, .ref b), (1, .ref (ad 0)), (2, .int (nI (a9 + 1))), (4, .int (nI cl)), (5, .int (nI me)), (10, .int (nI y)), (11, .int (nI e9))]) hx hb dL_law_645 hl (k := 5) rfl (nI_add k 1) (by decide) rfl (fun ls hl => ?_)
      refine lv_goto (tgt := 391) hx hb dL_law_648 (by decide) ?_
      refine W.widen (k := 153255 + (k + 1) * 40) (n := 920930 + (k + 1) * 240) (by omega) (by omega) ?_
      exact ih391 vx8 i9 (k + 1) (a9 + 1) y _ _ _ (by omega) hI hJ hE (by omega) (by omega) hP hD hS (lv_sub hl [1, 2, 3, 4, 5, 0] rfl)
  exact L391 _ vw i 0 a9 x _ _ _ (Nat.lt_succ_self _) hI hJ hE (Nat.zero_le _) (by omega) hP hD hS (lv_sub hl [1, 2, 3, 4, 5, 0] rfl)
