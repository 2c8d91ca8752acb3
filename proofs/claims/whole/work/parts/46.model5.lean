/-! PlanetaryGearboxModel: laySpeeds -/
theorem i64n {s : Nat} (h : s < 2147483648) : (nI s).toInt64.toInt = (s : Int) := by rw [Int32.toInt_toInt64, nI_toIntI h]
theorem i64m {s r : Nat} (hs : s ≤ 100) (hr : r ≤ 100) : (-(nI s) - nI r).toInt64.toInt = -((s : Int) + r) := by
  rw [Int32.toInt_toInt64, Int32.toInt_sub, Int32.toInt_neg, nI_toIntI (by omega), nI_toIntI (by omega)]
  rw [Int.bmod_eq_of_le (n := -(s : Int)) (by omega) (by omega), Int.bmod_eq_of_le (by omega) (by omega)]
  omega
theorem lay_0 {d : Nat → Nat → Int32} {n g : Nat} {u : Nat → Nat → Int64} (h : ∀ i j, i < 11 → j < 11 → u i j = 0) : ∀ i j, i < 11 → j < 11 → (setM (setM u 0 0 1) 0 10 1 i j).toInt = mS d n 0 0 g i j := fun i j hi hj => by
  rw [setM_apply, setM_apply, h i j hi hj]
  unfold mS
  by_cases z : i = 0
  · subst z
    rw [if_pos rfl]
    by_cases z2 : j = 10
    · subst z2; decide
    · rw [if_neg (fun q => z2 q.2)]
      by_cases z3 : j = 0
      · subst z3; decide
      · rw [if_neg (fun q => z3 q.2), if_neg z3, if_neg z2]; decide
  · rw [if_neg (fun q => z q.1), if_neg (fun q => z q.1), if_neg z]
    split
    · rw [if_neg (by omega)]; decide
    · rw [if_neg (by omega)]; decide
theorem lay_set {d : Nat → Nat → Int32} {n k g a b c s r : Nat} {M2 : Nat → Nat → Int64} (hk : k < n) (h1 : a < 6 ∧ b < 6 ∧ c < 6) (h2 : a ≠ b ∧ a ≠ c ∧ b ≠ c) (h3 : 10 ≤ s ∧ s ≤ 40 ∧ s < r ∧ r ≤ 100) (e0 : d 0 k = nI a) (e1 : d 1 k = nI b) (e2 : d 2 k = nI c) (e3 : d 3 k = nI s) (e4 : d 4 k = nI r) (hz : ∀ i j, i < 11 → j < 11 → (M2 i j).toInt = mS d n k 0 g i j) :
    ∀ i j, i < 11 → j < 11 → (setM (setM (setM M2 (1 + k) a (nI s).toInt64) (1 + k) b (nI r).toInt64) (1 + k) c (-(nI s) - nI r).toInt64 i j).toInt = mS d n (k + 1) 0 g i j := fun i j hi hj => by
  rw [setM_apply, setM_apply, setM_apply]
  by_cases z : i = 1 + k
  · subst z
    have hm : mS d n (k + 1) 0 g (1 + k) j = setc d k j := by
      unfold mS
      rw [if_neg (by omega), if_pos (by omega), if_pos (by omega), show 1 + k - 1 = k by omega]
    rw [hm]
    unfold setc
    rw [dn_of e0 (by omega), dn_of e1 (by omega), dn_of e2 (by omega), dn_of e3 (by omega), dn_of e4 (by omega)]
    by_cases q1 : j = c
    · rw [if_pos ⟨rfl, q1⟩, i64m (by omega) (by omega), if_neg (by omega), if_neg (by omega), if_pos q1]; omega
    · rw [if_neg (fun q => q1 q.2)]
      by_cases q2 : j = b
      · rw [if_pos ⟨rfl, q2⟩, i64n (by omega), if_neg (by omega), if_pos q2, if_neg q1]; omega
      · rw [if_neg (fun q => q2 q.2)]
        by_cases q3 : j = a
        · rw [if_pos ⟨rfl, q3⟩, i64n (by omega), if_pos q3, if_neg q2, if_neg q1]; omega
        · rw [if_neg (fun q => q3 q.2), hz _ j hi hj, if_neg q3, if_neg q2, if_neg q1]
          unfold mS
          rw [if_neg (by omega), if_pos (by omega), if_neg (by omega)]; rfl
  · rw [if_neg (fun q => z q.1), if_neg (fun q => z q.1), if_neg (fun q => z q.1), hz i j hi hj]
    unfold mS
    by_cases q0 : i = 0
    · rw [if_pos q0, if_pos q0]
    · rw [if_neg q0, if_neg q0]
      by_cases q1 : i < 1 + n
      · rw [if_pos q1, if_pos q1]
        by_cases q2 : i - 1 < k
        · rw [if_pos q2, if_pos (by omega)]
        · rw [if_neg q2, if_neg (by omega)]
      · rw [if_neg q1, if_neg q1]
theorem lay_skip {d : Nat → Nat → Int32} {n e g : Nat} {M2 : Nat → Nat → Int64} (ht : ¬ g.testBit e = true) (hz : ∀ i j, i < 11 → j < 11 → (M2 i j).toInt = mS d n n e g i j) : ∀ i j, i < 11 → j < 11 → (M2 i j).toInt = mS d n n (e + 1) g i j := fun i j hi hj => by
  rw [hz i j hi hj]
  unfold mS
  by_cases q0 : i = 0
  · rw [if_pos q0, if_pos q0]
  · rw [if_neg q0, if_neg q0]
    by_cases q1 : i < 1 + n
    · rw [if_pos q1, if_pos q1]
    · rw [if_neg q1, if_neg q1]
      by_cases q2 : i - 1 - n < e ∧ g.testBit (i - 1 - n) = true
      · rw [if_pos q2, if_pos ⟨by omega, q2.2⟩]
      · rw [if_neg q2, if_neg (fun z => q2 ⟨by
          by_cases q3 : i - 1 - n = e
          · rw [q3] at z; exact absurd z.2 ht
          · omega, z.2⟩)]
/-- the row of an element, however it is laid -/
theorem lay_el {d : Nat → Nat → Int32} {n e g : Nat} {M2 M3 : Nat → Nat → Int64} (ht : g.testBit e = true) (hz : ∀ i j, i < 11 → j < 11 → (M2 i j).toInt = mS d n n e g i j) (ho : ∀ i, i ≠ 1 + n + e → M3 i = M2 i) (hr : ∀ j, j < 11 → (M2 (1 + n + e) j).toInt = 0 → (M3 (1 + n + e) j).toInt = elc d e j) : ∀ i j, i < 11 → j < 11 → (M3 i j).toInt = mS d n n (e + 1) g i j := fun i j hi hj => by
  by_cases z : i = 1 + n + e
  · subst z
    have h0 : (M2 (1 + n + e) j).toInt = 0 := by
      rw [hz _ j hi hj]
      unfold mS
      rw [if_neg (by omega), if_neg (by omega), if_neg (by omega)]
    rw [hr j hj h0]
    unfold mS
    rw [if_neg (by omega), if_neg (by omega), show 1 + n + e - 1 - n = e by omega, if_pos ⟨by omega, ht⟩]
  · rw [ho i z, hz i j hi hj]
    unfold mS
    by_cases q0 : i = 0
    · rw [if_pos q0, if_pos q0]
    · rw [if_neg q0, if_neg q0]
      by_cases q1 : i < 1 + n
      · rw [if_pos q1, if_pos q1]
      · rw [if_neg q1, if_neg q1]
        by_cases q2 : i - 1 - n < e ∧ g.testBit (i - 1 - n) = true
        · rw [if_pos q2, if_pos ⟨by omega, q2.2⟩]
        · rw [if_neg q2, if_neg (fun w => q2 ⟨by omega, w.2⟩)]
theorem elc_one {d : Nat → Nat → Int32} {e a j : Nat} {x : Int64} (e5 : d 5 e = nI a) (e6 : d 6 e = -1) (ha : a < 6) (h : x.toInt = 0) : (if j = a then (1 : Int64) else x).toInt = elc d e j := by
  unfold elc
  rw [dn_of e5 (by omega), if_neg (c := 0 ≤ (d 6 e).toInt ∧ j = dn d 6 e) (fun z => by rw [e6] at z; exact absurd z.1 (by decide))]
  by_cases q : j = a
  · rw [if_pos q, if_pos q]; decide
  · rw [if_neg q, if_neg q, h]; rfl
theorem elc_two {d : Nat → Nat → Int32} {e a b j : Nat} {x : Int64} (e5 : d 5 e = nI a) (e6 : d 6 e = nI b) (ha : a < 6) (hb : b < 6) (hab : b ≠ a) (h : x.toInt = 0) : (if j = b then (-1 : Int64) else if j = a then (1 : Int64) else x).toInt = elc d e j := by
  unfold elc
  rw [dn_of e5 (by omega), dn_of e6 (by omega), e6, nI_toIntI (by omega)]
  by_cases q : j = b
  · rw [if_pos q, if_neg (by omega), if_pos ⟨by omega, q⟩]; decide
  · rw [if_neg q, if_neg (c := 0 ≤ (b : Int) ∧ j = b) (fun z => q z.2)]
    by_cases q2 : j = a
    · rw [if_pos q2, if_pos q2]; decide
    · rw [if_neg q2, if_neg q2, h]; rfl
theorem mS_far {d : Nat → Nat → Int32} {n m g i j : Nat} (hs : ∀ k, k < n → SetV d k) (he : ∀ e, e < m → ElV d e) (h1 : ¬ j < 11) : mS d n n m g i j = 0 := by
  unfold mS
  by_cases z : i = 0
  · rw [if_pos z, if_neg (by omega), if_neg (by omega)]
  · rw [if_neg z]
    by_cases z2 : i < 1 + n
    · rw [if_pos z2, if_pos (by omega)]
      exact setc_out (hs _ (by omega)) (by omega)
    · rw [if_neg z2]
      by_cases z3 : i - 1 - n < m ∧ g.testBit (i - 1 - n) = true
      · rw [if_pos z3]; exact elc_out (he _ z3.1) (by omega)
      · rw [if_neg z3]
set_option maxHeartbeats 4000000 in
set_option maxRecDepth 100000 in
theorem c_X7_laySpeeds (l : Launch) (D : va_G) (K : Nat → ClassId) (mm : Nat → Nat) (ta : Nat → Int32) (sl : Nat → Int32) (ss : Nat → Int32) (be : Nat → Int32) (ch : Int32) (th : Int32) (M : Nat → Nat → Int64) (rq : Int32) (cq : Int32) (pv : Nat → Int32) (so : Int32) (st : Nat → Int32) (gs : Int32) (gm : Nat → Int32) (gu : Nat → Int64) (gl : Nat → Int64) (aw : Nat → Int32) (d : Nat → Nat → Int32) (g : Nat) (sz : Nat) (hd : DV d) (hat : AtD ta d) (hg : g < 2147483648) : Met l yX7_laySpeeds (.code yX7_laySpeeds cX7_laySpeeds 5 none :: TB) ({ frames := 4, cells := 0, slots := 0, locals := 105 } : Room) (va_Pc [.ref (mm 0), .int (nI g)] (cP D K (WM K mm ta sl ss be ch th M rq cq pv so st gs gm gu gl aw) sz)) (va_Qv (fun (u : ((Nat → Nat → Int64) × (Nat → Int32) × Int32) × Int32) => ∃ nr, nr ≤ 10 ∧ u.2 = nI nr ∧ SolvedM (SP d g) nr 6 u.1.1 u.1.2.1 u.1.2.2) (fun (u : ((Nat → Nat → Int64) × (Nat → Int32) × Int32) × Int32) t => cB D K (va_A (WM K mm ta sl ss be ch th M rq cq pv so st gs gm gu gl aw) sz) (WM K mm ta sl ss be ch th u.1.1 u.2 (nI 6) u.1.2.1 u.1.2.2 st gs gm gu gl aw) t) (va_A (WM K mm ta sl ss be ch th M rq cq pv so st gs gm gu gl aw) sz)) 0 0 (va_A (WM K mm ta sl ss be ch th M rq cq pv so st gs gm gu gl aw) sz) := by
  refine Met.ofW (cc := cX7_laySpeeds) (maxL := 5) (ret := none) (by decide) rfl ?_
  intro p e s m args below meth c s₁ B hml hv
  obtain ⟨rfl, hsz, hP, hK, hD0⟩ := hv
  have hx := B.exec
  have hb := B.bytes
  have hr := B.returns
  have hts := hts_tl (atoms_spec (ws := (.code yX7_laySpeeds cX7_laySpeeds 5 none :: TB)) B.pre)
  have hown : s.vm.findClass RX7 = some m.cls := findClass_of_methodNamed B.named
  have hlocks := B.notSynchronized
  subst hsz
  have hD := hD0.self (sz := s.heap.size)
  generalize hAe : (va_A (WM K mm ta sl ss be ch th M rq cq pv so st gs gm gu gl aw) s.heap.size) = A at hD ⊢
  have hA : ∀ q : Nat, s.heap.size ≤ q → A q := fun q h => by rw [← hAe]; exact Or.inr h
  have hS : va_S A s.heap s.heap [] := va_S.rf
  have hl := lv_entry ([.ref (mm 0), .int (nI g)]) (n := 5) (Nat.le_of_ble_eq_true rfl)
  rw [lg_entry_eq]
  generalize (lg_sl ([.ref (mm 0), .int (nI g)]) ++ List.replicate (5 - (lg_sl ([.ref (mm 0), .int (nI g)])).length) Slot.unset).toArray = ls at hl ⊢
  have hl : lv_has ls 5 [(0, .ref (mm 0)), (1, .int (nI g))] := hl
  obtain ⟨n, m1, ge, hn, hm, hge, h0, h1, h2, hs9, he9⟩ := id hd
  obtain ⟨ha1, ha2, ha33, ha34, ha35⟩ := id hat
  have hp6 : 2 ^ m1 ≤ 64 := Nat.pow_le_pow_right (show 0 < 2 by decide) hm
  have h33 := ha33.trans h0
  have h34 := ha34.trans h1
  have h35 := ha35.trans h2
  have hn1 : dn d 8 0 = n := dn_of h0 (by omega)
  have hm1 : dn d 8 1 = m1 := dn_of h1 (by omega)
  have hg1 : dn d 8 2 = ge := dn_of h2 (by omega)
  refine lv_aload_n hx hb dX7_laySpeeds_0 rfl (lv_at hl 0 rfl) ?_
  refine lv_iconst (v := nI 1) hx hb dX7_laySpeeds_1 (by decide) ?_
  refine lv_aload_n hx hb dX7_laySpeeds_2 rfl (lv_at hl 0 rfl) ?_
  refine va_get (D := D) (ci := 7) (C := RX7) (T := TX7) (N := 17) hx hb hts iX7 hown hK hP 0 rfl rfl 0 (by decide) (hts _ k_f_X7_7) (fun _ h9 => h9) rfl dX7_laySpeeds_3 ?_
  refine lv_bipush (v := nI 33) hx hb dX7_laySpeeds_6 (by decide) ?_
  refine n_iald hx hb hK hP 1 0 rfl rfl (i := 33) (n := 36) (by omega) (by decide) dX7_laySpeeds_8 ?_
  refine t_i (show _ = nI n from h33) ?_
  refine lv_iadd hx hb dX7_laySpeeds_9 ?_
  refine t_i (nI_add _ _) ?_
  refine lv_aload_n hx hb dX7_laySpeeds_10 rfl (lv_at hl 0 rfl) ?_
  refine va_get (D := D) (ci := 7) (C := RX7) (T := TX7) (N := 17) hx hb hts iX7 hown hK hP 0 rfl rfl 0 (by decide) (hts _ k_f_X7_7) (fun _ h9 => h9) rfl dX7_laySpeeds_11 ?_
  refine lv_bipush (v := nI 34) hx hb dX7_laySpeeds_14 (by decide) ?_
  refine n_iald hx hb hK hP 1 0 rfl rfl (i := 34) (n := 36) (by omega) (by decide) dX7_laySpeeds_16 ?_
  refine t_i (show _ = nI m1 from h34) ?_
  refine lv_iadd hx hb dX7_laySpeeds_17 ?_
  refine t_i (nI_add _ _) ?_
  refine lv_bipush (v := nI 6) hx hb dX7_laySpeeds_18 (by decide) ?_
  have hFc := freeAll hD hS hA
  refine va_callv (va_runV (As := [.int (nI (1 + n + m1)), .int (nI 6)]) (rest := []) ⟨hx, hb, hml, hown, hts⟩ (c_X7_clearRows l D K mm ta sl ss be ch th M rq cq pv so st gs gm gu gl aw (nI (1 + n + m1)) (nI 6) s.heap.size ) (cwV 2 hts (TB_V k_m_X7_109 k_im_X7_clearRows k_se_X7_clearRows k_in_X7 k_co_X7_clearRows (fun _ h => h)) rfl rfl rfl (by decide +kernel) ⟨Nat.le_of_ble_eq_true rfl, Nat.le_of_ble_eq_true rfl⟩) ⟨cP_blind, va_recv hK hP (ci := 7) (q0 := 0) rfl rfl, cP_of hP hK hD⟩ rfl rfl hl.1 rfl (lv_room (Nat.le_of_ble_eq_true rfl)) dX7_laySpeeds_20 ⟨Nat.le_of_ble_eq_true rfl, Nat.le_of_ble_eq_true rfl⟩) hS (fun q _ h => hFc q h) hFc (fun u0 t9 H locs ht9 hvm hw hB hz1 hk1 hS => ?_)
  obtain ⟨hP, hK1, hD1⟩ := hB
  rw [ht9] at hP
  have hD := hD1.weaken (fun _ _ _ h => hFc _ h)
  have hP : va_P D vwCl (WM K mm ta sl ss be ch th u0 (nI (1 + n + m1)) (nI 6) pv so st gs gm gu gl aw) H := hP
  have hD : va_D A (WM K mm ta sl ss be ch th u0 (nI (1 + n + m1)) (nI 6) pv so st gs gm gu gl aw) := hD
  have hu0 := hw
  refine lv_aload_n hx hb dX7_laySpeeds_23 rfl (lv_at hl 0 rfl) ?_
  refine va_get (D := D) (ci := 7) (C := RX7) (T := TX7) (N := 17) hx hb hts iX7 hown hK hP 0 rfl rfl 6 (by decide) (hts _ k_f_X7_23) (fun _ h9 => h9) rfl dX7_laySpeeds_24 ?_
  refine lv_iconst (v := nI 0) hx hb dX7_laySpeeds_27 (by decide) ?_
  refine lv_lconst (v := 1) hx hb dX7_laySpeeds_28 (by decide) ?_
  refine n_last hx hb hK hP hD hS 5 1 rfl rfl (i := 0) (n := 121) (by omega) (by decide) dX7_laySpeeds_29 (fun H locs hP hD hS => ?_)
  have hcs : vp_updL (cL u0) 0 (1 : Int64) = cL (setM u0 0 0 (1 : Int64)) := cL_set (by omega) (by omega)
  have hP : va_P D vwCl (WM K mm ta sl ss be ch th (setM u0 0 0 (1 : Int64)) (nI (1 + n + m1)) (nI 6) pv so st gs gm gu gl aw) H := by unfold WM; rw [← hcs]; exact hP
  have hD : va_D A (WM K mm ta sl ss be ch th (setM u0 0 0 (1 : Int64)) (nI (1 + n + m1)) (nI 6) pv so st gs gm gu gl aw) := by unfold WM; rw [← hcs]; exact hD
  have hP : va_P D vwCl (WM K mm ta sl ss be ch th (setM u0 0 0 (1 : Int64)) (nI (1 + n + m1)) (nI 6) pv so st gs gm gu gl aw) H := hP
  have hD : va_D A (WM K mm ta sl ss be ch th (setM u0 0 0 (1 : Int64)) (nI (1 + n + m1)) (nI 6) pv so st gs gm gu gl aw) := hD
  refine lv_aload_n hx hb dX7_laySpeeds_30 rfl (lv_at hl 0 rfl) ?_
  refine va_get (D := D) (ci := 7) (C := RX7) (T := TX7) (N := 17) hx hb hts iX7 hown hK hP 0 rfl rfl 6 (by decide) (hts _ k_f_X7_23) (fun _ h9 => h9) rfl dX7_laySpeeds_31 ?_
  refine lv_bipush (v := nI 10) hx hb dX7_laySpeeds_34 (by decide) ?_
  refine lv_lconst (v := 1) hx hb dX7_laySpeeds_36 (by decide) ?_
  refine n_last hx hb hK hP hD hS 5 1 rfl rfl (i := 10) (n := 121) (by omega) (by decide) dX7_laySpeeds_37 (fun H locs hP hD hS => ?_)
  have hcs : vp_updL (cL (setM u0 0 0 (1 : Int64))) 10 (1 : Int64) = cL (setM (setM u0 0 0 (1 : Int64)) 0 10 (1 : Int64)) := cL_set (by omega) (by omega)
  have hP : va_P D vwCl (WM K mm ta sl ss be ch th (setM (setM u0 0 0 (1 : Int64)) 0 10 (1 : Int64)) (nI (1 + n + m1)) (nI 6) pv so st gs gm gu gl aw) H := by unfold WM; rw [← hcs]; exact hP
  have hD : va_D A (WM K mm ta sl ss be ch th (setM (setM u0 0 0 (1 : Int64)) 0 10 (1 : Int64)) (nI (1 + n + m1)) (nI 6) pv so st gs gm gu gl aw) := by unfold WM; rw [← hcs]; exact hD
  have hP : va_P D vwCl (WM K mm ta sl ss be ch th (setM (setM u0 0 0 (1 : Int64)) 0 10 (1 : Int64)) (nI (1 + n + m1)) (nI 6) pv so st gs gm gu gl aw) H := hP
  have hD : va_D A (WM K mm ta sl ss be ch th (setM (setM u0 0 0 (1 : Int64)) 0 10 (1 : Int64)) (nI (1 + n + m1)) (nI 6) pv so st gs gm gu gl aw) := hD
  refine lv_iconst (v := nI 0) hx hb dX7_laySpeeds_38 (by decide) ?_
  refine lv_istore_n (lv' := [(2, .int (nI 0)), (0, .ref (mm 0)), (1, .int (nI g))]) hx hb dX7_laySpeeds_39 rfl hl (by decide) rfl (fun ls hl => ?_)
  have L40 : ∀ (fuel : Nat) (k : Nat) (M2 : Nat → Nat → Int64) (H : Heap) (locs : List Loc) (ls : Array Slot), 10 - k < fuel → (k ≤ n) → (∀ i j, i < 11 → j < 11 → (M2 i j).toInt = mS d n k 0 g i j) → va_P D vwCl (WM K mm ta sl ss be ch th M2 (nI (1 + n + m1)) (nI 6) pv so st gs gm gu gl aw) H → va_D A (WM K mm ta sl ss be ch th M2 (nI (1 + n + m1)) (nI 6) pv so st gs gm gu gl aw) → va_S A s.heap H locs → lv_has ls 5 [(2, .int (nI k)), (0, .ref (mm 0)), (1, .int (nI g))] → W p l e ({ frames := 4, cells := 0, slots := 0, locals := 105 } : Room) s m [.ref (mm 0), .int (nI g)].toArray below meth c H locs 0 0 (MQ below (va_Qv (fun (u : ((Nat → Nat → Int64) × (Nat → Int32) × Int32) × Int32) => ∃ nr, nr ≤ 10 ∧ u.2 = nI nr ∧ SolvedM (SP d g) nr 6 u.1.1 u.1.2.1 u.1.2.2) (fun (u : ((Nat → Nat → Int64) × (Nat → Int32) × Int32) × Int32) t => cB D K A (WM K mm ta sl ss be ch th u.1.1 u.2 (nI 6) u.1.2.1 u.1.2.2 st gs gm gu gl aw) t) A) [.ref (mm 0), .int (nI g)].toArray s 0 0 A) (F0 m 40 ls []) := by
    intro fuel
    induction fuel with
    | zero =>
      intro k M2 H locs ls hfu
      exact absurd hfu (Nat.not_lt_zero _)
    | succ fuel ih40 =>
      intro k M2 H locs ls hfu hk hz hP hD hS hl
      refine lv_iload_n hx hb dX7_laySpeeds_40 rfl (lv_at hl 0 rfl) ?_
      refine lv_aload_n hx hb dX7_laySpeeds_41 rfl (lv_at hl 1 rfl) ?_
      refine va_get (D := D) (ci := 7) (C := RX7) (T := TX7) (N := 17) hx hb hts iX7 hown hK hP 0 rfl rfl 0 (by decide) (hts _ k_f_X7_7) (fun _ h9 => h9) rfl dX7_laySpeeds_42 ?_
      refine lv_bipush (v := nI 33) hx hb dX7_laySpeeds_45 (by decide) ?_
      refine n_iald hx hb hK hP 1 0 rfl rfl (i := 33) (n := 36) (by omega) (by decide) dX7_laySpeeds_47 ?_
      refine t_i (show _ = nI n from h33) ?_
      refine b_icmp_ge hx hb (nI_toIntI (by omega)) (nI_toIntI (by omega)) dX7_laySpeeds_48 (tgt := 154) (by decide) (fun c48 => ?_) (fun c48 => ?_)
      · refine lv_iconst (v := nI 0) hx hb dX7_laySpeeds_154 (by decide) ?_
        refine lv_istore_n (lv' := [(2, .int (nI 0)), (0, .ref (mm 0)), (1, .int (nI g))]) hx hb dX7_laySpeeds_155 rfl hl (by decide) rfl (fun ls hl => ?_)
        rw [show k = n by omega] at hz
        have L156 : ∀ (fuel : Nat) (k : Nat) (M2 : Nat → Nat → Int64) (H : Heap) (locs : List Loc) (ls : Array Slot), 10 - k < fuel → (k ≤ m1) → (∀ i j, i < 11 → j < 11 → (M2 i j).toInt = mS d n n k g i j) → va_P D vwCl (WM K mm ta sl ss be ch th M2 (nI (1 + n + m1)) (nI 6) pv so st gs gm gu gl aw) H → va_D A (WM K mm ta sl ss be ch th M2 (nI (1 + n + m1)) (nI 6) pv so st gs gm gu gl aw) → va_S A s.heap H locs → lv_has ls 5 [(2, .int (nI k)), (0, .ref (mm 0)), (1, .int (nI g))] → W p l e ({ frames := 4, cells := 0, slots := 0, locals := 105 } : Room) s m [.ref (mm 0), .int (nI g)].toArray below meth c H locs 0 0 (MQ below (va_Qv (fun (u : ((Nat → Nat → Int64) × (Nat → Int32) × Int32) × Int32) => ∃ nr, nr ≤ 10 ∧ u.2 = nI nr ∧ SolvedM (SP d g) nr 6 u.1.1 u.1.2.1 u.1.2.2) (fun (u : ((Nat → Nat → Int64) × (Nat → Int32) × Int32) × Int32) t => cB D K A (WM K mm ta sl ss be ch th u.1.1 u.2 (nI 6) u.1.2.1 u.1.2.2 st gs gm gu gl aw) t) A) [.ref (mm 0), .int (nI g)].toArray s 0 0 A) (F0 m 156 ls []) := by
          intro fuel
          induction fuel with
          | zero =>
            intro k M2 H locs ls hfu
            exact absurd hfu (Nat.not_lt_zero _)
          | succ fuel ih156 =>
            intro k M2 H locs ls hfu hk hz hP hD hS hl
            refine lv_iload_n hx hb dX7_laySpeeds_156 rfl (lv_at hl 0 rfl) ?_
            refine lv_aload_n hx hb dX7_laySpeeds_157 rfl (lv_at hl 1 rfl) ?_
            refine va_get (D := D) (ci := 7) (C := RX7) (T := TX7) (N := 17) hx hb hts iX7 hown hK hP 0 rfl rfl 0 (by decide) (hts _ k_f_X7_7) (fun _ h9 => h9) rfl dX7_laySpeeds_158 ?_
            refine lv_bipush (v := nI 34) hx hb dX7_laySpeeds_161 (by decide) ?_
            refine n_iald hx hb hK hP 1 0 rfl rfl (i := 34) (n := 36) (by omega) (by decide) dX7_laySpeeds_163 ?_
            refine t_i (show _ = nI m1 from h34) ?_
            refine b_icmp_ge hx hb (nI_toIntI (by omega)) (nI_toIntI (by omega)) dX7_laySpeeds_164 (tgt := 245) (by decide) (fun c164 => ?_) (fun c164 => ?_)
            · refine lv_aload_n hx hb dX7_laySpeeds_245 rfl (lv_at hl 1 rfl) ?_
              have hMe : ∀ i, i < 1 + n + m1 → tI M2 i = mS d n n m1 g i := fun i hi => by
                funext j
                by_cases q : j < 11
                · rw [tI_at q, hz i j (by omega) q, show k = m1 by omega]
                · rw [tI_out q]; exact (mS_far hs9 he9 q).symm
              have hFc := freeAll hD hS hA
              refine va_callv (va_runV (As := []) (rest := []) ⟨hx, hb, hml, hown, hts⟩ (c_X7_solve l D K mm ta sl ss be ch th M2 (nI (1 + n + m1)) (nI 6) pv so st gs gm gu gl aw (1 + n + m1) 6 H.size (by omega) (by decide) rfl rfl (mS_MB hn hm hn1 hm1 hMe (MB_spM hd g 10)) (fun i j hi hj => by rw [hMe i hi, mS_phi hn hn1 hm1]; exact spM_ent hd g _ j) (fun i hi j z1 z2 => by rw [hMe i hi]; exact mS_out hs9 he9 z1 z2)) (cwV 0 hts (TB_V k_m_X7_114 k_im_X7_solve k_se_X7_solve k_in_X7 k_co_X7_solve (fun _ h => h)) rfl rfl rfl (by decide +kernel) ⟨Nat.le_of_ble_eq_true rfl, Nat.le_of_ble_eq_true rfl⟩) ⟨cP_blind, va_recv hK hP (ci := 7) (q0 := 0) rfl rfl, cP_of hP hK hD⟩ rfl rfl hl.1 rfl (lv_room (Nat.le_of_ble_eq_true rfl)) dX7_laySpeeds_246 ⟨Nat.le_of_ble_eq_true rfl, Nat.le_of_ble_eq_true rfl⟩) hS (fun q _ h => hFc q h) hFc (fun u5 t9 H locs ht9 hvm hw hB hz1 hk1 hS => ?_)
              obtain ⟨hP, hK1, hD1⟩ := hB
              rw [ht9] at hP
              have hD := hD1.weaken (fun _ _ _ h => hFc _ h)
              have hP : va_P D vwCl (WM K mm ta sl ss be ch th u5.1 (nI (1 + n + m1)) (nI 6) u5.2.1 u5.2.2 st gs gm gu gl aw) H := hP
              have hD : va_D A (WM K mm ta sl ss be ch th u5.1 (nI (1 + n + m1)) (nI 6) u5.2.1 u5.2.2 st gs gm gu gl aw) := hD
              rw [mS_HS hn hm hn1 hm1 hMe] at hw
              exact W.vret hx hb hr (fun t9 ht9 hW => ⟨⟨(u5, nI (1 + n + m1)), rfl, ⟨1 + n + m1, by omega, rfl, hw⟩, by rw [ht9]; exact hP, va_K.moved hW.alike hK, hD⟩, hS.F ht9⟩) hS.2.2 dX7_laySpeeds_249
            refine lv_bipush (v := nI 11) hx hb dX7_laySpeeds_167 (by decide) ?_
            refine lv_iconst (v := nI 1) hx hb dX7_laySpeeds_169 (by decide) ?_
            refine lv_aload_n hx hb dX7_laySpeeds_170 rfl (lv_at hl 1 rfl) ?_
            refine va_get (D := D) (ci := 7) (C := RX7) (T := TX7) (N := 17) hx hb hts iX7 hown hK hP 0 rfl rfl 0 (by decide) (hts _ k_f_X7_7) (fun _ h9 => h9) rfl dX7_laySpeeds_171 ?_
            refine lv_bipush (v := nI 33) hx hb dX7_laySpeeds_174 (by decide) ?_
            refine n_iald hx hb hK hP 1 0 rfl rfl (i := 33) (n := 36) (by omega) (by decide) dX7_laySpeeds_176 ?_
            refine t_i (show _ = nI n from h33) ?_
            refine lv_iadd hx hb dX7_laySpeeds_177 ?_
            refine t_i (nI_add _ _) ?_
            refine lv_iload_n hx hb dX7_laySpeeds_178 rfl (lv_at hl 0 rfl) ?_
            refine lv_iadd hx hb dX7_laySpeeds_179 ?_
            refine t_i (nI_add _ _) ?_
            refine lv_imul hx hb dX7_laySpeeds_180 ?_
            refine t_i (pk_mul _ _) ?_
            refine lv_istore_n (lv' := [(3, .int (nI (11 * (1 + n + k)))), (2, .int (nI k)), (0, .ref (mm 0)), (1, .int (nI g))]) hx hb dX7_laySpeeds_181 rfl hl (by decide) rfl (fun ls hl => ?_)
            refine lv_iload_n hx hb dX7_laySpeeds_182 rfl (lv_at hl 3 rfl) ?_
            refine lv_iload_n hx hb dX7_laySpeeds_183 rfl (lv_at hl 1 rfl) ?_
            refine va_calli (va_runS (As := [.int (nI g), .int (nI k)]) (rest := []) ⟨hx, hb, hml, hown, hts⟩ (c_X7_has l k g (by omega) hg) (va_cwS 2 hts (TB_S k_m_X7_73 k_st_X7_has k_in_X7 k_co_X7_has (fun _ h => h)) rfl rfl rfl (by decide +kernel) ⟨Nat.le_of_ble_eq_true rfl, Nat.le_of_ble_eq_true rfl⟩) ⟨tP_blind, tP_of⟩ rfl rfl hl.1 rfl (lv_room (Nat.le_of_ble_eq_true rfl)) dX7_laySpeeds_184 ⟨Nat.le_of_ble_eq_true rfl, Nat.le_of_ble_eq_true rfl⟩) hS (fun q _ h => absurd h id) (fun q h => absurd h id) (fun hz9 u9 t9 H locs ht9 hvm hw hB hz1 hk1 hS => ?_)
            have hP := P_same hP hk1
            by_cases htb : g.testBit k = true
            rotate_left
            · refine t_i (hw.trans (bI_f htb).symm) ?_
              refine b_if_eq hx hb (nI_toIntI (by omega)) dX7_laySpeeds_187 (tgt := 239) (by decide) (fun c187 => ?_) (fun c187 => absurd c187 (by omega))
              refine lv_iinc (v := nI (k + 1)) (lv' := [(2, .int (nI (k + 1))), (3, .int (nI (11 * (1 + n + k)))), (0, .ref (mm 0)), (1, .int (nI g))]) hx hb dX7_laySpeeds_239 hl (k := 1) rfl (nI_add k 1) (by decide) rfl (fun ls hl => ?_)
              refine lv_goto (tgt := 156) hx hb dX7_laySpeeds_242 (by decide) ?_
              exact ih156 (k + 1) M2 _ _ _ (by omega) (by omega) (lay_skip htb hz) hP hD hS (lv_sub hl [0, 2, 3] rfl)
            refine t_i (hw.trans (bI_t htb).symm) ?_
            refine b_if_eq hx hb (nI_toIntI (by omega)) dX7_laySpeeds_187 (tgt := 239) (by decide) (fun c187 => absurd c187 (by omega)) (fun c187 => ?_)
            obtain ⟨f9, c9, hf9, q5, q6, -, -, -⟩ := he9 k (by omega)
            have ht5 : ta (15 + k) = nI f9 := (ha2 k (by omega)).1.trans q5
            have ht6 : ta (21 + k) = d 6 k := (ha2 k (by omega)).2.1
            refine lv_aload_n hx hb dX7_laySpeeds_190 rfl (lv_at hl 2 rfl) ?_
            refine va_get (D := D) (ci := 7) (C := RX7) (T := TX7) (N := 17) hx hb hts iX7 hown hK hP 0 rfl rfl 6 (by decide) (hts _ k_f_X7_23) (fun _ h9 => h9) rfl dX7_laySpeeds_191 ?_
            refine lv_iload_n hx hb dX7_laySpeeds_194 rfl (lv_at hl 0 rfl) ?_
            refine lv_aload_n hx hb dX7_laySpeeds_195 rfl (lv_at hl 2 rfl) ?_
            refine va_get (D := D) (ci := 7) (C := RX7) (T := TX7) (N := 17) hx hb hts iX7 hown hK hP 0 rfl rfl 0 (by decide) (hts _ k_f_X7_7) (fun _ h9 => h9) rfl dX7_laySpeeds_196 ?_
            refine lv_bipush (v := nI 15) hx hb dX7_laySpeeds_199 (by decide) ?_
            refine lv_iload_n hx hb dX7_laySpeeds_201 rfl (lv_at hl 1 rfl) ?_
            refine lv_iadd hx hb dX7_laySpeeds_202 ?_
            refine t_i (nI_add _ _) ?_
            refine n_iald hx hb hK hP 1 0 rfl rfl (i := 15 + k) (n := 36) (by omega) (by decide) dX7_laySpeeds_203 ?_
            refine t_i (show _ = nI f9 from ht5) ?_
            refine lv_iadd hx hb dX7_laySpeeds_204 ?_
            refine t_i (nI_add _ _) ?_
            refine lv_lconst (v := 1) hx hb dX7_laySpeeds_205 (by decide) ?_
            refine n_last hx hb hK hP hD hS 5 1 rfl rfl (i := 11 * (1 + n + k) + f9) (n := 121) (by omega) (by decide) dX7_laySpeeds_206 (fun H locs hP hD hS => ?_)
            have hcs : vp_updL (cL M2) (11 * (1 + n + k) + f9) (1 : Int64) = cL (setM M2 (1 + n + k) f9 (1 : Int64)) := cL_set (by omega) (by omega)
            have hP : va_P D vwCl (WM K mm ta sl ss be ch th (setM M2 (1 + n + k) f9 (1 : Int64)) (nI (1 + n + m1)) (nI 6) pv so st gs gm gu gl aw) H := by unfold WM; rw [← hcs]; exact hP
            have hD : va_D A (WM K mm ta sl ss be ch th (setM M2 (1 + n + k) f9 (1 : Int64)) (nI (1 + n + m1)) (nI 6) pv so st gs gm gu gl aw) := by unfold WM; rw [← hcs]; exact hD
            have hP : va_P D vwCl (WM K mm ta sl ss be ch th (setM M2 (1 + n + k) f9 (1 : Int64)) (nI (1 + n + m1)) (nI 6) pv so st gs gm gu gl aw) H := hP
            have hD : va_D A (WM K mm ta sl ss be ch th (setM M2 (1 + n + k) f9 (1 : Int64)) (nI (1 + n + m1)) (nI 6) pv so st gs gm gu gl aw) := hD
            refine lv_aload_n hx hb dX7_laySpeeds_207 rfl (lv_at hl 2 rfl) ?_
            refine va_get (D := D) (ci := 7) (C := RX7) (T := TX7) (N := 17) hx hb hts iX7 hown hK hP 0 rfl rfl 0 (by decide) (hts _ k_f_X7_7) (fun _ h9 => h9) rfl dX7_laySpeeds_208 ?_
            refine lv_bipush (v := nI 21) hx hb dX7_laySpeeds_211 (by decide) ?_
            refine lv_iload_n hx hb dX7_laySpeeds_213 rfl (lv_at hl 1 rfl) ?_
            refine lv_iadd hx hb dX7_laySpeeds_214 ?_
            refine t_i (nI_add _ _) ?_
            refine n_iald hx hb hK hP 1 0 rfl rfl (i := 21 + k) (n := 36) (by omega) (by decide) dX7_laySpeeds_215 ?_
            refine lv_iconst (v := (-1)) hx hb dX7_laySpeeds_216 (by decide) ?_
            refine b_icmp_eq hx hb rfl (show (-1 : Int32).toInt = -1 by decide) dX7_laySpeeds_217 (tgt := 239) (by decide) (fun c217 => ?_) (fun c217 => ?_)
            · refine lv_iinc (v := nI (k + 1)) (lv' := [(2, .int (nI (k + 1))), (3, .int (nI (11 * (1 + n + k)))), (0, .ref (mm 0)), (1, .int (nI g))]) hx hb dX7_laySpeeds_239 hl (k := 1) rfl (nI_add k 1) (by decide) rfl (fun ls hl => ?_)
              refine lv_goto (tgt := 156) hx hb dX7_laySpeeds_242 (by decide) ?_
              have q7 : d 6 k = -1 := by rw [← ht6]; exact (i32_eq _ _).mpr (by rw [show (-1 : Int32).toInt = -1 by decide]; omega)
              exact ih156 (k + 1) (setM M2 (1 + n + k) f9 (1 : Int64)) _ _ _ (by omega) (by omega) (lay_el htb hz (fun i hi => setM_row hi) (fun j hj h9 => by rw [setM_apply, show (if 1 + n + k = 1 + n + k ∧ j = f9 then (1 : Int64) else M2 (1 + n + k) j) = if j = f9 then 1 else M2 (1 + n + k) j by simp]; exact elc_one q5 q7 hf9 h9)) hP hD hS (lv_sub hl [0, 2, 3] rfl)
            obtain ⟨b9, hb9, hbf, q7⟩ : ∃ b : Nat, b < 6 ∧ b ≠ f9 ∧ d 6 k = nI b := by
              rcases q6 with e | e
              · exfalso; rw [ht6, e] at c217; exact absurd (show (-1 : Int32).toInt = -1 by decide) (by omega)
              · exact e
            have ht7 := ht6.trans q7
            refine lv_aload_n hx hb dX7_laySpeeds_220 rfl (lv_at hl 2 rfl) ?_
            refine va_get (D := D) (ci := 7) (C := RX7) (T := TX7) (N := 17) hx hb hts iX7 hown hK hP 0 rfl rfl 6 (by decide) (hts _ k_f_X7_23) (fun _ h9 => h9) rfl dX7_laySpeeds_221 ?_
            refine lv_iload_n hx hb dX7_laySpeeds_224 rfl (lv_at hl 0 rfl) ?_
            refine lv_aload_n hx hb dX7_laySpeeds_225 rfl (lv_at hl 2 rfl) ?_
            refine va_get (D := D) (ci := 7) (C := RX7) (T := TX7) (N := 17) hx hb hts iX7 hown hK hP 0 rfl rfl 0 (by decide) (hts _ k_f_X7_7) (fun _ h9 => h9) rfl dX7_laySpeeds_226 ?_
            refine lv_bipush (v := nI 21) hx hb dX7_laySpeeds_229 (by decide) ?_
            refine lv_iload_n hx hb dX7_laySpeeds_231 rfl (lv_at hl 1 rfl) ?_
            refine lv_iadd hx hb dX7_laySpeeds_232 ?_
            refine t_i (nI_add _ _) ?_
            refine n_iald hx hb hK hP 1 0 rfl rfl (i := 21 + k) (n := 36) (by omega) (by decide) dX7_laySpeeds_233 ?_
            refine t_i (show _ = nI b9 from ht7) ?_
            refine lv_iadd hx hb dX7_laySpeeds_234 ?_
            refine t_i (nI_add _ _) ?_
            refine lv_ldc2 hx hb hown (hts _ k_kl_X7_112) dX7_laySpeeds_235 ?_
            refine n_last hx hb hK hP hD hS 5 1 rfl rfl (i := 11 * (1 + n + k) + b9) (n := 121) (by omega) (by decide) dX7_laySpeeds_238 (fun H locs hP hD hS => ?_)
            have hcs : vp_updL (cL (setM M2 (1 + n + k) f9 (1 : Int64))) (11 * (1 + n + k) + b9) (-1 : Int64) = cL (setM (setM M2 (1 + n + k) f9 (1 : Int64)) (1 + n + k) b9 (-1 : Int64)) := cL_set (by omega) (by omega)
            have hP : va_P D vwCl (WM K mm ta sl ss be ch th (setM (setM M2 (1 + n + k) f9 (1 : Int64)) (1 + n + k) b9 (-1 : Int64)) (nI (1 + n + m1)) (nI 6) pv so st gs gm gu gl aw) H := by unfold WM; rw [← hcs]; exact hP
            have hD : va_D A (WM K mm ta sl ss be ch th (setM (setM M2 (1 + n + k) f9 (1 : Int64)) (1 + n + k) b9 (-1 : Int64)) (nI (1 + n + m1)) (nI 6) pv so st gs gm gu gl aw) := by unfold WM; rw [← hcs]; exact hD
            have hP : va_P D vwCl (WM K mm ta sl ss be ch th (setM (setM M2 (1 + n + k) f9 (1 : Int64)) (1 + n + k) b9 (-1 : Int64)) (nI (1 + n + m1)) (nI 6) pv so st gs gm gu gl aw) H := hP
            have hD : va_D A (WM K mm ta sl ss be ch th (setM (setM M2 (1 + n + k) f9 (1 : Int64)) (1 + n + k) b9 (-1 : Int64)) (nI (1 + n + m1)) (nI 6) pv so st gs gm gu gl aw) := hD
            refine lv_iinc (v := nI (k + 1)) (lv' := [(2, .int (nI (k + 1))), (3, .int (nI (11 * (1 + n + k)))), (0, .ref (mm 0)), (1, .int (nI g))]) hx hb dX7_laySpeeds_239 hl (k := 1) rfl (nI_add k 1) (by decide) rfl (fun ls hl => ?_)
            refine lv_goto (tgt := 156) hx hb dX7_laySpeeds_242 (by decide) ?_
            exact ih156 (k + 1) (setM (setM M2 (1 + n + k) f9 (1 : Int64)) (1 + n + k) b9 (-1 : Int64)) _ _ _ (by omega) (by omega) (lay_el htb hz (fun i hi => (setM_row hi).trans (setM_row hi)) (fun j hj h9 => by rw [setM_apply, setM_apply]; simp only [true_and]; exact elc_two q5 q7 hf9 hb9 hbf h9)) hP hD hS (lv_sub hl [0, 2, 3] rfl)
        exact L156 _ 0 M2 _ _ _ (Nat.lt_succ_self _) (by omega) hz hP hD hS (lv_sub hl [0, 1, 2] rfl)
      obtain ⟨a9, b9, c9, s9, r9, hv1, hv2, hv3, q0, q1, q2, q3, q4⟩ := hs9 k (by omega)
      have hta0 : ta (0 + 5 * k) = nI a9 := by rw [show 0 + 5 * k = 5 * k + 0 by omega, ha1 k 0 (by omega) (by omega)]; exact q0
      have hta1 : ta (0 + 5 * k + 1) = nI b9 := by rw [show 0 + 5 * k + 1 = 5 * k + 1 by omega, ha1 k 1 (by omega) (by omega)]; exact q1
      have hta2 : ta (0 + 5 * k + 2) = nI c9 := by rw [show 0 + 5 * k + 2 = 5 * k + 2 by omega, ha1 k 2 (by omega) (by omega)]; exact q2
      have hta3 : ta (0 + 5 * k + 3) = nI s9 := by rw [show 0 + 5 * k + 3 = 5 * k + 3 by omega, ha1 k 3 (by omega) (by omega)]; exact q3
      have hta4 : ta (0 + 5 * k + 4) = nI r9 := by rw [show 0 + 5 * k + 4 = 5 * k + 4 by omega, ha1 k 4 (by omega) (by omega)]; exact q4
      refine lv_iconst (v := nI 0) hx hb dX7_laySpeeds_51 (by decide) ?_
      refine lv_iconst (v := nI 5) hx hb dX7_laySpeeds_52 (by decide) ?_
      refine lv_iload_n hx hb dX7_laySpeeds_53 rfl (lv_at hl 0 rfl) ?_
      refine lv_imul hx hb dX7_laySpeeds_54 ?_
      refine t_i (pk_mul _ _) ?_
      refine lv_iadd hx hb dX7_laySpeeds_55 ?_
      refine t_i (nI_add _ _) ?_
      refine lv_istore_n (lv' := [(3, .int (nI (0 + 5 * k))), (2, .int (nI k)), (0, .ref (mm 0)), (1, .int (nI g))]) hx hb dX7_laySpeeds_56 rfl hl (by decide) rfl (fun ls hl => ?_)
      refine lv_bipush (v := nI 11) hx hb dX7_laySpeeds_57 (by decide) ?_
      refine lv_iconst (v := nI 1) hx hb dX7_laySpeeds_59 (by decide) ?_
      refine lv_iload_n hx hb dX7_laySpeeds_60 rfl (lv_at hl 1 rfl) ?_
      refine lv_iadd hx hb dX7_laySpeeds_61 ?_
      refine t_i (nI_add _ _) ?_
      refine lv_imul hx hb dX7_laySpeeds_62 ?_
      refine t_i (pk_mul _ _) ?_
      refine lv_istore (lv' := [(4, .int (nI (11 * (1 + k)))), (3, .int (nI (0 + 5 * k))), (2, .int (nI k)), (0, .ref (mm 0)), (1, .int (nI g))]) hx hb dX7_laySpeeds_63 hl (by decide) rfl (fun ls hl => ?_)
      refine lv_aload_n hx hb dX7_laySpeeds_65 rfl (lv_at hl 3 rfl) ?_
      refine va_get (D := D) (ci := 7) (C := RX7) (T := TX7) (N := 17) hx hb hts iX7 hown hK hP 0 rfl rfl 6 (by decide) (hts _ k_f_X7_23) (fun _ h9 => h9) rfl dX7_laySpeeds_66 ?_
      refine lv_iload hx hb dX7_laySpeeds_69 (lv_at hl 0 rfl) ?_
      refine lv_aload_n hx hb dX7_laySpeeds_71 rfl (lv_at hl 3 rfl) ?_
      refine va_get (D := D) (ci := 7) (C := RX7) (T := TX7) (N := 17) hx hb hts iX7 hown hK hP 0 rfl rfl 0 (by decide) (hts _ k_f_X7_7) (fun _ h9 => h9) rfl dX7_laySpeeds_72 ?_
      refine lv_iload_n hx hb dX7_laySpeeds_75 rfl (lv_at hl 1 rfl) ?_
      refine n_iald hx hb hK hP 1 0 rfl rfl (i := 0 + 5 * k) (n := 36) (by omega) (by decide) dX7_laySpeeds_76 ?_
      refine t_i (show _ = nI a9 from hta0) ?_
      refine lv_iadd hx hb dX7_laySpeeds_77 ?_
      refine t_i (nI_add _ _) ?_
      refine lv_aload_n hx hb dX7_laySpeeds_78 rfl (lv_at hl 3 rfl) ?_
      refine va_get (D := D) (ci := 7) (C := RX7) (T := TX7) (N := 17) hx hb hts iX7 hown hK hP 0 rfl rfl 0 (by decide) (hts _ k_f_X7_7) (fun _ h9 => h9) rfl dX7_laySpeeds_79 ?_
      refine lv_iload_n hx hb dX7_laySpeeds_82 rfl (lv_at hl 1 rfl) ?_
      refine lv_iconst (v := nI 3) hx hb dX7_laySpeeds_83 (by decide) ?_
      refine lv_iadd hx hb dX7_laySpeeds_84 ?_
      refine t_i (nI_add _ _) ?_
      refine n_iald hx hb hK hP 1 0 rfl rfl (i := 0 + 5 * k + 3) (n := 36) (by omega) (by decide) dX7_laySpeeds_85 ?_
      refine t_i (show _ = nI s9 from hta3) ?_
      refine lv_i2l (v := (nI s9).toInt64) hx hb dX7_laySpeeds_86 rfl ?_
      refine n_last hx hb hK hP hD hS 5 1 rfl rfl (i := 11 * (1 + k) + a9) (n := 121) (by omega) (by decide) dX7_laySpeeds_87 (fun H locs hP hD hS => ?_)
      have hcs : vp_updL (cL M2) (11 * (1 + k) + a9) ((nI s9).toInt64) = cL (setM M2 (1 + k) a9 ((nI s9).toInt64)) := cL_set (by omega) (by omega)
      have hP : va_P D vwCl (WM K mm ta sl ss be ch th (setM M2 (1 + k) a9 ((nI s9).toInt64)) (nI (1 + n + m1)) (nI 6) pv so st gs gm gu gl aw) H := by unfold WM; rw [← hcs]; exact hP
      have hD : va_D A (WM K mm ta sl ss be ch th (setM M2 (1 + k) a9 ((nI s9).toInt64)) (nI (1 + n + m1)) (nI 6) pv so st gs gm gu gl aw) := by unfold WM; rw [← hcs]; exact hD
      have hP : va_P D vwCl (WM K mm ta sl ss be ch th (setM M2 (1 + k) a9 ((nI s9).toInt64)) (nI (1 + n + m1)) (nI 6) pv so st gs gm gu gl aw) H := hP
      have hD : va_D A (WM K mm ta sl ss be ch th (setM M2 (1 + k) a9 ((nI s9).toInt64)) (nI (1 + n + m1)) (nI 6) pv so st gs gm gu gl aw) := hD
      refine lv_aload_n hx hb dX7_laySpeeds_88 rfl (lv_at hl 3 rfl) ?_
      refine va_get (D := D) (ci := 7) (C := RX7) (T := TX7) (N := 17) hx hb hts iX7 hown hK hP 0 rfl rfl 6 (by decide) (hts _ k_f_X7_23) (fun _ h9 => h9) rfl dX7_laySpeeds_89 ?_
      refine lv_iload hx hb dX7_laySpeeds_92 (lv_at hl 0 rfl) ?_
      refine lv_aload_n hx hb dX7_laySpeeds_94 rfl (lv_at hl 3 rfl) ?_
      refine va_get (D := D) (ci := 7) (C := RX7) (T := TX7) (N := 17) hx hb hts iX7 hown hK hP 0 rfl rfl 0 (by decide) (hts _ k_f_X7_7) (fun _ h9 => h9) rfl dX7_laySpeeds_95 ?_
      refine lv_iload_n hx hb dX7_laySpeeds_98 rfl (lv_at hl 1 rfl) ?_
      refine lv_iconst (v := nI 1) hx hb dX7_laySpeeds_99 (by decide) ?_
      refine lv_iadd hx hb dX7_laySpeeds_100 ?_
      refine t_i (nI_add _ _) ?_
      refine n_iald hx hb hK hP 1 0 rfl rfl (i := 0 + 5 * k + 1) (n := 36) (by omega) (by decide) dX7_laySpeeds_101 ?_
      refine t_i (show _ = nI b9 from hta1) ?_
      refine lv_iadd hx hb dX7_laySpeeds_102 ?_
      refine t_i (nI_add _ _) ?_
      refine lv_aload_n hx hb dX7_laySpeeds_103 rfl (lv_at hl 3 rfl) ?_
      refine va_get (D := D) (ci := 7) (C := RX7) (T := TX7) (N := 17) hx hb hts iX7 hown hK hP 0 rfl rfl 0 (by decide) (hts _ k_f_X7_7) (fun _ h9 => h9) rfl dX7_laySpeeds_104 ?_
      refine lv_iload_n hx hb dX7_laySpeeds_107 rfl (lv_at hl 1 rfl) ?_
      refine lv_iconst (v := nI 4) hx hb dX7_laySpeeds_108 (by decide) ?_
      refine lv_iadd hx hb dX7_laySpeeds_109 ?_
      refine t_i (nI_add _ _) ?_
      refine n_iald hx hb hK hP 1 0 rfl rfl (i := 0 + 5 * k + 4) (n := 36) (by omega) (by decide) dX7_laySpeeds_110 ?_
      refine t_i (show _ = nI r9 from hta4) ?_
      refine lv_i2l (v := (nI r9).toInt64) hx hb dX7_laySpeeds_111 rfl ?_
      refine n_last hx hb hK hP hD hS 5 1 rfl rfl (i := 11 * (1 + k) + b9) (n := 121) (by omega) (by decide) dX7_laySpeeds_112 (fun H locs hP hD hS => ?_)
      have hcs : vp_updL (cL (setM M2 (1 + k) a9 ((nI s9).toInt64))) (11 * (1 + k) + b9) ((nI r9).toInt64) = cL (setM (setM M2 (1 + k) a9 ((nI s9).toInt64)) (1 + k) b9 ((nI r9).toInt64)) := cL_set (by omega) (by omega)
      have hP : va_P D vwCl (WM K mm ta sl ss be ch th (setM (setM M2 (1 + k) a9 ((nI s9).toInt64)) (1 + k) b9 ((nI r9).toInt64)) (nI (1 + n + m1)) (nI 6) pv so st gs gm gu gl aw) H := by unfold WM; rw [← hcs]; exact hP
      have hD : va_D A (WM K mm ta sl ss be ch th (setM (setM M2 (1 + k) a9 ((nI s9).toInt64)) (1 + k) b9 ((nI r9).toInt64)) (nI (1 + n + m1)) (nI 6) pv so st gs gm gu gl aw) := by unfold WM; rw [← hcs]; exact hD
      have hP : va_P D vwCl (WM K mm ta sl ss be ch th (setM (setM M2 (1 + k) a9 ((nI s9).toInt64)) (1 + k) b9 ((nI r9).toInt64)) (nI (1 + n + m1)) (nI 6) pv so st gs gm gu gl aw) H := hP
      have hD : va_D A (WM K mm ta sl ss be ch th (setM (setM M2 (1 + k) a9 ((nI s9).toInt64)) (1 + k) b9 ((nI r9).toInt64)) (nI (1 + n + m1)) (nI 6) pv so st gs gm gu gl aw) := hD
      refine lv_aload_n hx hb dX7_laySpeeds_113 rfl (lv_at hl 3 rfl) ?_
      refine va_get (D := D) (ci := 7) (C := RX7) (T := TX7) (N := 17) hx hb hts iX7 hown hK hP 0 rfl rfl 6 (by decide) (hts _ k_f_X7_23) (fun _ h9 => h9) rfl dX7_laySpeeds_114 ?_
      refine lv_iload hx hb dX7_laySpeeds_117 (lv_at hl 0 rfl) ?_
      refine lv_aload_n hx hb dX7_laySpeeds_119 rfl (lv_at hl 3 rfl) ?_
      refine va_get (D := D) (ci := 7) (C := RX7) (T := TX7) (N := 17) hx hb hts iX7 hown hK hP 0 rfl rfl 0 (by decide) (hts _ k_f_X7_7) (fun _ h9 => h9) rfl dX7_laySpeeds_120 ?_
      refine lv_iload_n hx hb dX7_laySpeeds_123 rfl (lv_at hl 1 rfl) ?_
      refine lv_iconst (v := nI 2) hx hb dX7_laySpeeds_124 (by decide) ?_
      refine lv_iadd hx hb dX7_laySpeeds_125 ?_
      refine t_i (nI_add _ _) ?_
      refine n_iald hx hb hK hP 1 0 rfl rfl (i := 0 + 5 * k + 2) (n := 36) (by omega) (by decide) dX7_laySpeeds_126 ?_
      refine t_i (show _ = nI c9 from hta2) ?_
      refine lv_iadd hx hb dX7_laySpeeds_127 ?_
      refine t_i (nI_add _ _) ?_
      refine lv_aload_n hx hb dX7_laySpeeds_128 rfl (lv_at hl 3 rfl) ?_
      refine va_get (D := D) (ci := 7) (C := RX7) (T := TX7) (N := 17) hx hb hts iX7 hown hK hP 0 rfl rfl 0 (by decide) (hts _ k_f_X7_7) (fun _ h9 => h9) rfl dX7_laySpeeds_129 ?_
      refine lv_iload_n hx hb dX7_laySpeeds_132 rfl (lv_at hl 1 rfl) ?_
      refine lv_iconst (v := nI 3) hx hb dX7_laySpeeds_133 (by decide) ?_
      refine lv_iadd hx hb dX7_laySpeeds_134 ?_
      refine t_i (nI_add _ _) ?_
      refine n_iald hx hb hK hP 1 0 rfl rfl (i := 0 + 5 * k + 3) (n := 36) (by omega) (by decide) dX7_laySpeeds_135 ?_
      refine t_i (show _ = nI s9 from hta3) ?_
      refine lv_ineg hx hb dX7_laySpeeds_136 ?_
      refine lv_aload_n hx hb dX7_laySpeeds_137 rfl (lv_at hl 3 rfl) ?_
      refine va_get (D := D) (ci := 7) (C := RX7) (T := TX7) (N := 17) hx hb hts iX7 hown hK hP 0 rfl rfl 0 (by decide) (hts _ k_f_X7_7) (fun _ h9 => h9) rfl dX7_laySpeeds_138 ?_
      refine lv_iload_n hx hb dX7_laySpeeds_141 rfl (lv_at hl 1 rfl) ?_
      refine lv_iconst (v := nI 4) hx hb dX7_laySpeeds_142 (by decide) ?_
      refine lv_iadd hx hb dX7_laySpeeds_143 ?_
      refine t_i (nI_add _ _) ?_
      refine n_iald hx hb hK hP 1 0 rfl rfl (i := 0 + 5 * k + 4) (n := 36) (by omega) (by decide) dX7_laySpeeds_144 ?_
      refine t_i (show _ = nI r9 from hta4) ?_
      refine lv_isub hx hb dX7_laySpeeds_145 ?_
      refine lv_i2l (v := ((-(nI s9)) - (nI r9)).toInt64) hx hb dX7_laySpeeds_146 rfl ?_
      refine n_last hx hb hK hP hD hS 5 1 rfl rfl (i := 11 * (1 + k) + c9) (n := 121) (by omega) (by decide) dX7_laySpeeds_147 (fun H locs hP hD hS => ?_)
      have hcs : vp_updL (cL (setM (setM M2 (1 + k) a9 ((nI s9).toInt64)) (1 + k) b9 ((nI r9).toInt64))) (11 * (1 + k) + c9) (((-(nI s9)) - (nI r9)).toInt64) = cL (setM (setM (setM M2 (1 + k) a9 ((nI s9).toInt64)) (1 + k) b9 ((nI r9).toInt64)) (1 + k) c9 (((-(nI s9)) - (nI r9)).toInt64)) := cL_set (by omega) (by omega)
      have hP : va_P D vwCl (WM K mm ta sl ss be ch th (setM (setM (setM M2 (1 + k) a9 ((nI s9).toInt64)) (1 + k) b9 ((nI r9).toInt64)) (1 + k) c9 (((-(nI s9)) - (nI r9)).toInt64)) (nI (1 + n + m1)) (nI 6) pv so st gs gm gu gl aw) H := by unfold WM; rw [← hcs]; exact hP
      have hD : va_D A (WM K mm ta sl ss be ch th (setM (setM (setM M2 (1 + k) a9 ((nI s9).toInt64)) (1 + k) b9 ((nI r9).toInt64)) (1 + k) c9 (((-(nI s9)) - (nI r9)).toInt64)) (nI (1 + n + m1)) (nI 6) pv so st gs gm gu gl aw) := by unfold WM; rw [← hcs]; exact hD
      have hP : va_P D vwCl (WM K mm ta sl ss be ch th (setM (setM (setM M2 (1 + k) a9 ((nI s9).toInt64)) (1 + k) b9 ((nI r9).toInt64)) (1 + k) c9 (((-(nI s9)) - (nI r9)).toInt64)) (nI (1 + n + m1)) (nI 6) pv so st gs gm gu gl aw) H := hP
      have hD : va_D A (WM K mm ta sl ss be ch th (setM (setM (setM M2 (1 + k) a9 ((nI s9).toInt64)) (1 + k) b9 ((nI r9).toInt64)) (1 + k) c9 (((-(nI s9)) - (nI r9)).toInt64)) (nI (1 + n + m1)) (nI 6) pv so st gs gm gu gl aw) := hD
      refine lv_iinc (v := nI (k + 1)) (lv' := [(2, .int (nI (k + 1))), (4, .int (nI (11 * (1 + k)))), (3, .int (nI (0 + 5 * k))), (0, .ref (mm 0)), (1, .int (nI g))]) hx hb dX7_laySpeeds_148 hl (k := 2) rfl (nI_add k 1) (by decide) rfl (fun ls hl => ?_)
      refine lv_goto (tgt := 40) hx hb dX7_laySpeeds_151 (by decide) ?_
      exact ih40 (k + 1) (setM (setM (setM M2 (1 + k) a9 ((nI s9).toInt64)) (1 + k) b9 ((nI r9).toInt64)) (1 + k) c9 (((-(nI s9)) - (nI r9)).toInt64)) _ _ _ (by omega) (by omega) (lay_set (by omega) hv1 hv2 hv3 q0 q1 q2 q3 q4 hz) hP hD hS (lv_sub hl [0, 3, 4] rfl)
  exact L40 _ 0 (setM (setM u0 0 0 (1 : Int64)) 0 10 (1 : Int64)) _ _ _ (Nat.lt_succ_self _) (by omega) (lay_0 hu0) hP hD hS (lv_sub hl [0, 1, 2] rfl)
