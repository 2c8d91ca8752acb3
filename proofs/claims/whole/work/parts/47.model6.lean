/-! PlanetaryGearboxModel: layTorques -/
def mT (d : Nat → Nat → Int32) (k e g i j : Nat) : Int := if j = 10 then (if i = 0 then -1 else 0) else if j = 0 then (if i = 1 then 1 else 0) else if j < 4 then (if j - 1 < k then setc d (j - 1) i else 0) else if j < 10 ∧ j - 4 < e ∧ g.testBit (j - 4) = true then elc d (j - 4) i else 0
theorem mT_tq {d : Nat → Nat → Int32} {n m g i : Nat} (h0 : dn d 8 0 = n) (h1 : dn d 8 1 = m) (hi : i < 6) (j : Nat) : mT d n m g i j = tqM d g i j := by
  unfold mT tqM
  rw [h0, h1, if_neg (show ¬ 6 ≤ i by omega)]
theorem layT_0 {d : Nat → Nat → Int32} {g : Nat} {u : Nat → Nat → Int64} (h : ∀ i j, i < 11 → j < 11 → u i j = 0) : ∀ i j, i < 6 → j < 11 → (setM (setM u 0 10 (-1)) 1 0 1 i j).toInt = mT d 0 0 g i j := fun i j hi hj => by
  rw [setM_apply, setM_apply, h i j (by omega) hj]
  unfold mT
  by_cases z : j = 10
  · subst z
    rw [if_neg (fun q => absurd q.2 (by omega)), if_pos rfl]
    by_cases q : i = 0
    · rw [if_pos ⟨q, rfl⟩, if_pos q]; decide
    · rw [if_neg (fun w => q w.1), if_neg q]; decide
  · rw [if_neg z, if_neg (c := i = 0 ∧ j = 10) (fun q => z q.2)]
    by_cases z2 : j = 0
    · rw [if_pos z2]
      by_cases q : i = 1
      · rw [if_pos ⟨q, z2⟩, if_pos q]; decide
      · rw [if_neg (fun w => q w.1), if_neg q]; decide
    · rw [if_neg z2, if_neg (fun q => z2 q.2)]
      split
      · rw [if_neg (by omega)]; decide
      · rw [if_neg (by omega)]; decide
theorem layT_set {d : Nat → Nat → Int32} {n k g a b c s r : Nat} {M2 : Nat → Nat → Int64} (hk : k < n) (hn : n ≤ 3) (h1 : a < 6 ∧ b < 6 ∧ c < 6) (h2 : a ≠ b ∧ a ≠ c ∧ b ≠ c) (h3 : 10 ≤ s ∧ s ≤ 40 ∧ s < r ∧ r ≤ 100) (e0 : d 0 k = nI a) (e1 : d 1 k = nI b) (e2 : d 2 k = nI c) (e3 : d 3 k = nI s) (e4 : d 4 k = nI r) (hz : ∀ i j, i < 6 → j < 11 → (M2 i j).toInt = mT d k 0 g i j) :
    ∀ i j, i < 6 → j < 11 → (setM (setM (setM M2 a (1 + k) (nI s).toInt64) b (1 + k) (nI r).toInt64) c (1 + k) (-(nI s) - nI r).toInt64 i j).toInt = mT d (k + 1) 0 g i j := fun i j hi hj => by
  rw [setM_apply, setM_apply, setM_apply]
  by_cases z : j = 1 + k
  · subst z
    have hm : mT d (k + 1) 0 g i (1 + k) = setc d k i := by
      unfold mT
      rw [if_neg (by omega), if_neg (by omega), if_pos (by omega), if_pos (by omega), show 1 + k - 1 = k by omega]
    rw [hm]
    unfold setc
    rw [dn_of e0 (by omega), dn_of e1 (by omega), dn_of e2 (by omega), dn_of e3 (by omega), dn_of e4 (by omega)]
    by_cases q1 : i = c
    · rw [if_pos ⟨q1, rfl⟩, i64m (by omega) (by omega), if_neg (by omega), if_neg (by omega), if_pos q1]; omega
    · rw [if_neg (fun q => q1 q.1)]
      by_cases q2 : i = b
      · rw [if_pos ⟨q2, rfl⟩, i64n (by omega), if_neg (by omega), if_pos q2, if_neg q1]; omega
      · rw [if_neg (fun q => q2 q.1)]
        by_cases q3 : i = a
        · rw [if_pos ⟨q3, rfl⟩, i64n (by omega), if_pos q3, if_neg q2, if_neg q1]; omega
        · rw [if_neg (fun q => q3 q.1), hz i _ hi hj, if_neg q3, if_neg q2, if_neg q1]
          unfold mT
          rw [if_neg (by omega), if_neg (by omega), if_pos (by omega), if_neg (by omega)]; rfl
  · rw [if_neg (fun q => z q.2), if_neg (fun q => z q.2), if_neg (fun q => z q.2), hz i j hi hj]
    unfold mT
    by_cases q0 : j = 10
    · rw [if_pos q0, if_pos q0]
    · rw [if_neg q0, if_neg q0]
      by_cases q1 : j = 0
      · rw [if_pos q1, if_pos q1]
      · rw [if_neg q1, if_neg q1]
        by_cases q2 : j < 4
        · rw [if_pos q2, if_pos q2]
          by_cases q3 : j - 1 < k
          · rw [if_pos q3, if_pos (by omega)]
          · rw [if_neg q3, if_neg (by omega)]
        · rw [if_neg q2, if_neg q2]
theorem layT_skip {d : Nat → Nat → Int32} {n e g : Nat} {M2 : Nat → Nat → Int64} (ht : ¬ g.testBit e = true) (hz : ∀ i j, i < 6 → j < 11 → (M2 i j).toInt = mT d n e g i j) : ∀ i j, i < 6 → j < 11 → (M2 i j).toInt = mT d n (e + 1) g i j := fun i j hi hj => by
  rw [hz i j hi hj]
  unfold mT
  by_cases q0 : j = 10
  · rw [if_pos q0, if_pos q0]
  · rw [if_neg q0, if_neg q0]
    by_cases q1 : j = 0
    · rw [if_pos q1, if_pos q1]
    · rw [if_neg q1, if_neg q1]
      by_cases q2 : j < 4
      · rw [if_pos q2, if_pos q2]
      · rw [if_neg q2, if_neg q2]
        by_cases q3 : j < 10 ∧ j - 4 < e ∧ g.testBit (j - 4) = true
        · rw [if_pos q3, if_pos ⟨q3.1, by omega, q3.2.2⟩]
        · rw [if_neg q3, if_neg (fun z => q3 ⟨z.1, by
            by_cases q4 : j - 4 = e
            · rw [q4] at z; exact absurd z.2.2 ht
            · omega, z.2.2⟩)]
theorem layT_el {d : Nat → Nat → Int32} {n e g : Nat} {M2 M3 : Nat → Nat → Int64} (he : e < 6) (ht : g.testBit e = true) (hz : ∀ i j, i < 6 → j < 11 → (M2 i j).toInt = mT d n e g i j) (ho : ∀ i j, j ≠ 4 + e → M3 i j = M2 i j) (hr : ∀ i, i < 6 → (M2 i (4 + e)).toInt = 0 → (M3 i (4 + e)).toInt = elc d e i) : ∀ i j, i < 6 → j < 11 → (M3 i j).toInt = mT d n (e + 1) g i j := fun i j hi hj => by
  by_cases z : j = 4 + e
  · subst z
    have h0 : (M2 i (4 + e)).toInt = 0 := by
      rw [hz i _ hi hj]
      unfold mT
      rw [if_neg (by omega), if_neg (by omega), if_neg (by omega), if_neg (by omega)]
    rw [hr i hi h0]
    unfold mT
    rw [if_neg (by omega), if_neg (by omega), if_neg (by omega), show 4 + e - 4 = e by omega, if_pos ⟨by omega, by omega, ht⟩]
  · rw [ho i j z, hz i j hi hj]
    unfold mT
    by_cases q0 : j = 10
    · rw [if_pos q0, if_pos q0]
    · rw [if_neg q0, if_neg q0]
      by_cases q1 : j = 0
      · rw [if_pos q1, if_pos q1]
      · rw [if_neg q1, if_neg q1]
        by_cases q2 : j < 4
        · rw [if_pos q2, if_pos q2]
        · rw [if_neg q2, if_neg q2]
          by_cases q3 : j < 10 ∧ j - 4 < e ∧ g.testBit (j - 4) = true
          · rw [if_pos q3, if_pos ⟨q3.1, by omega, q3.2.2⟩]
          · rw [if_neg q3, if_neg (fun w => q3 ⟨w.1, by omega, w.2.2⟩)]
theorem mT_HS {d : Nat → Nat → Int32} {g : Nat} {M0 : Nat → Nat → Int} (hM : ∀ i, i < 6 → M0 i = tqM d g i) : HS M0 6 = TQ d g := funext fun x => propext ⟨fun h i hi => by
  by_cases z : i < 6
  · rw [← hM i z]; exact h i z
  · apply dt_zero
    intro j _
    unfold tqM
    rw [if_pos (by omega)], fun h i hi => by
  rw [hM i hi]
  exact h i (by omega)⟩
theorem mT_MB {d : Nat → Nat → Int32} {g : Nat} {M0 : Nat → Nat → Int} (hM : ∀ i, i < 6 → M0 i = tqM d g i) (hB : MB (tqM d g) 6) : MB M0 6 := MB_congr (fun i hi => (hM i hi).symm) hB
theorem tqM_far {d : Nat → Nat → Int32} {g i j : Nat} (h : ¬ j < 11) : tqM d g i j = 0 := by
  unfold tqM
  split
  · rfl
  · rw [if_neg (by omega), if_neg (by omega), if_neg (by omega), if_neg (by omega)]
set_option maxHeartbeats 4000000 in
set_option maxRecDepth 100000 in
theorem c_X7_layTorques (l : Launch) (D : va_G) (K : Nat → ClassId) (mm : Nat → Nat) (ta : Nat → Int32) (sl : Nat → Int32) (ss : Nat → Int32) (be : Nat → Int32) (ch : Int32) (th : Int32) (M : Nat → Nat → Int64) (rq : Int32) (cq : Int32) (pv : Nat → Int32) (so : Int32) (st : Nat → Int32) (gs : Int32) (gm : Nat → Int32) (gu : Nat → Int64) (gl : Nat → Int64) (aw : Nat → Int32) (d : Nat → Nat → Int32) (sz : Nat) (hd : DV d) (hat : AtD ta d) : Met l yX7_layTorques (.code yX7_layTorques cX7_layTorques 3 none :: TB) ({ frames := 4, cells := 0, slots := 0, locals := 105 } : Room) (va_Pc [.ref (mm 0)] (cP D K (WM K mm ta sl ss be ch th M rq cq pv so st gs gm gu gl aw) sz)) (va_Qv (fun (u : (Nat → Nat → Int64) × (Nat → Int32) × Int32) => SolvedM (TQ d (dn d 8 2)) 6 10 u.1 u.2.1 u.2.2) (fun (u : (Nat → Nat → Int64) × (Nat → Int32) × Int32) t => cB D K (va_A (WM K mm ta sl ss be ch th M rq cq pv so st gs gm gu gl aw) sz) (WM K mm ta sl ss be ch th u.1 (nI 6) (nI 10) u.2.1 u.2.2 st gs gm gu gl aw) t) (va_A (WM K mm ta sl ss be ch th M rq cq pv so st gs gm gu gl aw) sz)) 0 0 (va_A (WM K mm ta sl ss be ch th M rq cq pv so st gs gm gu gl aw) sz) := by
  refine Met.ofW (cc := cX7_layTorques) (maxL := 3) (ret := none) (by decide) rfl ?_
  intro p e s m args below meth c s₁ B hml hv
  obtain ⟨rfl, hsz, hP, hK, hD0⟩ := hv
  have hx := B.exec
  have hb := B.bytes
  have hr := B.returns
  have hts := hts_tl (atoms_spec (ws := (.code yX7_layTorques cX7_layTorques 3 none :: TB)) B.pre)
  have hown : s.vm.findClass RX7 = some m.cls := findClass_of_methodNamed B.named
  have hlocks := B.notSynchronized
  subst hsz
  have hD := hD0.self (sz := s.heap.size)
  generalize hAe : (va_A (WM K mm ta sl ss be ch th M rq cq pv so st gs gm gu gl aw) s.heap.size) = A at hD ⊢
  have hA : ∀ q : Nat, s.heap.size ≤ q → A q := fun q h => by rw [← hAe]; exact Or.inr h
  have hS : va_S A s.heap s.heap [] := va_S.rf
  have hl := lv_entry ([.ref (mm 0)]) (n := 3) (Nat.le_of_ble_eq_true rfl)
  rw [lg_entry_eq]
  generalize (lg_sl ([.ref (mm 0)]) ++ List.replicate (3 - (lg_sl ([.ref (mm 0)])).length) Slot.unset).toArray = ls at hl ⊢
  have hl : lv_has ls 3 [(0, .ref (mm 0))] := hl
  obtain ⟨n, m1, ge, hn, hm, hge, h0, h1, h2, hs9, he9⟩ := id hd
  obtain ⟨ha1, ha2, ha33, ha34, ha35⟩ := id hat
  have hp6 : 2 ^ m1 ≤ 64 := Nat.pow_le_pow_right (show 0 < 2 by decide) hm
  have h33 := ha33.trans h0
  have h34 := ha34.trans h1
  have h35 := ha35.trans h2
  have hn1 : dn d 8 0 = n := dn_of h0 (by omega)
  have hm1 : dn d 8 1 = m1 := dn_of h1 (by omega)
  have hg1 : dn d 8 2 = ge := dn_of h2 (by omega)
  refine lv_aload_n hx hb dX7_layTorques_0 rfl (lv_at hl 0 rfl) ?_
  refine lv_bipush (v := nI 6) hx hb dX7_layTorques_1 (by decide) ?_
  refine lv_bipush (v := nI 10) hx hb dX7_layTorques_3 (by decide) ?_
  have hFc := freeAll hD hS hA
  refine va_callv (va_runV (As := [.int (nI 6), .int (nI 10)]) (rest := []) ⟨hx, hb, hml, hown, hts⟩ (c_X7_clearRows l D K mm ta sl ss be ch th M rq cq pv so st gs gm gu gl aw (nI 6) (nI 10) s.heap.size ) (cwV 2 hts (TB_V k_m_X7_109 k_im_X7_clearRows k_se_X7_clearRows k_in_X7 k_co_X7_clearRows (fun _ h => h)) rfl rfl rfl (by decide +kernel) ⟨Nat.le_of_ble_eq_true rfl, Nat.le_of_ble_eq_true rfl⟩) ⟨cP_blind, va_recv hK hP (ci := 7) (q0 := 0) rfl rfl, cP_of hP hK hD⟩ rfl rfl hl.1 rfl (lv_room (Nat.le_of_ble_eq_true rfl)) dX7_layTorques_5 ⟨Nat.le_of_ble_eq_true rfl, Nat.le_of_ble_eq_true rfl⟩) hS (fun q _ h => hFc q h) hFc (fun u0 t9 H locs ht9 hvm hw hB hz1 hk1 hS => ?_)
  obtain ⟨hP, hK1, hD1⟩ := hB
  rw [ht9] at hP
  have hD := hD1.weaken (fun _ _ _ h => hFc _ h)
  have hP : va_P D vwCl (WM K mm ta sl ss be ch th u0 (nI 6) (nI 10) pv so st gs gm gu gl aw) H := hP
  have hD : va_D A (WM K mm ta sl ss be ch th u0 (nI 6) (nI 10) pv so st gs gm gu gl aw) := hD
  have hu0 := hw
  refine lv_aload_n hx hb dX7_layTorques_8 rfl (lv_at hl 0 rfl) ?_
  refine va_get (D := D) (ci := 7) (C := RX7) (T := TX7) (N := 17) hx hb hts iX7 hown hK hP 0 rfl rfl 6 (by decide) (hts _ k_f_X7_23) (fun _ h9 => h9) rfl dX7_layTorques_9 ?_
  refine lv_bipush (v := nI 10) hx hb dX7_layTorques_12 (by decide) ?_
  refine lv_ldc2 hx hb hown (hts _ k_kl_X7_112) dX7_layTorques_14 ?_
  refine n_last hx hb hK hP hD hS 5 1 rfl rfl (i := 10) (n := 121) (by omega) (by decide) dX7_layTorques_17 (fun H locs hP hD hS => ?_)
  have hcs : vp_updL (cL u0) 10 (-1 : Int64) = cL (setM u0 0 10 (-1 : Int64)) := cL_set (by omega) (by omega)
  have hP : va_P D vwCl (WM K mm ta sl ss be ch th (setM u0 0 10 (-1 : Int64)) (nI 6) (nI 10) pv so st gs gm gu gl aw) H := by unfold WM; rw [← hcs]; exact hP
  have hD : va_D A (WM K mm ta sl ss be ch th (setM u0 0 10 (-1 : Int64)) (nI 6) (nI 10) pv so st gs gm gu gl aw) := by unfold WM; rw [← hcs]; exact hD
  have hP : va_P D vwCl (WM K mm ta sl ss be ch th (setM u0 0 10 (-1 : Int64)) (nI 6) (nI 10) pv so st gs gm gu gl aw) H := hP
  have hD : va_D A (WM K mm ta sl ss be ch th (setM u0 0 10 (-1 : Int64)) (nI 6) (nI 10) pv so st gs gm gu gl aw) := hD
  refine lv_aload_n hx hb dX7_layTorques_18 rfl (lv_at hl 0 rfl) ?_
  refine va_get (D := D) (ci := 7) (C := RX7) (T := TX7) (N := 17) hx hb hts iX7 hown hK hP 0 rfl rfl 6 (by decide) (hts _ k_f_X7_23) (fun _ h9 => h9) rfl dX7_layTorques_19 ?_
  refine lv_bipush (v := nI 11) hx hb dX7_layTorques_22 (by decide) ?_
  refine lv_lconst (v := 1) hx hb dX7_layTorques_24 (by decide) ?_
  refine n_last hx hb hK hP hD hS 5 1 rfl rfl (i := 11) (n := 121) (by omega) (by decide) dX7_layTorques_25 (fun H locs hP hD hS => ?_)
  have hcs : vp_updL (cL (setM u0 0 10 (-1 : Int64))) 11 (1 : Int64) = cL (setM (setM u0 0 10 (-1 : Int64)) 1 0 (1 : Int64)) := cL_set (by omega) (by omega)
  have hP : va_P D vwCl (WM K mm ta sl ss be ch th (setM (setM u0 0 10 (-1 : Int64)) 1 0 (1 : Int64)) (nI 6) (nI 10) pv so st gs gm gu gl aw) H := by unfold WM; rw [← hcs]; exact hP
  have hD : va_D A (WM K mm ta sl ss be ch th (setM (setM u0 0 10 (-1 : Int64)) 1 0 (1 : Int64)) (nI 6) (nI 10) pv so st gs gm gu gl aw) := by unfold WM; rw [← hcs]; exact hD
  have hP : va_P D vwCl (WM K mm ta sl ss be ch th (setM (setM u0 0 10 (-1 : Int64)) 1 0 (1 : Int64)) (nI 6) (nI 10) pv so st gs gm gu gl aw) H := hP
  have hD : va_D A (WM K mm ta sl ss be ch th (setM (setM u0 0 10 (-1 : Int64)) 1 0 (1 : Int64)) (nI 6) (nI 10) pv so st gs gm gu gl aw) := hD
  refine lv_iconst (v := nI 0) hx hb dX7_layTorques_26 (by decide) ?_
  refine lv_istore_n (lv' := [(1, .int (nI 0)), (0, .ref (mm 0))]) hx hb dX7_layTorques_27 rfl hl (by decide) rfl (fun ls hl => ?_)
  have L28 : ∀ (fuel : Nat) (k : Nat) (M2 : Nat → Nat → Int64) (H : Heap) (locs : List Loc) (ls : Array Slot), 10 - k < fuel → (k ≤ n) → (∀ i j, i < 6 → j < 11 → (M2 i j).toInt = mT d k 0 ge i j) → va_P D vwCl (WM K mm ta sl ss be ch th M2 (nI 6) (nI 10) pv so st gs gm gu gl aw) H → va_D A (WM K mm ta sl ss be ch th M2 (nI 6) (nI 10) pv so st gs gm gu gl aw) → va_S A s.heap H locs → lv_has ls 3 [(1, .int (nI k)), (0, .ref (mm 0))] → W p l e ({ frames := 4, cells := 0, slots := 0, locals := 105 } : Room) s m [.ref (mm 0)].toArray below meth c H locs 0 0 (MQ below (va_Qv (fun (u : (Nat → Nat → Int64) × (Nat → Int32) × Int32) => SolvedM (TQ d (dn d 8 2)) 6 10 u.1 u.2.1 u.2.2) (fun (u : (Nat → Nat → Int64) × (Nat → Int32) × Int32) t => cB D K A (WM K mm ta sl ss be ch th u.1 (nI 6) (nI 10) u.2.1 u.2.2 st gs gm gu gl aw) t) A) [.ref (mm 0)].toArray s 0 0 A) (F0 m 28 ls []) := by
    intro fuel
    induction fuel with
    | zero =>
      intro k M2 H locs ls hfu
      exact absurd hfu (Nat.not_lt_zero _)
    | succ fuel ih28 =>
      intro k M2 H locs ls hfu hk hz hP hD hS hl
      refine lv_iload_n hx hb dX7_layTorques_28 rfl (lv_at hl 0 rfl) ?_
      refine lv_aload_n hx hb dX7_layTorques_29 rfl (lv_at hl 1 rfl) ?_
      refine va_get (D := D) (ci := 7) (C := RX7) (T := TX7) (N := 17) hx hb hts iX7 hown hK hP 0 rfl rfl 0 (by decide) (hts _ k_f_X7_7) (fun _ h9 => h9) rfl dX7_layTorques_30 ?_
      refine lv_bipush (v := nI 33) hx hb dX7_layTorques_33 (by decide) ?_
      refine n_iald hx hb hK hP 1 0 rfl rfl (i := 33) (n := 36) (by omega) (by decide) dX7_layTorques_35 ?_
      refine t_i (show _ = nI n from h33) ?_
      refine b_icmp_ge hx hb (nI_toIntI (by omega)) (nI_toIntI (by omega)) dX7_layTorques_36 (tgt := 146) (by decide) (fun c36 => ?_) (fun c36 => ?_)
      · refine lv_iconst (v := nI 0) hx hb dX7_layTorques_146 (by decide) ?_
        refine lv_istore_n (lv' := [(1, .int (nI 0)), (0, .ref (mm 0))]) hx hb dX7_layTorques_147 rfl hl (by decide) rfl (fun ls hl => ?_)
        rw [show k = n by omega] at hz
        have L148 : ∀ (fuel : Nat) (k : Nat) (M2 : Nat → Nat → Int64) (H : Heap) (locs : List Loc) (ls : Array Slot), 10 - k < fuel → (k ≤ m1) → (∀ i j, i < 6 → j < 11 → (M2 i j).toInt = mT d n k ge i j) → va_P D vwCl (WM K mm ta sl ss be ch th M2 (nI 6) (nI 10) pv so st gs gm gu gl aw) H → va_D A (WM K mm ta sl ss be ch th M2 (nI 6) (nI 10) pv so st gs gm gu gl aw) → va_S A s.heap H locs → lv_has ls 3 [(1, .int (nI k)), (0, .ref (mm 0))] → W p l e ({ frames := 4, cells := 0, slots := 0, locals := 105 } : Room) s m [.ref (mm 0)].toArray below meth c H locs 0 0 (MQ below (va_Qv (fun (u : (Nat → Nat → Int64) × (Nat → Int32) × Int32) => SolvedM (TQ d (dn d 8 2)) 6 10 u.1 u.2.1 u.2.2) (fun (u : (Nat → Nat → Int64) × (Nat → Int32) × Int32) t => cB D K A (WM K mm ta sl ss be ch th u.1 (nI 6) (nI 10) u.2.1 u.2.2 st gs gm gu gl aw) t) A) [.ref (mm 0)].toArray s 0 0 A) (F0 m 148 ls []) := by
          intro fuel
          induction fuel with
          | zero =>
            intro k M2 H locs ls hfu
            exact absurd hfu (Nat.not_lt_zero _)
          | succ fuel ih148 =>
            intro k M2 H locs ls hfu hk hz hP hD hS hl
            refine lv_iload_n hx hb dX7_layTorques_148 rfl (lv_at hl 0 rfl) ?_
            refine lv_aload_n hx hb dX7_layTorques_149 rfl (lv_at hl 1 rfl) ?_
            refine va_get (D := D) (ci := 7) (C := RX7) (T := TX7) (N := 17) hx hb hts iX7 hown hK hP 0 rfl rfl 0 (by decide) (hts _ k_f_X7_7) (fun _ h9 => h9) rfl dX7_layTorques_150 ?_
            refine lv_bipush (v := nI 34) hx hb dX7_layTorques_153 (by decide) ?_
            refine n_iald hx hb hK hP 1 0 rfl rfl (i := 34) (n := 36) (by omega) (by decide) dX7_layTorques_155 ?_
            refine t_i (show _ = nI m1 from h34) ?_
            refine b_icmp_ge hx hb (nI_toIntI (by omega)) (nI_toIntI (by omega)) dX7_layTorques_156 (tgt := 238) (by decide) (fun c156 => ?_) (fun c156 => ?_)
            · refine lv_aload_n hx hb dX7_layTorques_238 rfl (lv_at hl 1 rfl) ?_
              have hMe : ∀ i, i < 6 → tI M2 i = tqM d ge i := fun i hi => by
                funext j
                by_cases q : j < 11
                · rw [tI_at q, hz i j hi q, show k = m1 by omega, mT_tq hn1 hm1 hi]
                · rw [tI_out q]; exact (tqM_far q).symm
              have hFc := freeAll hD hS hA
              refine va_callv (va_runV (As := []) (rest := []) ⟨hx, hb, hml, hown, hts⟩ (c_X7_solve l D K mm ta sl ss be ch th M2 (nI 6) (nI 10) pv so st gs gm gu gl aw 6 10 H.size (by decide) (by decide) rfl rfl (mT_MB hMe (MB_tqM hd ge 6)) (fun i j hi hj => by rw [hMe i hi]; exact tqM_ent hd ge i j) (fun i hi j z1 z2 => by omega)) (cwV 0 hts (TB_V k_m_X7_114 k_im_X7_solve k_se_X7_solve k_in_X7 k_co_X7_solve (fun _ h => h)) rfl rfl rfl (by decide +kernel) ⟨Nat.le_of_ble_eq_true rfl, Nat.le_of_ble_eq_true rfl⟩) ⟨cP_blind, va_recv hK hP (ci := 7) (q0 := 0) rfl rfl, cP_of hP hK hD⟩ rfl rfl hl.1 rfl (lv_room (Nat.le_of_ble_eq_true rfl)) dX7_layTorques_239 ⟨Nat.le_of_ble_eq_true rfl, Nat.le_of_ble_eq_true rfl⟩) hS (fun q _ h => hFc q h) hFc (fun u5 t9 H locs ht9 hvm hw hB hz1 hk1 hS => ?_)
              obtain ⟨hP, hK1, hD1⟩ := hB
              rw [ht9] at hP
              have hD := hD1.weaken (fun _ _ _ h => hFc _ h)
              have hP : va_P D vwCl (WM K mm ta sl ss be ch th u5.1 (nI 6) (nI 10) u5.2.1 u5.2.2 st gs gm gu gl aw) H := hP
              have hD : va_D A (WM K mm ta sl ss be ch th u5.1 (nI 6) (nI 10) u5.2.1 u5.2.2 st gs gm gu gl aw) := hD
              rw [mT_HS hMe, ← hg1] at hw
              exact W.vret hx hb hr (fun t9 ht9 hW => ⟨⟨u5, rfl, hw, by rw [ht9]; exact hP, va_K.moved hW.alike hK, hD⟩, hS.F ht9⟩) hS.2.2 dX7_layTorques_242
            refine lv_aload_n hx hb dX7_layTorques_159 rfl (lv_at hl 1 rfl) ?_
            refine va_get (D := D) (ci := 7) (C := RX7) (T := TX7) (N := 17) hx hb hts iX7 hown hK hP 0 rfl rfl 0 (by decide) (hts _ k_f_X7_7) (fun _ h9 => h9) rfl dX7_layTorques_160 ?_
            refine lv_bipush (v := nI 35) hx hb dX7_layTorques_163 (by decide) ?_
            refine n_iald hx hb hK hP 1 0 rfl rfl (i := 35) (n := 36) (by omega) (by decide) dX7_layTorques_165 ?_
            refine t_i (show _ = nI ge from h35) ?_
            refine lv_iload_n hx hb dX7_layTorques_166 rfl (lv_at hl 0 rfl) ?_
            refine va_calli (va_runS (As := [.int (nI ge), .int (nI k)]) (rest := []) ⟨hx, hb, hml, hown, hts⟩ (c_X7_has l k ge (by omega) (by omega)) (va_cwS 2 hts (TB_S k_m_X7_73 k_st_X7_has k_in_X7 k_co_X7_has (fun _ h => h)) rfl rfl rfl (by decide +kernel) ⟨Nat.le_of_ble_eq_true rfl, Nat.le_of_ble_eq_true rfl⟩) ⟨tP_blind, tP_of⟩ rfl rfl hl.1 rfl (lv_room (Nat.le_of_ble_eq_true rfl)) dX7_layTorques_167 ⟨Nat.le_of_ble_eq_true rfl, Nat.le_of_ble_eq_true rfl⟩) hS (fun q _ h => absurd h id) (fun q h => absurd h id) (fun hz9 u9 t9 H locs ht9 hvm hw hB hz1 hk1 hS => ?_)
            have hP := P_same hP hk1
            by_cases htb : ge.testBit k = true
            rotate_left
            · refine t_i (hw.trans (bI_f htb).symm) ?_
              refine b_if_eq hx hb (nI_toIntI (by omega)) dX7_layTorques_170 (tgt := 232) (by decide) (fun c170 => ?_) (fun c170 => absurd c170 (by omega))
              refine lv_iinc (v := nI (k + 1)) (lv' := [(1, .int (nI (k + 1))), (0, .ref (mm 0))]) hx hb dX7_layTorques_232 hl (k := 0) rfl (nI_add k 1) (by decide) rfl (fun ls hl => ?_)
              refine lv_goto (tgt := 148) hx hb dX7_layTorques_235 (by decide) ?_
              exact ih148 (k + 1) M2 _ _ _ (by omega) (by omega) (layT_skip htb hz) hP hD hS (lv_sub hl [0, 1] rfl)
            refine t_i (hw.trans (bI_t htb).symm) ?_
            refine b_if_eq hx hb (nI_toIntI (by omega)) dX7_layTorques_170 (tgt := 232) (by decide) (fun c170 => absurd c170 (by omega)) (fun c170 => ?_)
            obtain ⟨f9, c9, hf9, q5, q6, -, -, -⟩ := he9 k (by omega)
            have ht5 : ta (15 + k) = nI f9 := (ha2 k (by omega)).1.trans q5
            have ht6 : ta (21 + k) = d 6 k := (ha2 k (by omega)).2.1
            refine lv_aload_n hx hb dX7_layTorques_173 rfl (lv_at hl 1 rfl) ?_
            refine va_get (D := D) (ci := 7) (C := RX7) (T := TX7) (N := 17) hx hb hts iX7 hown hK hP 0 rfl rfl 6 (by decide) (hts _ k_f_X7_23) (fun _ h9 => h9) rfl dX7_layTorques_174 ?_
            refine lv_bipush (v := nI 11) hx hb dX7_layTorques_177 (by decide) ?_
            refine lv_aload_n hx hb dX7_layTorques_179 rfl (lv_at hl 1 rfl) ?_
            refine va_get (D := D) (ci := 7) (C := RX7) (T := TX7) (N := 17) hx hb hts iX7 hown hK hP 0 rfl rfl 0 (by decide) (hts _ k_f_X7_7) (fun _ h9 => h9) rfl dX7_layTorques_180 ?_
            refine lv_bipush (v := nI 15) hx hb dX7_layTorques_183 (by decide) ?_
            refine lv_iload_n hx hb dX7_layTorques_185 rfl (lv_at hl 0 rfl) ?_
            refine lv_iadd hx hb dX7_layTorques_186 ?_
            refine t_i (nI_add _ _) ?_
            refine n_iald hx hb hK hP 1 0 rfl rfl (i := 15 + k) (n := 36) (by omega) (by decide) dX7_layTorques_187 ?_
            refine t_i (show _ = nI f9 from ht5) ?_
            refine lv_imul hx hb dX7_layTorques_188 ?_
            refine t_i (pk_mul _ _) ?_
            refine lv_iconst (v := nI 4) hx hb dX7_layTorques_189 (by decide) ?_
            refine lv_iadd hx hb dX7_layTorques_190 ?_
            refine t_i (nI_add _ _) ?_
            refine lv_iload_n hx hb dX7_layTorques_191 rfl (lv_at hl 0 rfl) ?_
            refine lv_iadd hx hb dX7_layTorques_192 ?_
            refine t_i (nI_add _ _) ?_
            refine lv_lconst (v := 1) hx hb dX7_layTorques_193 (by decide) ?_
            refine n_last hx hb hK hP hD hS 5 1 rfl rfl (i := 11 * f9 + 4 + k) (n := 121) (by omega) (by decide) dX7_layTorques_194 (fun H locs hP hD hS => ?_)
            have hcs : vp_updL (cL M2) (11 * f9 + 4 + k) (1 : Int64) = cL (setM M2 f9 (4 + k) (1 : Int64)) := cL_set (by omega) (by omega)
            have hP : va_P D vwCl (WM K mm ta sl ss be ch th (setM M2 f9 (4 + k) (1 : Int64)) (nI 6) (nI 10) pv so st gs gm gu gl aw) H := by unfold WM; rw [← hcs]; exact hP
            have hD : va_D A (WM K mm ta sl ss be ch th (setM M2 f9 (4 + k) (1 : Int64)) (nI 6) (nI 10) pv so st gs gm gu gl aw) := by unfold WM; rw [← hcs]; exact hD
            have hP : va_P D vwCl (WM K mm ta sl ss be ch th (setM M2 f9 (4 + k) (1 : Int64)) (nI 6) (nI 10) pv so st gs gm gu gl aw) H := hP
            have hD : va_D A (WM K mm ta sl ss be ch th (setM M2 f9 (4 + k) (1 : Int64)) (nI 6) (nI 10) pv so st gs gm gu gl aw) := hD
            refine lv_aload_n hx hb dX7_layTorques_195 rfl (lv_at hl 1 rfl) ?_
            refine va_get (D := D) (ci := 7) (C := RX7) (T := TX7) (N := 17) hx hb hts iX7 hown hK hP 0 rfl rfl 0 (by decide) (hts _ k_f_X7_7) (fun _ h9 => h9) rfl dX7_layTorques_196 ?_
            refine lv_bipush (v := nI 21) hx hb dX7_layTorques_199 (by decide) ?_
            refine lv_iload_n hx hb dX7_layTorques_201 rfl (lv_at hl 0 rfl) ?_
            refine lv_iadd hx hb dX7_layTorques_202 ?_
            refine t_i (nI_add _ _) ?_
            refine n_iald hx hb hK hP 1 0 rfl rfl (i := 21 + k) (n := 36) (by omega) (by decide) dX7_layTorques_203 ?_
            refine lv_iconst (v := (-1)) hx hb dX7_layTorques_204 (by decide) ?_
            refine b_icmp_eq hx hb rfl (show (-1 : Int32).toInt = -1 by decide) dX7_layTorques_205 (tgt := 232) (by decide) (fun c205 => ?_) (fun c205 => ?_)
            · refine lv_iinc (v := nI (k + 1)) (lv' := [(1, .int (nI (k + 1))), (0, .ref (mm 0))]) hx hb dX7_layTorques_232 hl (k := 0) rfl (nI_add k 1) (by decide) rfl (fun ls hl => ?_)
              refine lv_goto (tgt := 148) hx hb dX7_layTorques_235 (by decide) ?_
              have q7 : d 6 k = -1 := by rw [← ht6]; exact (i32_eq _ _).mpr (by rw [show (-1 : Int32).toInt = -1 by decide]; omega)
              exact ih148 (k + 1) (setM M2 f9 (4 + k) (1 : Int64)) _ _ _ (by omega) (by omega) (layT_el (by omega) htb hz (fun i j hj => setM_col hj) (fun j hj h9 => by rw [setM_apply]; simp only [and_true]; exact elc_one q5 q7 hf9 h9)) hP hD hS (lv_sub hl [0, 1] rfl)
            obtain ⟨b9, hb9, hbf, q7⟩ : ∃ b : Nat, b < 6 ∧ b ≠ f9 ∧ d 6 k = nI b := by
              rcases q6 with e | e
              · exfalso; rw [ht6, e] at c205; exact absurd (show (-1 : Int32).toInt = -1 by decide) (by omega)
              · exact e
            have ht7 := ht6.trans q7
            refine lv_aload_n hx hb dX7_layTorques_208 rfl (lv_at hl 1 rfl) ?_
            refine va_get (D := D) (ci := 7) (C := RX7) (T := TX7) (N := 17) hx hb hts iX7 hown hK hP 0 rfl rfl 6 (by decide) (hts _ k_f_X7_23) (fun _ h9 => h9) rfl dX7_layTorques_209 ?_
            refine lv_bipush (v := nI 11) hx hb dX7_layTorques_212 (by decide) ?_
            refine lv_aload_n hx hb dX7_layTorques_214 rfl (lv_at hl 1 rfl) ?_
            refine va_get (D := D) (ci := 7) (C := RX7) (T := TX7) (N := 17) hx hb hts iX7 hown hK hP 0 rfl rfl 0 (by decide) (hts _ k_f_X7_7) (fun _ h9 => h9) rfl dX7_layTorques_215 ?_
            refine lv_bipush (v := nI 21) hx hb dX7_layTorques_218 (by decide) ?_
            refine lv_iload_n hx hb dX7_layTorques_220 rfl (lv_at hl 0 rfl) ?_
            refine lv_iadd hx hb dX7_layTorques_221 ?_
            refine t_i (nI_add _ _) ?_
            refine n_iald hx hb hK hP 1 0 rfl rfl (i := 21 + k) (n := 36) (by omega) (by decide) dX7_layTorques_222 ?_
            refine t_i (show _ = nI b9 from ht7) ?_
            refine lv_imul hx hb dX7_layTorques_223 ?_
            refine t_i (pk_mul _ _) ?_
            refine lv_iconst (v := nI 4) hx hb dX7_layTorques_224 (by decide) ?_
            refine lv_iadd hx hb dX7_layTorques_225 ?_
            refine t_i (nI_add _ _) ?_
            refine lv_iload_n hx hb dX7_layTorques_226 rfl (lv_at hl 0 rfl) ?_
            refine lv_iadd hx hb dX7_layTorques_227 ?_
            refine t_i (nI_add _ _) ?_
            refine lv_ldc2 hx hb hown (hts _ k_kl_X7_112) dX7_layTorques_228 ?_
            refine n_last hx hb hK hP hD hS 5 1 rfl rfl (i := 11 * b9 + 4 + k) (n := 121) (by omega) (by decide) dX7_layTorques_231 (fun H locs hP hD hS => ?_)
            have hcs : vp_updL (cL (setM M2 f9 (4 + k) (1 : Int64))) (11 * b9 + 4 + k) (-1 : Int64) = cL (setM (setM M2 f9 (4 + k) (1 : Int64)) b9 (4 + k) (-1 : Int64)) := cL_set (by omega) (by omega)
            have hP : va_P D vwCl (WM K mm ta sl ss be ch th (setM (setM M2 f9 (4 + k) (1 : Int64)) b9 (4 + k) (-1 : Int64)) (nI 6) (nI 10) pv so st gs gm gu gl aw) H := by unfold WM; rw [← hcs]; exact hP
            have hD : va_D A (WM K mm ta sl ss be ch th (setM (setM M2 f9 (4 + k) (1 : Int64)) b9 (4 + k) (-1 : Int64)) (nI 6) (nI 10) pv so st gs gm gu gl aw) := by unfold WM; rw [← hcs]; exact hD
            have hP : va_P D vwCl (WM K mm ta sl ss be ch th (setM (setM M2 f9 (4 + k) (1 : Int64)) b9 (4 + k) (-1 : Int64)) (nI 6) (nI 10) pv so st gs gm gu gl aw) H := hP
            have hD : va_D A (WM K mm ta sl ss be ch th (setM (setM M2 f9 (4 + k) (1 : Int64)) b9 (4 + k) (-1 : Int64)) (nI 6) (nI 10) pv so st gs gm gu gl aw) := hD
            refine lv_iinc (v := nI (k + 1)) (lv' := [(1, .int (nI (k + 1))), (0, .ref (mm 0))]) hx hb dX7_layTorques_232 hl (k := 0) rfl (nI_add k 1) (by decide) rfl (fun ls hl => ?_)
            refine lv_goto (tgt := 148) hx hb dX7_layTorques_235 (by decide) ?_
            exact ih148 (k + 1) (setM (setM M2 f9 (4 + k) (1 : Int64)) b9 (4 + k) (-1 : Int64)) _ _ _ (by omega) (by omega) (layT_el (by omega) htb hz (fun i j hj => (setM_col hj).trans (setM_col hj)) (fun j hj h9 => by rw [setM_apply, setM_apply]; simp only [and_true]; exact elc_two q5 q7 hf9 hb9 hbf h9)) hP hD hS (lv_sub hl [0, 1] rfl)
        exact L148 _ 0 M2 _ _ _ (Nat.lt_succ_self _) (by omega) hz hP hD hS (lv_sub hl [0, 1] rfl)
      obtain ⟨a9, b9, c9, s9, r9, hv1, hv2, hv3, q0, q1, q2, q3, q4⟩ := hs9 k (by omega)
      have hta0 : ta (0 + 5 * k) = nI a9 := by rw [show 0 + 5 * k = 5 * k + 0 by omega, ha1 k 0 (by omega) (by omega)]; exact q0
      have hta1 : ta (0 + 5 * k + 1) = nI b9 := by rw [show 0 + 5 * k + 1 = 5 * k + 1 by omega, ha1 k 1 (by omega) (by omega)]; exact q1
      have hta2 : ta (0 + 5 * k + 2) = nI c9 := by rw [show 0 + 5 * k + 2 = 5 * k + 2 by omega, ha1 k 2 (by omega) (by omega)]; exact q2
      have hta3 : ta (0 + 5 * k + 3) = nI s9 := by rw [show 0 + 5 * k + 3 = 5 * k + 3 by omega, ha1 k 3 (by omega) (by omega)]; exact q3
      have hta4 : ta (0 + 5 * k + 4) = nI r9 := by rw [show 0 + 5 * k + 4 = 5 * k + 4 by omega, ha1 k 4 (by omega) (by omega)]; exact q4
      refine lv_iconst (v := nI 0) hx hb dX7_layTorques_39 (by decide) ?_
      refine lv_iconst (v := nI 5) hx hb dX7_layTorques_40 (by decide) ?_
      refine lv_iload_n hx hb dX7_layTorques_41 rfl (lv_at hl 0 rfl) ?_
      refine lv_imul hx hb dX7_layTorques_42 ?_
      refine t_i (pk_mul _ _) ?_
      refine lv_iadd hx hb dX7_layTorques_43 ?_
      refine t_i (nI_add _ _) ?_
      refine lv_istore_n (lv' := [(2, .int (nI (0 + 5 * k))), (1, .int (nI k)), (0, .ref (mm 0))]) hx hb dX7_layTorques_44 rfl hl (by decide) rfl (fun ls hl => ?_)
      refine lv_aload_n hx hb dX7_layTorques_45 rfl (lv_at hl 2 rfl) ?_
      refine va_get (D := D) (ci := 7) (C := RX7) (T := TX7) (N := 17) hx hb hts iX7 hown hK hP 0 rfl rfl 6 (by decide) (hts _ k_f_X7_23) (fun _ h9 => h9) rfl dX7_layTorques_46 ?_
      refine lv_bipush (v := nI 11) hx hb dX7_layTorques_49 (by decide) ?_
      refine lv_aload_n hx hb dX7_layTorques_51 rfl (lv_at hl 2 rfl) ?_
      refine va_get (D := D) (ci := 7) (C := RX7) (T := TX7) (N := 17) hx hb hts iX7 hown hK hP 0 rfl rfl 0 (by decide) (hts _ k_f_X7_7) (fun _ h9 => h9) rfl dX7_layTorques_52 ?_
      refine lv_iload_n hx hb dX7_layTorques_55 rfl (lv_at hl 0 rfl) ?_
      refine n_iald hx hb hK hP 1 0 rfl rfl (i := 0 + 5 * k) (n := 36) (by omega) (by decide) dX7_layTorques_56 ?_
      refine t_i (show _ = nI a9 from hta0) ?_
      refine lv_imul hx hb dX7_layTorques_57 ?_
      refine t_i (pk_mul _ _) ?_
      refine lv_iconst (v := nI 1) hx hb dX7_layTorques_58 (by decide) ?_
      refine lv_iadd hx hb dX7_layTorques_59 ?_
      refine t_i (nI_add _ _) ?_
      refine lv_iload_n hx hb dX7_layTorques_60 rfl (lv_at hl 1 rfl) ?_
      refine lv_iadd hx hb dX7_layTorques_61 ?_
      refine t_i (nI_add _ _) ?_
      refine lv_aload_n hx hb dX7_layTorques_62 rfl (lv_at hl 2 rfl) ?_
      refine va_get (D := D) (ci := 7) (C := RX7) (T := TX7) (N := 17) hx hb hts iX7 hown hK hP 0 rfl rfl 0 (by decide) (hts _ k_f_X7_7) (fun _ h9 => h9) rfl dX7_layTorques_63 ?_
      refine lv_iload_n hx hb dX7_layTorques_66 rfl (lv_at hl 0 rfl) ?_
      refine lv_iconst (v := nI 3) hx hb dX7_layTorques_67 (by decide) ?_
      refine lv_iadd hx hb dX7_layTorques_68 ?_
      refine t_i (nI_add _ _) ?_
      refine n_iald hx hb hK hP 1 0 rfl rfl (i := 0 + 5 * k + 3) (n := 36) (by omega) (by decide) dX7_layTorques_69 ?_
      refine t_i (show _ = nI s9 from hta3) ?_
      refine lv_i2l (v := (nI s9).toInt64) hx hb dX7_layTorques_70 rfl ?_
      refine n_last hx hb hK hP hD hS 5 1 rfl rfl (i := 11 * a9 + 1 + k) (n := 121) (by omega) (by decide) dX7_layTorques_71 (fun H locs hP hD hS => ?_)
      have hcs : vp_updL (cL M2) (11 * a9 + 1 + k) ((nI s9).toInt64) = cL (setM M2 a9 (1 + k) ((nI s9).toInt64)) := cL_set (by omega) (by omega)
      have hP : va_P D vwCl (WM K mm ta sl ss be ch th (setM M2 a9 (1 + k) ((nI s9).toInt64)) (nI 6) (nI 10) pv so st gs gm gu gl aw) H := by unfold WM; rw [← hcs]; exact hP
      have hD : va_D A (WM K mm ta sl ss be ch th (setM M2 a9 (1 + k) ((nI s9).toInt64)) (nI 6) (nI 10) pv so st gs gm gu gl aw) := by unfold WM; rw [← hcs]; exact hD
      have hP : va_P D vwCl (WM K mm ta sl ss be ch th (setM M2 a9 (1 + k) ((nI s9).toInt64)) (nI 6) (nI 10) pv so st gs gm gu gl aw) H := hP
      have hD : va_D A (WM K mm ta sl ss be ch th (setM M2 a9 (1 + k) ((nI s9).toInt64)) (nI 6) (nI 10) pv so st gs gm gu gl aw) := hD
      refine lv_aload_n hx hb dX7_layTorques_72 rfl (lv_at hl 2 rfl) ?_
      refine va_get (D := D) (ci := 7) (C := RX7) (T := TX7) (N := 17) hx hb hts iX7 hown hK hP 0 rfl rfl 6 (by decide) (hts _ k_f_X7_23) (fun _ h9 => h9) rfl dX7_layTorques_73 ?_
      refine lv_bipush (v := nI 11) hx hb dX7_layTorques_76 (by decide) ?_
      refine lv_aload_n hx hb dX7_layTorques_78 rfl (lv_at hl 2 rfl) ?_
      refine va_get (D := D) (ci := 7) (C := RX7) (T := TX7) (N := 17) hx hb hts iX7 hown hK hP 0 rfl rfl 0 (by decide) (hts _ k_f_X7_7) (fun _ h9 => h9) rfl dX7_layTorques_79 ?_
      refine lv_iload_n hx hb dX7_layTorques_82 rfl (lv_at hl 0 rfl) ?_
      refine lv_iconst (v := nI 1) hx hb dX7_layTorques_83 (by decide) ?_
      refine lv_iadd hx hb dX7_layTorques_84 ?_
      refine t_i (nI_add _ _) ?_
      refine n_iald hx hb hK hP 1 0 rfl rfl (i := 0 + 5 * k + 1) (n := 36) (by omega) (by decide) dX7_layTorques_85 ?_
      refine t_i (show _ = nI b9 from hta1) ?_
      refine lv_imul hx hb dX7_layTorques_86 ?_
      refine t_i (pk_mul _ _) ?_
      refine lv_iconst (v := nI 1) hx hb dX7_layTorques_87 (by decide) ?_
      refine lv_iadd hx hb dX7_layTorques_88 ?_
      refine t_i (nI_add _ _) ?_
      refine lv_iload_n hx hb dX7_layTorques_89 rfl (lv_at hl 1 rfl) ?_
      refine lv_iadd hx hb dX7_layTorques_90 ?_
      refine t_i (nI_add _ _) ?_
      refine lv_aload_n hx hb dX7_layTorques_91 rfl (lv_at hl 2 rfl) ?_
      refine va_get (D := D) (ci := 7) (C := RX7) (T := TX7) (N := 17) hx hb hts iX7 hown hK hP 0 rfl rfl 0 (by decide) (hts _ k_f_X7_7) (fun _ h9 => h9) rfl dX7_layTorques_92 ?_
      refine lv_iload_n hx hb dX7_layTorques_95 rfl (lv_at hl 0 rfl) ?_
      refine lv_iconst (v := nI 4) hx hb dX7_layTorques_96 (by decide) ?_
      refine lv_iadd hx hb dX7_layTorques_97 ?_
      refine t_i (nI_add _ _) ?_
      refine n_iald hx hb hK hP 1 0 rfl rfl (i := 0 + 5 * k + 4) (n := 36) (by omega) (by decide) dX7_layTorques_98 ?_
      refine t_i (show _ = nI r9 from hta4) ?_
      refine lv_i2l (v := (nI r9).toInt64) hx hb dX7_layTorques_99 rfl ?_
      refine n_last hx hb hK hP hD hS 5 1 rfl rfl (i := 11 * b9 + 1 + k) (n := 121) (by omega) (by decide) dX7_layTorques_100 (fun H locs hP hD hS => ?_)
      have hcs : vp_updL (cL (setM M2 a9 (1 + k) ((nI s9).toInt64))) (11 * b9 + 1 + k) ((nI r9).toInt64) = cL (setM (setM M2 a9 (1 + k) ((nI s9).toInt64)) b9 (1 + k) ((nI r9).toInt64)) := cL_set (by omega) (by omega)
      have hP : va_P D vwCl (WM K mm ta sl ss be ch th (setM (setM M2 a9 (1 + k) ((nI s9).toInt64)) b9 (1 + k) ((nI r9).toInt64)) (nI 6) (nI 10) pv so st gs gm gu gl aw) H := by unfold WM; rw [← hcs]; exact hP
      have hD : va_D A (WM K mm ta sl ss be ch th (setM (setM M2 a9 (1 + k) ((nI s9).toInt64)) b9 (1 + k) ((nI r9).toInt64)) (nI 6) (nI 10) pv so st gs gm gu gl aw) := by unfold WM; rw [← hcs]; exact hD
      have hP : va_P D vwCl (WM K mm ta sl ss be ch th (setM (setM M2 a9 (1 + k) ((nI s9).toInt64)) b9 (1 + k) ((nI r9).toInt64)) (nI 6) (nI 10) pv so st gs gm gu gl aw) H := hP
      have hD : va_D A (WM K mm ta sl ss be ch th (setM (setM M2 a9 (1 + k) ((nI s9).toInt64)) b9 (1 + k) ((nI r9).toInt64)) (nI 6) (nI 10) pv so st gs gm gu gl aw) := hD
      refine lv_aload_n hx hb dX7_layTorques_101 rfl (lv_at hl 2 rfl) ?_
      refine va_get (D := D) (ci := 7) (C := RX7) (T := TX7) (N := 17) hx hb hts iX7 hown hK hP 0 rfl rfl 6 (by decide) (hts _ k_f_X7_23) (fun _ h9 => h9) rfl dX7_layTorques_102 ?_
      refine lv_bipush (v := nI 11) hx hb dX7_layTorques_105 (by decide) ?_
      refine lv_aload_n hx hb dX7_layTorques_107 rfl (lv_at hl 2 rfl) ?_
      refine va_get (D := D) (ci := 7) (C := RX7) (T := TX7) (N := 17) hx hb hts iX7 hown hK hP 0 rfl rfl 0 (by decide) (hts _ k_f_X7_7) (fun _ h9 => h9) rfl dX7_layTorques_108 ?_
      refine lv_iload_n hx hb dX7_layTorques_111 rfl (lv_at hl 0 rfl) ?_
      refine lv_iconst (v := nI 2) hx hb dX7_layTorques_112 (by decide) ?_
      refine lv_iadd hx hb dX7_layTorques_113 ?_
      refine t_i (nI_add _ _) ?_
      refine n_iald hx hb hK hP 1 0 rfl rfl (i := 0 + 5 * k + 2) (n := 36) (by omega) (by decide) dX7_layTorques_114 ?_
      refine t_i (show _ = nI c9 from hta2) ?_
      refine lv_imul hx hb dX7_layTorques_115 ?_
      refine t_i (pk_mul _ _) ?_
      refine lv_iconst (v := nI 1) hx hb dX7_layTorques_116 (by decide) ?_
      refine lv_iadd hx hb dX7_layTorques_117 ?_
      refine t_i (nI_add _ _) ?_
      refine lv_iload_n hx hb dX7_layTorques_118 rfl (lv_at hl 1 rfl) ?_
      refine lv_iadd hx hb dX7_layTorques_119 ?_
      refine t_i (nI_add _ _) ?_
      refine lv_aload_n hx hb dX7_layTorques_120 rfl (lv_at hl 2 rfl) ?_
      refine va_get (D := D) (ci := 7) (C := RX7) (T := TX7) (N := 17) hx hb hts iX7 hown hK hP 0 rfl rfl 0 (by decide) (hts _ k_f_X7_7) (fun _ h9 => h9) rfl dX7_layTorques_121 ?_
      refine lv_iload_n hx hb dX7_layTorques_124 rfl (lv_at hl 0 rfl) ?_
      refine lv_iconst (v := nI 3) hx hb dX7_layTorques_125 (by decide) ?_
      refine lv_iadd hx hb dX7_layTorques_126 ?_
      refine t_i (nI_add _ _) ?_
      refine n_iald hx hb hK hP 1 0 rfl rfl (i := 0 + 5 * k + 3) (n := 36) (by omega) (by decide) dX7_layTorques_127 ?_
      refine t_i (show _ = nI s9 from hta3) ?_
      refine lv_ineg hx hb dX7_layTorques_128 ?_
      refine lv_aload_n hx hb dX7_layTorques_129 rfl (lv_at hl 2 rfl) ?_
      refine va_get (D := D) (ci := 7) (C := RX7) (T := TX7) (N := 17) hx hb hts iX7 hown hK hP 0 rfl rfl 0 (by decide) (hts _ k_f_X7_7) (fun _ h9 => h9) rfl dX7_layTorques_130 ?_
      refine lv_iload_n hx hb dX7_layTorques_133 rfl (lv_at hl 0 rfl) ?_
      refine lv_iconst (v := nI 4) hx hb dX7_layTorques_134 (by decide) ?_
      refine lv_iadd hx hb dX7_layTorques_135 ?_
      refine t_i (nI_add _ _) ?_
      refine n_iald hx hb hK hP 1 0 rfl rfl (i := 0 + 5 * k + 4) (n := 36) (by omega) (by decide) dX7_layTorques_136 ?_
      refine t_i (show _ = nI r9 from hta4) ?_
      refine lv_isub hx hb dX7_layTorques_137 ?_
      refine lv_i2l (v := ((-(nI s9)) - (nI r9)).toInt64) hx hb dX7_layTorques_138 rfl ?_
      refine n_last hx hb hK hP hD hS 5 1 rfl rfl (i := 11 * c9 + 1 + k) (n := 121) (by omega) (by decide) dX7_layTorques_139 (fun H locs hP hD hS => ?_)
      have hcs : vp_updL (cL (setM (setM M2 a9 (1 + k) ((nI s9).toInt64)) b9 (1 + k) ((nI r9).toInt64))) (11 * c9 + 1 + k) (((-(nI s9)) - (nI r9)).toInt64) = cL (setM (setM (setM M2 a9 (1 + k) ((nI s9).toInt64)) b9 (1 + k) ((nI r9).toInt64)) c9 (1 + k) (((-(nI s9)) - (nI r9)).toInt64)) := cL_set (by omega) (by omega)
      have hP : va_P D vwCl (WM K mm ta sl ss be ch th (setM (setM (setM M2 a9 (1 + k) ((nI s9).toInt64)) b9 (1 + k) ((nI r9).toInt64)) c9 (1 + k) (((-(nI s9)) - (nI r9)).toInt64)) (nI 6) (nI 10) pv so st gs gm gu gl aw) H := by unfold WM; rw [← hcs]; exact hP
      have hD : va_D A (WM K mm ta sl ss be ch th (setM (setM (setM M2 a9 (1 + k) ((nI s9).toInt64)) b9 (1 + k) ((nI r9).toInt64)) c9 (1 + k) (((-(nI s9)) - (nI r9)).toInt64)) (nI 6) (nI 10) pv so st gs gm gu gl aw) := by unfold WM; rw [← hcs]; exact hD
      have hP : va_P D vwCl (WM K mm ta sl ss be ch th (setM (setM (setM M2 a9 (1 + k) ((nI s9).toInt64)) b9 (1 + k) ((nI r9).toInt64)) c9 (1 + k) (((-(nI s9)) - (nI r9)).toInt64)) (nI 6) (nI 10) pv so st gs gm gu gl aw) H := hP
      have hD : va_D A (WM K mm ta sl ss be ch th (setM (setM (setM M2 a9 (1 + k) ((nI s9).toInt64)) b9 (1 + k) ((nI r9).toInt64)) c9 (1 + k) (((-(nI s9)) - (nI r9)).toInt64)) (nI 6) (nI 10) pv so st gs gm gu gl aw) := hD
      refine lv_iinc (v := nI (k + 1)) (lv' := [(1, .int (nI (k + 1))), (2, .int (nI (0 + 5 * k))), (0, .ref (mm 0))]) hx hb dX7_layTorques_140 hl (k := 1) rfl (nI_add k 1) (by decide) rfl (fun ls hl => ?_)
      refine lv_goto (tgt := 28) hx hb dX7_layTorques_143 (by decide) ?_
      exact ih28 (k + 1) (setM (setM (setM M2 a9 (1 + k) ((nI s9).toInt64)) b9 (1 + k) ((nI r9).toInt64)) c9 (1 + k) (((-(nI s9)) - (nI r9)).toInt64)) _ _ _ (by omega) (by omega) (layT_set (n := n) (by omega) hn hv1 hv2 hv3 q0 q1 q2 q3 q4 hz) hP hD hS (lv_sub hl [0, 2] rfl)
  exact L28 _ 0 (setM (setM u0 0 10 (-1 : Int64)) 1 0 (1 : Int64)) _ _ _ (Nat.lt_succ_self _) (by omega) (layT_0 hu0) hP hD hS (lv_sub hl [0, 1] rfl)
