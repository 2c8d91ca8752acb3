/-! PlanetaryGearboxModel: rows -/
theorem setM_apply (M : Nat → Nat → Int64) (a b : Nat) (x : Int64) (i j : Nat) : setM M a b x i j = if i = a ∧ j = b then x else M i j := by
  unfold setM
  by_cases h : i = a
  · subst h
    rw [if_pos rfl]
    by_cases h2 : j = b
    · subst h2; rw [if_pos ⟨rfl, rfl⟩]; exact if_pos rfl
    · rw [if_neg (fun z => h2 z.2)]; exact if_neg h2
  · rw [if_neg h, if_neg (fun z => h z.1)]
theorem swM_step {M M2 : Nat → Nat → Int64} {r q c : Nat} (h : ∀ i j, M2 i j = if j < c then M (sw r q i) j else M i j) : ∀ i j, setM (setM M2 r c (M2 q c)) q c (M2 r c) i j = if j < c + 1 then M (sw r q i) j else M i j := by
  intro i j
  have hr : M2 r c = M r c := by rw [h, if_neg (Nat.lt_irrefl c)]
  have hq : M2 q c = M q c := by rw [h, if_neg (Nat.lt_irrefl c)]
  rw [setM_apply, setM_apply, hr, hq, h i j]
  by_cases hj : j = c
  · subst hj
    rw [if_neg (Nat.lt_irrefl j), if_pos (Nat.lt_succ_self j)]
    unfold sw
    by_cases h1 : i = q
    · subst h1
      rw [if_pos ⟨rfl, rfl⟩]
      by_cases h2 : i = r
      · rw [if_pos h2, ← h2]
      · rw [if_neg h2, if_pos rfl]
    · rw [if_neg (fun z => h1 z.1)]
      by_cases h2 : i = r
      · rw [if_pos ⟨h2, rfl⟩, if_pos h2]
      · rw [if_neg (fun z => h2 z.1), if_neg h2, if_neg h1]
  · rw [if_neg (fun z => hj z.2), if_neg (fun z => hj z.2)]
    by_cases h1 : j < c
    · rw [if_pos h1, if_pos (by omega)]
    · rw [if_neg h1, if_neg (by omega)]
set_option maxHeartbeats 4000000 in
set_option maxRecDepth 100000 in
theorem c_X7_swap (l : Launch) (D : va_G) (K : Nat → ClassId) (mm : Nat → Nat) (ta : Nat → Int32) (sl : Nat → Int32) (ss : Nat → Int32) (be : Nat → Int32) (ch : Int32) (th : Int32) (M : Nat → Nat → Int64) (rq : Int32) (cq : Int32) (pv : Nat → Int32) (so : Int32) (st : Nat → Int32) (gs : Int32) (gm : Nat → Int32) (gu : Nat → Int64) (gl : Nat → Int64) (aw : Nat → Int32) (r q : Nat) (sz : Nat) (hr9 : r < 11) (hq9 : q < 11) : Met l yX7_swap (.code yX7_swap cX7_swap 6 none :: TB) ({ frames := 0, cells := 0, slots := 0, locals := 0 } : Room) (va_Pc [.ref (mm 0), .int (nI r), .int (nI q)] (cP D K (WM K mm ta sl ss be ch th M rq cq pv so st gs gm gu gl aw) sz)) (va_Qv (fun (u : Nat → Nat → Int64) => ∀ i j, u i j = if j < 11 then M (sw r q i) j else M i j) (fun (u : Nat → Nat → Int64) t => cB D K (va_A (WM K mm ta sl ss be ch th M rq cq pv so st gs gm gu gl aw) sz) (WM K mm ta sl ss be ch th u rq cq pv so st gs gm gu gl aw) t) (va_A (WM K mm ta sl ss be ch th M rq cq pv so st gs gm gu gl aw) sz)) 0 0 (va_A (WM K mm ta sl ss be ch th M rq cq pv so st gs gm gu gl aw) sz) := by
  refine Met.ofW (cc := cX7_swap) (maxL := 6) (ret := none) (by decide) rfl ?_
  intro p e s m args below meth c s₁ B hml hv
  obtain ⟨rfl, hsz, hP, hK, hD0⟩ := hv
  have hx := B.exec
  have hb := B.bytes
  have hr := B.returns
  have hts := hts_tl (atoms_spec (ws := (.code yX7_swap cX7_swap 6 none :: TB)) B.pre)
  have hown : s.vm.findClass RX7 = some m.cls := findClass_of_methodNamed B.named
  have hlocks := B.notSynchronized
  subst hsz
  have hD := hD0.self (sz := s.heap.size)
  generalize hAe : (va_A (WM K mm ta sl ss be ch th M rq cq pv so st gs gm gu gl aw) s.heap.size) = A at hD ⊢
  have hA : ∀ q : Nat, s.heap.size ≤ q → A q := fun q h => by rw [← hAe]; exact Or.inr h
  have hS : va_S A s.heap s.heap [] := va_S.rf
  have hl := lv_entry ([.ref (mm 0), .int (nI r), .int (nI q)]) (n := 6) (Nat.le_of_ble_eq_true rfl)
  rw [lg_entry_eq]
  generalize (lg_sl ([.ref (mm 0), .int (nI r), .int (nI q)]) ++ List.replicate (6 - (lg_sl ([.ref (mm 0), .int (nI r), .int (nI q)])).length) Slot.unset).toArray = ls at hl ⊢
  have hl : lv_has ls 6 [(0, .ref (mm 0)), (1, .int (nI r)), (2, .int (nI q))] := hl
  refine lv_iconst (v := nI 0) hx hb dX7_swap_0 (by decide) ?_
  refine lv_istore_n (lv' := [(3, .int (nI 0)), (0, .ref (mm 0)), (1, .int (nI r)), (2, .int (nI q))]) hx hb dX7_swap_1 rfl hl (by decide) rfl (fun ls hl => ?_)
  have L2 : ∀ (fuel : Nat) (k : Nat) (M2 : Nat → Nat → Int64) (H : Heap) (locs : List Loc) (ls : Array Slot), 11 - k < fuel → (k ≤ 11) → (∀ i j, M2 i j = if j < k then M (sw r q i) j else M i j) → va_P D vwCl (WM K mm ta sl ss be ch th M2 rq cq pv so st gs gm gu gl aw) H → va_D A (WM K mm ta sl ss be ch th M2 rq cq pv so st gs gm gu gl aw) → va_S A s.heap H locs → lv_has ls 6 [(3, .int (nI k)), (0, .ref (mm 0)), (1, .int (nI r)), (2, .int (nI q))] → W p l e ({ frames := 0, cells := 0, slots := 0, locals := 0 } : Room) s m [.ref (mm 0), .int (nI r), .int (nI q)].toArray below meth c H locs 0 0 (MQ below (va_Qv (fun (u : Nat → Nat → Int64) => ∀ i j, u i j = if j < 11 then M (sw r q i) j else M i j) (fun (u : Nat → Nat → Int64) t => cB D K A (WM K mm ta sl ss be ch th u rq cq pv so st gs gm gu gl aw) t) A) [.ref (mm 0), .int (nI r), .int (nI q)].toArray s 0 0 A) (F0 m 2 ls []) := by
    intro fuel
    induction fuel with
    | zero =>
      intro k M2 H locs ls hfu
      exact absurd hfu (Nat.not_lt_zero _)
    | succ fuel ih2 =>
      intro k M2 H locs ls hfu hk hz hP hD hS hl
      refine lv_iload_n hx hb dX7_swap_2 rfl (lv_at hl 0 rfl) ?_
      refine lv_bipush (v := nI 11) hx hb dX7_swap_3 (by decide) ?_
      refine b_icmp_ge hx hb (nI_toIntI (by omega)) (nI_toIntI (by omega)) dX7_swap_5 (tgt := 62) (by decide) (fun c5 => ?_) (fun c5 => ?_)
      · exact W.vret hx hb hr (fun t9 ht9 hW => ⟨⟨M2, rfl, fun i j => by have h9 := hz i j; rw [show k = 11 by omega] at h9; exact h9, by rw [ht9]; exact hP, va_K.moved hW.alike hK, hD⟩, hS.F ht9⟩) hS.2.2 dX7_swap_62
      refine lv_aload_n hx hb dX7_swap_8 rfl (lv_at hl 1 rfl) ?_
      refine va_get (D := D) (ci := 7) (C := RX7) (T := TX7) (N := 17) hx hb hts iX7 hown hK hP 0 rfl rfl 6 (by decide) (hts _ k_f_X7_23) (fun _ h9 => h9) rfl dX7_swap_9 ?_
      refine lv_bipush (v := nI 11) hx hb dX7_swap_12 (by decide) ?_
      refine lv_iload_n hx hb dX7_swap_14 rfl (lv_at hl 2 rfl) ?_
      refine lv_imul hx hb dX7_swap_15 ?_
      refine t_i (pk_mul _ _) ?_
      refine lv_iload_n hx hb dX7_swap_16 rfl (lv_at hl 0 rfl) ?_
      refine lv_iadd hx hb dX7_swap_17 ?_
      refine t_i (nI_add _ _) ?_
      refine n_lald hx hb hK hP 5 1 rfl rfl (i := 11 * r + k) (n := 121) (by omega) (by decide) dX7_swap_18 ?_
      refine t_l (cL_at (M := M2) (k := 11 * r + k) (r := r) (c := k) (by omega) (by omega)) ?_
      refine lv_lstore (lv' := [(4, .long (M2 r k)), (3, .int (nI k)), (0, .ref (mm 0)), (1, .int (nI r)), (2, .int (nI q))]) hx hb dX7_swap_19 hl (by decide) rfl (fun ls hl => ?_)
      refine lv_aload_n hx hb dX7_swap_21 rfl (lv_at hl 2 rfl) ?_
      refine va_get (D := D) (ci := 7) (C := RX7) (T := TX7) (N := 17) hx hb hts iX7 hown hK hP 0 rfl rfl 6 (by decide) (hts _ k_f_X7_23) (fun _ h9 => h9) rfl dX7_swap_22 ?_
      refine lv_bipush (v := nI 11) hx hb dX7_swap_25 (by decide) ?_
      refine lv_iload_n hx hb dX7_swap_27 rfl (lv_at hl 3 rfl) ?_
      refine lv_imul hx hb dX7_swap_28 ?_
      refine t_i (pk_mul _ _) ?_
      refine lv_iload_n hx hb dX7_swap_29 rfl (lv_at hl 1 rfl) ?_
      refine lv_iadd hx hb dX7_swap_30 ?_
      refine t_i (nI_add _ _) ?_
      refine lv_aload_n hx hb dX7_swap_31 rfl (lv_at hl 2 rfl) ?_
      refine va_get (D := D) (ci := 7) (C := RX7) (T := TX7) (N := 17) hx hb hts iX7 hown hK hP 0 rfl rfl 6 (by decide) (hts _ k_f_X7_23) (fun _ h9 => h9) rfl dX7_swap_32 ?_
      refine lv_bipush (v := nI 11) hx hb dX7_swap_35 (by decide) ?_
      refine lv_iload_n hx hb dX7_swap_37 rfl (lv_at hl 4 rfl) ?_
      refine lv_imul hx hb dX7_swap_38 ?_
      refine t_i (pk_mul _ _) ?_
      refine lv_iload_n hx hb dX7_swap_39 rfl (lv_at hl 1 rfl) ?_
      refine lv_iadd hx hb dX7_swap_40 ?_
      refine t_i (nI_add _ _) ?_
      refine n_lald hx hb hK hP 5 1 rfl rfl (i := 11 * q + k) (n := 121) (by omega) (by decide) dX7_swap_41 ?_
      refine t_l (cL_at (M := M2) (k := 11 * q + k) (r := q) (c := k) (by omega) (by omega)) ?_
      refine n_last hx hb hK hP hD hS 5 1 rfl rfl (i := 11 * r + k) (n := 121) (by omega) (by decide) dX7_swap_42 (fun H locs hP hD hS => ?_)
      have hcs : vp_updL (cL M2) (11 * r + k) (M2 q k) = cL (setM M2 r k (M2 q k)) := cL_set (by omega) (by omega)
      have hP : va_P D vwCl (WM K mm ta sl ss be ch th (setM M2 r k (M2 q k)) rq cq pv so st gs gm gu gl aw) H := by unfold WM; rw [← hcs]; exact hP
      have hD : va_D A (WM K mm ta sl ss be ch th (setM M2 r k (M2 q k)) rq cq pv so st gs gm gu gl aw) := by unfold WM; rw [← hcs]; exact hD
      have hP : va_P D vwCl (WM K mm ta sl ss be ch th (setM M2 r k (M2 q k)) rq cq pv so st gs gm gu gl aw) H := hP
      have hD : va_D A (WM K mm ta sl ss be ch th (setM M2 r k (M2 q k)) rq cq pv so st gs gm gu gl aw) := hD
      refine lv_aload_n hx hb dX7_swap_43 rfl (lv_at hl 2 rfl) ?_
      refine va_get (D := D) (ci := 7) (C := RX7) (T := TX7) (N := 17) hx hb hts iX7 hown hK hP 0 rfl rfl 6 (by decide) (hts _ k_f_X7_23) (fun _ h9 => h9) rfl dX7_swap_44 ?_
      refine lv_bipush (v := nI 11) hx hb dX7_swap_47 (by decide) ?_
      refine lv_iload_n hx hb dX7_swap_49 rfl (lv_at hl 4 rfl) ?_
      refine lv_imul hx hb dX7_swap_50 ?_
      refine t_i (pk_mul _ _) ?_
      refine lv_iload_n hx hb dX7_swap_51 rfl (lv_at hl 1 rfl) ?_
      refine lv_iadd hx hb dX7_swap_52 ?_
      refine t_i (nI_add _ _) ?_
      refine lv_lload hx hb dX7_swap_53 (lv_at hl 0 rfl) ?_
      refine n_last hx hb hK hP hD hS 5 1 rfl rfl (i := 11 * q + k) (n := 121) (by omega) (by decide) dX7_swap_55 (fun H locs hP hD hS => ?_)
      have hcs : vp_updL (cL (setM M2 r k (M2 q k))) (11 * q + k) (M2 r k) = cL (setM (setM M2 r k (M2 q k)) q k (M2 r k)) := cL_set (by omega) (by omega)
      have hP : va_P D vwCl (WM K mm ta sl ss be ch th (setM (setM M2 r k (M2 q k)) q k (M2 r k)) rq cq pv so st gs gm gu gl aw) H := by unfold WM; rw [← hcs]; exact hP
      have hD : va_D A (WM K mm ta sl ss be ch th (setM (setM M2 r k (M2 q k)) q k (M2 r k)) rq cq pv so st gs gm gu gl aw) := by unfold WM; rw [← hcs]; exact hD
      have hP : va_P D vwCl (WM K mm ta sl ss be ch th (setM (setM M2 r k (M2 q k)) q k (M2 r k)) rq cq pv so st gs gm gu gl aw) H := hP
      have hD : va_D A (WM K mm ta sl ss be ch th (setM (setM M2 r k (M2 q k)) q k (M2 r k)) rq cq pv so st gs gm gu gl aw) := hD
      have hs9 := swM_step hz
      have hs9 : ∀ i j, (setM (setM M2 r k (M2 q k)) q k (M2 r k)) i j = if j < k + 1 then M (sw r q i) j else M i j := fun i j => by
        have h9 := hs9 i j
        first | exact h9 | (rw [← h9]; congr 1; skip)
      refine lv_iinc (v := nI (k + 1)) (lv' := [(3, .int (nI (k + 1))), (4, .long (M2 r k)), (0, .ref (mm 0)), (1, .int (nI r)), (2, .int (nI q))]) hx hb dX7_swap_56 hl (k := 1) rfl (nI_add k 1) (by decide) rfl (fun ls hl => ?_)
      refine lv_goto (tgt := 2) hx hb dX7_swap_59 (by decide) ?_
      exact ih2 (k + 1) (setM (setM M2 r k (M2 q k)) q k (M2 r k)) _ _ _ (by omega) (by omega) hs9 hP hD hS (lv_sub hl [0, 2, 3, 4] rfl)
  exact L2 _ 0 M _ _ _ (Nat.lt_succ_self _) (by omega) (fun i j => (if_neg (Nat.not_lt_zero j)).symm) hP hD hS (lv_sub hl [0, 1, 2, 3] rfl)
set_option maxHeartbeats 4000000 in
set_option maxRecDepth 100000 in
theorem c_X7_lessen (l : Launch) (D : va_G) (K : Nat → ClassId) (mm : Nat → Nat) (ta : Nat → Int32) (sl : Nat → Int32) (ss : Nat → Int32) (be : Nat → Int32) (ch : Int32) (th : Int32) (M : Nat → Nat → Int64) (rq : Int32) (cq : Int32) (pv : Nat → Int32) (so : Int32) (st : Nat → Int32) (gs : Int32) (gm : Nat → Int32) (gu : Nat → Int64) (gl : Nat → Int64) (aw : Nat → Int32) (r : Nat) (e9 : Nat → Int) (sz : Nat) (hr9 : r < 11) (he9 : ∀ b, b < 11 → (M r b).toInt = e9 b) (hb9 : ∀ b, b < 11 → (e9 b).natAbs ≤ 2 * (BB * BB)) : Met l yX7_lessen (.code yX7_lessen cX7_lessen 5 none :: TB) ({ frames := 1, cells := 0, slots := 0, locals := 29 } : Room) (va_Pc [.ref (mm 0), .int (nI r)] (cP D K (WM K mm ta sl ss be ch th M rq cq pv so st gs gm gu gl aw) sz)) (va_Qv (fun (u : Nat → Nat → Int64) => (∀ x, x ≠ r → u x = M x) ∧ ((gU e9 11 ≤ 1 ∧ ∀ b, b < 11 → (u r b).toInt = e9 b) ∨ (1 < gU e9 11 ∧ ∀ b, b < 11 → (gU e9 11 : Int) * (u r b).toInt = e9 b))) (fun (u : Nat → Nat → Int64) t => cB D K (va_A (WM K mm ta sl ss be ch th M rq cq pv so st gs gm gu gl aw) sz) (WM K mm ta sl ss be ch th u rq cq pv so st gs gm gu gl aw) t) (va_A (WM K mm ta sl ss be ch th M rq cq pv so st gs gm gu gl aw) sz)) 0 0 (va_A (WM K mm ta sl ss be ch th M rq cq pv so st gs gm gu gl aw) sz) := by
  refine Met.ofW (cc := cX7_lessen) (maxL := 5) (ret := none) (by decide) rfl ?_
  intro p e s m args below meth c s₁ B hml hv
  obtain ⟨rfl, hsz, hP, hK, hD0⟩ := hv
  have hx := B.exec
  have hb := B.bytes
  have hr := B.returns
  have hts := hts_tl (atoms_spec (ws := (.code yX7_lessen cX7_lessen 5 none :: TB)) B.pre)
  have hown : s.vm.findClass RX7 = some m.cls := findClass_of_methodNamed B.named
  have hlocks := B.notSynchronized
  subst hsz
  have hD := hD0.self (sz := s.heap.size)
  generalize hAe : (va_A (WM K mm ta sl ss be ch th M rq cq pv so st gs gm gu gl aw) s.heap.size) = A at hD ⊢
  have hA : ∀ q : Nat, s.heap.size ≤ q → A q := fun q h => by rw [← hAe]; exact Or.inr h
  have hS : va_S A s.heap s.heap [] := va_S.rf
  have hl := lv_entry ([.ref (mm 0), .int (nI r)]) (n := 5) (Nat.le_of_ble_eq_true rfl)
  rw [lg_entry_eq]
  generalize (lg_sl ([.ref (mm 0), .int (nI r)]) ++ List.replicate (5 - (lg_sl ([.ref (mm 0), .int (nI r)])).length) Slot.unset).toArray = ls at hl ⊢
  have hl : lv_has ls 5 [(0, .ref (mm 0)), (1, .int (nI r))] := hl
  have hBB : BB = 351232000 := rfl
  have hB2 : BB * BB = 123363917824000000 := by decide
  refine lv_lconst (v := 0) hx hb dX7_lessen_0 (by decide) ?_
  refine t_l (show (0 : Int64) = lN 0 by decide) ?_
  refine lv_lstore_n (lv' := [(2, .long (lN (gU e9 0))), (0, .ref (mm 0)), (1, .int (nI r))]) hx hb dX7_lessen_1 rfl hl (by decide) rfl (fun ls hl => ?_)
  refine lv_iconst (v := nI 0) hx hb dX7_lessen_2 (by decide) ?_
  refine lv_istore (lv' := [(4, .int (nI 0)), (2, .long (lN (gU e9 0))), (0, .ref (mm 0)), (1, .int (nI r))]) hx hb dX7_lessen_3 hl (by decide) rfl (fun ls hl => ?_)
  have L5 : ∀ (fuel : Nat) (k : Nat) (H : Heap) (locs : List Loc) (ls : Array Slot), 11 - k < fuel → (k ≤ 11) → (gU e9 k ≤ 2 * (BB * BB)) → va_P D vwCl (WM K mm ta sl ss be ch th M rq cq pv so st gs gm gu gl aw) H → va_D A (WM K mm ta sl ss be ch th M rq cq pv so st gs gm gu gl aw) → va_S A s.heap H locs → lv_has ls 5 [(4, .int (nI k)), (2, .long (lN (gU e9 k))), (0, .ref (mm 0)), (1, .int (nI r))] → W p l e ({ frames := 1, cells := 0, slots := 0, locals := 29 } : Room) s m [.ref (mm 0), .int (nI r)].toArray below meth c H locs 0 0 (MQ below (va_Qv (fun (u : Nat → Nat → Int64) => (∀ x, x ≠ r → u x = M x) ∧ ((gU e9 11 ≤ 1 ∧ ∀ b, b < 11 → (u r b).toInt = e9 b) ∨ (1 < gU e9 11 ∧ ∀ b, b < 11 → (gU e9 11 : Int) * (u r b).toInt = e9 b))) (fun (u : Nat → Nat → Int64) t => cB D K A (WM K mm ta sl ss be ch th u rq cq pv so st gs gm gu gl aw) t) A) [.ref (mm 0), .int (nI r)].toArray s 0 0 A) (F0 m 5 ls []) := by
    intro fuel
    induction fuel with
    | zero =>
      intro k H locs ls hfu
      exact absurd hfu (Nat.not_lt_zero _)
    | succ fuel ih5 =>
      intro k H locs ls hfu hk hgb hP hD hS hl
      refine lv_iload hx hb dX7_lessen_5 (lv_at hl 0 rfl) ?_
      refine lv_bipush (v := nI 11) hx hb dX7_lessen_7 (by decide) ?_
      refine b_icmp_ge hx hb (nI_toIntI (by omega)) (nI_toIntI (by omega)) dX7_lessen_9 (tgt := 35) (by decide) (fun c9 => ?_) (fun c9 => ?_)
      · obtain rfl : k = 11 := by omega
        obtain ⟨G, hG0⟩ : ∃ G, G = gU e9 11 := ⟨_, rfl⟩
        rw [← hG0] at hl hgb
        have hGe := hG0.symm
        refine lv_iconst (v := nI 0) hx hb dX7_lessen_35 (by decide) ?_
        refine lv_istore (lv' := [(4, .int (nI 0)), (2, .long (lN G)), (0, .ref (mm 0)), (1, .int (nI r))]) hx hb dX7_lessen_36 hl (by decide) rfl (fun ls hl => ?_)
        have L38 : ∀ (fuel : Nat) (z : Nat) (M2 : Nat → Nat → Int64) (H : Heap) (locs : List Loc) (ls : Array Slot), 11 - z < fuel → (z ≤ 11) → (0 < z → 1 < G) → (∀ x, x ≠ r → M2 x = M x) → (∀ b, b < z → (G : Int) * (M2 r b).toInt = e9 b) → (∀ b, z ≤ b → b < 11 → (M2 r b).toInt = e9 b) → va_P D vwCl (WM K mm ta sl ss be ch th M2 rq cq pv so st gs gm gu gl aw) H → va_D A (WM K mm ta sl ss be ch th M2 rq cq pv so st gs gm gu gl aw) → va_S A s.heap H locs → lv_has ls 5 [(4, .int (nI z)), (2, .long (lN G)), (0, .ref (mm 0)), (1, .int (nI r))] → W p l e ({ frames := 1, cells := 0, slots := 0, locals := 29 } : Room) s m [.ref (mm 0), .int (nI r)].toArray below meth c H locs 0 0 (MQ below (va_Qv (fun (u : Nat → Nat → Int64) => (∀ x, x ≠ r → u x = M x) ∧ ((gU e9 11 ≤ 1 ∧ ∀ b, b < 11 → (u r b).toInt = e9 b) ∨ (1 < gU e9 11 ∧ ∀ b, b < 11 → (gU e9 11 : Int) * (u r b).toInt = e9 b))) (fun (u : Nat → Nat → Int64) t => cB D K A (WM K mm ta sl ss be ch th u rq cq pv so st gs gm gu gl aw) t) A) [.ref (mm 0), .int (nI r)].toArray s 0 0 A) (F0 m 38 ls []) := by
          intro fuel
          induction fuel with
          | zero =>
            intro z M2 H locs ls hfu
            exact absurd hfu (Nat.not_lt_zero _)
          | succ fuel ih38 =>
            intro z M2 H locs ls hfu hz hzG hoth hdone hmid hP hD hS hl
            refine lv_iload hx hb dX7_lessen_38 (lv_at hl 0 rfl) ?_
            refine lv_bipush (v := nI 11) hx hb dX7_lessen_40 (by decide) ?_
            refine b_icmp_ge hx hb (nI_toIntI (by omega)) (nI_toIntI (by omega)) dX7_lessen_42 (tgt := 73) (by decide) (fun c42 => ?_) (fun c42 => ?_)
            · exact W.vret hx hb hr (fun t9 ht9 hW => ⟨⟨M2, rfl, ⟨hoth, by
      rw [hGe]
      first
      | (have c40 : ¬ (z : Int) < 11 := by omega
         exact Or.inr ⟨hzG (by omega), fun b hb8 => hdone b (by omega)⟩)
      | (have c47 : (lN G).toInt ≤ 1 := c47
         rw [lN_toI (by omega)] at c47
         have hz0 : z = 0 := by rcases Nat.eq_zero_or_pos z with q | q; exact q; have := hzG q; omega
         exact Or.inl ⟨by omega, fun b hb8 => hmid b (by omega) hb8⟩)⟩, by rw [ht9]; exact hP, va_K.moved hW.alike hK, hD⟩, hS.F ht9⟩) hS.2.2 dX7_lessen_73
            refine lv_lload_n hx hb dX7_lessen_45 rfl (lv_at hl 1 rfl) ?_
            refine lv_lconst (v := 1) hx hb dX7_lessen_46 (by decide) ?_
            refine b_lcmp_le hx hb rfl (show (1 : Int64).toInt = 1 by decide) dX7_lessen_47 dX7_lessen_48 (tgt := 73) (by decide) (fun c47 => ?_) (fun c47 => ?_)
            · exact W.vret hx hb hr (fun t9 ht9 hW => ⟨⟨M2, rfl, ⟨hoth, by
      rw [hGe]
      first
      | (have c40 : ¬ (z : Int) < 11 := by omega
         exact Or.inr ⟨hzG (by omega), fun b hb8 => hdone b (by omega)⟩)
      | (have c47 : (lN G).toInt ≤ 1 := c47
         rw [lN_toI (by omega)] at c47
         have hz0 : z = 0 := by rcases Nat.eq_zero_or_pos z with q | q; exact q; have := hzG q; omega
         exact Or.inl ⟨by omega, fun b hb8 => hmid b (by omega) hb8⟩)⟩, by rw [ht9]; exact hP, va_K.moved hW.alike hK, hD⟩, hS.F ht9⟩) hS.2.2 dX7_lessen_73
            have hG1 : 1 < G := by have c47 : 1 < (lN G).toInt := (by omega); rw [lN_toI (by omega)] at c47; omega
            refine lv_aload_n hx hb dX7_lessen_51 rfl (lv_at hl 2 rfl) ?_
            refine va_get (D := D) (ci := 7) (C := RX7) (T := TX7) (N := 17) hx hb hts iX7 hown hK hP 0 rfl rfl 6 (by decide) (hts _ k_f_X7_23) (fun _ h9 => h9) rfl dX7_lessen_52 ?_
            refine lv_bipush (v := nI 11) hx hb dX7_lessen_55 (by decide) ?_
            refine lv_iload_n hx hb dX7_lessen_57 rfl (lv_at hl 3 rfl) ?_
            refine lv_imul hx hb dX7_lessen_58 ?_
            refine t_i (pk_mul _ _) ?_
            refine lv_iload hx hb dX7_lessen_59 (lv_at hl 0 rfl) ?_
            refine lv_iadd hx hb dX7_lessen_61 ?_
            refine t_i (nI_add _ _) ?_
            refine lv_dup2_11 hx hb dX7_lessen_62 rfl rfl ?_
            refine n_lald hx hb hK hP 5 1 rfl rfl (i := 11 * r + z) (n := 121) (by omega) (by decide) dX7_lessen_63 ?_
            refine t_l (cL_at (M := M2) (k := 11 * r + z) (r := r) (c := z) (by omega) (by omega)) ?_
            refine lv_lload_n hx hb dX7_lessen_64 rfl (lv_at hl 1 rfl) ?_
            refine lv_ldiv hx hb dX7_lessen_65 (fun q => absurd (congrArg Int64.toInt q) (by rw [lN_toI (by omega), show (0 : Int64).toInt = 0 by decide]; omega)) ?_
            have hdv : ((G : Nat) : Int) ∣ e9 z := dvd_natAbs (by rw [← hGe]; exact gU_dvd (by omega))
            have hz9 := hmid z (Nat.le_refl _) (by omega)
            have hq9 : (M2 r z / lN G).toInt = e9 z / (G : Int) := by rw [L_divg (by rw [hz9]; exact hdv) (by omega) (by omega), hz9]
            refine n_last hx hb hK hP hD hS 5 1 rfl rfl (i := 11 * r + z) (n := 121) (by omega) (by decide) dX7_lessen_66 (fun H locs hP hD hS => ?_)
            have hcs : vp_updL (cL M2) (11 * r + z) ((M2 r z) / (lN G)) = cL (setM M2 r z ((M2 r z) / (lN G))) := cL_set (by omega) (by omega)
            have hP : va_P D vwCl (WM K mm ta sl ss be ch th (setM M2 r z ((M2 r z) / (lN G))) rq cq pv so st gs gm gu gl aw) H := by unfold WM; rw [← hcs]; exact hP
            have hD : va_D A (WM K mm ta sl ss be ch th (setM M2 r z ((M2 r z) / (lN G))) rq cq pv so st gs gm gu gl aw) := by unfold WM; rw [← hcs]; exact hD
            have hP : va_P D vwCl (WM K mm ta sl ss be ch th (setM M2 r z ((M2 r z) / (lN G))) rq cq pv so st gs gm gu gl aw) H := hP
            have hD : va_D A (WM K mm ta sl ss be ch th (setM M2 r z ((M2 r z) / (lN G))) rq cq pv so st gs gm gu gl aw) := hD
            refine lv_iinc (v := nI (z + 1)) (lv' := [(4, .int (nI (z + 1))), (2, .long (lN G)), (0, .ref (mm 0)), (1, .int (nI r))]) hx hb dX7_lessen_67 hl (k := 0) rfl (nI_add z 1) (by decide) rfl (fun ls hl => ?_)
            refine lv_goto (tgt := 38) hx hb dX7_lessen_70 (by decide) ?_
            have hoth2 : ∀ x, x ≠ r → (setM M2 r z ((M2 r z) / (lN G))) x = M x := fun x hx9 => by rw [setM_row hx9]; exact hoth x hx9
            have hlo2 : ∀ b, b < z + 1 → (G : Int) * ((setM M2 r z ((M2 r z) / (lN G))) r b).toInt = e9 b := fun b hb9 => by
              by_cases q : b = z
              · subst q; rw [setM_same, hq9]; exact Int.mul_ediv_cancel' hdv
              · rw [setM_col q]; exact hdone b (by omega)
            have hmid2 : ∀ b, z + 1 ≤ b → b < 11 → ((setM M2 r z ((M2 r z) / (lN G))) r b).toInt = e9 b := fun b hb9 hb8 => by rw [setM_col (by omega)]; exact hmid b (by omega) hb8
            exact ih38 (z + 1) (setM M2 r z ((M2 r z) / (lN G))) _ _ _ (by omega) (by omega) (fun _ => hG1) hoth2 hlo2 hmid2 hP hD hS (lv_sub hl [0, 1, 2, 3] rfl)
        exact L38 _ 0 M _ _ _ (Nat.lt_succ_self _) (by omega) (fun h => absurd h (Nat.lt_irrefl 0)) (fun x _ => rfl) (fun b hb9 => absurd hb9 (Nat.not_lt_zero b)) (fun b _ hb8 => he9 b hb8) hP hD hS (lv_sub hl [0, 1, 2, 3] rfl)
      refine lv_lload_n hx hb dX7_lessen_12 rfl (lv_at hl 1 rfl) ?_
      refine lv_aload_n hx hb dX7_lessen_13 rfl (lv_at hl 2 rfl) ?_
      refine va_get (D := D) (ci := 7) (C := RX7) (T := TX7) (N := 17) hx hb hts iX7 hown hK hP 0 rfl rfl 6 (by decide) (hts _ k_f_X7_23) (fun _ h9 => h9) rfl dX7_lessen_14 ?_
      refine lv_bipush (v := nI 11) hx hb dX7_lessen_17 (by decide) ?_
      refine lv_iload_n hx hb dX7_lessen_19 rfl (lv_at hl 3 rfl) ?_
      refine lv_imul hx hb dX7_lessen_20 ?_
      refine t_i (pk_mul _ _) ?_
      refine lv_iload hx hb dX7_lessen_21 (lv_at hl 0 rfl) ?_
      refine lv_iadd hx hb dX7_lessen_23 ?_
      refine t_i (nI_add _ _) ?_
      refine n_lald hx hb hK hP 5 1 rfl rfl (i := 11 * r + k) (n := 121) (by omega) (by decide) dX7_lessen_24 ?_
      refine t_l (cL_at (M := M) (k := 11 * r + k) (r := r) (c := k) (by omega) (by omega)) ?_
      have hE9 := he9 k (by omega)
      have hE8 := hb9 k (by omega)
      refine va_calll (va_runS (As := [.long (lN (gU e9 k)), .long (M r k)]) (rest := []) ⟨hx, hb, hml, hown, hts⟩ (c_X7_divisor l (lN (gU e9 k)) (M r k) (by rw [lN_toI (by omega)]; omega) (by omega)) (va_cwS 2 hts (TB_S k_m_X7_90 k_st_X7_divisor k_in_X7 k_co_X7_divisor (fun _ h => h)) rfl rfl rfl (by decide +kernel) ⟨Nat.le_of_ble_eq_true rfl, Nat.le_of_ble_eq_true rfl⟩) ⟨tP_blind, tP_of⟩ rfl rfl hl.1 rfl (lv_room (Nat.le_of_ble_eq_true rfl)) dX7_lessen_25 ⟨Nat.le_of_ble_eq_true rfl, Nat.le_of_ble_eq_true rfl⟩) hS (fun q _ h => absurd h id) (fun q h => absurd h id) (fun g9 u9 t9 H locs ht9 hvm hw hB hz1 hk1 hS => ?_)
      have hP := P_same hP hk1
      have hg2 : g9 = lN (gU e9 (k + 1)) := by
        rw [hw, lN_toI (by omega), hE9]; rfl
      subst hg2
      have hgb2 : gU e9 (k + 1) ≤ 2 * (BB * BB) := gcd_bound hgb hE8
      refine lv_lstore_n (lv' := [(2, .long (lN (gU e9 (k + 1)))), (4, .int (nI k)), (0, .ref (mm 0)), (1, .int (nI r))]) hx hb dX7_lessen_28 rfl hl (by decide) rfl (fun ls hl => ?_)
      refine lv_iinc (v := nI (k + 1)) (lv' := [(4, .int (nI (k + 1))), (2, .long (lN (gU e9 (k + 1)))), (0, .ref (mm 0)), (1, .int (nI r))]) hx hb dX7_lessen_29 hl (k := 1) rfl (nI_add k 1) (by decide) rfl (fun ls hl => ?_)
      refine lv_goto (tgt := 5) hx hb dX7_lessen_32 (by decide) ?_
      exact ih5 (k + 1) _ _ _ (by omega) (by omega) hgb2 hP hD hS (lv_sub hl [0, 1, 2, 3] rfl)
  exact L5 _ 0 _ _ _ (Nat.lt_succ_self _) (by omega) (Nat.zero_le _) hP hD hS (lv_sub hl [0, 1, 2, 3] rfl)
