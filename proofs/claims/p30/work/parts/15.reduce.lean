/-! Equations.reduce: the elimination -/
/-- where the pivots of the first c columns stand -/
def PvOK (ps : List (Nat × Nat)) (pv : Nat → Int32) (c : Nat) : Prop := ∀ t, t < c → (∃ k, k < 10 ∧ pv t = nI k ∧ (k, t) ∈ ps) ∨ (pv t = -1 ∧ ∀ q ∈ ps, q.2 ≠ t)
def IpOK (ps : List (Nat × Nat)) (ip : Nat → Int32) : Prop := ∀ k, k < 10 → ((ip k).toInt = 0 ↔ ∀ q ∈ ps, q.1 ≠ k)
/-- the first c columns are done -/
def FinTo (V : Nat → Nat → Int) (n : Nat) (ps : List (Nat × Nat)) (c : Nat) : Prop := ∀ i, i < n → (∀ q ∈ ps, q.1 ≠ i) → ∀ j, j < c → V i j = 0
theorem stage_free {V V' : Nat → Nat → Int} {r t n j : Nat} (hs : Stage V V' r t n) (hr : V r j = 0) {i : Nat} (hi : i < n) (hir : i ≠ r) (h : V i j = 0) : V' i j = 0 := by
  rcases hs.2 i hi hir with z | ⟨g, hg, hj, -⟩
  · rw [z.2]; exact h
  · have h1 := hj j
    rw [hr, h] at h1
    have h2 : g * V' i j = 0 := by rw [h1]; simp
    rcases Int.mul_eq_zero.mp h2 with z | z
    · omega
    · exact z
theorem tI_row {M M' : Nat → Nat → Int64} {i k : Nat} (h : M i = M' k) : tI M i = tI M' k := by
  funext j
  unfold tI
  rw [h]
/-- a stage that is on its way: rows below i are done -/
def Part (M M2 : Nat → Nat → Int64) (r t i : Nat) : Prop := (∀ k, k < i → k ≠ r → ((M k t).toInt = 0 ∧ M2 k = M k) ∨ Elim (tI M k) (tI M r) (tI M2 k) t) ∧ (∀ k, i ≤ k → M2 k = M k) ∧ M2 r = M r
theorem Part.start (M : Nat → Nat → Int64) (r t : Nat) : Part M M r t 0 := ⟨fun k h => absurd h (Nat.not_lt_zero _), fun _ _ => rfl, rfl⟩
theorem Part.skip {M M2 : Nat → Nat → Int64} {r t i : Nat} (h : Part M M2 r t i) (hz : i = r ∨ (M2 i t).toInt = 0) : Part M M2 r t (i + 1) := by
  obtain ⟨h1, h2, h3⟩ := h
  refine ⟨fun k hk hkr => ?_, fun k hk => h2 k (by omega), h3⟩
  by_cases q : k = i
  · subst q
    rcases hz with z | z
    · exact absurd z hkr
    · rw [h2 k (Nat.le_refl _)] at z ⊢
      exact Or.inl ⟨z, rfl⟩
  · exact h1 k (by omega) hkr
theorem Part.step {M M2 M3 : Nat → Nat → Int64} {r t i : Nat} (h : Part M M2 r t i) (hir : i ≠ r) (ho : ∀ k, k ≠ i → M3 k = M2 k) (he : Elim (tI M2 i) (tI M2 r) (tI M3 i) t) : Part M M3 r t (i + 1) := by
  obtain ⟨h1, h2, h3⟩ := h
  refine ⟨fun k hk hkr => ?_, fun k hk => by rw [ho k (by omega), h2 k (by omega)], by rw [ho r (fun q => hir q.symm), h3]⟩
  by_cases q : k = i
  · subst q
    rw [tI_row (h2 k (Nat.le_refl _)), tI_row h3] at he
    exact Or.inr he
  · rcases h1 k (by omega) hkr with z | z
    · rw [ho k q]; exact Or.inl z
    · rw [← tI_row (ho k q)] at z; exact Or.inr z
theorem Part.stage {M M2 : Nat → Nat → Int64} {r t : Nat} (ht : t < 11) (h : Part M M2 r t 10) : Stage (tI M) (tI M2) r t 10 := by
  obtain ⟨h1, h2, h3⟩ := h
  refine ⟨tI_row h3, fun k hk hkr => ?_⟩
  rcases h1 k hk hkr with z | z
  · exact Or.inl ⟨by rw [tI_at ht]; exact z.1, tI_row z.2⟩
  · exact Or.inr z
theorem IpOK.step {ps : List (Nat × Nat)} {ip : Nat → Int32} {r t : Nat} (h : IpOK ps ip) : IpOK ((r, t) :: ps) (upd ip r (nI 1)) := by
  intro k hk
  by_cases q : k = r
  · subst q
    have e : upd ip k (nI 1) k = nI 1 := if_pos rfl
    rw [e]
    exact ⟨fun z => absurd z (by decide), fun z => absurd rfl (z (k, t) List.mem_cons_self)⟩
  · have e : upd ip r (nI 1) k = ip k := if_neg q
    rw [e]
    refine (h k hk).trans ⟨fun z p hp => ?_, fun z p hp => z p (List.mem_cons_of_mem _ hp)⟩
    rcases List.mem_cons.mp hp with rfl | hp
    · exact fun w => q w.symm
    · exact z p hp
theorem PvOK.hit {ps : List (Nat × Nat)} {pv : Nat → Int32} {r t : Nat} (h : PvOK ps pv t) (hr : r < 10) : PvOK ((r, t) :: ps) (upd pv t (nI r)) (t + 1) := by
  intro k hk
  by_cases q : k = t
  · subst q
    exact Or.inl ⟨r, hr, if_pos rfl, List.mem_cons_self⟩
  · have e : upd pv t (nI r) k = pv k := if_neg q
    rw [e]
    rcases h k (by omega) with ⟨z, hz, e1, hm⟩ | ⟨e1, hm⟩
    · exact Or.inl ⟨z, hz, e1, List.mem_cons_of_mem _ hm⟩
    · refine Or.inr ⟨e1, fun p hp => ?_⟩
      rcases List.mem_cons.mp hp with rfl | hp
      · exact fun w => q w.symm
      · exact hm p hp
theorem PvOK.miss {ps : List (Nat × Nat)} {pv : Nat → Int32} {t : Nat} (h : PvOK ps pv t) (hc : ∀ q ∈ ps, q.2 < t) : PvOK ps (upd pv t (-1)) (t + 1) := by
  intro k hk
  by_cases q : k = t
  · subst q
    exact Or.inr ⟨if_pos rfl, fun p hp w => by have := hc p hp; omega⟩
  · have e : upd pv t (-1) k = pv k := if_neg q
    rw [e]
    exact h k (by omega)
set_option maxHeartbeats 4000000 in
set_option maxRecDepth 100000 in
theorem c_X1_reduce (l : Launch) (D : va_G) (K : Nat → ClassId) (a ao ap ab : Nat) (r : Nat → Nat) (M : Nat → Nat → Int64) (pv ip : Nat → Int32) (sv : Int32) (sz : Nat) (hMB : MB (tI M) 10) (hM0 : ∀ i j, i < 10 → j < 11 → (tI M i j).natAbs ≤ BB) : Met l yX1_reduce (.code yX1_reduce cX1_reduce 4 none :: TB) ({ frames := 2, cells := 0, slots := 0, locals := 60 } : Room) (va_Pc [.ref a] (cP D K (WE K a ao ap ab r M pv ip sv) sz)) (va_Qv (fun (u : (Nat → Nat → Int64) × (Nat → Int32) × (Nat → Int32) × Int32) => ∃ ps, EInv (tI M) (tI u.1) 10 ps ∧ FinTo (tI u.1) 10 ps 10 ∧ PvOK ps u.2.1 10 ∧ u.2.2.2 = bI (∀ i, i < 10 → (∀ q ∈ ps, q.1 ≠ i) → tI u.1 i 10 = 0)) (fun (u : (Nat → Nat → Int64) × (Nat → Int32) × (Nat → Int32) × Int32) t => cB D K (va_A (WE K a ao ap ab r M pv ip sv) sz) (WE K a ao ap ab r u.1 u.2.1 u.2.2.1 u.2.2.2) t) (va_A (WE K a ao ap ab r M pv ip sv) sz)) 0 0 (va_A (WE K a ao ap ab r M pv ip sv) sz) := by
  refine Met.ofW (cc := cX1_reduce) (maxL := 4) (ret := none) (by decide) rfl ?_
  intro p e s m args below meth c s₁ B hml hv
  obtain ⟨rfl, hsz, hP, hK, hD0⟩ := hv
  have hx := B.exec
  have hb := B.bytes
  have hr := B.returns
  have hts := hts_tl (atoms_spec (ws := (.code yX1_reduce cX1_reduce 4 none :: TB)) B.pre)
  have hown : s.vm.findClass RX1 = some m.cls := findClass_of_methodNamed B.named
  have hlocks := B.notSynchronized
  subst hsz
  have hD := hD0.self (sz := s.heap.size)
  generalize hAe : (va_A (WE K a ao ap ab r M pv ip sv) s.heap.size) = A at hD ⊢
  have hA : ∀ q : Nat, s.heap.size ≤ q → A q := fun q h => by rw [← hAe]; exact Or.inr h
  have hS : va_S A s.heap s.heap [] := va_S.rf
  have hl := lv_entry ([.ref a]) (n := 4) (Nat.le_of_ble_eq_true rfl)
  rw [lg_entry_eq]
  generalize (lg_sl ([.ref a]) ++ List.replicate (4 - (lg_sl ([.ref a])).length) Slot.unset).toArray = ls at hl ⊢
  have hl : lv_has ls 4 [(0, .ref a)] := hl
  refine lv_iconst (v := nI 0) hx hb dX1_reduce_0 (by decide) ?_
  refine lv_istore_n (lv' := [(1, .int (nI 0)), (0, .ref a)]) hx hb dX1_reduce_1 rfl hl (by decide) rfl (fun ls hl => ?_)
  have L2 : ∀ (fuel : Nat) (i : Nat) (ip' : Nat → Int32) (H : Heap) (locs : List Loc) (ls : Array Slot), 10 - i < fuel → (i ≤ 10) → (∀ k, k < i → ip' k = nI 0) → va_P D vwCl (WE K a ao ap ab r M pv ip' sv) H → va_D A (WE K a ao ap ab r M pv ip' sv) → va_S A s.heap H locs → lv_has ls 4 [(1, .int (nI i)), (0, .ref a)] → W p l e ({ frames := 2, cells := 0, slots := 0, locals := 60 } : Room) s m [.ref a].toArray below meth c H locs 0 0 (MQ below (va_Qv (fun (u : (Nat → Nat → Int64) × (Nat → Int32) × (Nat → Int32) × Int32) => ∃ ps, EInv (tI M) (tI u.1) 10 ps ∧ FinTo (tI u.1) 10 ps 10 ∧ PvOK ps u.2.1 10 ∧ u.2.2.2 = bI (∀ i, i < 10 → (∀ q ∈ ps, q.1 ≠ i) → tI u.1 i 10 = 0)) (fun (u : (Nat → Nat → Int64) × (Nat → Int32) × (Nat → Int32) × Int32) t => cB D K A (WE K a ao ap ab r u.1 u.2.1 u.2.2.1 u.2.2.2) t) A) [.ref a].toArray s 0 0 A) (F0 m 2 ls []) := by
    intro fuel
    induction fuel with
    | zero =>
      intro i ip' H locs ls hfu
      exact absurd hfu (Nat.not_lt_zero _)
    | succ fuel ih2 =>
      intro i ip' H locs ls hfu hi hz hP hD hS hl
      refine lv_iload_n hx hb dX1_reduce_2 rfl (lv_at hl 0 rfl) ?_
      refine lv_bipush (v := nI 10) hx hb dX1_reduce_3 (by decide) ?_
      refine b_icmp_ge hx hb (nI_toIntI (by omega)) (nI_toIntI (by omega)) dX1_reduce_5 (tgt := 21) (by decide) (fun c5 => ?_) (fun c5 => ?_)
      · refine lv_iconst (v := nI 0) hx hb dX1_reduce_21 (by decide) ?_
        refine lv_istore_n (lv' := [(1, .int (nI 0)), (0, .ref a)]) hx hb dX1_reduce_22 rfl hl (by decide) rfl (fun ls hl => ?_)
        have hip0 : IpOK [] ip' := fun k hk9 => ⟨fun _ q h => absurd h List.not_mem_nil, fun _ => by rw [hz k (by omega)]; decide⟩
        have L23 : ∀ (fuel : Nat) (t : Nat) (M1 : Nat → Nat → Int64) (pv1 : Nat → Int32) (ip1 : Nat → Int32) (ps : List (Nat × Nat)) (H : Heap) (locs : List Loc) (ls : Array Slot), 10 - t < fuel → (t ≤ 10) → (EInv (tI M) (tI M1) 10 ps) → (∀ q ∈ ps, q.2 < t) → (PvOK ps pv1 t) → (IpOK ps ip1) → (FinTo (tI M1) 10 ps t) → va_P D vwCl (WE K a ao ap ab r M1 pv1 ip1 sv) H → va_D A (WE K a ao ap ab r M1 pv1 ip1 sv) → va_S A s.heap H locs → lv_has ls 4 [(1, .int (nI t)), (0, .ref a)] → W p l e ({ frames := 2, cells := 0, slots := 0, locals := 60 } : Room) s m [.ref a].toArray below meth c H locs 0 0 (MQ below (va_Qv (fun (u : (Nat → Nat → Int64) × (Nat → Int32) × (Nat → Int32) × Int32) => ∃ ps, EInv (tI M) (tI u.1) 10 ps ∧ FinTo (tI u.1) 10 ps 10 ∧ PvOK ps u.2.1 10 ∧ u.2.2.2 = bI (∀ i, i < 10 → (∀ q ∈ ps, q.1 ≠ i) → tI u.1 i 10 = 0)) (fun (u : (Nat → Nat → Int64) × (Nat → Int32) × (Nat → Int32) × Int32) t => cB D K A (WE K a ao ap ab r u.1 u.2.1 u.2.2.1 u.2.2.2) t) A) [.ref a].toArray s 0 0 A) (F0 m 23 ls []) := by
          intro fuel
          induction fuel with
          | zero =>
            intro t M1 pv1 ip1 ps H locs ls hfu
            exact absurd hfu (Nat.not_lt_zero _)
          | succ fuel ih23 =>
            intro t M1 pv1 ip1 ps H locs ls hfu ht hE hc hpv hip hfr hP hD hS hl
            refine lv_iload_n hx hb dX1_reduce_23 rfl (lv_at hl 0 rfl) ?_
            refine lv_bipush (v := nI 10) hx hb dX1_reduce_24 (by decide) ?_
            refine b_icmp_ge hx hb (nI_toIntI (by omega)) (nI_toIntI (by omega)) dX1_reduce_26 (tgt := 104) (by decide) (fun c26 => ?_) (fun c26 => ?_)
            · obtain rfl : t = 10 := by omega
              refine lv_aload_n hx hb dX1_reduce_104 rfl (lv_at hl 1 rfl) ?_
              refine lv_aload_n hx hb dX1_reduce_105 rfl (lv_at hl 1 rfl) ?_
              refine va_calli (va_runV (As := []) (rest := [.ref a]) ⟨hx, hb, hml, hown, hts⟩ (c_X1_areRowsLeftEmpty l D K a ao ap ab r M1 pv1 ip1 sv H.size ) (cwV 0 hts (TB_V k_m_X1_32 k_im_X1_areRowsLeftEmpty k_se_X1_areRowsLeftEmpty k_in_X1 k_co_X1_areRowsLeftEmpty (fun _ h => h)) rfl rfl rfl (by decide +kernel) ⟨Nat.le_of_ble_eq_true rfl, Nat.le_of_ble_eq_true rfl⟩) ⟨cP_blind, va_recv hK hP (ci := 1) (q0 := 0) rfl rfl, cP_of hP hK hD⟩ rfl rfl hl.1 rfl (lv_room (Nat.le_of_ble_eq_true rfl)) dX1_reduce_106 ⟨Nat.le_of_ble_eq_true rfl, Nat.le_of_ble_eq_true rfl⟩) hS (fun q _ h => absurd h id) (fun q h => absurd h id) (fun q u9 t9 H locs ht9 hvm hw hB hz1 hk1 hS => ?_)
              have hP := P_same hP hk1
              refine va_put (D := D) (ci := 1) (v := .int q) (ty := .boolean) (C := RX1) (T := TX1) (N := 4) hx hb hts iX1 tyX1 tyX1_ok nmX1 hown hK hP hD hS 0 rfl rfl 3 (by decide) (hts _ k_f_X1_36) (fun _ h9 => h9) rfl (by decide +kernel) (by rcases (hw ▸ bI_01 _ : q = nI 0 ∨ q = nI 1) with h | h <;> rw [h] <;> decide) (by rcases (hw ▸ bI_01 _ : q = nI 0 ∨ q = nI 1) with h | h <;> rw [h] <;> decide) (Nat.le_of_ble_eq_true rfl) dX1_reduce_109 (fun H locs hP hD hS => ?_)
              have hP : va_P D vwCl (WE K a ao ap ab r M1 pv1 ip1 q) H := hP
              have hD : va_D A (WE K a ao ap ab r M1 pv1 ip1 q) := hD
              exact W.vret hx hb hr (fun t9 ht9 hW => ⟨⟨(M1, pv1, ip1, q), rfl, ⟨ps, hE, hfr, hpv, hw.trans (bI_iff ⟨fun h i hi hf => by rw [tI_at (by decide)]; exact h i hi ((hip i hi).mpr hf), fun h i hi h0 => by have h9 := h i hi ((hip i hi).mp h0); rw [tI_at (by decide)] at h9; exact h9⟩)⟩, by rw [ht9]; exact hP, va_K.moved hW.alike hK, hD⟩, hS.F ht9⟩) hS.2.2 dX1_reduce_112
            refine lv_aload_n hx hb dX1_reduce_29 rfl (lv_at hl 1 rfl) ?_
            refine lv_iload_n hx hb dX1_reduce_30 rfl (lv_at hl 0 rfl) ?_
            refine va_calli (va_runV (As := [.int (nI t)]) (rest := []) ⟨hx, hb, hml, hown, hts⟩ (c_X1_freeRowWith l D K a ao ap ab r M1 pv1 ip1 sv t H.size (by omega)) (cwV 1 hts (TB_V k_m_X1_24 k_im_X1_freeRowWith k_se_X1_freeRowWith k_in_X1 k_co_X1_freeRowWith (fun _ h => h)) rfl rfl rfl (by decide +kernel) ⟨Nat.le_of_ble_eq_true rfl, Nat.le_of_ble_eq_true rfl⟩) ⟨cP_blind, va_recv hK hP (ci := 1) (q0 := 0) rfl rfl, cP_of hP hK hD⟩ rfl rfl hl.1 rfl (lv_room (Nat.le_of_ble_eq_true rfl)) dX1_reduce_31 ⟨Nat.le_of_ble_eq_true rfl, Nat.le_of_ble_eq_true rfl⟩) hS (fun q _ h => absurd h id) (fun q h => absurd h id) (fun pr u9 t9 H locs ht9 hvm hw hB hz1 hk1 hS => ?_)
            have hP := P_same hP hk1
            rcases hw with ⟨k, hk, rfl, hk0, hkt⟩ | ⟨rfl, hno⟩
            · refine lv_istore_n (lv' := [(2, .int (nI k)), (1, .int (nI t)), (0, .ref a)]) hx hb dX1_reduce_34 rfl hl (by decide) rfl (fun ls hl => ?_)
              refine lv_aload_n hx hb dX1_reduce_35 rfl (lv_at hl 2 rfl) ?_
              refine va_get (D := D) (ci := 1) (C := RX1) (T := TX1) (N := 4) hx hb hts iX1 hown hK hP 0 rfl rfl 1 (by decide) (hts _ k_f_X1_16) (fun _ h9 => h9) rfl dX1_reduce_36 ?_
              refine lv_iload_n hx hb dX1_reduce_39 rfl (lv_at hl 1 rfl) ?_
              refine lv_iload_n hx hb dX1_reduce_40 rfl (lv_at hl 0 rfl) ?_
              refine n_iast hx hb hK hP hD hS 2 0 rfl rfl (i := t) (by omega) (by decide) dX1_reduce_41 (fun H locs hP hD hS => ?_)
              have hP : va_P D vwCl (WE K a ao ap ab r M1 (upd pv1 t (nI k)) ip1 sv) H := hP
              have hD : va_D A (WE K a ao ap ab r M1 (upd pv1 t (nI k)) ip1 sv) := hD
              refine lv_iload_n hx hb dX1_reduce_42 rfl (lv_at hl 0 rfl) ?_
              refine b_if_lt hx hb (nI_toIntI (by omega)) dX1_reduce_43 (tgt := 98) (by decide) (fun c43 => absurd c43 (by omega)) (fun c43 => ?_)
              refine lv_iload_n hx hb dX1_reduce_46 rfl (lv_at hl 0 rfl) ?_
              refine lv_bipush (v := nI 10) hx hb dX1_reduce_47 (by decide) ?_
              refine b_icmp_ge hx hb (nI_toIntI (by omega)) (nI_toIntI (by omega)) dX1_reduce_49 (tgt := 98) (by decide) (fun c49 => absurd c49 (by omega)) (fun c49 => ?_)
              refine lv_aload_n hx hb dX1_reduce_52 rfl (lv_at hl 2 rfl) ?_
              refine va_get (D := D) (ci := 1) (C := RX1) (T := TX1) (N := 4) hx hb hts iX1 hown hK hP 0 rfl rfl 2 (by decide) (hts _ k_f_X1_20) (fun _ h9 => h9) rfl dX1_reduce_53 ?_
              refine lv_iload_n hx hb dX1_reduce_56 rfl (lv_at hl 0 rfl) ?_
              refine lv_iconst (v := nI 1) hx hb dX1_reduce_57 (by decide) ?_
              refine n_zast hx hb hK hP hD hS 3 2 rfl rfl (i := k) (y := nI 1) (by decide) (by omega) (by decide) dX1_reduce_58 (fun H locs hP hD hS => ?_)
              have hP : va_P D vwCl (WE K a ao ap ab r M1 (upd pv1 t (nI k)) (upd ip1 k (nI 1)) sv) H := hP
              have hD : va_D A (WE K a ao ap ab r M1 (upd pv1 t (nI k)) (upd ip1 k (nI 1)) sv) := hD
              refine lv_iconst (v := nI 0) hx hb dX1_reduce_59 (by decide) ?_
              refine lv_istore_n (lv' := [(3, .int (nI 0)), (2, .int (nI k)), (1, .int (nI t)), (0, .ref a)]) hx hb dX1_reduce_60 rfl hl (by decide) rfl (fun ls hl => ?_)
              have hkf : ∀ q ∈ ps, q.1 ≠ k := (hip k hk).mp hk0
              have hbd := EInv_bound hE hMB hM0
              have hBB : BB = 351232000 := rfl
              have L61 : ∀ (fuel : Nat) (i : Nat) (M2 : Nat → Nat → Int64) (H : Heap) (locs : List Loc) (ls : Array Slot), 10 - i < fuel → (i ≤ 10) → (Part M1 M2 k t i) → va_P D vwCl (WE K a ao ap ab r M2 (upd pv1 t (nI k)) (upd ip1 k (nI 1)) sv) H → va_D A (WE K a ao ap ab r M2 (upd pv1 t (nI k)) (upd ip1 k (nI 1)) sv) → va_S A s.heap H locs → lv_has ls 4 [(3, .int (nI i)), (2, .int (nI k)), (1, .int (nI t)), (0, .ref a)] → W p l e ({ frames := 2, cells := 0, slots := 0, locals := 60 } : Room) s m [.ref a].toArray below meth c H locs 0 0 (MQ below (va_Qv (fun (u : (Nat → Nat → Int64) × (Nat → Int32) × (Nat → Int32) × Int32) => ∃ ps, EInv (tI M) (tI u.1) 10 ps ∧ FinTo (tI u.1) 10 ps 10 ∧ PvOK ps u.2.1 10 ∧ u.2.2.2 = bI (∀ i, i < 10 → (∀ q ∈ ps, q.1 ≠ i) → tI u.1 i 10 = 0)) (fun (u : (Nat → Nat → Int64) × (Nat → Int32) × (Nat → Int32) × Int32) t => cB D K A (WE K a ao ap ab r u.1 u.2.1 u.2.2.1 u.2.2.2) t) A) [.ref a].toArray s 0 0 A) (F0 m 61 ls []) := by
                intro fuel
                induction fuel with
                | zero =>
                  intro i M2 H locs ls hfu
                  exact absurd hfu (Nat.not_lt_zero _)
                | succ fuel ih61 =>
                  intro i M2 H locs ls hfu hi hpt hP hD hS hl
                  refine lv_iload_n hx hb dX1_reduce_61 rfl (lv_at hl 0 rfl) ?_
                  refine lv_bipush (v := nI 10) hx hb dX1_reduce_62 (by decide) ?_
                  refine b_icmp_ge hx hb (nI_toIntI (by omega)) (nI_toIntI (by omega)) dX1_reduce_64 (tgt := 98) (by decide) (fun c64 => ?_) (fun c64 => ?_)
                  · obtain rfl : i = 10 := by omega
                    have hst := hpt.stage (by omega)
                    have hE2 := EInv_stage hE hk hkf (by omega) (by rw [tI_at (by omega)]; exact hkt) hst
                    have hc2 : ∀ q ∈ (k, t) :: ps, q.2 < t + 1 := fun q hq => by
                      rcases List.mem_cons.mp hq with rfl | hq
                      · exact Nat.lt_succ_self _
                      · have := hc q hq; omega
                    have hfr2 : FinTo (tI M2) 10 ((k, t) :: ps) (t + 1) := fun i hi hf j hj => by
                      have hik : i ≠ k := fun q => hf (k, t) List.mem_cons_self q.symm
                      by_cases q : j = t
                      · subst q; exact (hE2.2.2.1 (k, j) List.mem_cons_self).2 i hi hik
                      · exact stage_free hst (hfr k hk hkf j (by omega)) hi hik (hfr i hi (fun p hp => hf p (List.mem_cons_of_mem _ hp)) j (by omega))
                    refine lv_iinc (v := nI (t + 1)) (lv' := [(1, .int (nI (t + 1))), (3, .int (nI 10)), (2, .int (nI k)), (0, .ref a)]) hx hb dX1_reduce_98 hl (k := 2) rfl (nI_add t 1) (by decide) rfl (fun ls hl => ?_)
                    refine lv_goto (tgt := 23) hx hb dX1_reduce_101 (by decide) ?_
                    exact ih23 (t + 1) M2 (upd pv1 t (nI k)) (upd ip1 k (nI 1)) ((k, t) :: ps) _ _ _ (by omega) (by omega) hE2 hc2 (hpv.hit hk) hip.step hfr2 hP hD hS (lv_sub hl [0, 3] rfl)
                  refine lv_iload_n hx hb dX1_reduce_67 rfl (lv_at hl 0 rfl) ?_
                  refine lv_iload_n hx hb dX1_reduce_68 rfl (lv_at hl 1 rfl) ?_
                  refine b_icmp_eq hx hb (nI_toIntI (by omega)) (nI_toIntI (by omega)) dX1_reduce_69 (tgt := 92) (by decide) (fun c69 => ?_) (fun c69 => ?_)
                  · refine lv_iinc (v := nI (i + 1)) (lv' := [(3, .int (nI (i + 1))), (2, .int (nI k)), (1, .int (nI t)), (0, .ref a)]) hx hb dX1_reduce_92 hl (k := 0) rfl (nI_add i 1) (by decide) rfl (fun ls hl => ?_)
                    refine lv_goto (tgt := 61) hx hb dX1_reduce_95 (by decide) ?_
                    exact ih61 (i + 1) M2 _ _ _ (by omega) (by omega) (hpt.skip (by first | exact Or.inl (by omega) | exact Or.inr c81)) hP hD hS (lv_sub hl [0, 1, 2, 3] rfl)
                  refine lv_aload_n hx hb dX1_reduce_72 rfl (lv_at hl 3 rfl) ?_
                  refine va_get (D := D) (ci := 1) (C := RX1) (T := TX1) (N := 4) hx hb hts iX1 hown hK hP 0 rfl rfl 0 (by decide) (hts _ k_f_X1_13) (fun _ h9 => h9) rfl dX1_reduce_73 ?_
                  refine lv_iload_n hx hb dX1_reduce_76 rfl (lv_at hl 0 rfl) ?_
                  refine n_aald hx hb hK hP 1 3 rfl rfl (i := i) (by omega) (by decide) (if_pos (by omega)) dX1_reduce_77 ?_
                  refine lv_iload_n hx hb dX1_reduce_78 rfl (lv_at hl 2 rfl) ?_
                  refine n_lald hx hb hK hP (4 + i) 1 (WE_at (by omega)) rfl (i := t) (by omega) (by decide) dX1_reduce_79 ?_
                  refine lv_lconst (v := 0) hx hb dX1_reduce_80 (by decide) ?_
                  refine b_lcmp_eq hx hb rfl (show (0 : Int64).toInt = 0 by decide) dX1_reduce_81 dX1_reduce_82 (tgt := 92) (by decide) (fun c81 => ?_) (fun c81 => ?_)
                  · refine lv_iinc (v := nI (i + 1)) (lv' := [(3, .int (nI (i + 1))), (2, .int (nI k)), (1, .int (nI t)), (0, .ref a)]) hx hb dX1_reduce_92 hl (k := 0) rfl (nI_add i 1) (by decide) rfl (fun ls hl => ?_)
                    refine lv_goto (tgt := 61) hx hb dX1_reduce_95 (by decide) ?_
                    exact ih61 (i + 1) M2 _ _ _ (by omega) (by omega) (hpt.skip (by first | exact Or.inl (by omega) | exact Or.inr c81)) hP hD hS (lv_sub hl [0, 1, 2, 3] rfl)
                  refine lv_aload_n hx hb dX1_reduce_85 rfl (lv_at hl 3 rfl) ?_
                  refine lv_iload_n hx hb dX1_reduce_86 rfl (lv_at hl 0 rfl) ?_
                  refine lv_iload_n hx hb dX1_reduce_87 rfl (lv_at hl 1 rfl) ?_
                  refine lv_iload_n hx hb dX1_reduce_88 rfl (lv_at hl 2 rfl) ?_
                  have c69n : i ≠ k := fun q => c69 (by omega)
                  have hbi : ∀ x, x < 11 → (M2 i x).toInt.natAbs ≤ BB := fun x hx9 => by have h9 := hbd i x (by omega) hx9; rw [tI_at hx9] at h9; rw [hpt.2.1 i (Nat.le_refl _)]; exact h9
                  have hbk : ∀ x, x < 11 → (M2 k x).toInt.natAbs ≤ BB := fun x hx9 => by have h9 := hbd k x (by omega) hx9; rw [tI_at hx9] at h9; rw [hpt.2.2]; exact h9
                  have hFc := freeAll hD hS hA
                  refine va_callv (va_runV (As := [.int (nI i), .int (nI k), .int (nI t)]) (rest := []) ⟨hx, hb, hml, hown, hts⟩ (c_X1_eliminate l D K a ao ap ab r M2 (upd pv1 t (nI k)) (upd ip1 k (nI 1)) sv i k t H.size (by omega) hk (by omega) c69n hbi hbk) (cwV 3 hts (TB_V k_m_X1_28 k_im_X1_eliminate k_se_X1_eliminate k_in_X1 k_co_X1_eliminate (fun _ h => h)) rfl rfl rfl (by decide +kernel) ⟨Nat.le_of_ble_eq_true rfl, Nat.le_of_ble_eq_true rfl⟩) ⟨cP_blind, va_recv hK hP (ci := 1) (q0 := 0) rfl rfl, cP_of hP hK hD⟩ rfl rfl hl.1 rfl (lv_room (Nat.le_of_ble_eq_true rfl)) dX1_reduce_89 ⟨Nat.le_of_ble_eq_true rfl, Nat.le_of_ble_eq_true rfl⟩) hS (fun q _ h => hFc q h) hFc (fun M3 t9 H locs ht9 hvm hw hB hz1 hk1 hS => ?_)
                  obtain ⟨hP, hK1, hD1⟩ := hB
                  rw [ht9] at hP
                  have hD := hD1.weaken (fun _ _ _ h => hFc _ h)
                  refine lv_iinc (v := nI (i + 1)) (lv' := [(3, .int (nI (i + 1))), (2, .int (nI k)), (1, .int (nI t)), (0, .ref a)]) hx hb dX1_reduce_92 hl (k := 0) rfl (nI_add i 1) (by decide) rfl (fun ls hl => ?_)
                  refine lv_goto (tgt := 61) hx hb dX1_reduce_95 (by decide) ?_
                  exact ih61 (i + 1) M3 _ _ _ (by omega) (by omega) (hpt.step c69n hw.1 hw.2) hP hD hS (lv_sub hl [0, 1, 2, 3] rfl)
              exact L61 _ 0 M1 _ _ _ (Nat.lt_succ_self _) (by omega) (Part.start _ _ _) hP hD hS (lv_sub hl [0, 1, 2, 3] rfl)
            refine lv_istore_n (lv' := [(2, .int (-1)), (1, .int (nI t)), (0, .ref a)]) hx hb dX1_reduce_34 rfl hl (by decide) rfl (fun ls hl => ?_)
            refine lv_aload_n hx hb dX1_reduce_35 rfl (lv_at hl 2 rfl) ?_
            refine va_get (D := D) (ci := 1) (C := RX1) (T := TX1) (N := 4) hx hb hts iX1 hown hK hP 0 rfl rfl 1 (by decide) (hts _ k_f_X1_16) (fun _ h9 => h9) rfl dX1_reduce_36 ?_
            refine lv_iload_n hx hb dX1_reduce_39 rfl (lv_at hl 1 rfl) ?_
            refine lv_iload_n hx hb dX1_reduce_40 rfl (lv_at hl 0 rfl) ?_
            refine n_iast hx hb hK hP hD hS 2 0 rfl rfl (i := t) (by omega) (by decide) dX1_reduce_41 (fun H locs hP hD hS => ?_)
            have hP : va_P D vwCl (WE K a ao ap ab r M1 (upd pv1 t (-1)) ip1 sv) H := hP
            have hD : va_D A (WE K a ao ap ab r M1 (upd pv1 t (-1)) ip1 sv) := hD
            refine lv_iload_n hx hb dX1_reduce_42 rfl (lv_at hl 0 rfl) ?_
            refine b_if_lt hx hb (show (-1 : Int32).toInt = -1 by decide) dX1_reduce_43 (tgt := 98) (by decide) (fun c43 => ?_) (fun c43 => absurd c43 (by decide))
            have hfr2 : FinTo (tI M1) 10 ps (t + 1) := fun i hi hf j hj => by
              by_cases q : j = t
              · subst q; rw [tI_at (by omega)]; exact hno i hi ((hip i hi).mpr hf)
              · exact hfr i hi hf j (by omega)
            refine lv_iinc (v := nI (t + 1)) (lv' := [(1, .int (nI (t + 1))), (2, .int (-1)), (0, .ref a)]) hx hb dX1_reduce_98 hl (k := 1) rfl (nI_add t 1) (by decide) rfl (fun ls hl => ?_)
            refine lv_goto (tgt := 23) hx hb dX1_reduce_101 (by decide) ?_
            exact ih23 (t + 1) M1 (upd pv1 t (-1)) ip1 ps _ _ _ (by omega) (by omega) hE (fun q hq => by have := hc q hq; omega) (hpv.miss hc) hip hfr2 hP hD hS (lv_sub hl [0, 2] rfl)
        exact L23 _ 0 M pv ip' ([]) _ _ _ (Nat.lt_succ_self _) (by omega) (EInv_start _ _) (fun q h => absurd h List.not_mem_nil) (fun t h => absurd h (Nat.not_lt_zero _)) hip0 (fun i _ _ j h => absurd h (Nat.not_lt_zero _)) hP hD hS (lv_sub hl [0, 1] rfl)
      refine lv_aload_n hx hb dX1_reduce_8 rfl (lv_at hl 1 rfl) ?_
      refine va_get (D := D) (ci := 1) (C := RX1) (T := TX1) (N := 4) hx hb hts iX1 hown hK hP 0 rfl rfl 2 (by decide) (hts _ k_f_X1_20) (fun _ h9 => h9) rfl dX1_reduce_9 ?_
      refine lv_iload_n hx hb dX1_reduce_12 rfl (lv_at hl 0 rfl) ?_
      refine lv_iconst (v := nI 0) hx hb dX1_reduce_13 (by decide) ?_
      refine n_zast hx hb hK hP hD hS 3 2 rfl rfl (i := i) (y := nI 0) (by decide) (by omega) (by decide) dX1_reduce_14 (fun H locs hP hD hS => ?_)
      have hP : va_P D vwCl (WE K a ao ap ab r M pv (upd ip' i (nI 0)) sv) H := hP
      have hD : va_D A (WE K a ao ap ab r M pv (upd ip' i (nI 0)) sv) := hD
      refine lv_iinc (v := nI (i + 1)) (lv' := [(1, .int (nI (i + 1))), (0, .ref a)]) hx hb dX1_reduce_15 hl (k := 0) rfl (nI_add i 1) (by decide) rfl (fun ls hl => ?_)
      refine lv_goto (tgt := 2) hx hb dX1_reduce_18 (by decide) ?_
      have hz2 : ∀ k, k < i + 1 → (upd ip' i (nI 0)) k = nI 0 := fun k hk9 => by
        by_cases q : k = i
        · subst q; exact if_pos rfl
        · exact (if_neg q).trans (hz k (by omega))
      exact ih2 (i + 1) (upd ip' i (nI 0)) _ _ _ (by omega) (by omega) hz2 hP hD hS (lv_sub hl [0, 1] rfl)
  exact L2 _ 0 ip _ _ _ (Nat.lt_succ_self _) (by omega) (fun k hk9 => absurd hk9 (Nat.not_lt_zero _)) hP hD hS (lv_sub hl [0, 1] rfl)
