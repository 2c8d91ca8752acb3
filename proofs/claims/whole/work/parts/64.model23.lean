/-! PlanetaryGearboxModel: gears -/
theorem anN_0 : ∀ a, a < 64 → ∀ b, b < 64 → (anN a b = 0 ↔ a &&& b = a) := by decide +kernel
theorem gst_top (d : Nat → Nat → Int32) {m : Nat} (hm : dn d 8 1 = m) : ∀ k, gst d (2 ^ m + k) = gst d (2 ^ m)
  | 0 => rfl
  | k + 1 => (gst_no (fun z => by have h1 : 2 ^ m + k < 2 ^ dn d 8 1 := z.1; rw [hm] at h1; omega)).trans (gst_top d hm k)
theorem gst_fin (d : Nat → Nat → Int32) {m : Nat} (hm : dn d 8 1 = m) (h : 2 ^ m ≤ 64) : gst d (2 ^ m) = gst d 64 := by
  rw [show 64 = 2 ^ m + (64 - 2 ^ m) by omega, gst_top d hm]
def isP (d : Nat → Nat → Int32) (t k : Nat) : Prop := stM d t = 0 ∧ ∀ s, s < k → s &&& t = s → stM d s = 2
theorem isP_G {d : Nat → Nat → Int32} {t : Nat} (ht : t < 2 ^ dn d 8 1) : isP d t t ↔ isG d t :=
  ⟨fun z => ⟨ht, z.1, fun s h1 h2 => z.2 s (Nat.lt_of_le_of_ne (sub_le h1) h2) h1⟩, fun z => ⟨z.2.1, fun s h1 h2 => z.2.2 s h2 (Nat.ne_of_lt h1)⟩⟩
set_option maxHeartbeats 4000000 in
set_option maxRecDepth 100000 in
theorem c_X7_isGear (l : Launch) (D : va_G) (K : Nat → ClassId) (mm : Nat → Nat) (ta : Nat → Int32) (sl : Nat → Int32) (ss : Nat → Int32) (be : Nat → Int32) (ch : Int32) (th : Int32) (M : Nat → Nat → Int64) (rq : Int32) (cq : Int32) (pv : Nat → Int32) (so : Int32) (st : Nat → Int32) (gs : Int32) (gm : Nat → Int32) (gu : Nat → Int64) (gl : Nat → Int64) (aw : Nat → Int32) (d : Nat → Nat → Int32) (t : Nat) (sz : Nat) (ht6 : t < 64) (ht : t < 2 ^ dn d 8 1) (hst : ∀ s, s ≤ t → st s = nI (stM d s)) : Met l yX7_isGear (.code yX7_isGear cX7_isGear 4 (some .boolean) :: TB) ({ frames := 0, cells := 0, slots := 0, locals := 0 } : Room) (va_Pc [.ref (mm 0), .int (nI t)] (cP D K (WM K mm ta sl ss be ch th M rq cq pv so st gs gm gu gl aw) sz)) (va_Qi (fun (z : Int32) (_ : Unit) => z = bI (isG d t)) (fun _ _ => True) (fun _ => False)) 0 0 (fun _ => False) := by
  refine Met.ofW (cc := cX7_isGear) (maxL := 4) (ret := (some .boolean)) (by decide) rfl ?_
  intro p e s m args below meth c s₁ B hml hv
  obtain ⟨rfl, hsz, hP, hK, hD0⟩ := hv
  have hx := B.exec
  have hb := B.bytes
  have hr := B.returns
  have hts := hts_tl (atoms_spec (ws := (.code yX7_isGear cX7_isGear 4 (some .boolean) :: TB)) B.pre)
  have hown : s.vm.findClass RX7 = some m.cls := findClass_of_methodNamed B.named
  have hlocks := B.notSynchronized
  subst hsz
  have hA : ∀ q : Nat, q < s.heap.size → (fun _ : Nat => False) q → False := fun _ _ h => h
  have hS : va_S (fun _ => False) s.heap s.heap [] := va_S.rf
  have hl := lv_entry ([.ref (mm 0), .int (nI t)]) (n := 4) (Nat.le_of_ble_eq_true rfl)
  rw [lg_entry_eq]
  generalize (lg_sl ([.ref (mm 0), .int (nI t)]) ++ List.replicate (4 - (lg_sl ([.ref (mm 0), .int (nI t)])).length) Slot.unset).toArray = ls at hl ⊢
  have hl : lv_has ls 4 [(0, .ref (mm 0)), (1, .int (nI t))] := hl
  have hst3 := stC_le (SP d t)
  have hst3 : stM d t ≤ 3 := hst3
  refine lv_aload_n hx hb dX7_isGear_0 rfl (lv_at hl 0 rfl) ?_
  refine va_get (D := D) (ci := 7) (C := RX7) (T := TX7) (N := 17) hx hb hts iX7 hown hK hP 0 rfl rfl 11 (by decide) (hts _ k_f_X7_30) (fun _ h9 => h9) rfl dX7_isGear_1 ?_
  refine lv_iload_n hx hb dX7_isGear_4 rfl (lv_at hl 1 rfl) ?_
  refine n_iald hx hb hK hP 7 0 rfl rfl (i := t) (n := 64) (by omega) (by decide) dX7_isGear_5 ?_
  refine t_i (show _ = nI (stM d t) from hst t (Nat.le_refl t)) ?_
  refine b_if_ne hx hb (nI_toIntI (by omega)) dX7_isGear_6 (tgt := 13) (by decide) (fun c6 => ?_) (fun c6 => ?_)
  · refine lv_iconst (v := nI 0) hx hb dX7_isGear_13 (by decide) ?_
    refine lv_istore_n (lv' := [(2, .int (nI 0)), (0, .ref (mm 0)), (1, .int (nI t))]) hx hb dX7_isGear_14 rfl hl (by decide) rfl (fun ls hl => ?_)
    refine lv_iconst (v := nI 0) hx hb dX7_isGear_15 (by decide) ?_
    refine lv_istore_n (lv' := [(3, .int (nI 0)), (2, .int (nI 0)), (0, .ref (mm 0)), (1, .int (nI t))]) hx hb dX7_isGear_16 rfl hl (by decide) rfl (fun ls hl => ?_)
    have e9 : nI 0 = bI (isP d t 0) := bI_f (fun z => by have := z.1; omega)
    have hl : lv_has ls 4 [(3, .int (nI 0)), (2, .int (bI (isP d t 0))), (0, .ref (mm 0)), (1, .int (nI t))] := by rw [← e9]; exact hl
    have L17 : ∀ (fuel : Nat) (k : Nat) (H : Heap) (locs : List Loc) (ls : Array Slot), 64 - k < fuel → (k ≤ t) → va_P D vwCl (WM K mm ta sl ss be ch th M rq cq pv so st gs gm gu gl aw) H → va_S (fun _ => False) s.heap H locs → lv_has ls 4 [(3, .int (nI k)), (2, .int (bI (isP d t k))), (0, .ref (mm 0)), (1, .int (nI t))] → W p l e ({ frames := 0, cells := 0, slots := 0, locals := 0 } : Room) s m [.ref (mm 0), .int (nI t)].toArray below meth c H locs 0 0 (MQ below (va_Qi (fun (z : Int32) (_ : Unit) => z = bI (isG d t)) (fun _ _ => True) (fun _ => False)) [.ref (mm 0), .int (nI t)].toArray s 0 0 (fun _ => False)) (F0 m 17 ls []) := by
      intro fuel
      induction fuel with
      | zero =>
        intro k H locs ls hfu
        exact absurd hfu (Nat.not_lt_zero _)
      | succ fuel ih17 =>
        intro k H locs ls hfu hk hP hS hl
        refine lv_iload_n hx hb dX7_isGear_17 rfl (lv_at hl 0 rfl) ?_
        refine lv_iload_n hx hb dX7_isGear_18 rfl (lv_at hl 3 rfl) ?_
        refine b_icmp_ge hx hb (nI_toIntI (by omega)) (nI_toIntI (by omega)) dX7_isGear_19 (tgt := 56) (by decide) (fun c19 => ?_) (fun c19 => ?_)
        · refine lv_iload_n hx hb dX7_isGear_56 rfl (lv_at hl 1 rfl) ?_
          exact W.zret (v := bI (isP d t k)) hx hb hr (by rcases bI_01 (isP d t k) with e | e <;> rw [e] <;> decide) (fun t9 ht9 hW => ⟨⟨bI (isP d t k), (), rfl, (by rw [show k = t by omega]; exact bI_iff (isP_G ht)), trivial⟩, hS.F ht9⟩) hS.2.2 dX7_isGear_57
        refine lv_iload_n hx hb dX7_isGear_22 rfl (lv_at hl 1 rfl) ?_
        by_cases hall : (isP d t k)
        rotate_left
        · refine t_i (bI_f hall).symm ?_
          refine b_if_eq hx hb (nI_toIntI (by omega)) dX7_isGear_23 (tgt := 48) (by decide) (fun c23 => ?_) (fun c23 => absurd c23 (by omega))
          refine lv_iconst (v := nI 0) hx hb dX7_isGear_48 (by decide) ?_
          refine lv_istore_n (lv' := [(2, .int (nI 0)), (3, .int (nI k)), (0, .ref (mm 0)), (1, .int (nI t))]) hx hb dX7_isGear_49 rfl hl (by decide) rfl (fun ls hl => ?_)
          refine lv_iinc (v := nI (k + 1)) (lv' := [(3, .int (nI (k + 1))), (2, .int (nI 0)), (0, .ref (mm 0)), (1, .int (nI t))]) hx hb dX7_isGear_50 hl (k := 1) rfl (nI_add k 1) (by decide) rfl (fun ls hl => ?_)
          refine lv_goto (tgt := 17) hx hb dX7_isGear_53 (by decide) ?_
          have e9 : nI 0 = bI (isP d t (k + 1)) := bI_f (fun z => by
      first
      | exact hall ⟨z.1, fun s h1 h2 => z.2 s (by omega) h2⟩
      | (have z9 := z.2 k (Nat.lt_succ_self k) (han.mp (by omega)); omega))
          have hl : lv_has ls 4 [(3, .int (nI (k + 1))), (2, .int (bI (isP d t (k + 1)))), (0, .ref (mm 0)), (1, .int (nI t))] := by rw [← e9]; exact hl
          exact ih17 (k + 1) _ _ _ (by omega) (by omega) hP hS (lv_sub hl [0, 1, 2, 3] rfl)
        refine t_i (bI_t hall).symm ?_
        refine b_if_eq hx hb (nI_toIntI (by omega)) dX7_isGear_23 (tgt := 48) (by decide) (fun c23 => absurd c23 (by omega)) (fun c23 => ?_)
        refine lv_iload_n hx hb dX7_isGear_26 rfl (lv_at hl 0 rfl) ?_
        refine lv_iload_n hx hb dX7_isGear_27 rfl (lv_at hl 3 rfl) ?_
        refine lv_iconst (v := (-1)) hx hb dX7_isGear_28 (by decide) ?_
        refine lv_ixor hx hb dX7_isGear_29 ?_
        refine lv_iand hx hb dX7_isGear_30 ?_
        refine t_i (w_anN k (by omega) t (by omega)) ?_
        have han := anN_0 k (by omega) t (by omega)
        have han2 := anN_lt k (by omega) t (by omega)
        refine b_if_ne hx hb (nI_toIntI (by omega)) dX7_isGear_31 (tgt := 44) (by decide) (fun c31 => ?_) (fun c31 => ?_)
        · refine lv_iconst (v := nI 1) hx hb dX7_isGear_44 (by decide) ?_
          refine lv_goto (tgt := 49) hx hb dX7_isGear_45 (by decide) ?_
          refine lv_istore_n (lv' := [(2, .int (nI 1)), (3, .int (nI k)), (0, .ref (mm 0)), (1, .int (nI t))]) hx hb dX7_isGear_49 rfl hl (by decide) rfl (fun ls hl => ?_)
          refine lv_iinc (v := nI (k + 1)) (lv' := [(3, .int (nI (k + 1))), (2, .int (nI 1)), (0, .ref (mm 0)), (1, .int (nI t))]) hx hb dX7_isGear_50 hl (k := 1) rfl (nI_add k 1) (by decide) rfl (fun ls hl => ?_)
          refine lv_goto (tgt := 17) hx hb dX7_isGear_53 (by decide) ?_
          have e9 : nI 1 = bI (isP d t (k + 1)) := bI_t ⟨hall.1, fun s h1 h2 => by
      by_cases q : s = k
      · subst q; first | (exact absurd ((han).mpr h2) (by omega)) | omega
      · exact hall.2 s (by omega) h2⟩
          have hl : lv_has ls 4 [(3, .int (nI (k + 1))), (2, .int (bI (isP d t (k + 1)))), (0, .ref (mm 0)), (1, .int (nI t))] := by rw [← e9]; exact hl
          exact ih17 (k + 1) _ _ _ (by omega) (by omega) hP hS (lv_sub hl [0, 1, 2, 3] rfl)
        have hk3 := stC_le (SP d k)
        have hk3 : stM d k ≤ 3 := hk3
        refine lv_aload_n hx hb dX7_isGear_34 rfl (lv_at hl 2 rfl) ?_
        refine va_get (D := D) (ci := 7) (C := RX7) (T := TX7) (N := 17) hx hb hts iX7 hown hK hP 0 rfl rfl 11 (by decide) (hts _ k_f_X7_30) (fun _ h9 => h9) rfl dX7_isGear_35 ?_
        refine lv_iload_n hx hb dX7_isGear_38 rfl (lv_at hl 0 rfl) ?_
        refine n_iald hx hb hK hP 7 0 rfl rfl (i := k) (n := 64) (by omega) (by decide) dX7_isGear_39 ?_
        refine t_i (show _ = nI (stM d k) from hst k (by omega)) ?_
        refine lv_iconst (v := nI 2) hx hb dX7_isGear_40 (by decide) ?_
        refine b_icmp_ne hx hb (nI_toIntI (by omega)) (nI_toIntI (by omega)) dX7_isGear_41 (tgt := 48) (by decide) (fun c41 => ?_) (fun c41 => ?_)
        · refine lv_iconst (v := nI 0) hx hb dX7_isGear_48 (by decide) ?_
          refine lv_istore_n (lv' := [(2, .int (nI 0)), (3, .int (nI k)), (0, .ref (mm 0)), (1, .int (nI t))]) hx hb dX7_isGear_49 rfl hl (by decide) rfl (fun ls hl => ?_)
          refine lv_iinc (v := nI (k + 1)) (lv' := [(3, .int (nI (k + 1))), (2, .int (nI 0)), (0, .ref (mm 0)), (1, .int (nI t))]) hx hb dX7_isGear_50 hl (k := 1) rfl (nI_add k 1) (by decide) rfl (fun ls hl => ?_)
          refine lv_goto (tgt := 17) hx hb dX7_isGear_53 (by decide) ?_
          have e9 : nI 0 = bI (isP d t (k + 1)) := bI_f (fun z => by
      first
      | exact hall ⟨z.1, fun s h1 h2 => z.2 s (by omega) h2⟩
      | (have z9 := z.2 k (Nat.lt_succ_self k) (han.mp (by omega)); omega))
          have hl : lv_has ls 4 [(3, .int (nI (k + 1))), (2, .int (bI (isP d t (k + 1)))), (0, .ref (mm 0)), (1, .int (nI t))] := by rw [← e9]; exact hl
          exact ih17 (k + 1) _ _ _ (by omega) (by omega) hP hS (lv_sub hl [0, 1, 2, 3] rfl)
        refine lv_iconst (v := nI 1) hx hb dX7_isGear_44 (by decide) ?_
        refine lv_goto (tgt := 49) hx hb dX7_isGear_45 (by decide) ?_
        refine lv_istore_n (lv' := [(2, .int (nI 1)), (3, .int (nI k)), (0, .ref (mm 0)), (1, .int (nI t))]) hx hb dX7_isGear_49 rfl hl (by decide) rfl (fun ls hl => ?_)
        refine lv_iinc (v := nI (k + 1)) (lv' := [(3, .int (nI (k + 1))), (2, .int (nI 1)), (0, .ref (mm 0)), (1, .int (nI t))]) hx hb dX7_isGear_50 hl (k := 1) rfl (nI_add k 1) (by decide) rfl (fun ls hl => ?_)
        refine lv_goto (tgt := 17) hx hb dX7_isGear_53 (by decide) ?_
        have e9 : nI 1 = bI (isP d t (k + 1)) := bI_t ⟨hall.1, fun s h1 h2 => by
      by_cases q : s = k
      · subst q; first | (exact absurd ((han).mpr h2) (by omega)) | omega
      · exact hall.2 s (by omega) h2⟩
        have hl : lv_has ls 4 [(3, .int (nI (k + 1))), (2, .int (bI (isP d t (k + 1)))), (0, .ref (mm 0)), (1, .int (nI t))] := by rw [← e9]; exact hl
        exact ih17 (k + 1) _ _ _ (by omega) (by omega) hP hS (lv_sub hl [0, 1, 2, 3] rfl)
    exact L17 _ 0 _ _ _ (Nat.lt_succ_self _) (by omega) hP hS (lv_sub hl [0, 1, 2, 3] rfl)
  refine lv_iconst (v := nI 1) hx hb dX7_isGear_9 (by decide) ?_
  refine lv_goto (tgt := 14) hx hb dX7_isGear_10 (by decide) ?_
  refine lv_istore_n (lv' := [(2, .int (nI 1)), (0, .ref (mm 0)), (1, .int (nI t))]) hx hb dX7_isGear_14 rfl hl (by decide) rfl (fun ls hl => ?_)
  refine lv_iconst (v := nI 0) hx hb dX7_isGear_15 (by decide) ?_
  refine lv_istore_n (lv' := [(3, .int (nI 0)), (2, .int (nI 1)), (0, .ref (mm 0)), (1, .int (nI t))]) hx hb dX7_isGear_16 rfl hl (by decide) rfl (fun ls hl => ?_)
  have e9 : nI 1 = bI (isP d t 0) := bI_t ⟨by omega, fun s h => absurd h (Nat.not_lt_zero _)⟩
  have hl : lv_has ls 4 [(3, .int (nI 0)), (2, .int (bI (isP d t 0))), (0, .ref (mm 0)), (1, .int (nI t))] := by rw [← e9]; exact hl
  have L17 : ∀ (fuel : Nat) (k : Nat) (H : Heap) (locs : List Loc) (ls : Array Slot), 64 - k < fuel → (k ≤ t) → va_P D vwCl (WM K mm ta sl ss be ch th M rq cq pv so st gs gm gu gl aw) H → va_S (fun _ => False) s.heap H locs → lv_has ls 4 [(3, .int (nI k)), (2, .int (bI (isP d t k))), (0, .ref (mm 0)), (1, .int (nI t))] → W p l e ({ frames := 0, cells := 0, slots := 0, locals := 0 } : Room) s m [.ref (mm 0), .int (nI t)].toArray below meth c H locs 0 0 (MQ below (va_Qi (fun (z : Int32) (_ : Unit) => z = bI (isG d t)) (fun _ _ => True) (fun _ => False)) [.ref (mm 0), .int (nI t)].toArray s 0 0 (fun _ => False)) (F0 m 17 ls []) := by
    intro fuel
    induction fuel with
    | zero =>
      intro k H locs ls hfu
      exact absurd hfu (Nat.not_lt_zero _)
    | succ fuel ih17 =>
      intro k H locs ls hfu hk hP hS hl
      refine lv_iload_n hx hb dX7_isGear_17 rfl (lv_at hl 0 rfl) ?_
      refine lv_iload_n hx hb dX7_isGear_18 rfl (lv_at hl 3 rfl) ?_
      refine b_icmp_ge hx hb (nI_toIntI (by omega)) (nI_toIntI (by omega)) dX7_isGear_19 (tgt := 56) (by decide) (fun c19 => ?_) (fun c19 => ?_)
      · refine lv_iload_n hx hb dX7_isGear_56 rfl (lv_at hl 1 rfl) ?_
        exact W.zret (v := bI (isP d t k)) hx hb hr (by rcases bI_01 (isP d t k) with e | e <;> rw [e] <;> decide) (fun t9 ht9 hW => ⟨⟨bI (isP d t k), (), rfl, (by rw [show k = t by omega]; exact bI_iff (isP_G ht)), trivial⟩, hS.F ht9⟩) hS.2.2 dX7_isGear_57
      refine lv_iload_n hx hb dX7_isGear_22 rfl (lv_at hl 1 rfl) ?_
      by_cases hall : (isP d t k)
      rotate_left
      · refine t_i (bI_f hall).symm ?_
        refine b_if_eq hx hb (nI_toIntI (by omega)) dX7_isGear_23 (tgt := 48) (by decide) (fun c23 => ?_) (fun c23 => absurd c23 (by omega))
        refine lv_iconst (v := nI 0) hx hb dX7_isGear_48 (by decide) ?_
        refine lv_istore_n (lv' := [(2, .int (nI 0)), (3, .int (nI k)), (0, .ref (mm 0)), (1, .int (nI t))]) hx hb dX7_isGear_49 rfl hl (by decide) rfl (fun ls hl => ?_)
        refine lv_iinc (v := nI (k + 1)) (lv' := [(3, .int (nI (k + 1))), (2, .int (nI 0)), (0, .ref (mm 0)), (1, .int (nI t))]) hx hb dX7_isGear_50 hl (k := 1) rfl (nI_add k 1) (by decide) rfl (fun ls hl => ?_)
        refine lv_goto (tgt := 17) hx hb dX7_isGear_53 (by decide) ?_
        have e9 : nI 0 = bI (isP d t (k + 1)) := bI_f (fun z => by
      first
      | exact hall ⟨z.1, fun s h1 h2 => z.2 s (by omega) h2⟩
      | (have z9 := z.2 k (Nat.lt_succ_self k) (han.mp (by omega)); omega))
        have hl : lv_has ls 4 [(3, .int (nI (k + 1))), (2, .int (bI (isP d t (k + 1)))), (0, .ref (mm 0)), (1, .int (nI t))] := by rw [← e9]; exact hl
        exact ih17 (k + 1) _ _ _ (by omega) (by omega) hP hS (lv_sub hl [0, 1, 2, 3] rfl)
      refine t_i (bI_t hall).symm ?_
      refine b_if_eq hx hb (nI_toIntI (by omega)) dX7_isGear_23 (tgt := 48) (by decide) (fun c23 => absurd c23 (by omega)) (fun c23 => ?_)
      refine lv_iload_n hx hb dX7_isGear_26 rfl (lv_at hl 0 rfl) ?_
      refine lv_iload_n hx hb dX7_isGear_27 rfl (lv_at hl 3 rfl) ?_
      refine lv_iconst (v := (-1)) hx hb dX7_isGear_28 (by decide) ?_
      refine lv_ixor hx hb dX7_isGear_29 ?_
      refine lv_iand hx hb dX7_isGear_30 ?_
      refine t_i (w_anN k (by omega) t (by omega)) ?_
      have han := anN_0 k (by omega) t (by omega)
      have han2 := anN_lt k (by omega) t (by omega)
      refine b_if_ne hx hb (nI_toIntI (by omega)) dX7_isGear_31 (tgt := 44) (by decide) (fun c31 => ?_) (fun c31 => ?_)
      · refine lv_iconst (v := nI 1) hx hb dX7_isGear_44 (by decide) ?_
        refine lv_goto (tgt := 49) hx hb dX7_isGear_45 (by decide) ?_
        refine lv_istore_n (lv' := [(2, .int (nI 1)), (3, .int (nI k)), (0, .ref (mm 0)), (1, .int (nI t))]) hx hb dX7_isGear_49 rfl hl (by decide) rfl (fun ls hl => ?_)
        refine lv_iinc (v := nI (k + 1)) (lv' := [(3, .int (nI (k + 1))), (2, .int (nI 1)), (0, .ref (mm 0)), (1, .int (nI t))]) hx hb dX7_isGear_50 hl (k := 1) rfl (nI_add k 1) (by decide) rfl (fun ls hl => ?_)
        refine lv_goto (tgt := 17) hx hb dX7_isGear_53 (by decide) ?_
        have e9 : nI 1 = bI (isP d t (k + 1)) := bI_t ⟨hall.1, fun s h1 h2 => by
      by_cases q : s = k
      · subst q; first | (exact absurd ((han).mpr h2) (by omega)) | omega
      · exact hall.2 s (by omega) h2⟩
        have hl : lv_has ls 4 [(3, .int (nI (k + 1))), (2, .int (bI (isP d t (k + 1)))), (0, .ref (mm 0)), (1, .int (nI t))] := by rw [← e9]; exact hl
        exact ih17 (k + 1) _ _ _ (by omega) (by omega) hP hS (lv_sub hl [0, 1, 2, 3] rfl)
      have hk3 := stC_le (SP d k)
      have hk3 : stM d k ≤ 3 := hk3
      refine lv_aload_n hx hb dX7_isGear_34 rfl (lv_at hl 2 rfl) ?_
      refine va_get (D := D) (ci := 7) (C := RX7) (T := TX7) (N := 17) hx hb hts iX7 hown hK hP 0 rfl rfl 11 (by decide) (hts _ k_f_X7_30) (fun _ h9 => h9) rfl dX7_isGear_35 ?_
      refine lv_iload_n hx hb dX7_isGear_38 rfl (lv_at hl 0 rfl) ?_
      refine n_iald hx hb hK hP 7 0 rfl rfl (i := k) (n := 64) (by omega) (by decide) dX7_isGear_39 ?_
      refine t_i (show _ = nI (stM d k) from hst k (by omega)) ?_
      refine lv_iconst (v := nI 2) hx hb dX7_isGear_40 (by decide) ?_
      refine b_icmp_ne hx hb (nI_toIntI (by omega)) (nI_toIntI (by omega)) dX7_isGear_41 (tgt := 48) (by decide) (fun c41 => ?_) (fun c41 => ?_)
      · refine lv_iconst (v := nI 0) hx hb dX7_isGear_48 (by decide) ?_
        refine lv_istore_n (lv' := [(2, .int (nI 0)), (3, .int (nI k)), (0, .ref (mm 0)), (1, .int (nI t))]) hx hb dX7_isGear_49 rfl hl (by decide) rfl (fun ls hl => ?_)
        refine lv_iinc (v := nI (k + 1)) (lv' := [(3, .int (nI (k + 1))), (2, .int (nI 0)), (0, .ref (mm 0)), (1, .int (nI t))]) hx hb dX7_isGear_50 hl (k := 1) rfl (nI_add k 1) (by decide) rfl (fun ls hl => ?_)
        refine lv_goto (tgt := 17) hx hb dX7_isGear_53 (by decide) ?_
        have e9 : nI 0 = bI (isP d t (k + 1)) := bI_f (fun z => by
      first
      | exact hall ⟨z.1, fun s h1 h2 => z.2 s (by omega) h2⟩
      | (have z9 := z.2 k (Nat.lt_succ_self k) (han.mp (by omega)); omega))
        have hl : lv_has ls 4 [(3, .int (nI (k + 1))), (2, .int (bI (isP d t (k + 1)))), (0, .ref (mm 0)), (1, .int (nI t))] := by rw [← e9]; exact hl
        exact ih17 (k + 1) _ _ _ (by omega) (by omega) hP hS (lv_sub hl [0, 1, 2, 3] rfl)
      refine lv_iconst (v := nI 1) hx hb dX7_isGear_44 (by decide) ?_
      refine lv_goto (tgt := 49) hx hb dX7_isGear_45 (by decide) ?_
      refine lv_istore_n (lv' := [(2, .int (nI 1)), (3, .int (nI k)), (0, .ref (mm 0)), (1, .int (nI t))]) hx hb dX7_isGear_49 rfl hl (by decide) rfl (fun ls hl => ?_)
      refine lv_iinc (v := nI (k + 1)) (lv' := [(3, .int (nI (k + 1))), (2, .int (nI 1)), (0, .ref (mm 0)), (1, .int (nI t))]) hx hb dX7_isGear_50 hl (k := 1) rfl (nI_add k 1) (by decide) rfl (fun ls hl => ?_)
      refine lv_goto (tgt := 17) hx hb dX7_isGear_53 (by decide) ?_
      have e9 : nI 1 = bI (isP d t (k + 1)) := bI_t ⟨hall.1, fun s h1 h2 => by
      by_cases q : s = k
      · subst q; first | (exact absurd ((han).mpr h2) (by omega)) | omega
      · exact hall.2 s (by omega) h2⟩
      have hl : lv_has ls 4 [(3, .int (nI (k + 1))), (2, .int (bI (isP d t (k + 1)))), (0, .ref (mm 0)), (1, .int (nI t))] := by rw [← e9]; exact hl
      exact ih17 (k + 1) _ _ _ (by omega) (by omega) hP hS (lv_sub hl [0, 1, 2, 3] rfl)
  exact L17 _ 0 _ _ _ (Nat.lt_succ_self _) (by omega) hP hS (lv_sub hl [0, 1, 2, 3] rfl)
set_option maxHeartbeats 4000000 in
set_option maxRecDepth 100000 in
theorem c_X7_layGears (l : Launch) (D : va_G) (K : Nat → ClassId) (mm : Nat → Nat) (ta : Nat → Int32) (sl : Nat → Int32) (ss : Nat → Int32) (be : Nat → Int32) (ch : Int32) (th : Int32) (M : Nat → Nat → Int64) (rq : Int32) (cq : Int32) (pv : Nat → Int32) (so : Int32) (st : Nat → Int32) (gs : Int32) (gm : Nat → Int32) (gu : Nat → Int64) (gl : Nat → Int64) (aw : Nat → Int32) (d : Nat → Nat → Int32) (sz : Nat) (hd : DV d) (hat : AtD ta d) : Met l yX7_layGears (.code yX7_layGears cX7_layGears 8 none :: TB) ({ frames := 6, cells := 0, slots := 0, locals := 150 } : Room) (va_Pc [.ref (mm 0)] (cP D K (WM K mm ta sl ss be ch th M rq cq pv so st gs gm gu gl aw) sz)) (va_Qv (fun (u : (Nat → Nat → Int64) × Int32 × Int32 × (Nat → Int32) × Int32 × (Nat → Int32) × (Nat → Int32) × (Nat → Int64) × (Nat → Int64)) => TabA d (gF d) (gN d) u.2.2.2.2.2.2.1 u.2.2.2.2.2.2.2.1 u.2.2.2.2.2.2.2.2) (fun (u : (Nat → Nat → Int64) × Int32 × Int32 × (Nat → Int32) × Int32 × (Nat → Int32) × (Nat → Int32) × (Nat → Int64) × (Nat → Int64)) t => cB D K (va_A (WM K mm ta sl ss be ch th M rq cq pv so st gs gm gu gl aw) sz) (WM K mm ta sl ss be ch th u.1 u.2.1 u.2.2.1 u.2.2.2.1 u.2.2.2.2.1 u.2.2.2.2.2.1 (nI (gN d)) u.2.2.2.2.2.2.1 u.2.2.2.2.2.2.2.1 u.2.2.2.2.2.2.2.2 aw) t) (va_A (WM K mm ta sl ss be ch th M rq cq pv so st gs gm gu gl aw) sz)) 0 0 (va_A (WM K mm ta sl ss be ch th M rq cq pv so st gs gm gu gl aw) sz) := by
  refine Met.ofW (cc := cX7_layGears) (maxL := 8) (ret := none) (by decide) rfl ?_
  intro p e s m args below meth c s₁ B hml hv
  obtain ⟨rfl, hsz, hP, hK, hD0⟩ := hv
  have hx := B.exec
  have hb := B.bytes
  have hr := B.returns
  have hts := hts_tl (atoms_spec (ws := (.code yX7_layGears cX7_layGears 8 none :: TB)) B.pre)
  have hown : s.vm.findClass RX7 = some m.cls := findClass_of_methodNamed B.named
  have hlocks := B.notSynchronized
  subst hsz
  have hD := hD0.self (sz := s.heap.size)
  generalize hAe : (va_A (WM K mm ta sl ss be ch th M rq cq pv so st gs gm gu gl aw) s.heap.size) = A at hD ⊢
  have hA : ∀ q : Nat, s.heap.size ≤ q → A q := fun q h => by rw [← hAe]; exact Or.inr h
  have hS : va_S A s.heap s.heap [] := va_S.rf
  have hl := lv_entry ([.ref (mm 0)]) (n := 8) (Nat.le_of_ble_eq_true rfl)
  rw [lg_entry_eq]
  generalize (lg_sl ([.ref (mm 0)]) ++ List.replicate (8 - (lg_sl ([.ref (mm 0)])).length) Slot.unset).toArray = ls at hl ⊢
  have hl : lv_has ls 8 [(0, .ref (mm 0))] := hl
  obtain ⟨n, m1, ge, hn, hm, hge, h0, h1, h2, hs9, he9⟩ := id hd
  obtain ⟨ha1, ha2, ha33, ha34, ha35⟩ := id hat
  have hp6 : 2 ^ m1 ≤ 64 := Nat.pow_le_pow_right (show 0 < 2 by decide) hm
  have h33 := ha33.trans h0
  have h34 := ha34.trans h1
  have h35 := ha35.trans h2
  have hn1 : dn d 8 0 = n := dn_of h0 (by omega)
  have hm1 : dn d 8 1 = m1 := dn_of h1 (by omega)
  have hg1 : dn d 8 2 = ge := dn_of h2 (by omega)
  refine lv_iconst (v := nI 1) hx hb dX7_layGears_0 (by decide) ?_
  refine lv_aload_n hx hb dX7_layGears_1 rfl (lv_at hl 0 rfl) ?_
  refine va_get (D := D) (ci := 7) (C := RX7) (T := TX7) (N := 17) hx hb hts iX7 hown hK hP 0 rfl rfl 0 (by decide) (hts _ k_f_X7_7) (fun _ h9 => h9) rfl dX7_layGears_2 ?_
  refine lv_bipush (v := nI 34) hx hb dX7_layGears_5 (by decide) ?_
  refine n_iald hx hb hK hP 1 0 rfl rfl (i := 34) (n := 36) (by omega) (by decide) dX7_layGears_7 ?_
  refine t_i (show _ = nI m1 from h34) ?_
  refine lv_ishl hx hb dX7_layGears_8 ?_
  refine t_i (shl1 m1 hm) ?_
  refine lv_istore_n (lv' := [(1, .int (nI (2 ^ m1))), (0, .ref (mm 0))]) hx hb dX7_layGears_9 rfl hl (by decide) rfl (fun ls hl => ?_)
  refine lv_iconst (v := nI 0) hx hb dX7_layGears_10 (by decide) ?_
  refine lv_istore_n (lv' := [(2, .int (nI 0)), (1, .int (nI (2 ^ m1))), (0, .ref (mm 0))]) hx hb dX7_layGears_11 rfl hl (by decide) rfl (fun ls hl => ?_)
  have L12 : ∀ (fuel : Nat) (t : Nat) (M1 : Nat → Nat → Int64) (rq1 : Int32) (cq1 : Int32) (pv1 : Nat → Int32) (so1 : Int32) (st1 : Nat → Int32) (H : Heap) (locs : List Loc) (ls : Array Slot), 64 - t < fuel → (t ≤ 2 ^ m1) → (∀ z, z < t → st1 z = nI (stM d z)) → va_P D vwCl (WM K mm ta sl ss be ch th M1 rq1 cq1 pv1 so1 st1 gs gm gu gl aw) H → va_D A (WM K mm ta sl ss be ch th M1 rq1 cq1 pv1 so1 st1 gs gm gu gl aw) → va_S A s.heap H locs → lv_has ls 8 [(2, .int (nI t)), (1, .int (nI (2 ^ m1))), (0, .ref (mm 0))] → W p l e ({ frames := 6, cells := 0, slots := 0, locals := 150 } : Room) s m [.ref (mm 0)].toArray below meth c H locs 0 0 (MQ below (va_Qv (fun (u : (Nat → Nat → Int64) × Int32 × Int32 × (Nat → Int32) × Int32 × (Nat → Int32) × (Nat → Int32) × (Nat → Int64) × (Nat → Int64)) => TabA d (gF d) (gN d) u.2.2.2.2.2.2.1 u.2.2.2.2.2.2.2.1 u.2.2.2.2.2.2.2.2) (fun (u : (Nat → Nat → Int64) × Int32 × Int32 × (Nat → Int32) × Int32 × (Nat → Int32) × (Nat → Int32) × (Nat → Int64) × (Nat → Int64)) t => cB D K A (WM K mm ta sl ss be ch th u.1 u.2.1 u.2.2.1 u.2.2.2.1 u.2.2.2.2.1 u.2.2.2.2.2.1 (nI (gN d)) u.2.2.2.2.2.2.1 u.2.2.2.2.2.2.2.1 u.2.2.2.2.2.2.2.2 aw) t) A) [.ref (mm 0)].toArray s 0 0 A) (F0 m 12 ls []) := by
    intro fuel
    induction fuel with
    | zero =>
      intro t M1 rq1 cq1 pv1 so1 st1 H locs ls hfu
      exact absurd hfu (Nat.not_lt_zero _)
    | succ fuel ih12 =>
      intro t M1 rq1 cq1 pv1 so1 st1 H locs ls hfu ht hst hP hD hS hl
      refine lv_iload_n hx hb dX7_layGears_12 rfl (lv_at hl 0 rfl) ?_
      refine lv_iload_n hx hb dX7_layGears_13 rfl (lv_at hl 1 rfl) ?_
      refine b_icmp_ge hx hb (nI_toIntI (by omega)) (nI_toIntI (by omega)) dX7_layGears_14 (tgt := 34) (by decide) (fun c14 => ?_) (fun c14 => ?_)
      · obtain rfl : t = 2 ^ m1 := by omega
        have hstA := hst
        refine lv_aload_n hx hb dX7_layGears_34 rfl (lv_at hl 2 rfl) ?_
        refine lv_iconst (v := nI 0) hx hb dX7_layGears_35 (by decide) ?_
        refine va_put (D := D) (ci := 7) (v := .int (nI 0)) (ty := .int) (C := RX7) (T := TX7) (N := 17) hx hb hts iX7 tyX7 tyX7_ok nmX7 hown hK hP hD hS 0 rfl rfl 12 (by decide) (hts _ k_f_X7_67) (fun _ h9 => h9) rfl (by decide +kernel) rfl rfl (Nat.le_of_ble_eq_true rfl) dX7_layGears_36 (fun H locs hP hD hS => ?_)
        have hP : va_P D vwCl (WM K mm ta sl ss be ch th M1 rq1 cq1 pv1 so1 st1 (nI 0) gm gu gl aw) H := hP
        have hD : va_D A (WM K mm ta sl ss be ch th M1 rq1 cq1 pv1 so1 st1 (nI 0) gm gu gl aw) := hD
        refine lv_iconst (v := nI 0) hx hb dX7_layGears_39 (by decide) ?_
        refine lv_istore_n (lv' := [(2, .int (nI 0)), (1, .int (nI (2 ^ m1))), (0, .ref (mm 0))]) hx hb dX7_layGears_40 rfl hl (by decide) rfl (fun ls hl => ?_)
        have L41 : ∀ (fuel : Nat) (t2 : Nat) (n1 : Nat) (M2 : Nat → Nat → Int64) (rq2 : Int32) (cq2 : Int32) (pv2 : Nat → Int32) (so2 : Int32) (gm1 : Nat → Int32) (gu1 : Nat → Int64) (gl1 : Nat → Int64) (H : Heap) (locs : List Loc) (ls : Array Slot), 64 - t2 < fuel → (t2 ≤ 2 ^ m1) → (n1 = (gst d t2).1) → (TabA d (gst d t2).2 n1 gm1 gu1 gl1) → va_P D vwCl (WM K mm ta sl ss be ch th M2 rq2 cq2 pv2 so2 st1 (nI n1) gm1 gu1 gl1 aw) H → va_D A (WM K mm ta sl ss be ch th M2 rq2 cq2 pv2 so2 st1 (nI n1) gm1 gu1 gl1 aw) → va_S A s.heap H locs → lv_has ls 8 [(2, .int (nI t2)), (1, .int (nI (2 ^ m1))), (0, .ref (mm 0))] → W p l e ({ frames := 6, cells := 0, slots := 0, locals := 150 } : Room) s m [.ref (mm 0)].toArray below meth c H locs 0 0 (MQ below (va_Qv (fun (u : (Nat → Nat → Int64) × Int32 × Int32 × (Nat → Int32) × Int32 × (Nat → Int32) × (Nat → Int32) × (Nat → Int64) × (Nat → Int64)) => TabA d (gF d) (gN d) u.2.2.2.2.2.2.1 u.2.2.2.2.2.2.2.1 u.2.2.2.2.2.2.2.2) (fun (u : (Nat → Nat → Int64) × Int32 × Int32 × (Nat → Int32) × Int32 × (Nat → Int32) × (Nat → Int32) × (Nat → Int64) × (Nat → Int64)) t => cB D K A (WM K mm ta sl ss be ch th u.1 u.2.1 u.2.2.1 u.2.2.2.1 u.2.2.2.2.1 u.2.2.2.2.2.1 (nI (gN d)) u.2.2.2.2.2.2.1 u.2.2.2.2.2.2.2.1 u.2.2.2.2.2.2.2.2 aw) t) A) [.ref (mm 0)].toArray s 0 0 A) (F0 m 41 ls []) := by
          intro fuel
          induction fuel with
          | zero =>
            intro t2 n1 M2 rq2 cq2 pv2 so2 gm1 gu1 gl1 H locs ls hfu
            exact absurd hfu (Nat.not_lt_zero _)
          | succ fuel ih41 =>
            intro t2 n1 M2 rq2 cq2 pv2 so2 gm1 gu1 gl1 H locs ls hfu ht2 hn1 hTA hP hD hS hl
            refine lv_iload_n hx hb dX7_layGears_41 rfl (lv_at hl 0 rfl) ?_
            refine lv_iload_n hx hb dX7_layGears_42 rfl (lv_at hl 1 rfl) ?_
            refine b_icmp_ge hx hb (nI_toIntI (by omega)) (nI_toIntI (by omega)) dX7_layGears_43 (tgt := 205) (by decide) (fun c43 => ?_) (fun c43 => ?_)
            · obtain rfl : t2 = 2 ^ m1 := by omega
              have hfin := gst_fin d hm1 hp6
              have hgN : n1 = gN d := by rw [hn1, hfin]; rfl
              have hTF : TabA d (gF d) n1 gm1 gu1 gl1 := by unfold gF; rw [← hfin]; exact hTA
              subst hgN
              exact W.vret hx hb hr (fun t9 ht9 hW => ⟨⟨(M2, rq2, cq2, pv2, so2, st1, gm1, gu1, gl1), rfl, hTF, by rw [ht9]; exact hP, va_K.moved hW.alike hK, hD⟩, hS.F ht9⟩) hS.2.2 dX7_layGears_205
            refine lv_aload_n hx hb dX7_layGears_46 rfl (lv_at hl 2 rfl) ?_
            refine lv_iload_n hx hb dX7_layGears_47 rfl (lv_at hl 0 rfl) ?_
            refine va_calli (va_runV (As := [.int (nI t2)]) (rest := []) ⟨hx, hb, hml, hown, hts⟩ (c_X7_isGear l D K mm ta sl ss be ch th M2 rq2 cq2 pv2 so2 st1 (nI n1) gm1 gu1 gl1 aw d t2 H.size (by omega) (by rw [hm1]; omega) (fun s hs => hstA s (by omega))) (cwV 1 hts (TB_V k_m_X7_150 k_im_X7_isGear k_se_X7_isGear k_in_X7 k_co_X7_isGear (fun _ h => h)) rfl rfl rfl (by decide +kernel) ⟨Nat.le_of_ble_eq_true rfl, Nat.le_of_ble_eq_true rfl⟩) ⟨cP_blind, va_recv hK hP (ci := 7) (q0 := 0) rfl rfl, cP_of hP hK hD⟩ rfl rfl hl.1 rfl (lv_room (Nat.le_of_ble_eq_true rfl)) dX7_layGears_48 ⟨Nat.le_of_ble_eq_true rfl, Nat.le_of_ble_eq_true rfl⟩) hS (fun q _ h => absurd h id) (fun q h => absurd h id) (fun ig u9 t9 H locs ht9 hvm hw hB hz1 hk1 hS => ?_)
            have hP := P_same hP hk1
            by_cases hisG : isG d t2
            rotate_left
            · refine t_i (hw.trans (bI_f hisG).symm) ?_
              refine b_if_eq hx hb (nI_toIntI (by omega)) dX7_layGears_51 (tgt := 199) (by decide) (fun c51 => ?_) (fun c51 => absurd c51 (by omega))
              refine lv_iinc (v := nI (t2 + 1)) (lv' := [(2, .int (nI (t2 + 1))), (1, .int (nI (2 ^ m1))), (0, .ref (mm 0))]) hx hb dX7_layGears_199 hl (k := 0) rfl (nI_add t2 1) (by decide) rfl (fun ls hl => ?_)
              refine lv_goto (tgt := 41) hx hb dX7_layGears_202 (by decide) ?_
              have hg9 := gst_no (d := d) (t := t2) hisG
              have hn9b : n1 = (gst d (t2 + 1)).1 := by rw [hg9]; exact hn1
              have hTA3 : TabA d (gst d (t2 + 1)).2 n1 gm1 gu1 gl1 := by rw [hg9]; exact hTA
              exact ih41 (t2 + 1) n1 M2 rq2 cq2 pv2 so2 gm1 gu1 gl1 _ _ _ (by omega) (by omega) hn9b hTA3 hP hD hS (lv_sub hl [0, 1, 2] rfl)
            refine t_i (hw.trans (bI_t hisG).symm) ?_
            have hst0 : stM d t2 = 0 := hisG.2.1
            have hdr := stC_drive.mp (show stC (SP d t2) = 0 from hst0)
            have hn1t := gst_le d t2
            refine b_if_eq hx hb (nI_toIntI (by omega)) dX7_layGears_51 (tgt := 199) (by decide) (fun c51 => absurd c51 (by omega)) (fun c51 => ?_)
            refine lv_aload_n hx hb dX7_layGears_54 rfl (lv_at hl 2 rfl) ?_
            refine lv_iload_n hx hb dX7_layGears_55 rfl (lv_at hl 0 rfl) ?_
            have hFc := freeAll hD hS hA
            refine va_callv (va_runV (As := [.int (nI t2)]) (rest := []) ⟨hx, hb, hml, hown, hts⟩ (c_X7_laySpeeds l D K mm ta sl ss be ch th M2 rq2 cq2 pv2 so2 st1 (nI n1) gm1 gu1 gl1 aw d t2 H.size hd hat (by omega)) (cwV 1 hts (TB_V k_m_X7_117 k_im_X7_laySpeeds k_se_X7_laySpeeds k_in_X7 k_co_X7_laySpeeds (fun _ h => h)) rfl rfl rfl (by decide +kernel) ⟨Nat.le_of_ble_eq_true rfl, Nat.le_of_ble_eq_true rfl⟩) ⟨cP_blind, va_recv hK hP (ci := 7) (q0 := 0) rfl rfl, cP_of hP hK hD⟩ rfl rfl hl.1 rfl (lv_room (Nat.le_of_ble_eq_true rfl)) dX7_layGears_56 ⟨Nat.le_of_ble_eq_true rfl, Nat.le_of_ble_eq_true rfl⟩) hS (fun q _ h => hFc q h) hFc (fun u6 t9 H locs ht9 hvm hw hB hz1 hk1 hS => ?_)
            obtain ⟨hP, hK1, hD1⟩ := hB
            rw [ht9] at hP
            have hD := hD1.weaken (fun _ _ _ h => hFc _ h)
            have hP : va_P D vwCl (WM K mm ta sl ss be ch th u6.1.1 u6.2 (nI 6) u6.1.2.1 u6.1.2.2 st1 (nI n1) gm1 gu1 gl1 aw) H := hP
            have hD : va_D A (WM K mm ta sl ss be ch th u6.1.1 u6.2 (nI 6) u6.1.2.1 u6.1.2.2 st1 (nI n1) gm1 gu1 gl1 aw) := hD
            obtain ⟨nr, hnr, hrq9, hs0⟩ := hw
            obtain ⟨kv, hkv, hpv9, hne9, hb19, hb29, hvn, hvd⟩ := hs0.val hnr (by decide) (t := 1) (by decide) hdr.1 hdr.2.1
            obtain ⟨hle1, hle2⟩ := Lval_le (c := (u6.1.1 kv 10).toInt) hne9
            rw [hvn] at hle1
            rw [hvd] at hle2
            refine lv_aload_n hx hb dX7_layGears_59 rfl (lv_at hl 2 rfl) ?_
            refine lv_iconst (v := nI 0) hx hb dX7_layGears_60 (by decide) ?_
            refine va_calll (va_runV (As := [.int (nI 0)]) (rest := []) ⟨hx, hb, hml, hown, hts⟩ (c_X7_ratioPart l D K mm ta sl ss be ch th u6.1.1 u6.2 (nI 6) u6.1.2.1 u6.1.2.2 st1 (nI n1) gm1 gu1 gl1 aw (SP d t2) nr 0 H.size hnr (by decide) hs0 hst0) (cwV 1 hts (TB_V k_m_X7_141 k_im_X7_ratioPart k_se_X7_ratioPart k_in_X7 k_co_X7_ratioPart (fun _ h => h)) rfl rfl rfl (by decide +kernel) ⟨Nat.le_of_ble_eq_true rfl, Nat.le_of_ble_eq_true rfl⟩) ⟨cP_blind, va_recv hK hP (ci := 7) (q0 := 0) rfl rfl, cP_of hP hK hD⟩ rfl rfl hl.1 rfl (lv_room (Nat.le_of_ble_eq_true rfl)) dX7_layGears_61 ⟨Nat.le_of_ble_eq_true rfl, Nat.le_of_ble_eq_true rfl⟩) hS (fun q _ h => absurd h id) (fun q h => absurd h id) (fun y9 u9 t9 H locs ht9 hvm hw hB hz1 hk1 hS => ?_)
            have hP := P_same hP hk1
            have hy9 : y9.toInt = rtN (SP d t2) := hw
            have hby9 : y9.toInt.natAbs ≤ BB := by rw [hy9]; exact rtN_le (by omega)
            refine lv_lstore_n (lv' := [(3, .long y9), (2, .int (nI t2)), (1, .int (nI (2 ^ m1))), (0, .ref (mm 0))]) hx hb dX7_layGears_64 rfl hl (by decide) rfl (fun ls hl => ?_)
            refine lv_aload_n hx hb dX7_layGears_65 rfl (lv_at hl 3 rfl) ?_
            refine lv_iconst (v := nI 1) hx hb dX7_layGears_66 (by decide) ?_
            refine va_calll (va_runV (As := [.int (nI 1)]) (rest := []) ⟨hx, hb, hml, hown, hts⟩ (c_X7_ratioPart l D K mm ta sl ss be ch th u6.1.1 u6.2 (nI 6) u6.1.2.1 u6.1.2.2 st1 (nI n1) gm1 gu1 gl1 aw (SP d t2) nr 1 H.size hnr (by decide) hs0 hst0) (cwV 1 hts (TB_V k_m_X7_141 k_im_X7_ratioPart k_se_X7_ratioPart k_in_X7 k_co_X7_ratioPart (fun _ h => h)) rfl rfl rfl (by decide +kernel) ⟨Nat.le_of_ble_eq_true rfl, Nat.le_of_ble_eq_true rfl⟩) ⟨cP_blind, va_recv hK hP (ci := 7) (q0 := 0) rfl rfl, cP_of hP hK hD⟩ rfl rfl hl.1 rfl (lv_room (Nat.le_of_ble_eq_true rfl)) dX7_layGears_67 ⟨Nat.le_of_ble_eq_true rfl, Nat.le_of_ble_eq_true rfl⟩) hS (fun q _ h => absurd h id) (fun q h => absurd h id) (fun z9 u9 t9 H locs ht9 hvm hw hB hz1 hk1 hS => ?_)
            have hP := P_same hP hk1
            have hz9 : z9.toInt = rtD (SP d t2) := hw
            have hbz9 : z9.toInt.natAbs ≤ BB := by rw [hz9]; exact rtD_le (by omega)
            refine lv_lstore (lv' := [(5, .long z9), (3, .long y9), (2, .int (nI t2)), (1, .int (nI (2 ^ m1))), (0, .ref (mm 0))]) hx hb dX7_layGears_70 hl (by decide) rfl (fun ls hl => ?_)
            refine lv_aload_n hx hb dX7_layGears_72 rfl (lv_at hl 4 rfl) ?_
            refine va_get (D := D) (ci := 7) (C := RX7) (T := TX7) (N := 17) hx hb hts iX7 hown hK hP 0 rfl rfl 12 (by decide) (hts _ k_f_X7_67) (fun _ h9 => h9) rfl dX7_layGears_73 ?_
            refine lv_istore (lv' := [(7, .int (nI n1)), (5, .long z9), (3, .long y9), (2, .int (nI t2)), (1, .int (nI (2 ^ m1))), (0, .ref (mm 0))]) hx hb dX7_layGears_76 hl (by decide) rfl (fun ls hl => ?_)
            have L78 : ∀ (fuel : Nat) (k : Nat) (gm' : Nat → Int32) (gu' : Nat → Int64) (gl' : Nat → Int64) (H : Heap) (locs : List Loc) (ls : Array Slot), k < fuel → (k ≤ n1) → (posG d (gst d t2).2 t2 n1 = posG d (gst d t2).2 t2 k) → (Sh gm1 gm' k n1) → (Sh gu1 gu' k n1) → (Sh gl1 gl' k n1) → va_P D vwCl (WM K mm ta sl ss be ch th u6.1.1 u6.2 (nI 6) u6.1.2.1 u6.1.2.2 st1 (nI n1) gm' gu' gl' aw) H → va_D A (WM K mm ta sl ss be ch th u6.1.1 u6.2 (nI 6) u6.1.2.1 u6.1.2.2 st1 (nI n1) gm' gu' gl' aw) → va_S A s.heap H locs → lv_has ls 8 [(7, .int (nI k)), (5, .long z9), (3, .long y9), (2, .int (nI t2)), (1, .int (nI (2 ^ m1))), (0, .ref (mm 0))] → W p l e ({ frames := 6, cells := 0, slots := 0, locals := 150 } : Room) s m [.ref (mm 0)].toArray below meth c H locs 0 0 (MQ below (va_Qv (fun (u : (Nat → Nat → Int64) × Int32 × Int32 × (Nat → Int32) × Int32 × (Nat → Int32) × (Nat → Int32) × (Nat → Int64) × (Nat → Int64)) => TabA d (gF d) (gN d) u.2.2.2.2.2.2.1 u.2.2.2.2.2.2.2.1 u.2.2.2.2.2.2.2.2) (fun (u : (Nat → Nat → Int64) × Int32 × Int32 × (Nat → Int32) × Int32 × (Nat → Int32) × (Nat → Int32) × (Nat → Int64) × (Nat → Int64)) t => cB D K A (WM K mm ta sl ss be ch th u.1 u.2.1 u.2.2.1 u.2.2.2.1 u.2.2.2.2.1 u.2.2.2.2.2.1 (nI (gN d)) u.2.2.2.2.2.2.1 u.2.2.2.2.2.2.2.1 u.2.2.2.2.2.2.2.2 aw) t) A) [.ref (mm 0)].toArray s 0 0 A) (F0 m 78 ls []) := by
              intro fuel
              induction fuel with
              | zero =>
                intro k gm' gu' gl' H locs ls hfu
                exact absurd hfu (Nat.not_lt_zero _)
              | succ fuel ih78 =>
                intro k gm' gu' gl' H locs ls hfu hkn hp hs1 hs2 hs3 hP hD hS hl
                refine lv_iload hx hb dX7_layGears_78 (lv_at hl 0 rfl) ?_
                refine b_if_le hx hb (nI_toIntI (by omega)) dX7_layGears_80 (tgt := 164) (by decide) (fun c80 => ?_) (fun c80 => ?_)
                · refine lv_aload_n hx hb dX7_layGears_164 rfl (lv_at hl 5 rfl) ?_
                  refine va_get (D := D) (ci := 7) (C := RX7) (T := TX7) (N := 17) hx hb hts iX7 hown hK hP 0 rfl rfl 13 (by decide) (hts _ k_f_X7_33) (fun _ h9 => h9) rfl dX7_layGears_165 ?_
                  refine lv_iload hx hb dX7_layGears_168 (lv_at hl 0 rfl) ?_
                  refine lv_iload_n hx hb dX7_layGears_170 rfl (lv_at hl 3 rfl) ?_
                  refine n_iast hx hb hK hP hD hS 8 0 rfl rfl (i := k) (n := 64) (by omega) (by decide) dX7_layGears_171 (fun H locs hP hD hS => ?_)
                  have hP : va_P D vwCl (WM K mm ta sl ss be ch th u6.1.1 u6.2 (nI 6) u6.1.2.1 u6.1.2.2 st1 (nI n1) (upd gm' k (nI t2)) gu' gl' aw) H := hP
                  have hD : va_D A (WM K mm ta sl ss be ch th u6.1.1 u6.2 (nI 6) u6.1.2.1 u6.1.2.2 st1 (nI n1) (upd gm' k (nI t2)) gu' gl' aw) := hD
                  refine lv_aload_n hx hb dX7_layGears_172 rfl (lv_at hl 5 rfl) ?_
                  refine va_get (D := D) (ci := 7) (C := RX7) (T := TX7) (N := 17) hx hb hts iX7 hown hK hP 0 rfl rfl 14 (by decide) (hts _ k_f_X7_36) (fun _ h9 => h9) rfl dX7_layGears_173 ?_
                  refine lv_iload hx hb dX7_layGears_176 (lv_at hl 0 rfl) ?_
                  refine lv_lload_n hx hb dX7_layGears_178 rfl (lv_at hl 2 rfl) ?_
                  refine n_last hx hb hK hP hD hS 9 1 rfl rfl (i := k) (n := 64) (by omega) (by decide) dX7_layGears_179 (fun H locs hP hD hS => ?_)
                  have hP : va_P D vwCl (WM K mm ta sl ss be ch th u6.1.1 u6.2 (nI 6) u6.1.2.1 u6.1.2.2 st1 (nI n1) (upd gm' k (nI t2)) (vp_updL gu' k y9) gl' aw) H := hP
                  have hD : va_D A (WM K mm ta sl ss be ch th u6.1.1 u6.2 (nI 6) u6.1.2.1 u6.1.2.2 st1 (nI n1) (upd gm' k (nI t2)) (vp_updL gu' k y9) gl' aw) := hD
                  refine lv_aload_n hx hb dX7_layGears_180 rfl (lv_at hl 5 rfl) ?_
                  refine va_get (D := D) (ci := 7) (C := RX7) (T := TX7) (N := 17) hx hb hts iX7 hown hK hP 0 rfl rfl 15 (by decide) (hts _ k_f_X7_39) (fun _ h9 => h9) rfl dX7_layGears_181 ?_
                  refine lv_iload hx hb dX7_layGears_184 (lv_at hl 0 rfl) ?_
                  refine lv_lload hx hb dX7_layGears_186 (lv_at hl 1 rfl) ?_
                  refine n_last hx hb hK hP hD hS 10 1 rfl rfl (i := k) (n := 64) (by omega) (by decide) dX7_layGears_188 (fun H locs hP hD hS => ?_)
                  have hP : va_P D vwCl (WM K mm ta sl ss be ch th u6.1.1 u6.2 (nI 6) u6.1.2.1 u6.1.2.2 st1 (nI n1) (upd gm' k (nI t2)) (vp_updL gu' k y9) (vp_updL gl' k z9) aw) H := hP
                  have hD : va_D A (WM K mm ta sl ss be ch th u6.1.1 u6.2 (nI 6) u6.1.2.1 u6.1.2.2 st1 (nI n1) (upd gm' k (nI t2)) (vp_updL gu' k y9) (vp_updL gl' k z9) aw) := hD
                  refine lv_aload_n hx hb dX7_layGears_189 rfl (lv_at hl 5 rfl) ?_
                  refine lv_dup hx hb dX7_layGears_190 rfl ?_
                  refine va_get (D := D) (ci := 7) (C := RX7) (T := TX7) (N := 17) hx hb hts iX7 hown hK hP 0 rfl rfl 12 (by decide) (hts _ k_f_X7_67) (fun _ h9 => h9) rfl dX7_layGears_191 ?_
                  refine lv_iconst (v := nI 1) hx hb dX7_layGears_194 (by decide) ?_
                  refine lv_iadd hx hb dX7_layGears_195 ?_
                  refine t_i (nI_add _ _) ?_
                  refine va_put (D := D) (ci := 7) (v := .int (nI (n1 + 1))) (ty := .int) (C := RX7) (T := TX7) (N := 17) hx hb hts iX7 tyX7 tyX7_ok nmX7 hown hK hP hD hS 0 rfl rfl 12 (by decide) (hts _ k_f_X7_67) (fun _ h9 => h9) rfl (by decide +kernel) rfl rfl (Nat.le_of_ble_eq_true rfl) dX7_layGears_196 (fun H locs hP hD hS => ?_)
                  have hP : va_P D vwCl (WM K mm ta sl ss be ch th u6.1.1 u6.2 (nI 6) u6.1.2.1 u6.1.2.2 st1 (nI (n1 + 1)) (upd gm' k (nI t2)) (vp_updL gu' k y9) (vp_updL gl' k z9) aw) H := hP
                  have hD : va_D A (WM K mm ta sl ss be ch th u6.1.1 u6.2 (nI 6) u6.1.2.1 u6.1.2.2 st1 (nI (n1 + 1)) (upd gm' k (nI t2)) (vp_updL gu' k y9) (vp_updL gl' k z9) aw) := hD
                  refine lv_iinc (v := nI (t2 + 1)) (lv' := [(2, .int (nI (t2 + 1))), (7, .int (nI k)), (5, .long z9), (3, .long y9), (1, .int (nI (2 ^ m1))), (0, .ref (mm 0))]) hx hb dX7_layGears_199 hl (k := 3) rfl (nI_add t2 1) (by decide) rfl (fun ls hl => ?_)
                  refine lv_goto (tgt := 41) hx hb dX7_layGears_202 (by decide) ?_
                  have hg9 := gst_yes hisG
                  have hn9b : n1 + 1 = (gst d (t2 + 1)).1 := by rw [hg9, ← hn1]
                  have hpk : posG d (gst d t2).2 t2 n1 = k := by
                    rw [hp]
                    rcases Nat.eq_zero_or_pos k with q | q
                    · subst q; rfl
                    · have q2 : k = (k - 1) + 1 := by omega
                      rw [q2]; exact posG_no (fun z9 => by first | (have z8 := hgt.mp z9; omega) | omega)
                  have hTA3 : TabA d (gst d (t2 + 1)).2 (n1 + 1) (upd gm' k (nI t2)) (vp_updL gu' k y9) (vp_updL gl' k z9) := by rw [hg9]; subst hn1; exact TabA_ins hTA hpk hs1 hs2 hs3 rfl rfl rfl (by omega) rfl hy9 hz9 hby9 hbz9
                  exact ih41 (t2 + 1) (n1 + 1) u6.1.1 u6.2 (nI 6) u6.1.2.1 u6.1.2.2 (upd gm' k (nI t2)) (vp_updL gu' k y9) (vp_updL gl' k z9) _ _ _ (by omega) (by omega) hn9b hTA3 hP hD hS (lv_sub hl [0, 4, 5] rfl)
                have hTk := hTA (k - 1) (by omega)
                have hgt : gtR d ((gst d t2).2 (k - 1)) t2 ↔ _ := gtR_iff (x := gu' (k - 1)) (y := z9) (z := y9) (w := gl' (k - 1)) (by rw [hs2.1 _ (by omega)]; exact hTk.2.2.1) hz9 hy9 (by rw [hs3.1 _ (by omega)]; exact hTk.2.2.2.1) (by rw [hs2.1 _ (by omega)]; exact hTk.2.2.2.2.1) hbz9 hby9 (by rw [hs3.1 _ (by omega)]; exact hTk.2.2.2.2.2)
                refine lv_lload_n hx hb dX7_layGears_83 rfl (lv_at hl 2 rfl) ?_
                refine lv_aload_n hx hb dX7_layGears_84 rfl (lv_at hl 5 rfl) ?_
                refine va_get (D := D) (ci := 7) (C := RX7) (T := TX7) (N := 17) hx hb hts iX7 hown hK hP 0 rfl rfl 15 (by decide) (hts _ k_f_X7_39) (fun _ h9 => h9) rfl dX7_layGears_85 ?_
                refine lv_iload hx hb dX7_layGears_88 (lv_at hl 0 rfl) ?_
                refine lv_iconst (v := nI 1) hx hb dX7_layGears_90 (by decide) ?_
                refine lv_isub hx hb dX7_layGears_91 ?_
                refine t_i (pk_sub (by omega)) ?_
                refine n_lald hx hb hK hP 10 1 rfl rfl (i := k - 1) (n := 64) (by omega) (by decide) dX7_layGears_92 ?_
                refine lv_lmul hx hb dX7_layGears_93 ?_
                refine lv_aload_n hx hb dX7_layGears_94 rfl (lv_at hl 5 rfl) ?_
                refine va_get (D := D) (ci := 7) (C := RX7) (T := TX7) (N := 17) hx hb hts iX7 hown hK hP 0 rfl rfl 14 (by decide) (hts _ k_f_X7_36) (fun _ h9 => h9) rfl dX7_layGears_95 ?_
                refine lv_iload hx hb dX7_layGears_98 (lv_at hl 0 rfl) ?_
                refine lv_iconst (v := nI 1) hx hb dX7_layGears_100 (by decide) ?_
                refine lv_isub hx hb dX7_layGears_101 ?_
                refine t_i (pk_sub (by omega)) ?_
                refine n_lald hx hb hK hP 9 1 rfl rfl (i := k - 1) (n := 64) (by omega) (by decide) dX7_layGears_102 ?_
                refine lv_lload hx hb dX7_layGears_103 (lv_at hl 1 rfl) ?_
                refine lv_lmul hx hb dX7_layGears_105 ?_
                refine b_lcmp_ge hx hb rfl rfl dX7_layGears_106 dX7_layGears_107 (tgt := 164) (by decide) (fun c106 => ?_) (fun c106 => ?_)
                · refine lv_aload_n hx hb dX7_layGears_164 rfl (lv_at hl 5 rfl) ?_
                  refine va_get (D := D) (ci := 7) (C := RX7) (T := TX7) (N := 17) hx hb hts iX7 hown hK hP 0 rfl rfl 13 (by decide) (hts _ k_f_X7_33) (fun _ h9 => h9) rfl dX7_layGears_165 ?_
                  refine lv_iload hx hb dX7_layGears_168 (lv_at hl 0 rfl) ?_
                  refine lv_iload_n hx hb dX7_layGears_170 rfl (lv_at hl 3 rfl) ?_
                  refine n_iast hx hb hK hP hD hS 8 0 rfl rfl (i := k) (n := 64) (by omega) (by decide) dX7_layGears_171 (fun H locs hP hD hS => ?_)
                  have hP : va_P D vwCl (WM K mm ta sl ss be ch th u6.1.1 u6.2 (nI 6) u6.1.2.1 u6.1.2.2 st1 (nI n1) (upd gm' k (nI t2)) gu' gl' aw) H := hP
                  have hD : va_D A (WM K mm ta sl ss be ch th u6.1.1 u6.2 (nI 6) u6.1.2.1 u6.1.2.2 st1 (nI n1) (upd gm' k (nI t2)) gu' gl' aw) := hD
                  refine lv_aload_n hx hb dX7_layGears_172 rfl (lv_at hl 5 rfl) ?_
                  refine va_get (D := D) (ci := 7) (C := RX7) (T := TX7) (N := 17) hx hb hts iX7 hown hK hP 0 rfl rfl 14 (by decide) (hts _ k_f_X7_36) (fun _ h9 => h9) rfl dX7_layGears_173 ?_
                  refine lv_iload hx hb dX7_layGears_176 (lv_at hl 0 rfl) ?_
                  refine lv_lload_n hx hb dX7_layGears_178 rfl (lv_at hl 2 rfl) ?_
                  refine n_last hx hb hK hP hD hS 9 1 rfl rfl (i := k) (n := 64) (by omega) (by decide) dX7_layGears_179 (fun H locs hP hD hS => ?_)
                  have hP : va_P D vwCl (WM K mm ta sl ss be ch th u6.1.1 u6.2 (nI 6) u6.1.2.1 u6.1.2.2 st1 (nI n1) (upd gm' k (nI t2)) (vp_updL gu' k y9) gl' aw) H := hP
                  have hD : va_D A (WM K mm ta sl ss be ch th u6.1.1 u6.2 (nI 6) u6.1.2.1 u6.1.2.2 st1 (nI n1) (upd gm' k (nI t2)) (vp_updL gu' k y9) gl' aw) := hD
                  refine lv_aload_n hx hb dX7_layGears_180 rfl (lv_at hl 5 rfl) ?_
                  refine va_get (D := D) (ci := 7) (C := RX7) (T := TX7) (N := 17) hx hb hts iX7 hown hK hP 0 rfl rfl 15 (by decide) (hts _ k_f_X7_39) (fun _ h9 => h9) rfl dX7_layGears_181 ?_
                  refine lv_iload hx hb dX7_layGears_184 (lv_at hl 0 rfl) ?_
                  refine lv_lload hx hb dX7_layGears_186 (lv_at hl 1 rfl) ?_
                  refine n_last hx hb hK hP hD hS 10 1 rfl rfl (i := k) (n := 64) (by omega) (by decide) dX7_layGears_188 (fun H locs hP hD hS => ?_)
                  have hP : va_P D vwCl (WM K mm ta sl ss be ch th u6.1.1 u6.2 (nI 6) u6.1.2.1 u6.1.2.2 st1 (nI n1) (upd gm' k (nI t2)) (vp_updL gu' k y9) (vp_updL gl' k z9) aw) H := hP
                  have hD : va_D A (WM K mm ta sl ss be ch th u6.1.1 u6.2 (nI 6) u6.1.2.1 u6.1.2.2 st1 (nI n1) (upd gm' k (nI t2)) (vp_updL gu' k y9) (vp_updL gl' k z9) aw) := hD
                  refine lv_aload_n hx hb dX7_layGears_189 rfl (lv_at hl 5 rfl) ?_
                  refine lv_dup hx hb dX7_layGears_190 rfl ?_
                  refine va_get (D := D) (ci := 7) (C := RX7) (T := TX7) (N := 17) hx hb hts iX7 hown hK hP 0 rfl rfl 12 (by decide) (hts _ k_f_X7_67) (fun _ h9 => h9) rfl dX7_layGears_191 ?_
                  refine lv_iconst (v := nI 1) hx hb dX7_layGears_194 (by decide) ?_
                  refine lv_iadd hx hb dX7_layGears_195 ?_
                  refine t_i (nI_add _ _) ?_
                  refine va_put (D := D) (ci := 7) (v := .int (nI (n1 + 1))) (ty := .int) (C := RX7) (T := TX7) (N := 17) hx hb hts iX7 tyX7 tyX7_ok nmX7 hown hK hP hD hS 0 rfl rfl 12 (by decide) (hts _ k_f_X7_67) (fun _ h9 => h9) rfl (by decide +kernel) rfl rfl (Nat.le_of_ble_eq_true rfl) dX7_layGears_196 (fun H locs hP hD hS => ?_)
                  have hP : va_P D vwCl (WM K mm ta sl ss be ch th u6.1.1 u6.2 (nI 6) u6.1.2.1 u6.1.2.2 st1 (nI (n1 + 1)) (upd gm' k (nI t2)) (vp_updL gu' k y9) (vp_updL gl' k z9) aw) H := hP
                  have hD : va_D A (WM K mm ta sl ss be ch th u6.1.1 u6.2 (nI 6) u6.1.2.1 u6.1.2.2 st1 (nI (n1 + 1)) (upd gm' k (nI t2)) (vp_updL gu' k y9) (vp_updL gl' k z9) aw) := hD
                  refine lv_iinc (v := nI (t2 + 1)) (lv' := [(2, .int (nI (t2 + 1))), (7, .int (nI k)), (5, .long z9), (3, .long y9), (1, .int (nI (2 ^ m1))), (0, .ref (mm 0))]) hx hb dX7_layGears_199 hl (k := 3) rfl (nI_add t2 1) (by decide) rfl (fun ls hl => ?_)
                  refine lv_goto (tgt := 41) hx hb dX7_layGears_202 (by decide) ?_
                  have hg9 := gst_yes hisG
                  have hn9b : n1 + 1 = (gst d (t2 + 1)).1 := by rw [hg9, ← hn1]
                  have hpk : posG d (gst d t2).2 t2 n1 = k := by
                    rw [hp]
                    rcases Nat.eq_zero_or_pos k with q | q
                    · subst q; rfl
                    · have q2 : k = (k - 1) + 1 := by omega
                      rw [q2]; exact posG_no (fun z9 => by first | (have z8 := hgt.mp z9; omega) | omega)
                  have hTA3 : TabA d (gst d (t2 + 1)).2 (n1 + 1) (upd gm' k (nI t2)) (vp_updL gu' k y9) (vp_updL gl' k z9) := by rw [hg9]; subst hn1; exact TabA_ins hTA hpk hs1 hs2 hs3 rfl rfl rfl (by omega) rfl hy9 hz9 hby9 hbz9
                  exact ih41 (t2 + 1) (n1 + 1) u6.1.1 u6.2 (nI 6) u6.1.2.1 u6.1.2.2 (upd gm' k (nI t2)) (vp_updL gu' k y9) (vp_updL gl' k z9) _ _ _ (by omega) (by omega) hn9b hTA3 hP hD hS (lv_sub hl [0, 4, 5] rfl)
                refine lv_aload_n hx hb dX7_layGears_110 rfl (lv_at hl 5 rfl) ?_
                refine va_get (D := D) (ci := 7) (C := RX7) (T := TX7) (N := 17) hx hb hts iX7 hown hK hP 0 rfl rfl 13 (by decide) (hts _ k_f_X7_33) (fun _ h9 => h9) rfl dX7_layGears_111 ?_
                refine lv_iload hx hb dX7_layGears_114 (lv_at hl 0 rfl) ?_
                refine lv_aload_n hx hb dX7_layGears_116 rfl (lv_at hl 5 rfl) ?_
                refine va_get (D := D) (ci := 7) (C := RX7) (T := TX7) (N := 17) hx hb hts iX7 hown hK hP 0 rfl rfl 13 (by decide) (hts _ k_f_X7_33) (fun _ h9 => h9) rfl dX7_layGears_117 ?_
                refine lv_iload hx hb dX7_layGears_120 (lv_at hl 0 rfl) ?_
                refine lv_iconst (v := nI 1) hx hb dX7_layGears_122 (by decide) ?_
                refine lv_isub hx hb dX7_layGears_123 ?_
                refine t_i (pk_sub (by omega)) ?_
                refine n_iald hx hb hK hP 8 0 rfl rfl (i := k - 1) (n := 64) (by omega) (by decide) dX7_layGears_124 ?_
                refine n_iast hx hb hK hP hD hS 8 0 rfl rfl (i := k) (n := 64) (by omega) (by decide) dX7_layGears_125 (fun H locs hP hD hS => ?_)
                have hP : va_P D vwCl (WM K mm ta sl ss be ch th u6.1.1 u6.2 (nI 6) u6.1.2.1 u6.1.2.2 st1 (nI n1) (upd gm' k (gm' (k - 1))) gu' gl' aw) H := hP
                have hD : va_D A (WM K mm ta sl ss be ch th u6.1.1 u6.2 (nI 6) u6.1.2.1 u6.1.2.2 st1 (nI n1) (upd gm' k (gm' (k - 1))) gu' gl' aw) := hD
                refine lv_aload_n hx hb dX7_layGears_126 rfl (lv_at hl 5 rfl) ?_
                refine va_get (D := D) (ci := 7) (C := RX7) (T := TX7) (N := 17) hx hb hts iX7 hown hK hP 0 rfl rfl 14 (by decide) (hts _ k_f_X7_36) (fun _ h9 => h9) rfl dX7_layGears_127 ?_
                refine lv_iload hx hb dX7_layGears_130 (lv_at hl 0 rfl) ?_
                refine lv_aload_n hx hb dX7_layGears_132 rfl (lv_at hl 5 rfl) ?_
                refine va_get (D := D) (ci := 7) (C := RX7) (T := TX7) (N := 17) hx hb hts iX7 hown hK hP 0 rfl rfl 14 (by decide) (hts _ k_f_X7_36) (fun _ h9 => h9) rfl dX7_layGears_133 ?_
                refine lv_iload hx hb dX7_layGears_136 (lv_at hl 0 rfl) ?_
                refine lv_iconst (v := nI 1) hx hb dX7_layGears_138 (by decide) ?_
                refine lv_isub hx hb dX7_layGears_139 ?_
                refine t_i (pk_sub (by omega)) ?_
                refine n_lald hx hb hK hP 9 1 rfl rfl (i := k - 1) (n := 64) (by omega) (by decide) dX7_layGears_140 ?_
                refine n_last hx hb hK hP hD hS 9 1 rfl rfl (i := k) (n := 64) (by omega) (by decide) dX7_layGears_141 (fun H locs hP hD hS => ?_)
                have hP : va_P D vwCl (WM K mm ta sl ss be ch th u6.1.1 u6.2 (nI 6) u6.1.2.1 u6.1.2.2 st1 (nI n1) (upd gm' k (gm' (k - 1))) (vp_updL gu' k (gu' (k - 1))) gl' aw) H := hP
                have hD : va_D A (WM K mm ta sl ss be ch th u6.1.1 u6.2 (nI 6) u6.1.2.1 u6.1.2.2 st1 (nI n1) (upd gm' k (gm' (k - 1))) (vp_updL gu' k (gu' (k - 1))) gl' aw) := hD
                refine lv_aload_n hx hb dX7_layGears_142 rfl (lv_at hl 5 rfl) ?_
                refine va_get (D := D) (ci := 7) (C := RX7) (T := TX7) (N := 17) hx hb hts iX7 hown hK hP 0 rfl rfl 15 (by decide) (hts _ k_f_X7_39) (fun _ h9 => h9) rfl dX7_layGears_143 ?_
                refine lv_iload hx hb dX7_layGears_146 (lv_at hl 0 rfl) ?_
                refine lv_aload_n hx hb dX7_layGears_148 rfl (lv_at hl 5 rfl) ?_
                refine va_get (D := D) (ci := 7) (C := RX7) (T := TX7) (N := 17) hx hb hts iX7 hown hK hP 0 rfl rfl 15 (by decide) (hts _ k_f_X7_39) (fun _ h9 => h9) rfl dX7_layGears_149 ?_
                refine lv_iload hx hb dX7_layGears_152 (lv_at hl 0 rfl) ?_
                refine lv_iconst (v := nI 1) hx hb dX7_layGears_154 (by decide) ?_
                refine lv_isub hx hb dX7_layGears_155 ?_
                refine t_i (pk_sub (by omega)) ?_
                refine n_lald hx hb hK hP 10 1 rfl rfl (i := k - 1) (n := 64) (by omega) (by decide) dX7_layGears_156 ?_
                refine n_last hx hb hK hP hD hS 10 1 rfl rfl (i := k) (n := 64) (by omega) (by decide) dX7_layGears_157 (fun H locs hP hD hS => ?_)
                have hP : va_P D vwCl (WM K mm ta sl ss be ch th u6.1.1 u6.2 (nI 6) u6.1.2.1 u6.1.2.2 st1 (nI n1) (upd gm' k (gm' (k - 1))) (vp_updL gu' k (gu' (k - 1))) (vp_updL gl' k (gl' (k - 1))) aw) H := hP
                have hD : va_D A (WM K mm ta sl ss be ch th u6.1.1 u6.2 (nI 6) u6.1.2.1 u6.1.2.2 st1 (nI n1) (upd gm' k (gm' (k - 1))) (vp_updL gu' k (gu' (k - 1))) (vp_updL gl' k (gl' (k - 1))) aw) := hD
                refine lv_iinc (v := nI (k - 1)) (lv' := [(7, .int (nI (k - 1))), (5, .long z9), (3, .long y9), (2, .int (nI t2)), (1, .int (nI (2 ^ m1))), (0, .ref (mm 0))]) hx hb dX7_layGears_158 hl (k := 0) rfl (nI_dec k (by omega)) (by decide) rfl (fun ls hl => ?_)
                refine lv_goto (tgt := 78) hx hb dX7_layGears_161 (by decide) ?_
                have hpk : posG d (gst d t2).2 t2 n1 = posG d (gst d t2).2 t2 (k - 1) := by
                  rw [hp]
                  have q2 : k = (k - 1) + 1 := by omega
                  rw [q2, posG_yes (hgt.mpr c106), Nat.add_sub_cancel]
                exact ih78 (k - 1) (upd gm' k (gm' (k - 1))) (vp_updL gu' k (gu' (k - 1))) (vp_updL gl' k (gl' (k - 1))) _ _ _ (by omega) (by omega) hpk (hs1.step (by omega)) (hs2.stepL (by omega)) (hs3.stepL (by omega)) hP hD hS (lv_sub hl [0, 1, 2, 3, 4, 5] rfl)
            exact L78 _ n1 gm1 gu1 gl1 _ _ _ (Nat.lt_succ_self _) (Nat.le_refl _) rfl (Sh.start _ _) (Sh.start _ _) (Sh.start _ _) hP hD hS (lv_sub hl [0, 1, 2, 3, 4, 5] rfl)
        exact L41 _ 0 0 M1 rq1 cq1 pv1 so1 gm gu gl _ _ _ (Nat.lt_succ_self _) (by omega) rfl (fun i h => absurd h (Nat.not_lt_zero _)) hP hD hS (lv_sub hl [0, 1, 2] rfl)
      refine lv_aload_n hx hb dX7_layGears_17 rfl (lv_at hl 2 rfl) ?_
      refine va_get (D := D) (ci := 7) (C := RX7) (T := TX7) (N := 17) hx hb hts iX7 hown hK hP 0 rfl rfl 11 (by decide) (hts _ k_f_X7_30) (fun _ h9 => h9) rfl dX7_layGears_18 ?_
      refine lv_iload_n hx hb dX7_layGears_21 rfl (lv_at hl 0 rfl) ?_
      refine lv_aload_n hx hb dX7_layGears_22 rfl (lv_at hl 2 rfl) ?_
      refine lv_iload_n hx hb dX7_layGears_23 rfl (lv_at hl 0 rfl) ?_
      have hFc := freeAll hD hS hA
      refine va_calli (va_runV (As := [.int (nI t)]) (rest := [.int (nI t), .ref (mm 7)]) ⟨hx, hb, hml, hown, hts⟩ (c_X7_stateOf l D K mm ta sl ss be ch th M1 rq1 cq1 pv1 so1 st1 gs gm gu gl aw d t H.size hd hat (by omega)) (cwV 1 hts (TB_V k_m_X7_127 k_im_X7_stateOf k_se_X7_stateOf k_in_X7 k_co_X7_stateOf (fun _ h => h)) rfl rfl rfl (by decide +kernel) ⟨Nat.le_of_ble_eq_true rfl, Nat.le_of_ble_eq_true rfl⟩) ⟨cP_blind, va_recv hK hP (ci := 7) (q0 := 0) rfl rfl, cP_of hP hK hD⟩ rfl rfl hl.1 rfl (lv_room (Nat.le_of_ble_eq_true rfl)) dX7_layGears_24 ⟨Nat.le_of_ble_eq_true rfl, Nat.le_of_ble_eq_true rfl⟩) hS (fun q _ h => hFc q h) hFc (fun sz9 u6 t9 H locs ht9 hvm hw hB hz1 hk1 hS => ?_)
      obtain ⟨hP, hK1, hD1⟩ := hB
      rw [ht9] at hP
      have hD := hD1.weaken (fun _ _ _ h => hFc _ h)
      have hP : va_P D vwCl (WM K mm ta sl ss be ch th u6.1.1 u6.2 (nI 6) u6.1.2.1 u6.1.2.2 st1 gs gm gu gl aw) H := hP
      have hD : va_D A (WM K mm ta sl ss be ch th u6.1.1 u6.2 (nI 6) u6.1.2.1 u6.1.2.2 st1 gs gm gu gl aw) := hD
      obtain ⟨hsz9, -⟩ := hw
      refine t_i hsz9 ?_
      refine n_iast hx hb hK hP hD hS 7 0 rfl rfl (i := t) (n := 64) (by omega) (by decide) dX7_layGears_27 (fun H locs hP hD hS => ?_)
      have hP : va_P D vwCl (WM K mm ta sl ss be ch th u6.1.1 u6.2 (nI 6) u6.1.2.1 u6.1.2.2 (upd st1 t (nI (stM d t))) gs gm gu gl aw) H := hP
      have hD : va_D A (WM K mm ta sl ss be ch th u6.1.1 u6.2 (nI 6) u6.1.2.1 u6.1.2.2 (upd st1 t (nI (stM d t))) gs gm gu gl aw) := hD
      refine lv_iinc (v := nI (t + 1)) (lv' := [(2, .int (nI (t + 1))), (1, .int (nI (2 ^ m1))), (0, .ref (mm 0))]) hx hb dX7_layGears_28 hl (k := 0) rfl (nI_add t 1) (by decide) rfl (fun ls hl => ?_)
      refine lv_goto (tgt := 12) hx hb dX7_layGears_31 (by decide) ?_
      exact ih12 (t + 1) u6.1.1 u6.2 (nI 6) u6.1.2.1 u6.1.2.2 (upd st1 t (nI (stM d t))) _ _ _ (by omega) (by omega) (fun z hz => by
      by_cases q : z = t
      · subst q; exact updSame
      · rw [updOther q]; exact hst z (by omega)) hP hD hS (lv_sub hl [0, 1, 2] rfl)
  exact L12 _ 0 M rq cq pv so st _ _ _ (Nat.lt_succ_self _) (by omega) (fun z h => absurd h (Nat.not_lt_zero z)) hP hD hS (lv_sub hl [0, 1, 2] rfl)
