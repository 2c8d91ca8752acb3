/-! PlanetaryGearboxModel: what is determined, the values -/
section SM
variable {S : (Nat → Int) → Prop} {nr nc : Nat} {V : Nat → Nat → Int64} {pv : Nat → Int32} {so : Int32}
theorem SolvedM.eqS {Mo : Nat → Nat → Int} (h : ∀ x, HS Mo nr x ↔ S x) : HS Mo nr = S := funext fun x => propext (h x)
theorem SolvedM.solv (h : SolvedM S nr nc V pv so) : so = nI 1 ↔ Solv S := by
  obtain ⟨Mo, ps, hH, a, b, c, d, e, f, g⟩ := h
  rw [g, bI_one, ← SolvedM.eqS hH]
  exact (fin_solv a b).symm
theorem SolvedM.sv01 (h : SolvedM S nr nc V pv so) : so = nI 0 ∨ so = nI 1 := by
  obtain ⟨Mo, ps, hH, a, b, c, d, e, f, g⟩ := h
  rw [g]
  exact bI_01 _
theorem SolvedM.pvk (h : SolvedM S nr nc V pv so) {t : Nat} (ht : t < nc) : pv t = -1 ∨ ∃ k, k < nr ∧ k < 10 ∧ pv t = nI k := by
  obtain ⟨Mo, ps, hH, a, b, c, d, e, f, g⟩ := h
  rcases c t ht with ⟨k, hk, e1, hm⟩ | ⟨e1, -⟩
  · exact Or.inr ⟨k, (a.1 _ hm).1, hk, e1⟩
  · exact Or.inl e1
theorem SolvedM.det (h : SolvedM S nr nc V pv so) (hnr : nr ≤ 10) (hnc : nc ≤ 10) {t : Nat} (ht : t < nc) : (so = nI 1 ∧ ∃ k, k < nr ∧ pv t = nI k ∧ ∀ o, o < nc → ¬ o = t → (V k o).toInt = 0) ↔ (Solv S ∧ DetS S t) := by
  have hs := h.solv
  obtain ⟨Mo, ps, hH, a, b, c, d, e, f, g⟩ := h
  have hS := SolvedM.eqS hH
  constructor
  · rintro ⟨h1, k, hk, hp, hz⟩
    refine ⟨hs.mp h1, ?_⟩
    rcases c t ht with ⟨k2, hk2, e1, hm⟩ | ⟨e1, -⟩
    · rw [hp] at e1
      have : k = k2 := (nI_eq (by omega) (by omega)).mp e1
      subst this
      rw [← hS]
      refine fin_det a hm (fun o ho hne => ?_)
      by_cases q : o < nc
      · rw [tI_at (by omega)]; exact hz o q hne
      · exact f k hk o (by omega) ho
    · rw [hp] at e1
      exact absurd e1.symm (m1_ne (by omega))
  · rintro ⟨h1, h2⟩
    refine ⟨hs.mpr h1, ?_⟩
    rw [← hS] at h2
    obtain ⟨r, hr, hz⟩ := fin_undet a b (by omega) h2
    rcases c t ht with ⟨k2, hk2, e1, hm⟩ | ⟨e1, hno⟩
    · have : k2 = r := Classical.byContradiction fun q => (a.2.2.1 _ hm).1 ((a.2.2.1 _ hr).2 k2 (a.1 _ hm).1 q)
      subst this
      exact ⟨k2, (a.1 _ hm).1, e1, fun o ho hne => by have := hz o (by omega) hne; rw [tI_at (by omega)] at this; exact this⟩
    · exact absurd rfl (hno _ hr)
theorem SolvedM.val (h : SolvedM S nr nc V pv so) (hnr : nr ≤ 10) (hnc : nc ≤ 10) {t : Nat} (ht : t < nc) (h1 : Solv S) (h2 : DetS S t) : ∃ k, k < nr ∧ pv t = nI k ∧ (V k t).toInt ≠ 0 ∧ (V k t).toInt.natAbs ≤ BB ∧ (V k 10).toInt.natAbs ≤ BB ∧ Lnum (V k 10).toInt (V k t).toInt = vN S t ∧ Lden (V k 10).toInt (V k t).toInt = vD S t := by
  obtain ⟨-, k, hk, hp, hz⟩ := (h.det hnr hnc ht).mpr ⟨h1, h2⟩
  obtain ⟨Mo, ps, hH, a, b, c, d, e, f, g⟩ := h
  have hS := SolvedM.eqS hH
  rcases c t ht with ⟨k2, hk2, e1, hm⟩ | ⟨e1, -⟩
  · rw [hp] at e1
    have : k = k2 := (nI_eq (by omega) (by omega)).mp e1
    subst this
    have hne := (a.2.2.1 _ hm).1
    have hb1 := e k t hk (by omega)
    have hb2 := e k 10 hk (by decide)
    rw [tI_at (by omega)] at hb1 hb2
    have hne2 : (V k t).toInt ≠ 0 := by rw [← tI_at (M := V) (show t < 11 by omega)]; exact hne
    have hv := vN_of h1 (LT_of (c := (V k 10).toInt) (p := (V k t).toInt) hne2 (fun x hx => by
      rw [← hS] at hx
      have := fin_val a hk (show t < 10 by omega) (fun o ho hne => by
        by_cases q : o < nc
        · rw [tI_at (by omega)]; exact hz o q hne
        · exact f k hk o (by omega) ho) hx
      rw [tI_at (by omega), tI_at (by decide)] at this
      exact this))
    exact ⟨k, hk, hp, hne2, hb1, hb2, hv.1.symm, hv.2.symm⟩
  · rw [hp] at e1
    exact absurd e1.symm (m1_ne (by omega))
end SM
set_option maxHeartbeats 4000000 in
set_option maxRecDepth 100000 in
theorem c_X7_isDetermined (l : Launch) (D : va_G) (K : Nat → ClassId) (mm : Nat → Nat) (ta : Nat → Int32) (sl : Nat → Int32) (ss : Nat → Int32) (be : Nat → Int32) (ch : Int32) (th : Int32) (M : Nat → Nat → Int64) (rq : Int32) (cq : Int32) (pv : Nat → Int32) (so : Int32) (st : Nat → Int32) (gs : Int32) (gm : Nat → Int32) (gu : Nat → Int64) (gl : Nat → Int64) (aw : Nat → Int32) (S : (Nat → Int) → Prop) (nr nc t : Nat) (sz : Nat) (hnr : nr ≤ 10) (hnc : nc ≤ 10) (hcq : cq = nI nc) (ht : t < nc) (hs0 : SolvedM S nr nc M pv so) : Met l yX7_isDetermined (.code yX7_isDetermined cX7_isDetermined 4 (some .boolean) :: TB) ({ frames := 0, cells := 0, slots := 0, locals := 0 } : Room) (va_Pc [.ref (mm 0), .int (nI t)] (cP D K (WM K mm ta sl ss be ch th M rq cq pv so st gs gm gu gl aw) sz)) (va_Qi (fun (z : Int32) (_ : Unit) => z = bI (Solv S ∧ DetS S t)) (fun _ _ => True) (fun _ => False)) 0 0 (fun _ => False) := by
  refine Met.ofW (cc := cX7_isDetermined) (maxL := 4) (ret := (some .boolean)) (by decide) rfl ?_
  intro p e s m args below meth c s₁ B hml hv
  obtain ⟨rfl, hsz, hP, hK, hD0⟩ := hv
  have hx := B.exec
  have hb := B.bytes
  have hr := B.returns
  have hts := hts_tl (atoms_spec (ws := (.code yX7_isDetermined cX7_isDetermined 4 (some .boolean) :: TB)) B.pre)
  have hown : s.vm.findClass RX7 = some m.cls := findClass_of_methodNamed B.named
  have hlocks := B.notSynchronized
  subst hsz
  have hA : ∀ q : Nat, q < s.heap.size → (fun _ : Nat => False) q → False := fun _ _ h => h
  have hS : va_S (fun _ => False) s.heap s.heap [] := va_S.rf
  have hl := lv_entry ([.ref (mm 0), .int (nI t)]) (n := 4) (Nat.le_of_ble_eq_true rfl)
  rw [lg_entry_eq]
  generalize (lg_sl ([.ref (mm 0), .int (nI t)]) ++ List.replicate (4 - (lg_sl ([.ref (mm 0), .int (nI t)])).length) Slot.unset).toArray = ls at hl ⊢
  have hl : lv_has ls 4 [(0, .ref (mm 0)), (1, .int (nI t))] := hl
  have hdet := hs0.det hnr hnc ht
  refine lv_aload_n hx hb dX7_isDetermined_0 rfl (lv_at hl 0 rfl) ?_
  refine va_get (D := D) (ci := 7) (C := RX7) (T := TX7) (N := 17) hx hb hts iX7 hown hK hP 0 rfl rfl 10 (by decide) (hts _ k_f_X7_105) (fun _ h9 => h9) rfl dX7_isDetermined_1 ?_
  refine b_if_eq hx hb rfl dX7_isDetermined_4 (tgt := 20) (by decide) (fun c4 => ?_) (fun c4 => ?_)
  · refine lv_iconst (v := nI 0) hx hb dX7_isDetermined_20 (by decide) ?_
    refine lv_istore_n (lv' := [(2, .int (nI 0)), (0, .ref (mm 0)), (1, .int (nI t))]) hx hb dX7_isDetermined_21 rfl hl (by decide) rfl (fun ls hl => ?_)
    refine lv_iconst (v := nI 0) hx hb dX7_isDetermined_22 (by decide) ?_
    refine lv_istore_n (lv' := [(3, .int (nI 0)), (2, .int (nI 0)), (0, .ref (mm 0)), (1, .int (nI t))]) hx hb dX7_isDetermined_23 rfl hl (by decide) rfl (fun ls hl => ?_)
    refine lv_iload_n hx hb dX7_isDetermined_24 rfl (lv_at hl 0 rfl) ?_
    refine lv_aload_n hx hb dX7_isDetermined_25 rfl (lv_at hl 2 rfl) ?_
    refine va_get (D := D) (ci := 7) (C := RX7) (T := TX7) (N := 17) hx hb hts iX7 hown hK hP 0 rfl rfl 8 (by decide) (hts _ k_f_X7_87) (fun _ h9 => h9) rfl dX7_isDetermined_26 ?_
    refine t_i (show _ = nI nc from hcq) ?_
    refine b_icmp_ge hx hb (nI_toIntI (by omega)) (nI_toIntI (by omega)) dX7_isDetermined_29 (tgt := 74) (by decide) (fun c29 => absurd c29 (by omega)) (fun c29 => ?_)
    refine lv_iload_n hx hb dX7_isDetermined_32 rfl (lv_at hl 1 rfl) ?_
    refine b_if_eq hx hb (nI_toIntI (by omega)) dX7_isDetermined_33 (tgt := 74) (by decide) (fun c33 => ?_) (fun c33 => absurd c33 (by omega))
    refine lv_iload_n hx hb dX7_isDetermined_74 rfl (lv_at hl 1 rfl) ?_
    exact W.zret (v := nI 0) hx hb hr (by decide) (fun t9 ht9 hW => ⟨⟨nI 0, (), rfl, bI_f (fun z => by
      obtain ⟨z1, k2, z2, z3, z4⟩ := hdet.mpr z
      first
      | (rw [z1, nI_toIntI (by omega)] at c4; omega)
      | (rw [z3, nI_toIntI (by omega)] at c13; omega)), trivial⟩, hS.F ht9⟩) hS.2.2 dX7_isDetermined_75
  refine lv_aload_n hx hb dX7_isDetermined_7 rfl (lv_at hl 0 rfl) ?_
  refine va_get (D := D) (ci := 7) (C := RX7) (T := TX7) (N := 17) hx hb hts iX7 hown hK hP 0 rfl rfl 9 (by decide) (hts _ k_f_X7_27) (fun _ h9 => h9) rfl dX7_isDetermined_8 ?_
  refine lv_iload_n hx hb dX7_isDetermined_11 rfl (lv_at hl 1 rfl) ?_
  refine n_iald hx hb hK hP 6 0 rfl rfl (i := t) (n := 10) (by omega) (by decide) dX7_isDetermined_12 ?_
  refine b_if_lt hx hb rfl dX7_isDetermined_13 (tgt := 20) (by decide) (fun c13 => ?_) (fun c13 => ?_)
  · refine lv_iconst (v := nI 0) hx hb dX7_isDetermined_20 (by decide) ?_
    refine lv_istore_n (lv' := [(2, .int (nI 0)), (0, .ref (mm 0)), (1, .int (nI t))]) hx hb dX7_isDetermined_21 rfl hl (by decide) rfl (fun ls hl => ?_)
    refine lv_iconst (v := nI 0) hx hb dX7_isDetermined_22 (by decide) ?_
    refine lv_istore_n (lv' := [(3, .int (nI 0)), (2, .int (nI 0)), (0, .ref (mm 0)), (1, .int (nI t))]) hx hb dX7_isDetermined_23 rfl hl (by decide) rfl (fun ls hl => ?_)
    refine lv_iload_n hx hb dX7_isDetermined_24 rfl (lv_at hl 0 rfl) ?_
    refine lv_aload_n hx hb dX7_isDetermined_25 rfl (lv_at hl 2 rfl) ?_
    refine va_get (D := D) (ci := 7) (C := RX7) (T := TX7) (N := 17) hx hb hts iX7 hown hK hP 0 rfl rfl 8 (by decide) (hts _ k_f_X7_87) (fun _ h9 => h9) rfl dX7_isDetermined_26 ?_
    refine t_i (show _ = nI nc from hcq) ?_
    refine b_icmp_ge hx hb (nI_toIntI (by omega)) (nI_toIntI (by omega)) dX7_isDetermined_29 (tgt := 74) (by decide) (fun c29 => absurd c29 (by omega)) (fun c29 => ?_)
    refine lv_iload_n hx hb dX7_isDetermined_32 rfl (lv_at hl 1 rfl) ?_
    refine b_if_eq hx hb (nI_toIntI (by omega)) dX7_isDetermined_33 (tgt := 74) (by decide) (fun c33 => ?_) (fun c33 => absurd c33 (by omega))
    refine lv_iload_n hx hb dX7_isDetermined_74 rfl (lv_at hl 1 rfl) ?_
    exact W.zret (v := nI 0) hx hb hr (by decide) (fun t9 ht9 hW => ⟨⟨nI 0, (), rfl, bI_f (fun z => by
      obtain ⟨z1, k2, z2, z3, z4⟩ := hdet.mpr z
      first
      | (rw [z1, nI_toIntI (by omega)] at c4; omega)
      | (rw [z3, nI_toIntI (by omega)] at c13; omega)), trivial⟩, hS.F ht9⟩) hS.2.2 dX7_isDetermined_75
  have hso : so = nI 1 := by rcases hs0.sv01 with e | e; rw [e, nI_toIntI (by omega)] at c4; omega; exact e
  obtain ⟨k, hk, hk10, hpk⟩ : ∃ k, k < nr ∧ k < 10 ∧ pv t = nI k := by
    rcases hs0.pvk ht with e | e
    · exfalso; rw [e] at c13; exact absurd c13 (by decide)
    · exact e
  refine lv_iconst (v := nI 1) hx hb dX7_isDetermined_16 (by decide) ?_
  refine lv_goto (tgt := 21) hx hb dX7_isDetermined_17 (by decide) ?_
  refine lv_istore_n (lv' := [(2, .int (nI 1)), (0, .ref (mm 0)), (1, .int (nI t))]) hx hb dX7_isDetermined_21 rfl hl (by decide) rfl (fun ls hl => ?_)
  refine lv_iconst (v := nI 0) hx hb dX7_isDetermined_22 (by decide) ?_
  refine lv_istore_n (lv' := [(3, .int (nI 0)), (2, .int (nI 1)), (0, .ref (mm 0)), (1, .int (nI t))]) hx hb dX7_isDetermined_23 rfl hl (by decide) rfl (fun ls hl => ?_)
  have e9 : nI 1 = bI (∀ j, j < 0 → ¬ j = t → (M k j).toInt = 0) := bI_t (fun j hj => absurd hj (Nat.not_lt_zero j))
  have hl : lv_has ls 4 [(3, .int (nI 0)), (2, .int (bI (∀ j, j < 0 → ¬ j = t → (M k j).toInt = 0))), (0, .ref (mm 0)), (1, .int (nI t))] := by rw [← e9]; exact hl
  have L24 : ∀ (fuel : Nat) (o : Nat) (H : Heap) (locs : List Loc) (ls : Array Slot), 10 - o < fuel → (o ≤ nc) → va_P D vwCl (WM K mm ta sl ss be ch th M rq cq pv so st gs gm gu gl aw) H → va_S (fun _ => False) s.heap H locs → lv_has ls 4 [(3, .int (nI o)), (2, .int (bI (∀ j, j < o → ¬ j = t → (M k j).toInt = 0))), (0, .ref (mm 0)), (1, .int (nI t))] → W p l e ({ frames := 0, cells := 0, slots := 0, locals := 0 } : Room) s m [.ref (mm 0), .int (nI t)].toArray below meth c H locs 0 0 (MQ below (va_Qi (fun (z : Int32) (_ : Unit) => z = bI (Solv S ∧ DetS S t)) (fun _ _ => True) (fun _ => False)) [.ref (mm 0), .int (nI t)].toArray s 0 0 (fun _ => False)) (F0 m 24 ls []) := by
    intro fuel
    induction fuel with
    | zero =>
      intro o H locs ls hfu
      exact absurd hfu (Nat.not_lt_zero _)
    | succ fuel ih24 =>
      intro o H locs ls hfu ho hP hS hl
      refine lv_iload_n hx hb dX7_isDetermined_24 rfl (lv_at hl 0 rfl) ?_
      refine lv_aload_n hx hb dX7_isDetermined_25 rfl (lv_at hl 2 rfl) ?_
      refine va_get (D := D) (ci := 7) (C := RX7) (T := TX7) (N := 17) hx hb hts iX7 hown hK hP 0 rfl rfl 8 (by decide) (hts _ k_f_X7_87) (fun _ h9 => h9) rfl dX7_isDetermined_26 ?_
      refine t_i (show _ = nI nc from hcq) ?_
      refine b_icmp_ge hx hb (nI_toIntI (by omega)) (nI_toIntI (by omega)) dX7_isDetermined_29 (tgt := 74) (by decide) (fun c29 => ?_) (fun c29 => ?_)
      · refine lv_iload_n hx hb dX7_isDetermined_74 rfl (lv_at hl 1 rfl) ?_
        exact W.zret (v := bI (∀ j, j < o → ¬ j = t → (M k j).toInt = 0)) hx hb hr (by rcases bI_01 (∀ j, j < o → ¬ j = t → (M k j).toInt = 0) with e | e <;> rw [e] <;> decide) (fun t9 ht9 hW => ⟨⟨bI (∀ j, j < o → ¬ j = t → (M k j).toInt = 0), (), rfl, bI_iff ⟨fun z => hdet.mp ⟨hso, k, hk, hpk, fun o9 ho9 hne => z o9 (by omega) hne⟩, fun z => by
      obtain ⟨z1, k2, z2, z3, z4⟩ := hdet.mpr z
      have := (nI_eq (by omega) (by omega)).mp (hpk.symm.trans z3)
      subst this
      exact fun j hj hne => z4 j (by omega) hne⟩, trivial⟩, hS.F ht9⟩) hS.2.2 dX7_isDetermined_75
      refine lv_iload_n hx hb dX7_isDetermined_32 rfl (lv_at hl 1 rfl) ?_
      by_cases hall : (∀ j, j < o → ¬ j = t → (M k j).toInt = 0)
      rotate_left
      · refine t_i (bI_f hall).symm ?_
        refine b_if_eq hx hb (nI_toIntI (by omega)) dX7_isDetermined_33 (tgt := 74) (by decide) (fun c33 => ?_) (fun c33 => absurd c33 (by omega))
        refine lv_iload_n hx hb dX7_isDetermined_74 rfl (lv_at hl 1 rfl) ?_
        exact W.zret (v := bI (∀ j, j < o → ¬ j = t → (M k j).toInt = 0)) hx hb hr (by rcases bI_01 (∀ j, j < o → ¬ j = t → (M k j).toInt = 0) with e | e <;> rw [e] <;> decide) (fun t9 ht9 hW => ⟨⟨bI (∀ j, j < o → ¬ j = t → (M k j).toInt = 0), (), rfl, (bI_f hall).symm.trans (bI_f (fun z => by
      obtain ⟨z1, k2, z2, z3, z4⟩ := hdet.mpr z
      have := (nI_eq (by omega) (by omega)).mp (hpk.symm.trans z3)
      subst this
      exact hall (fun j hj hne => z4 j (by omega) hne))), trivial⟩, hS.F ht9⟩) hS.2.2 dX7_isDetermined_75
      refine t_i (bI_t hall).symm ?_
      refine b_if_eq hx hb (nI_toIntI (by omega)) dX7_isDetermined_33 (tgt := 74) (by decide) (fun c33 => absurd c33 (by omega)) (fun c33 => ?_)
      refine lv_iload_n hx hb dX7_isDetermined_36 rfl (lv_at hl 0 rfl) ?_
      refine lv_iload_n hx hb dX7_isDetermined_37 rfl (lv_at hl 3 rfl) ?_
      refine b_icmp_eq hx hb (nI_toIntI (by omega)) (nI_toIntI (by omega)) dX7_isDetermined_38 (tgt := 62) (by decide) (fun c38 => ?_) (fun c38 => ?_)
      · refine lv_iconst (v := nI 1) hx hb dX7_isDetermined_62 (by decide) ?_
        refine lv_goto (tgt := 67) hx hb dX7_isDetermined_63 (by decide) ?_
        refine lv_istore_n (lv' := [(2, .int (nI 1)), (3, .int (nI o)), (0, .ref (mm 0)), (1, .int (nI t))]) hx hb dX7_isDetermined_67 rfl hl (by decide) rfl (fun ls hl => ?_)
        refine lv_iinc (v := nI (o + 1)) (lv' := [(3, .int (nI (o + 1))), (2, .int (nI 1)), (0, .ref (mm 0)), (1, .int (nI t))]) hx hb dX7_isDetermined_68 hl (k := 1) rfl (nI_add o 1) (by decide) rfl (fun ls hl => ?_)
        refine lv_goto (tgt := 24) hx hb dX7_isDetermined_71 (by decide) ?_
        have e9 : nI 1 = bI (∀ j, j < (o + 1) → ¬ j = t → (M k j).toInt = 0) := bI_t (fun j hj hne => by
      by_cases q : j = o
      · subst q; omega
      · exact hall j (by omega) hne)
        have hl : lv_has ls 4 [(3, .int (nI (o + 1))), (2, .int (bI (∀ j, j < (o + 1) → ¬ j = t → (M k j).toInt = 0))), (0, .ref (mm 0)), (1, .int (nI t))] := by rw [← e9]; exact hl
        exact ih24 (o + 1) _ _ _ (by omega) (by omega) hP hS (lv_sub hl [0, 1, 2, 3] rfl)
      refine lv_aload_n hx hb dX7_isDetermined_41 rfl (lv_at hl 2 rfl) ?_
      refine va_get (D := D) (ci := 7) (C := RX7) (T := TX7) (N := 17) hx hb hts iX7 hown hK hP 0 rfl rfl 6 (by decide) (hts _ k_f_X7_23) (fun _ h9 => h9) rfl dX7_isDetermined_42 ?_
      refine lv_bipush (v := nI 11) hx hb dX7_isDetermined_45 (by decide) ?_
      refine lv_aload_n hx hb dX7_isDetermined_47 rfl (lv_at hl 2 rfl) ?_
      refine va_get (D := D) (ci := 7) (C := RX7) (T := TX7) (N := 17) hx hb hts iX7 hown hK hP 0 rfl rfl 9 (by decide) (hts _ k_f_X7_27) (fun _ h9 => h9) rfl dX7_isDetermined_48 ?_
      refine lv_iload_n hx hb dX7_isDetermined_51 rfl (lv_at hl 3 rfl) ?_
      refine n_iald hx hb hK hP 6 0 rfl rfl (i := t) (n := 10) (by omega) (by decide) dX7_isDetermined_52 ?_
      refine t_i (show _ = nI k from hpk) ?_
      refine lv_imul hx hb dX7_isDetermined_53 ?_
      refine t_i (pk_mul _ _) ?_
      refine lv_iload_n hx hb dX7_isDetermined_54 rfl (lv_at hl 0 rfl) ?_
      refine lv_iadd hx hb dX7_isDetermined_55 ?_
      refine t_i (nI_add _ _) ?_
      refine n_lald hx hb hK hP 5 1 rfl rfl (i := 11 * k + o) (n := 121) (by omega) (by decide) dX7_isDetermined_56 ?_
      refine t_l (cL_at (M := M) (k := 11 * k + o) (r := k) (c := o) (by omega) (by omega)) ?_
      refine lv_lconst (v := 0) hx hb dX7_isDetermined_57 (by decide) ?_
      refine b_lcmp_ne hx hb rfl (show (0 : Int64).toInt = 0 by decide) dX7_isDetermined_58 dX7_isDetermined_59 (tgt := 66) (by decide) (fun c58 => ?_) (fun c58 => ?_)
      · refine lv_iconst (v := nI 0) hx hb dX7_isDetermined_66 (by decide) ?_
        refine lv_istore_n (lv' := [(2, .int (nI 0)), (3, .int (nI o)), (0, .ref (mm 0)), (1, .int (nI t))]) hx hb dX7_isDetermined_67 rfl hl (by decide) rfl (fun ls hl => ?_)
        refine lv_iinc (v := nI (o + 1)) (lv' := [(3, .int (nI (o + 1))), (2, .int (nI 0)), (0, .ref (mm 0)), (1, .int (nI t))]) hx hb dX7_isDetermined_68 hl (k := 1) rfl (nI_add o 1) (by decide) rfl (fun ls hl => ?_)
        refine lv_goto (tgt := 24) hx hb dX7_isDetermined_71 (by decide) ?_
        have e9 : nI 0 = bI (∀ j, j < (o + 1) → ¬ j = t → (M k j).toInt = 0) := bI_f (fun z => by have := z o (Nat.lt_succ_self o) (by omega); omega)
        have hl : lv_has ls 4 [(3, .int (nI (o + 1))), (2, .int (bI (∀ j, j < (o + 1) → ¬ j = t → (M k j).toInt = 0))), (0, .ref (mm 0)), (1, .int (nI t))] := by rw [← e9]; exact hl
        exact ih24 (o + 1) _ _ _ (by omega) (by omega) hP hS (lv_sub hl [0, 1, 2, 3] rfl)
      refine lv_iconst (v := nI 1) hx hb dX7_isDetermined_62 (by decide) ?_
      refine lv_goto (tgt := 67) hx hb dX7_isDetermined_63 (by decide) ?_
      refine lv_istore_n (lv' := [(2, .int (nI 1)), (3, .int (nI o)), (0, .ref (mm 0)), (1, .int (nI t))]) hx hb dX7_isDetermined_67 rfl hl (by decide) rfl (fun ls hl => ?_)
      refine lv_iinc (v := nI (o + 1)) (lv' := [(3, .int (nI (o + 1))), (2, .int (nI 1)), (0, .ref (mm 0)), (1, .int (nI t))]) hx hb dX7_isDetermined_68 hl (k := 1) rfl (nI_add o 1) (by decide) rfl (fun ls hl => ?_)
      refine lv_goto (tgt := 24) hx hb dX7_isDetermined_71 (by decide) ?_
      have e9 : nI 1 = bI (∀ j, j < (o + 1) → ¬ j = t → (M k j).toInt = 0) := bI_t (fun j hj hne => by
      by_cases q : j = o
      · subst q; omega
      · exact hall j (by omega) hne)
      have hl : lv_has ls 4 [(3, .int (nI (o + 1))), (2, .int (bI (∀ j, j < (o + 1) → ¬ j = t → (M k j).toInt = 0))), (0, .ref (mm 0)), (1, .int (nI t))] := by rw [← e9]; exact hl
      exact ih24 (o + 1) _ _ _ (by omega) (by omega) hP hS (lv_sub hl [0, 1, 2, 3] rfl)
  exact L24 _ 0 _ _ _ (Nat.lt_succ_self _) (by omega) hP hS (lv_sub hl [0, 1, 2, 3] rfl)
set_option maxHeartbeats 4000000 in
set_option maxRecDepth 100000 in
theorem c_X7_upper (l : Launch) (D : va_G) (K : Nat → ClassId) (mm : Nat → Nat) (ta : Nat → Int32) (sl : Nat → Int32) (ss : Nat → Int32) (be : Nat → Int32) (ch : Int32) (th : Int32) (M : Nat → Nat → Int64) (rq : Int32) (cq : Int32) (pv : Nat → Int32) (so : Int32) (st : Nat → Int32) (gs : Int32) (gm : Nat → Int32) (gu : Nat → Int64) (gl : Nat → Int64) (aw : Nat → Int32) (k t : Nat) (sz : Nat) (hk : k < 10) (ht : t < 10) (hpk : pv t = nI k) (hb1 : (M k t).toInt.natAbs ≤ BB) (hb2 : (M k 10).toInt.natAbs ≤ BB) : Met l yX7_upper (.code yX7_upper cX7_upper 4 (some .long) :: TB) ({ frames := 0, cells := 0, slots := 0, locals := 0 } : Room) (va_Pc [.ref (mm 0), .int (nI t)] (cP D K (WM K mm ta sl ss be ch th M rq cq pv so st gs gm gu gl aw) sz)) (va_Ql (fun (z : Int64) (_ : Unit) => z.toInt = if (M k t).toInt < 0 then -(M k 10).toInt else (M k 10).toInt) (fun _ _ => True) (fun _ => False)) 0 0 (fun _ => False) := by
  refine Met.ofW (cc := cX7_upper) (maxL := 4) (ret := (some .long)) (by decide) rfl ?_
  intro p e s m args below meth c s₁ B hml hv
  obtain ⟨rfl, hsz, hP, hK, hD0⟩ := hv
  have hx := B.exec
  have hb := B.bytes
  have hr := B.returns
  have hts := hts_tl (atoms_spec (ws := (.code yX7_upper cX7_upper 4 (some .long) :: TB)) B.pre)
  have hown : s.vm.findClass RX7 = some m.cls := findClass_of_methodNamed B.named
  have hlocks := B.notSynchronized
  subst hsz
  have hA : ∀ q : Nat, q < s.heap.size → (fun _ : Nat => False) q → False := fun _ _ h => h
  have hS : va_S (fun _ => False) s.heap s.heap [] := va_S.rf
  have hl := lv_entry ([.ref (mm 0), .int (nI t)]) (n := 4) (Nat.le_of_ble_eq_true rfl)
  rw [lg_entry_eq]
  generalize (lg_sl ([.ref (mm 0), .int (nI t)]) ++ List.replicate (4 - (lg_sl ([.ref (mm 0), .int (nI t)])).length) Slot.unset).toArray = ls at hl ⊢
  have hl : lv_has ls 4 [(0, .ref (mm 0)), (1, .int (nI t))] := hl
  have hBB : BB = 351232000 := rfl
  refine lv_aload_n hx hb dX7_upper_0 rfl (lv_at hl 0 rfl) ?_
  refine va_get (D := D) (ci := 7) (C := RX7) (T := TX7) (N := 17) hx hb hts iX7 hown hK hP 0 rfl rfl 6 (by decide) (hts _ k_f_X7_23) (fun _ h9 => h9) rfl dX7_upper_1 ?_
  refine lv_bipush (v := nI 11) hx hb dX7_upper_4 (by decide) ?_
  refine lv_aload_n hx hb dX7_upper_6 rfl (lv_at hl 0 rfl) ?_
  refine va_get (D := D) (ci := 7) (C := RX7) (T := TX7) (N := 17) hx hb hts iX7 hown hK hP 0 rfl rfl 9 (by decide) (hts _ k_f_X7_27) (fun _ h9 => h9) rfl dX7_upper_7 ?_
  refine lv_iload_n hx hb dX7_upper_10 rfl (lv_at hl 1 rfl) ?_
  refine n_iald hx hb hK hP 6 0 rfl rfl (i := t) (n := 10) (by omega) (by decide) dX7_upper_11 ?_
  refine t_i (show _ = nI k from hpk) ?_
  refine lv_imul hx hb dX7_upper_12 ?_
  refine t_i (pk_mul _ _) ?_
  refine lv_bipush (v := nI 10) hx hb dX7_upper_13 (by decide) ?_
  refine lv_iadd hx hb dX7_upper_15 ?_
  refine t_i (nI_add _ _) ?_
  refine n_lald hx hb hK hP 5 1 rfl rfl (i := 11 * k + 10) (n := 121) (by omega) (by decide) dX7_upper_16 ?_
  refine t_l (cL_at (M := M) (k := 11 * k + 10) (r := k) (c := 10) (by omega) (by omega)) ?_
  refine lv_lstore_n (lv' := [(2, .long (M k 10)), (0, .ref (mm 0)), (1, .int (nI t))]) hx hb dX7_upper_17 rfl hl (by decide) rfl (fun ls hl => ?_)
  refine lv_aload_n hx hb dX7_upper_18 rfl (lv_at hl 1 rfl) ?_
  refine va_get (D := D) (ci := 7) (C := RX7) (T := TX7) (N := 17) hx hb hts iX7 hown hK hP 0 rfl rfl 6 (by decide) (hts _ k_f_X7_23) (fun _ h9 => h9) rfl dX7_upper_19 ?_
  refine lv_bipush (v := nI 11) hx hb dX7_upper_22 (by decide) ?_
  refine lv_aload_n hx hb dX7_upper_24 rfl (lv_at hl 1 rfl) ?_
  refine va_get (D := D) (ci := 7) (C := RX7) (T := TX7) (N := 17) hx hb hts iX7 hown hK hP 0 rfl rfl 9 (by decide) (hts _ k_f_X7_27) (fun _ h9 => h9) rfl dX7_upper_25 ?_
  refine lv_iload_n hx hb dX7_upper_28 rfl (lv_at hl 2 rfl) ?_
  refine n_iald hx hb hK hP 6 0 rfl rfl (i := t) (n := 10) (by omega) (by decide) dX7_upper_29 ?_
  refine t_i (show _ = nI k from hpk) ?_
  refine lv_imul hx hb dX7_upper_30 ?_
  refine t_i (pk_mul _ _) ?_
  refine lv_iload_n hx hb dX7_upper_31 rfl (lv_at hl 2 rfl) ?_
  refine lv_iadd hx hb dX7_upper_32 ?_
  refine t_i (nI_add _ _) ?_
  refine n_lald hx hb hK hP 5 1 rfl rfl (i := 11 * k + t) (n := 121) (by omega) (by decide) dX7_upper_33 ?_
  refine t_l (cL_at (M := M) (k := 11 * k + t) (r := k) (c := t) (by omega) (by omega)) ?_
  refine lv_lconst (v := 0) hx hb dX7_upper_34 (by decide) ?_
  refine b_lcmp_ge hx hb rfl (show (0 : Int64).toInt = 0 by decide) dX7_upper_35 dX7_upper_36 (tgt := 44) (by decide) (fun c35 => ?_) (fun c35 => ?_)
  · refine lv_lload_n hx hb dX7_upper_44 rfl (lv_at hl 0 rfl) ?_
    exact W.lret (v := M k 10) hx hb hr (fun t9 ht9 hW => ⟨⟨M k 10, (), rfl, by show _ = _; rw [if_neg (by omega)], trivial⟩, hS.F ht9⟩) hS.2.2 dX7_upper_45
  refine lv_lload_n hx hb dX7_upper_39 rfl (lv_at hl 0 rfl) ?_
  refine lv_lneg hx hb dX7_upper_40 ?_
  refine lv_goto (tgt := 45) hx hb dX7_upper_41 (by decide) ?_
  exact W.lret (v := -(M k 10)) hx hb hr (fun t9 ht9 hW => ⟨⟨-(M k 10), (), rfl, by show _ = _; rw [L_neg (by omega), if_pos (by omega)], trivial⟩, hS.F ht9⟩) hS.2.2 dX7_upper_45
set_option maxHeartbeats 4000000 in
set_option maxRecDepth 100000 in
theorem c_X7_lower (l : Launch) (D : va_G) (K : Nat → ClassId) (mm : Nat → Nat) (ta : Nat → Int32) (sl : Nat → Int32) (ss : Nat → Int32) (be : Nat → Int32) (ch : Int32) (th : Int32) (M : Nat → Nat → Int64) (rq : Int32) (cq : Int32) (pv : Nat → Int32) (so : Int32) (st : Nat → Int32) (gs : Int32) (gm : Nat → Int32) (gu : Nat → Int64) (gl : Nat → Int64) (aw : Nat → Int32) (k t : Nat) (sz : Nat) (hk : k < 10) (ht : t < 10) (hpk : pv t = nI k) (hb1 : (M k t).toInt.natAbs ≤ BB) (hb2 : (M k 10).toInt.natAbs ≤ BB) : Met l yX7_lower (.code yX7_lower cX7_lower 4 (some .long) :: TB) ({ frames := 0, cells := 0, slots := 0, locals := 0 } : Room) (va_Pc [.ref (mm 0), .int (nI t)] (cP D K (WM K mm ta sl ss be ch th M rq cq pv so st gs gm gu gl aw) sz)) (va_Ql (fun (z : Int64) (_ : Unit) => z.toInt = ((M k t).toInt.natAbs : Int)) (fun _ _ => True) (fun _ => False)) 0 0 (fun _ => False) := by
  refine Met.ofW (cc := cX7_lower) (maxL := 4) (ret := (some .long)) (by decide) rfl ?_
  intro p e s m args below meth c s₁ B hml hv
  obtain ⟨rfl, hsz, hP, hK, hD0⟩ := hv
  have hx := B.exec
  have hb := B.bytes
  have hr := B.returns
  have hts := hts_tl (atoms_spec (ws := (.code yX7_lower cX7_lower 4 (some .long) :: TB)) B.pre)
  have hown : s.vm.findClass RX7 = some m.cls := findClass_of_methodNamed B.named
  have hlocks := B.notSynchronized
  subst hsz
  have hA : ∀ q : Nat, q < s.heap.size → (fun _ : Nat => False) q → False := fun _ _ h => h
  have hS : va_S (fun _ => False) s.heap s.heap [] := va_S.rf
  have hl := lv_entry ([.ref (mm 0), .int (nI t)]) (n := 4) (Nat.le_of_ble_eq_true rfl)
  rw [lg_entry_eq]
  generalize (lg_sl ([.ref (mm 0), .int (nI t)]) ++ List.replicate (4 - (lg_sl ([.ref (mm 0), .int (nI t)])).length) Slot.unset).toArray = ls at hl ⊢
  have hl : lv_has ls 4 [(0, .ref (mm 0)), (1, .int (nI t))] := hl
  have hBB : BB = 351232000 := rfl
  refine lv_aload_n hx hb dX7_lower_0 rfl (lv_at hl 0 rfl) ?_
  refine va_get (D := D) (ci := 7) (C := RX7) (T := TX7) (N := 17) hx hb hts iX7 hown hK hP 0 rfl rfl 6 (by decide) (hts _ k_f_X7_23) (fun _ h9 => h9) rfl dX7_lower_1 ?_
  refine lv_bipush (v := nI 11) hx hb dX7_lower_4 (by decide) ?_
  refine lv_aload_n hx hb dX7_lower_6 rfl (lv_at hl 0 rfl) ?_
  refine va_get (D := D) (ci := 7) (C := RX7) (T := TX7) (N := 17) hx hb hts iX7 hown hK hP 0 rfl rfl 9 (by decide) (hts _ k_f_X7_27) (fun _ h9 => h9) rfl dX7_lower_7 ?_
  refine lv_iload_n hx hb dX7_lower_10 rfl (lv_at hl 1 rfl) ?_
  refine n_iald hx hb hK hP 6 0 rfl rfl (i := t) (n := 10) (by omega) (by decide) dX7_lower_11 ?_
  refine t_i (show _ = nI k from hpk) ?_
  refine lv_imul hx hb dX7_lower_12 ?_
  refine t_i (pk_mul _ _) ?_
  refine lv_iload_n hx hb dX7_lower_13 rfl (lv_at hl 1 rfl) ?_
  refine lv_iadd hx hb dX7_lower_14 ?_
  refine t_i (nI_add _ _) ?_
  refine n_lald hx hb hK hP 5 1 rfl rfl (i := 11 * k + t) (n := 121) (by omega) (by decide) dX7_lower_15 ?_
  refine t_l (cL_at (M := M) (k := 11 * k + t) (r := k) (c := t) (by omega) (by omega)) ?_
  refine lv_lstore_n (lv' := [(2, .long (M k t)), (0, .ref (mm 0)), (1, .int (nI t))]) hx hb dX7_lower_16 rfl hl (by decide) rfl (fun ls hl => ?_)
  refine lv_lload_n hx hb dX7_lower_17 rfl (lv_at hl 0 rfl) ?_
  refine lv_lconst (v := 0) hx hb dX7_lower_18 (by decide) ?_
  refine b_lcmp_ge hx hb rfl (show (0 : Int64).toInt = 0 by decide) dX7_lower_19 dX7_lower_20 (tgt := 28) (by decide) (fun c19 => ?_) (fun c19 => ?_)
  · refine lv_lload_n hx hb dX7_lower_28 rfl (lv_at hl 0 rfl) ?_
    exact W.lret (v := M k t) hx hb hr (fun t9 ht9 hW => ⟨⟨M k t, (), rfl, by show _ = _; omega, trivial⟩, hS.F ht9⟩) hS.2.2 dX7_lower_29
  refine lv_lload_n hx hb dX7_lower_23 rfl (lv_at hl 0 rfl) ?_
  refine lv_lneg hx hb dX7_lower_24 ?_
  refine lv_goto (tgt := 29) hx hb dX7_lower_25 (by decide) ?_
  exact W.lret (v := -(M k t)) hx hb hr (fun t9 ht9 hW => ⟨⟨-(M k t), (), rfl, by show _ = _; rw [L_neg (by omega)]; omega, trivial⟩, hS.F ht9⟩) hS.2.2 dX7_lower_29
set_option maxHeartbeats 4000000 in
set_option maxRecDepth 100000 in
theorem c_X7_part (l : Launch) (x y : Int64) (pt : Nat) (hpt : pt ≤ 1) (hb1 : x.toInt.natAbs ≤ BB) (hb2 : y.toInt.natAbs ≤ BB) (hne : y.toInt ≠ 0) : Met l yX7_part (.code yX7_part cX7_part 7 (some .long) :: TB) ({ frames := 1, cells := 0, slots := 0, locals := 29 } : Room) (va_Pc [.long x, .long y, .int (nI pt)] (fun _ => True)) (va_Ql (fun (z : Int64) (_ : Unit) => z.toInt = if pt = 0 then x.toInt / (Nat.gcd x.toInt.natAbs y.toInt.natAbs : Nat) else y.toInt / (Nat.gcd x.toInt.natAbs y.toInt.natAbs : Nat)) (fun _ _ => True) (fun _ => False)) 0 0 (fun _ => False) := by
  refine Met.ofW (cc := cX7_part) (maxL := 7) (ret := (some .long)) (by decide) rfl ?_
  intro p e s m args below meth c s₁ B hml hv
  obtain ⟨rfl, -⟩ := hv
  have hx := B.exec
  have hb := B.bytes
  have hr := B.returns
  have hts := hts_tl (atoms_spec (ws := (.code yX7_part cX7_part 7 (some .long) :: TB)) B.pre)
  have hown : s.vm.findClass RX7 = some m.cls := findClass_of_methodNamed B.named
  have hlocks := B.notSynchronized
  have hA : ∀ q : Nat, q < s.heap.size → (fun _ : Nat => False) q → False := fun _ _ h => h
  have hS : va_S (fun _ => False) s.heap s.heap [] := va_S.rf
  have hl := lv_entry ([.long x, .long y, .int (nI pt)]) (n := 7) (Nat.le_of_ble_eq_true rfl)
  rw [lg_entry_eq]
  generalize (lg_sl ([.long x, .long y, .int (nI pt)]) ++ List.replicate (7 - (lg_sl ([.long x, .long y, .int (nI pt)])).length) Slot.unset).toArray = ls at hl ⊢
  have hl : lv_has ls 7 [(0, .long x), (2, .long y), (4, .int (nI pt))] := hl
  have hBB : BB = 351232000 := rfl
  refine lv_lload_n hx hb dX7_part_0 rfl (lv_at hl 0 rfl) ?_
  refine lv_lload_n hx hb dX7_part_1 rfl (lv_at hl 1 rfl) ?_
  refine va_calll (va_runS (As := [.long x, .long y]) (rest := []) ⟨hx, hb, hml, hown, hts⟩ (c_X7_divisor l x y (by omega) (by omega)) (va_cwS 2 hts (TB_S k_m_X7_90 k_st_X7_divisor k_in_X7 k_co_X7_divisor (fun _ h => h)) rfl rfl rfl (by decide +kernel) ⟨Nat.le_of_ble_eq_true rfl, Nat.le_of_ble_eq_true rfl⟩) ⟨tP_blind, tP_of⟩ rfl rfl hl.1 rfl (lv_room (Nat.le_of_ble_eq_true rfl)) dX7_part_2 ⟨Nat.le_of_ble_eq_true rfl, Nat.le_of_ble_eq_true rfl⟩) hS (fun q _ h => absurd h id) (fun q h => absurd h id) (fun g9 u9 t9 H locs ht9 hvm hw hB hz1 hk1 hS => ?_)
  subst hw
  have hgb : Nat.gcd x.toInt.natAbs y.toInt.natAbs ≤ BB := gcd_bound hb1 hb2
  have hg0 : 0 < Nat.gcd x.toInt.natAbs y.toInt.natAbs := Nat.gcd_pos_of_pos_right _ (by omega)
  have hd1 := dvd_natAbs (Nat.gcd_dvd_left x.toInt.natAbs y.toInt.natAbs)
  have hd2 := dvd_natAbs (Nat.gcd_dvd_right x.toInt.natAbs y.toInt.natAbs)
  generalize hG : Nat.gcd x.toInt.natAbs y.toInt.natAbs = G at hgb hg0 hd1 hd2 ⊢
  have hQ : True := trivial
  refine lv_lstore (lv' := [(5, .long (lN G)), (0, .long x), (2, .long y), (4, .int (nI pt))]) hx hb dX7_part_5 hl (by decide) rfl (fun ls hl => ?_)
  refine lv_iload hx hb dX7_part_7 (lv_at hl 3 rfl) ?_
  refine b_if_ne hx hb (nI_toIntI (by omega)) dX7_part_9 (tgt := 19) (by decide) (fun c9 => ?_) (fun c9 => ?_)
  · refine lv_lload_n hx hb dX7_part_19 rfl (lv_at hl 2 rfl) ?_
    refine lv_lload hx hb dX7_part_20 (lv_at hl 0 rfl) ?_
    refine lv_ldiv hx hb dX7_part_22 (fun q => absurd (congrArg Int64.toInt q) (by rw [lN_toI (by omega), show (0 : Int64).toInt = 0 by decide]; omega)) ?_
    exact W.lret (v := y / (lN G)) hx hb hr (fun t9 ht9 hW => ⟨⟨y / (lN G), (), rfl, by show _ = _; rw [if_neg (by omega)]; exact L_divg hd2 hg0 (by omega), trivial⟩, hS.F ht9⟩) hS.2.2 dX7_part_23
  refine lv_lload_n hx hb dX7_part_12 rfl (lv_at hl 1 rfl) ?_
  refine lv_lload hx hb dX7_part_13 (lv_at hl 0 rfl) ?_
  refine lv_ldiv hx hb dX7_part_15 (fun q => absurd (congrArg Int64.toInt q) (by rw [lN_toI (by omega), show (0 : Int64).toInt = 0 by decide]; omega)) ?_
  refine lv_goto (tgt := 23) hx hb dX7_part_16 (by decide) ?_
  exact W.lret (v := x / (lN G)) hx hb hr (fun t9 ht9 hW => ⟨⟨x / (lN G), (), rfl, by show _ = _; rw [if_pos (by omega)]; exact L_divg hd1 hg0 (by omega), trivial⟩, hS.F ht9⟩) hS.2.2 dX7_part_23
