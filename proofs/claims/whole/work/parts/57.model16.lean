/-! PlanetaryGearboxModel: become -/
set_option maxHeartbeats 4000000 in
set_option maxRecDepth 100000 in
theorem c_X7_become (l : Launch) (D : va_G) (K : Nat → ClassId) (mm : Nat → Nat) (v : CV) (w0 : MS) (zz : Nat) (sz : Nat) (hI : IV v) (hR : RM v w0) (hzz : zz < 64) : Met l yX7_become (.code yX7_become cX7_become 3 none :: TB) ({ frames := 0, cells := 0, slots := 0, locals := 0 } : Room) (va_Pc [.ref (mm 0), .int (nI zz)] (cP D K (WMu K mm w0) sz)) (va_Qv (fun (u : MS) => u.2.2.2.2.2.1 = w0.2.2.2.2.2.1 ∧ ∀ z1 v1, CHG v (nI zz) z1 v1 → RM v1 u) (fun (u : MS) t => cB D K (va_A (WMu K mm w0) sz) (WMu K mm u) t) (va_A (WMu K mm w0) sz)) 0 0 (va_A (WMu K mm w0) sz) := by
  refine Met.ofW (cc := cX7_become) (maxL := 3) (ret := none) (by decide) rfl ?_
  intro p e s m args below meth c s₁ B hml hv
  obtain ⟨rfl, hsz, hP, hK, hD0⟩ := hv
  have hx := B.exec
  have hb := B.bytes
  have hr := B.returns
  have hts := hts_tl (atoms_spec (ws := (.code yX7_become cX7_become 3 none :: TB)) B.pre)
  have hown : s.vm.findClass RX7 = some m.cls := findClass_of_methodNamed B.named
  have hlocks := B.notSynchronized
  subst hsz
  have hD := hD0.self (sz := s.heap.size)
  generalize hAe : (va_A (WMu K mm w0) s.heap.size) = A at hD ⊢
  have hA : ∀ q : Nat, s.heap.size ≤ q → A q := fun q h => by rw [← hAe]; exact Or.inr h
  have hS : va_S A s.heap s.heap [] := va_S.rf
  clear hAe hD0
  obtain ⟨d, d1, d2, f1, f2, f, s0⟩ := v
  obtain ⟨ta, sl, ss, be, ch, th, M, rq, cq, pv, so, st, gs, gm, gu, gl, aw⟩ := w0
  obtain ⟨hd, hd1, hd2, hf1, hf2, hs20, hhf⟩ := id hI
  obtain ⟨hat, hat1, hat2, hss0, hss1, hch, hbe⟩ := id hR
  dsimp only at hd hd1 hd2 hf1 hf2 hs20 hhf hat hat1 hat2 hss0 hss1 hch hbe
  obtain ⟨n, m1, ge, hn, hm, hge, h0, h1, h2, hs9, he9⟩ := id hd
  obtain ⟨ha1, ha2, ha33, ha34, ha35⟩ := id hat
  have hp6 : 2 ^ m1 ≤ 64 := Nat.pow_le_pow_right (show 0 < 2 by decide) hm
  have h33 := ha33.trans h0
  have h34 := ha34.trans h1
  have h35 := ha35.trans h2
  have hn1 : dn d 8 0 = n := dn_of h0 (by omega)
  have hm1 : dn d 8 1 = m1 := dn_of h1 (by omega)
  have hg1 : dn d 8 2 = ge := dn_of h2 (by omega)
  have hP : va_P D vwCl (WM K mm ta sl ss be ch th M rq cq pv so st gs gm gu gl aw) s.heap := hP
  have hD : va_D A (WM K mm ta sl ss be ch th M rq cq pv so st gs gm gu gl aw) := hD
  have hl := lv_entry ([.ref (mm 0), .int (nI zz)]) (n := 3) (Nat.le_of_ble_eq_true rfl)
  rw [lg_entry_eq]
  generalize (lg_sl ([.ref (mm 0), .int (nI zz)]) ++ List.replicate (3 - (lg_sl ([.ref (mm 0), .int (nI zz)])).length) Slot.unset).toArray = ls at hl ⊢
  have hl : lv_has ls 3 [(0, .ref (mm 0)), (1, .int (nI zz))] := hl
  refine lv_iload_n hx hb dX7_become_0 rfl (lv_at hl 1 rfl) ?_
  refine lv_aload_n hx hb dX7_become_1 rfl (lv_at hl 0 rfl) ?_
  refine va_get (D := D) (ci := 7) (C := RX7) (T := TX7) (N := 17) hx hb hts iX7 hown hK hP 0 rfl rfl 0 (by decide) (hts _ k_f_X7_7) (fun _ h9 => h9) rfl dX7_become_2 ?_
  refine lv_bipush (v := nI 35) hx hb dX7_become_5 (by decide) ?_
  refine n_iald hx hb hK hP 1 0 rfl rfl (i := 35) (n := 36) (by omega) (by decide) dX7_become_7 ?_
  refine t_i (show _ = nI ge from h35) ?_
  refine b_icmp_ne hx hb (nI_toIntI (by omega)) (nI_toIntI (by omega)) dX7_become_8 (tgt := 12) (by decide) (fun c8 => ?_) (fun c8 => ?_)
  · refine lv_aload_n hx hb dX7_become_12 rfl (lv_at hl 0 rfl) ?_
    refine va_get (D := D) (ci := 7) (C := RX7) (T := TX7) (N := 17) hx hb hts iX7 hown hK hP 0 rfl rfl 4 (by decide) (hts _ k_f_X7_70) (fun _ h9 => h9) rfl dX7_become_13 ?_
    refine t_i (show _ = nI s0 from hch) ?_
    refine lv_bipush (v := nI 20) hx hb dX7_become_16 (by decide) ?_
    refine b_icmp_ne hx hb (nI_toIntI (by omega)) (nI_toIntI (by omega)) dX7_become_18 (tgt := 59) (by decide) (fun c18 => ?_) (fun c18 => ?_)
    · refine lv_aload_n hx hb dX7_become_59 rfl (lv_at hl 0 rfl) ?_
      refine va_get (D := D) (ci := 7) (C := RX7) (T := TX7) (N := 17) hx hb hts iX7 hown hK hP 0 rfl rfl 3 (by decide) (hts _ k_f_X7_20) (fun _ h9 => h9) rfl dX7_become_60 ?_
      refine lv_aload_n hx hb dX7_become_63 rfl (lv_at hl 0 rfl) ?_
      refine va_get (D := D) (ci := 7) (C := RX7) (T := TX7) (N := 17) hx hb hts iX7 hown hK hP 0 rfl rfl 4 (by decide) (hts _ k_f_X7_70) (fun _ h9 => h9) rfl dX7_become_64 ?_
      refine t_i (show _ = nI s0 from hch) ?_
      refine lv_aload_n hx hb dX7_become_67 rfl (lv_at hl 0 rfl) ?_
      refine va_get (D := D) (ci := 7) (C := RX7) (T := TX7) (N := 17) hx hb hts iX7 hown hK hP 0 rfl rfl 0 (by decide) (hts _ k_f_X7_7) (fun _ h9 => h9) rfl dX7_become_68 ?_
      refine lv_bipush (v := nI 35) hx hb dX7_become_71 (by decide) ?_
      refine n_iald hx hb hK hP 1 0 rfl rfl (i := 35) (n := 36) (by omega) (by decide) dX7_become_73 ?_
      refine t_i (show _ = nI ge from h35) ?_
      refine n_iast hx hb hK hP hD hS 4 0 rfl rfl (i := s0) (n := 20) (by omega) (by decide) dX7_become_74 (fun H locs hP hD hS => ?_)
      have hP : va_P D vwCl (WM K mm ta sl ss (upd be s0 (nI ge)) ch th M rq cq pv so st gs gm gu gl aw) H := hP
      have hD : va_D A (WM K mm ta sl ss (upd be s0 (nI ge)) ch th M rq cq pv so st gs gm gu gl aw) := hD
      refine lv_aload_n hx hb dX7_become_75 rfl (lv_at hl 0 rfl) ?_
      refine lv_dup hx hb dX7_become_76 rfl ?_
      refine va_get (D := D) (ci := 7) (C := RX7) (T := TX7) (N := 17) hx hb hts iX7 hown hK hP 0 rfl rfl 4 (by decide) (hts _ k_f_X7_70) (fun _ h9 => h9) rfl dX7_become_77 ?_
      refine t_i (show _ = nI s0 from hch) ?_
      refine lv_iconst (v := nI 1) hx hb dX7_become_80 (by decide) ?_
      refine lv_iadd hx hb dX7_become_81 ?_
      refine t_i (nI_add _ _) ?_
      refine va_put (D := D) (ci := 7) (v := .int (nI (s0 + 1))) (ty := .int) (C := RX7) (T := TX7) (N := 17) hx hb hts iX7 tyX7 tyX7_ok nmX7 hown hK hP hD hS 0 rfl rfl 4 (by decide) (hts _ k_f_X7_70) (fun _ h9 => h9) rfl (by decide +kernel) rfl rfl (Nat.le_of_ble_eq_true rfl) dX7_become_82 (fun H locs hP hD hS => ?_)
      have hP : va_P D vwCl (WM K mm ta sl ss (upd be s0 (nI ge)) (nI (s0 + 1)) th M rq cq pv so st gs gm gu gl aw) H := hP
      have hD : va_D A (WM K mm ta sl ss (upd be s0 (nI ge)) (nI (s0 + 1)) th M rq cq pv so st gs gm gu gl aw) := hD
      refine lv_aload_n hx hb dX7_become_85 rfl (lv_at hl 0 rfl) ?_
      refine va_get (D := D) (ci := 7) (C := RX7) (T := TX7) (N := 17) hx hb hts iX7 hown hK hP 0 rfl rfl 0 (by decide) (hts _ k_f_X7_7) (fun _ h9 => h9) rfl dX7_become_86 ?_
      refine lv_bipush (v := nI 35) hx hb dX7_become_89 (by decide) ?_
      refine lv_iload_n hx hb dX7_become_91 rfl (lv_at hl 1 rfl) ?_
      refine n_iast hx hb hK hP hD hS 1 0 rfl rfl (i := 35) (n := 36) (by omega) (by decide) dX7_become_92 (fun H locs hP hD hS => ?_)
      have hP : va_P D vwCl (WM K mm (upd ta 35 (nI zz)) sl ss (upd be s0 (nI ge)) (nI (s0 + 1)) th M rq cq pv so st gs gm gu gl aw) H := hP
      have hD : va_D A (WM K mm (upd ta 35 (nI zz)) sl ss (upd be s0 (nI ge)) (nI (s0 + 1)) th M rq cq pv so st gs gm gu gl aw) := hD
      exact W.vret hx hb hr (fun t9 ht9 hW => ⟨⟨(upd ta 35 (nI zz), sl, ss, upd be s0 (nI ge), (nI (s0 + 1)), th, M, rq, cq, pv, so, st, gs, gm, gu, gl, aw), rfl, ⟨rfl, fun z1 v1 hc => by
      rcases hc with ⟨hc, -⟩ | ⟨-, -, hc⟩
      · exfalso; have hc : nI zz = d 8 2 := hc; rw [h2] at hc; have := (nI_eq (by omega) (by omega)).mp hc; omega
      · obtain ⟨d9, d19, d29, f19, f29, f9, s09⟩ := v1
        obtain ⟨e1, e2, e3, e4, e5, e6, e7⟩ := hc
        dsimp only at e1 e2 e3 e4 e5 e6 e7
        subst e1 e2 e3 e4 e5
        exact ⟨AtD_eng hat, hat1, hat2, hss0, hss1, by show _ = nI s09; rw [e6]; split <;> first | rfl | exact congrArg nI (by omega), fun j hj => by show (upd be s0 (nI ge)) j = f9 j; have hj : j < s09 := hj; rw [e7 j hj]; unfold hsA; rw [if_neg (by omega)] at e6; rw [if_neg (by omega)]; exact (if q : j = s0 then (by rw [q, updSame, if_pos rfl]; exact h2.symm) else (by rw [updOther q, if_neg q]; exact hbe _ (by omega)))⟩⟩, by rw [ht9]; exact hP, va_K.moved hW.alike hK, hD⟩, hS.F ht9⟩) hS.2.2 dX7_become_93
    have hs20e : s0 = 20 := by omega
    refine lv_iconst (v := nI 1) hx hb dX7_become_21 (by decide) ?_
    refine lv_istore_n (lv' := [(2, .int (nI 1)), (0, .ref (mm 0)), (1, .int (nI zz))]) hx hb dX7_become_22 rfl hl (by decide) rfl (fun ls hl => ?_)
    have L23 : ∀ (fuel : Nat) (k : Nat) (be2 : Nat → Int32) (H : Heap) (locs : List Loc) (ls : Array Slot), 20 - k < fuel → (1 ≤ k) → (k ≤ 20) → (∀ j, be2 j = if j + 1 < k then be (j + 1) else be j) → va_P D vwCl (WM K mm ta sl ss be2 ch th M rq cq pv so st gs gm gu gl aw) H → va_D A (WM K mm ta sl ss be2 ch th M rq cq pv so st gs gm gu gl aw) → va_S A s.heap H locs → lv_has ls 3 [(2, .int (nI k)), (0, .ref (mm 0)), (1, .int (nI zz))] → W p l e ({ frames := 0, cells := 0, slots := 0, locals := 0 } : Room) s m [.ref (mm 0), .int (nI zz)].toArray below meth c H locs 0 0 (MQ below (va_Qv (fun (u : MS) => u.2.2.2.2.2.1 = (ta, sl, ss, be, ch, th, M, rq, cq, pv, so, st, gs, gm, gu, gl, aw).2.2.2.2.2.1 ∧ ∀ z1 v1, CHG (d, d1, d2, f1, f2, f, s0) (nI zz) z1 v1 → RM v1 u) (fun (u : MS) t => cB D K A (WMu K mm u) t) A) [.ref (mm 0), .int (nI zz)].toArray s 0 0 A) (F0 m 23 ls []) := by
      intro fuel
      induction fuel with
      | zero =>
        intro k be2 H locs ls hfu
        exact absurd hfu (Nat.not_lt_zero _)
      | succ fuel ih23 =>
        intro k be2 H locs ls hfu hk0 hk hz hP hD hS hl
        refine lv_iload_n hx hb dX7_become_23 rfl (lv_at hl 0 rfl) ?_
        refine lv_bipush (v := nI 20) hx hb dX7_become_24 (by decide) ?_
        refine b_icmp_ge hx hb (nI_toIntI (by omega)) (nI_toIntI (by omega)) dX7_become_26 (tgt := 49) (by decide) (fun c26 => ?_) (fun c26 => ?_)
        · refine lv_aload_n hx hb dX7_become_49 rfl (lv_at hl 1 rfl) ?_
          refine lv_dup hx hb dX7_become_50 rfl ?_
          refine va_get (D := D) (ci := 7) (C := RX7) (T := TX7) (N := 17) hx hb hts iX7 hown hK hP 0 rfl rfl 4 (by decide) (hts _ k_f_X7_70) (fun _ h9 => h9) rfl dX7_become_51 ?_
          refine t_i (show _ = nI s0 from hch) ?_
          refine lv_iconst (v := nI 1) hx hb dX7_become_54 (by decide) ?_
          refine lv_isub hx hb dX7_become_55 ?_
          refine t_i (pk_sub (by omega)) ?_
          refine va_put (D := D) (ci := 7) (v := .int (nI (s0 - 1))) (ty := .int) (C := RX7) (T := TX7) (N := 17) hx hb hts iX7 tyX7 tyX7_ok nmX7 hown hK hP hD hS 0 rfl rfl 4 (by decide) (hts _ k_f_X7_70) (fun _ h9 => h9) rfl (by decide +kernel) rfl rfl (Nat.le_of_ble_eq_true rfl) dX7_become_56 (fun H locs hP hD hS => ?_)
          have hP : va_P D vwCl (WM K mm ta sl ss be2 (nI (s0 - 1)) th M rq cq pv so st gs gm gu gl aw) H := hP
          have hD : va_D A (WM K mm ta sl ss be2 (nI (s0 - 1)) th M rq cq pv so st gs gm gu gl aw) := hD
          refine lv_aload_n hx hb dX7_become_59 rfl (lv_at hl 1 rfl) ?_
          refine va_get (D := D) (ci := 7) (C := RX7) (T := TX7) (N := 17) hx hb hts iX7 hown hK hP 0 rfl rfl 3 (by decide) (hts _ k_f_X7_20) (fun _ h9 => h9) rfl dX7_become_60 ?_
          refine lv_aload_n hx hb dX7_become_63 rfl (lv_at hl 1 rfl) ?_
          refine va_get (D := D) (ci := 7) (C := RX7) (T := TX7) (N := 17) hx hb hts iX7 hown hK hP 0 rfl rfl 4 (by decide) (hts _ k_f_X7_70) (fun _ h9 => h9) rfl dX7_become_64 ?_
          refine lv_aload_n hx hb dX7_become_67 rfl (lv_at hl 1 rfl) ?_
          refine va_get (D := D) (ci := 7) (C := RX7) (T := TX7) (N := 17) hx hb hts iX7 hown hK hP 0 rfl rfl 0 (by decide) (hts _ k_f_X7_7) (fun _ h9 => h9) rfl dX7_become_68 ?_
          refine lv_bipush (v := nI 35) hx hb dX7_become_71 (by decide) ?_
          refine n_iald hx hb hK hP 1 0 rfl rfl (i := 35) (n := 36) (by omega) (by decide) dX7_become_73 ?_
          refine t_i (show _ = nI ge from h35) ?_
          refine n_iast hx hb hK hP hD hS 4 0 rfl rfl (i := (s0 - 1)) (n := 20) (by omega) (by decide) dX7_become_74 (fun H locs hP hD hS => ?_)
          have hP : va_P D vwCl (WM K mm ta sl ss (upd be2 (s0 - 1) (nI ge)) (nI (s0 - 1)) th M rq cq pv so st gs gm gu gl aw) H := hP
          have hD : va_D A (WM K mm ta sl ss (upd be2 (s0 - 1) (nI ge)) (nI (s0 - 1)) th M rq cq pv so st gs gm gu gl aw) := hD
          refine lv_aload_n hx hb dX7_become_75 rfl (lv_at hl 1 rfl) ?_
          refine lv_dup hx hb dX7_become_76 rfl ?_
          refine va_get (D := D) (ci := 7) (C := RX7) (T := TX7) (N := 17) hx hb hts iX7 hown hK hP 0 rfl rfl 4 (by decide) (hts _ k_f_X7_70) (fun _ h9 => h9) rfl dX7_become_77 ?_
          refine lv_iconst (v := nI 1) hx hb dX7_become_80 (by decide) ?_
          refine lv_iadd hx hb dX7_become_81 ?_
          refine t_i (nI_add _ _) ?_
          refine va_put (D := D) (ci := 7) (v := .int (nI ((s0 - 1) + 1))) (ty := .int) (C := RX7) (T := TX7) (N := 17) hx hb hts iX7 tyX7 tyX7_ok nmX7 hown hK hP hD hS 0 rfl rfl 4 (by decide) (hts _ k_f_X7_70) (fun _ h9 => h9) rfl (by decide +kernel) rfl rfl (Nat.le_of_ble_eq_true rfl) dX7_become_82 (fun H locs hP hD hS => ?_)
          have hP : va_P D vwCl (WM K mm ta sl ss (upd be2 (s0 - 1) (nI ge)) (nI ((s0 - 1) + 1)) th M rq cq pv so st gs gm gu gl aw) H := hP
          have hD : va_D A (WM K mm ta sl ss (upd be2 (s0 - 1) (nI ge)) (nI ((s0 - 1) + 1)) th M rq cq pv so st gs gm gu gl aw) := hD
          refine lv_aload_n hx hb dX7_become_85 rfl (lv_at hl 1 rfl) ?_
          refine va_get (D := D) (ci := 7) (C := RX7) (T := TX7) (N := 17) hx hb hts iX7 hown hK hP 0 rfl rfl 0 (by decide) (hts _ k_f_X7_7) (fun _ h9 => h9) rfl dX7_become_86 ?_
          refine lv_bipush (v := nI 35) hx hb dX7_become_89 (by decide) ?_
          refine lv_iload_n hx hb dX7_become_91 rfl (lv_at hl 2 rfl) ?_
          refine n_iast hx hb hK hP hD hS 1 0 rfl rfl (i := 35) (n := 36) (by omega) (by decide) dX7_become_92 (fun H locs hP hD hS => ?_)
          have hP : va_P D vwCl (WM K mm (upd ta 35 (nI zz)) sl ss (upd be2 (s0 - 1) (nI ge)) (nI ((s0 - 1) + 1)) th M rq cq pv so st gs gm gu gl aw) H := hP
          have hD : va_D A (WM K mm (upd ta 35 (nI zz)) sl ss (upd be2 (s0 - 1) (nI ge)) (nI ((s0 - 1) + 1)) th M rq cq pv so st gs gm gu gl aw) := hD
          exact W.vret hx hb hr (fun t9 ht9 hW => ⟨⟨(upd ta 35 (nI zz), sl, ss, upd be2 (s0 - 1) (nI ge), (nI ((s0 - 1) + 1)), th, M, rq, cq, pv, so, st, gs, gm, gu, gl, aw), rfl, ⟨rfl, fun z1 v1 hc => by
      rcases hc with ⟨hc, -⟩ | ⟨-, -, hc⟩
      · exfalso; have hc : nI zz = d 8 2 := hc; rw [h2] at hc; have := (nI_eq (by omega) (by omega)).mp hc; omega
      · obtain ⟨d9, d19, d29, f19, f29, f9, s09⟩ := v1
        obtain ⟨e1, e2, e3, e4, e5, e6, e7⟩ := hc
        dsimp only at e1 e2 e3 e4 e5 e6 e7
        subst e1 e2 e3 e4 e5
        exact ⟨AtD_eng hat, hat1, hat2, hss0, hss1, by show _ = nI s09; rw [e6]; split <;> first | rfl | exact congrArg nI (by omega), fun j hj => by show (upd be2 (s0 - 1) (nI ge)) j = f9 j; have hj : j < s09 := hj; rw [e7 j hj]; unfold hsA; rw [if_pos hs20e]; rw [if_pos hs20e] at e6; exact (if q : j = s0 - 1 then (by rw [q, updSame, if_neg (by omega)]; exact h2.symm) else (by rw [updOther q, hz j, if_pos (by omega), if_pos (by omega)]; exact hbe _ (by omega)))⟩⟩, by rw [ht9]; exact hP, va_K.moved hW.alike hK, hD⟩, hS.F ht9⟩) hS.2.2 dX7_become_93
        refine lv_aload_n hx hb dX7_become_29 rfl (lv_at hl 1 rfl) ?_
        refine va_get (D := D) (ci := 7) (C := RX7) (T := TX7) (N := 17) hx hb hts iX7 hown hK hP 0 rfl rfl 3 (by decide) (hts _ k_f_X7_20) (fun _ h9 => h9) rfl dX7_become_30 ?_
        refine lv_iload_n hx hb dX7_become_33 rfl (lv_at hl 0 rfl) ?_
        refine lv_iconst (v := nI 1) hx hb dX7_become_34 (by decide) ?_
        refine lv_isub hx hb dX7_become_35 ?_
        refine t_i (pk_sub (by omega)) ?_
        refine lv_aload_n hx hb dX7_become_36 rfl (lv_at hl 1 rfl) ?_
        refine va_get (D := D) (ci := 7) (C := RX7) (T := TX7) (N := 17) hx hb hts iX7 hown hK hP 0 rfl rfl 3 (by decide) (hts _ k_f_X7_20) (fun _ h9 => h9) rfl dX7_become_37 ?_
        refine lv_iload_n hx hb dX7_become_40 rfl (lv_at hl 0 rfl) ?_
        refine n_iald hx hb hK hP 4 0 rfl rfl (i := k) (n := 20) (by omega) (by decide) dX7_become_41 ?_
        refine n_iast hx hb hK hP hD hS 4 0 rfl rfl (i := k - 1) (n := 20) (by omega) (by decide) dX7_become_42 (fun H locs hP hD hS => ?_)
        have hP : va_P D vwCl (WM K mm ta sl ss (upd be2 (k - 1) (be2 k)) ch th M rq cq pv so st gs gm gu gl aw) H := hP
        have hD : va_D A (WM K mm ta sl ss (upd be2 (k - 1) (be2 k)) ch th M rq cq pv so st gs gm gu gl aw) := hD
        refine lv_iinc (v := nI (k + 1)) (lv' := [(2, .int (nI (k + 1))), (0, .ref (mm 0)), (1, .int (nI zz))]) hx hb dX7_become_43 hl (k := 0) rfl (nI_add k 1) (by decide) rfl (fun ls hl => ?_)
        refine lv_goto (tgt := 23) hx hb dX7_become_46 (by decide) ?_
        exact ih23 (k + 1) (upd be2 (k - 1) (be2 k)) _ _ _ (by omega) (by omega) (by omega) (fun j => by
      by_cases q : j = k - 1
      · subst q; rw [updSame, hz k, if_neg (by omega), if_pos (by omega), show k - 1 + 1 = k by omega]
      · rw [updOther q, hz j]
        by_cases q2 : j + 1 < k
        · rw [if_pos q2, if_pos (by omega)]
        · rw [if_neg q2, if_neg (by omega)]) hP hD hS (lv_sub hl [0, 1, 2] rfl)
    exact L23 _ 1 be _ _ _ (Nat.lt_succ_self _) (by omega) (by omega) (fun j => (if_neg (by omega)).symm) hP hD hS (lv_sub hl [0, 1, 2] rfl)
  exact W.vret hx hb hr (fun t9 ht9 hW => ⟨⟨(ta, sl, ss, be, ch, th, M, rq, cq, pv, so, st, gs, gm, gu, gl, aw), rfl, ⟨rfl, fun z1 v1 hc => by
      rcases hc with ⟨-, -, rfl⟩ | ⟨hc, -⟩
      · exact hR
      · exact absurd (show nI zz = d 8 2 from (i32_eq _ _).mpr (by rw [h2, nI_toIntI (by omega), nI_toIntI (by omega)]; omega)) hc⟩, by rw [ht9]; exact hP, va_K.moved hW.alike hK, hD⟩, hS.F ht9⟩) hS.2.2 dX7_become_11
