/-! PlanetaryGearboxModel: its state against the class's; speeds, torques -/
abbrev MS : Type := (Nat → Int32) × (Nat → Int32) × (Nat → Int32) × (Nat → Int32) × Int32 × Int32 × (Nat → Nat → Int64) × Int32 × Int32 × (Nat → Int32) × Int32 × (Nat → Int32) × Int32 × (Nat → Int32) × (Nat → Int64) × (Nat → Int64) × (Nat → Int32)
def WMu (K : Nat → ClassId) (mm : Nat → Nat) (w0 : MS) : va_W := WM K mm w0.1 w0.2.1 w0.2.2.1 w0.2.2.2.1 w0.2.2.2.2.1 w0.2.2.2.2.2.1 w0.2.2.2.2.2.2.1 w0.2.2.2.2.2.2.2.1 w0.2.2.2.2.2.2.2.2.1 w0.2.2.2.2.2.2.2.2.2.1 w0.2.2.2.2.2.2.2.2.2.2.1 w0.2.2.2.2.2.2.2.2.2.2.2.1 w0.2.2.2.2.2.2.2.2.2.2.2.2.1 w0.2.2.2.2.2.2.2.2.2.2.2.2.2.1 w0.2.2.2.2.2.2.2.2.2.2.2.2.2.2.1 w0.2.2.2.2.2.2.2.2.2.2.2.2.2.2.2.1 w0.2.2.2.2.2.2.2.2.2.2.2.2.2.2.2.2
/-- the model's object holds what the class's object v shows -/
def RM (v : CV) (w0 : MS) : Prop := AtD w0.1 v.1 ∧ AtD w0.2.1 v.2.1 ∧ AtD (fun k => w0.2.1 (36 + k)) v.2.2.1 ∧ w0.2.2.1 0 = v.2.2.2.1 ∧ w0.2.2.1 1 = v.2.2.2.2.1 ∧ w0.2.2.2.2.1 = nI v.2.2.2.2.2.2 ∧ ∀ j, j < v.2.2.2.2.2.2 → w0.2.2.2.1 j = v.2.2.2.2.2.1 j
set_option maxHeartbeats 4000000 in
set_option maxRecDepth 100000 in
theorem c_X7_state (l : Launch) (D : va_G) (K : Nat → ClassId) (mm : Nat → Nat) (v : CV) (w0 : MS)  (sz : Nat) (hI : IV v) (hR : RM v w0)  : Met l yX7_state (.code yX7_state cX7_state 1 (some .int) :: TB) ({ frames := 6, cells := 0, slots := 0, locals := 150 } : Room) (va_Pc [.ref (mm 0)] (cP D K (WMu K mm w0) sz)) (va_Qi (fun (z : Int32) (u : MS) => RM v u ∧ u.2.2.2.2.2.1 = nI 0 ∧ z.toInt = (stM v.1 (dn v.1 8 2) : Int)) (fun (u : MS) t => cB D K (va_A (WMu K mm w0) sz) (WMu K mm u) t) (va_A (WMu K mm w0) sz)) 0 0 (va_A (WMu K mm w0) sz) := by
  refine Met.ofW (cc := cX7_state) (maxL := 1) (ret := (some .int)) (by decide) rfl ?_
  intro p e s m args below meth c s₁ B hml hv
  obtain ⟨rfl, hsz, hP, hK, hD0⟩ := hv
  have hx := B.exec
  have hb := B.bytes
  have hr := B.returns
  have hts := hts_tl (atoms_spec (ws := (.code yX7_state cX7_state 1 (some .int) :: TB)) B.pre)
  have hown : s.vm.findClass RX7 = some m.cls := findClass_of_methodNamed B.named
  have hlocks := B.notSynchronized
  subst hsz
  have hD := hD0.self (sz := s.heap.size)
  generalize hAe : (va_A (WMu K mm w0) s.heap.size) = A at hD ⊢
  have hA : ∀ q : Nat, s.heap.size ≤ q → A q := fun q h => by rw [← hAe]; exact Or.inr h
  have hS : va_S A s.heap s.heap [] := va_S.rf
  clear hAe hD0
  obtain ⟨d, d1, d2, f1, f2, f, s0⟩ := v
  obtain ⟨ta, sl, ss, be, ch, th, M, rq, cq, pv, so, st, gs, gm, gu, gl, aw⟩ := w0
  obtain ⟨hd, hd1, hd2, hf1, hf2, hs20, hhf⟩ := id hI
  obtain ⟨hat, hat1, hat2, hss0, hss1, hch, hbe⟩ := id hR
  dsimp only at hd hd1 hd2 hf1 hf2 hs20 hhf hat hat1 hat2 hss0 hss1 hch hbe
  obtain ⟨n, m1, ge, hn, hm, hge, h0, h1, h2, hs9, he9⟩ := id hd
  obtain ⟨ha1, ha2, ha33, ha34, ha35⟩ := id hat
  have hp6 : 2 ^ m1 ≤ 64 := Nat.pow_le_pow_right (show 0 < 2 by decide) hm
  have h33 := ha33.trans h0
  have h34 := ha34.trans h1
  have h35 := ha35.trans h2
  have hn1 : dn d 8 0 = n := dn_of h0 (by omega)
  have hm1 : dn d 8 1 = m1 := dn_of h1 (by omega)
  have hg1 : dn d 8 2 = ge := dn_of h2 (by omega)
  have hP : va_P D vwCl (WM K mm ta sl ss be ch th M rq cq pv so st gs gm gu gl aw) s.heap := hP
  have hD : va_D A (WM K mm ta sl ss be ch th M rq cq pv so st gs gm gu gl aw) := hD
  have hl := lv_entry ([.ref (mm 0)]) (n := 1) (Nat.le_of_ble_eq_true rfl)
  rw [lg_entry_eq]
  generalize (lg_sl ([.ref (mm 0)]) ++ List.replicate (1 - (lg_sl ([.ref (mm 0)])).length) Slot.unset).toArray = ls at hl ⊢
  have hl : lv_has ls 1 [(0, .ref (mm 0))] := hl
  refine lv_aload_n hx hb dX7_state_0 rfl (lv_at hl 0 rfl) ?_
  refine lv_iconst (v := nI 0) hx hb dX7_state_1 (by decide) ?_
  refine va_put (D := D) (ci := 7) (v := .int (nI 0)) (ty := .int) (C := RX7) (T := TX7) (N := 17) hx hb hts iX7 tyX7 tyX7_ok nmX7 hown hK hP hD hS 0 rfl rfl 5 (by decide) (hts _ k_f_X7_45) (fun _ h9 => h9) rfl (by decide +kernel) rfl rfl (Nat.le_of_ble_eq_true rfl) dX7_state_2 (fun H locs hP hD hS => ?_)
  have hP : va_P D vwCl (WM K mm ta sl ss be ch (nI 0) M rq cq pv so st gs gm gu gl aw) H := hP
  have hD : va_D A (WM K mm ta sl ss be ch (nI 0) M rq cq pv so st gs gm gu gl aw) := hD
  refine lv_aload_n hx hb dX7_state_5 rfl (lv_at hl 0 rfl) ?_
  refine lv_aload_n hx hb dX7_state_6 rfl (lv_at hl 0 rfl) ?_
  refine va_get (D := D) (ci := 7) (C := RX7) (T := TX7) (N := 17) hx hb hts iX7 hown hK hP 0 rfl rfl 0 (by decide) (hts _ k_f_X7_7) (fun _ h9 => h9) rfl dX7_state_7 ?_
  refine lv_bipush (v := nI 35) hx hb dX7_state_10 (by decide) ?_
  refine n_iald hx hb hK hP 1 0 rfl rfl (i := 35) (n := 36) (by omega) (by decide) dX7_state_12 ?_
  refine t_i (show _ = nI ge from h35) ?_
  have hFc := freeAll hD hS hA
  refine va_calli (va_runV (As := [.int (nI ge)]) (rest := []) ⟨hx, hb, hml, hown, hts⟩ (c_X7_stateOf l D K mm ta sl ss be ch (nI 0) M rq cq pv so st gs gm gu gl aw d ge H.size hd hat (by omega)) (cwV 1 hts (TB_V k_m_X7_127 k_im_X7_stateOf k_se_X7_stateOf k_in_X7 k_co_X7_stateOf (fun _ h => h)) rfl rfl rfl (by decide +kernel) ⟨Nat.le_of_ble_eq_true rfl, Nat.le_of_ble_eq_true rfl⟩) ⟨cP_blind, va_recv hK hP (ci := 7) (q0 := 0) rfl rfl, cP_of hP hK hD⟩ rfl rfl hl.1 rfl (lv_room (Nat.le_of_ble_eq_true rfl)) dX7_state_13 ⟨Nat.le_of_ble_eq_true rfl, Nat.le_of_ble_eq_true rfl⟩) hS (fun q _ h => hFc q h) hFc (fun sz9 u6 t9 H locs ht9 hvm hw hB hz1 hk1 hS => ?_)
  obtain ⟨hP, hK1, hD1⟩ := hB
  rw [ht9] at hP
  have hD := hD1.weaken (fun _ _ _ h => hFc _ h)
  have hP : va_P D vwCl (WM K mm ta sl ss be ch (nI 0) u6.1.1 u6.2 (nI 6) u6.1.2.1 u6.1.2.2 st gs gm gu gl aw) H := hP
  have hD : va_D A (WM K mm ta sl ss be ch (nI 0) u6.1.1 u6.2 (nI 6) u6.1.2.1 u6.1.2.2 st gs gm gu gl aw) := hD
  obtain ⟨hsz9, nr, hnr, hrq9, hs0⟩ := hw
  have hst3 := stC_le (SP d ge)
  have hst3 : stM d ge ≤ 3 := hst3
  refine t_i hsz9 ?_
  exact W.iret (v := nI (stM d ge)) hx hb hr (fun t9 ht9 hW => ⟨⟨nI (stM d ge), (ta, sl, ss, be, ch, (nI 0), u6.1.1, u6.2, (nI 6), u6.1.2.1, u6.1.2.2, st, gs, gm, gu, gl, aw), rfl, ⟨hR, rfl, by rw [nI_toIntI (by omega), hg1]⟩, by rw [ht9]; exact hP, va_K.moved hW.alike hK, hD⟩, hS.F ht9⟩) hS.2.2 dX7_state_16
