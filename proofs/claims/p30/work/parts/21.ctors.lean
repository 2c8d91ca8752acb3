/-! constructors -/
theorem kA_eq {D : va_G} {t : FieldType} {tys : List (ClassId × FieldType)} {cA cB : ClassId} {s : State} (ho : ∀ C, t ≠ .object C) (hK : va_K D vwCl (tys ++ [(cA, t)]) s) {k : Nat} (hk : tys[k]? = some (cB, t)) : cA = cB := by
  have h1 := (hK.2 tys.length (cA, t) (by rw [List.getElem?_append_right (Nat.le_refl _), Nat.sub_self]; rfl)).2
  have hlt := (List.getElem?_eq_some_iff.mp hk).1
  have h2 := (hK.2 k (cB, t) (by rw [List.getElem?_append_left hlt]; exact hk)).2
  have e1 : s.vm.findClass ("[" ++ t.toString) = some cA := by
    cases t <;> first | exact h1 | exact absurd rfl (ho _)
  have e2 : s.vm.findClass ("[" ++ t.toString) = some cB := by
    cases t <;> first | exact h2 | exact absurd rfl (ho _)
  rw [e1] at e2
  exact Option.some.inj e2
theorem kI_eq {D : va_G} {K : Nat → ClassId} {cA : ClassId} {s : State} (hK : va_K D vwCl (TY K ++ [(cA, .int)]) s) : cA = K 0 := kA_eq (fun _ q => by cases q) hK (k := 0) rfl
theorem kJ_eq {D : va_G} {K : Nat → ClassId} {cA : ClassId} {s : State} (hK : va_K D vwCl (TY K ++ [(cA, .long)]) s) : cA = K 1 := kA_eq (fun _ q => by cases q) hK (k := 1) rfl
theorem kZ_eq {D : va_G} {K : Nat → ClassId} {cA : ClassId} {s : State} (hK : va_K D vwCl (TY K ++ [(cA, .boolean)]) s) : cA = K 2 := kA_eq (fun _ q => by cases q) hK (k := 2) rfl
theorem kO_eq {D : va_G} {K : Nat → ClassId} {cA : ClassId} {s : State} (hK : va_K D vwCl (TY K ++ [(cA, .array .long)]) s) : cA = K 3 := kA_eq (fun _ q => by cases q) hK (k := 3) rfl
theorem AOA_moved {t : FieldType} {u U : State} (hvm : u.vm.Alike U.vm) (h : va_AOA t u) : va_AOA t U := by
  have h1 : (Cond.arrayOver (.array t)).before #[] (u.setVm U.vm) = true := (Cond.arrayOver_setVmC hvm (.array t)).trans h
  exact h1
theorem AOA_same {t : FieldType} {u U : State} (h : u.vm = U.vm) (hz : va_AOA t u) : va_AOA t U := AOA_moved (by rw [h]; exact Vm.Alike.refl U.vm) hz
/-- what the constructors need of the tables beside the words -/
def CX (U : State) : Prop := va_AOA .long U ∧ va_Nw (.methodLinkNest RX6 11 yX0_init RX6) U ∧ va_Nw (.methodLinkNest RX6 24 yX3_init RX6) U ∧ va_Nw (.methodLinkNest RX6 31 yX4_init RX6) U ∧ va_Nw (.methodLinkNest RX4 13 yX1_init RX6) U ∧ va_Nw (.methodLinkNest RX6 38 yX5_init RX6) U ∧ va_Nw (.methodLinkNest RX5 13 yX1_init RX6) U ∧ va_Nw (.methodLinkNest RX6 45 yX2_init RX6) U
theorem CX_warm {s U : State} (hW : s.WarmedH U.vm) (h : CX s) : CX U := by
  obtain ⟨h0, h1, h2, h3, h4, h5, h6, h7⟩ := h
  exact ⟨AOA_moved hW.alike h0, va_Nw.warmM hW h1, va_Nw.warmM hW h2, va_Nw.warmM hW h3, va_Nw.warmM hW h4, va_Nw.warmM hW h5, va_Nw.warmM hW h6, va_Nw.warmM hW h7⟩
theorem CX_same {s U : State} (e : s.vm = U.vm) (h : CX s) : CX U := by
  obtain ⟨h0, h1, h2, h3, h4, h5, h6, h7⟩ := h
  exact ⟨AOA_same e h0, va_Nw.same rfl e h1, va_Nw.same rfl e h2, va_Nw.same rfl e h3, va_Nw.same rfl e h4, va_Nw.same rfl e h5, va_Nw.same rfl e h6, va_Nw.same rfl e h7⟩
abbrev cPX (D : va_G) (K : Nat → ClassId) (ws : va_W) (sz : Nat) : State → Prop := fun U => (U.heap.size = sz ∧ va_P D vwCl ws U.heap ∧ va_K D vwCl (TY K) U ∧ va_D (fun _ => True) ws) ∧ CX U
theorem cPX_blind {D : va_G} {K : Nat → ClassId} {ws : va_W} {sz : Nat} {as : List Value} : FrameBlind (va_Pc as (cPX D K ws sz)) := fun a U g mk q => by
  obtain ⟨q0, ⟨q1, qP, qK, qD⟩, qX⟩ := q
  exact ⟨q0, ⟨q1, qP, va_K.moved (u := U) (U := U.calling g mk a) (Vm.Alike.refl U.vm) qK, qD⟩, CX_same (s := U) (U := U.calling g mk a) rfl qX⟩
theorem cPX_of {D : va_G} {K : Nat → ClassId} {ws : va_W} {s : State} {H : Heap} {A : Nat → Prop} {as : List Value} (hP : va_P D vwCl ws H) (hK : va_K D vwCl (TY K) s) (hD : va_D A ws) (hX : CX s) : ∀ U : State, U.heap = H → s.WarmedH U.vm → va_Pc as (cPX D K ws H.size) as.toArray U := fun U hU hW => ⟨rfl, ⟨by rw [hU], by rw [hU]; exact hP, va_K.moved hW.alike hK, hD.weaken (fun _ _ _ _ => trivial)⟩, CX_warm hW hX⟩
/-- a History -/
def WH (K : Nat → ClassId) (h hm : Nat) (f : Nat → Int32) (n : Int32) : va_W := [(h, .inr (3, [.ref hm, .int n])), (hm, .inl (K 0, 20, .inl f))]
/-- a GearTable; g: its addresses -/
def WG (K : Nat → ClassId) (g : Nat → Nat) (ma : Nat → Int32) (nu de : Nat → Int64) (ne di : Nat → Int32) (sz fr : Int32) : va_W := [(g 0, .inr (2, [.ref (g 1), .ref (g 2), .ref (g 3), .ref (g 4), .ref (g 5), .int sz, .int fr])), (g 1, .inl (K 0, 64, .inl ma)), (g 2, .inl (K 1, 64, .inr (.inl nu))), (g 3, .inl (K 1, 64, .inr (.inl de))), (g 4, .inl (K 2, 64, .inl ne)), (g 5, .inl (K 0, 64, .inl di))]
theorem P_perm {D : va_G} {cl : List vw_C} {ws ws' : va_W} {H : Heap} (hp : ws.Perm ws') (h : va_P D cl ws H) : va_P D cl ws' H := P_mem.mpr (fun q hq => P_mem.mp h q (hp.mem_iff.mpr hq))
theorem D_perm {A : Nat → Prop} {ws ws' : va_W} (hp : ws.Perm ws') (h : va_D A ws) : va_D A ws' := by
  obtain ⟨h1, h2⟩ := D_mem.mp h
  exact D_mem.mpr ⟨(hp.pairwise_iff (fun {a b} q z => q z.symm)).mp h1, fun q hq => h2 q (hp.mem_iff.mpr hq)⟩
theorem cl_arr {own : String} {i : Nat} {args : Array Value} {s : State} (h : (Cond.classLink own i "[[J").before args s = true) : (Cond.classLink own i ("[" ++ (FieldType.array .long).toString)).before args s = true := by
  have e : "[" ++ (FieldType.array .long).toString = "[[J" := by decide
  rw [e]
  exact h
theorem pl_rows {f : Nat → va_E} {r : Nat → Nat} {e : va_E} : va_pl ([] ++ (List.range 10).map r) (vr_up f ((List.range 10).map r) e) = (List.range 10).map (fun i => (r i, e)) := by
  unfold va_pl
  rw [List.nil_append, List.map_map]
  apply List.map_congr_left
  intro i hi
  show (r i, vr_up f ((List.range 10).map r) e (r i)) = (r i, e)
  rw [vr_up_in (List.mem_map.mpr ⟨i, hi, rfl⟩)]
set_option maxHeartbeats 4000000 in
set_option maxRecDepth 100000 in
theorem c_X0_init (l : Launch) (D : va_G) (K : Nat → ClassId) (h0 : Nat) (sz : Nat)  : Met l yX0_init (.code yX0_init cX0_init 1 none :: TB) ({ frames := 1, cells := 8, slots := 33, locals := 12 } : Room) (va_Pc [.ref h0] (cP D K ([(h0, .inr (0, [.null, .null, .null, .null, .null, .int 0, .null, .null, .null, .int 0, .int 0]))]) sz)) (va_Qv (fun (u : Nat → Nat) => u 0 = h0) (fun (u : Nat → Nat) t => cB D K (va_A ([(h0, .inr (0, [.null, .null, .null, .null, .null, .int 0, .null, .null, .null, .int 0, .int 0]))]) sz) (WD K u (fun _ _ => 0)) t) (va_A ([(h0, .inr (0, [.null, .null, .null, .null, .null, .int 0, .null, .null, .null, .int 0, .int 0]))]) sz)) 8 33 (va_A ([(h0, .inr (0, [.null, .null, .null, .null, .null, .int 0, .null, .null, .null, .int 0, .int 0]))]) sz) := by
  refine Met.ofW (cc := cX0_init) (maxL := 1) (ret := none) (by decide) rfl ?_
  intro p e s m args below meth c s₁ B hml hv
  obtain ⟨rfl, hsz, hP, hK, hD0⟩ := hv
  have hx := B.exec
  have hb := B.bytes
  have hr := B.returns
  have hts := hts_tl (atoms_spec (ws := (.code yX0_init cX0_init 1 none :: TB)) B.pre)
  have hown : s.vm.findClass RX0 = some m.cls := findClass_of_methodNamed B.named
  have hlocks := B.notSynchronized
  have hin : meth.name = "<init>" := (name_of_methodNamed B.named B.method).1
  subst hsz
  have hD := hD0.self (sz := s.heap.size)
  generalize hAe : (va_A ([(h0, .inr (0, [.null, .null, .null, .null, .null, .int 0, .null, .null, .null, .int 0, .int 0]))]) s.heap.size) = A at hD ⊢
  have hA : ∀ q : Nat, s.heap.size ≤ q → A q := fun q h => by rw [← hAe]; exact Or.inr h
  have hS : va_S A s.heap s.heap [] := va_S.rf
  have hl := lv_entry ([.ref h0]) (n := 1) (Nat.le_of_ble_eq_true rfl)
  rw [lg_entry_eq]
  generalize (lg_sl ([.ref h0]) ++ List.replicate (1 - (lg_sl ([.ref h0])).length) Slot.unset).toArray = ls at hl ⊢
  have hl : lv_has ls 1 [(0, .ref h0)] := hl
  refine lv_aload_n hx hb dX0_init_0 rfl (lv_at hl 0 rfl) ?_
  refine W.objInit hx hb hown (hts _ k_m_X0_3) (hts _ k_im_objectInit) (hts _ k_co_objectInit) rfl (by rw [hml]; exact hl.1) rfl dX0_init_1 (Nat.le_of_ble_eq_true rfl) (Nat.le_of_ble_eq_true rfl) ?_
  refine W.eq (g2 := F0 m 4 ls []) rfl ?_
  refine lv_aload_n hx hb dX0_init_4 rfl (lv_at hl 0 rfl) ?_
  refine lv_iconst (v := nI 3) hx hb dX0_init_5 (by decide) ?_
  refine va_newa (atype := .int) hx hb (hts _ k_ac__int) (ty := .int) rfl hK hP hD hS hA (N' := 3) (a0 := (3, .inl (fun _ => 0))) (fun cA => rfl) (by decide) (by decide) (by decide) (Nat.le_of_ble_eq_true rfl) (Nat.le_of_ble_eq_true rfl) dX0_init_6 (fun p1 cA H hK hP hD hS => ?_)
  have hcA := kI_eq hK
  subst hcA
  have hK := hK.sub (tys' := TY K) [0, 1, 2, 3] rfl
  have hP : va_P D vwCl ([(h0, .inr (0, [.null, .null, .null, .null, .null, .int 0, .null, .null, .null, .int 0, .int 0])), (p1, .inl (K 0, 3, .inl (fun _ => 0)))]) H := hP
  have hD : va_D A ([(h0, .inr (0, [.null, .null, .null, .null, .null, .int 0, .null, .null, .null, .int 0, .int 0])), (p1, .inl (K 0, 3, .inl (fun _ => 0)))]) := hD
  refine va_putF (D := D) (ci := 0) (v := .ref p1) (ty := .array .int) (C := RX0) (T := TX0) (N := 11) hx hb hts iX0 tyX0 tyX0_ok nmX0 hown hK hP hD hS 0 rfl rfl 0 (by decide) (hts _ k_f_X0_9) (fun _ h9 => h9) rfl hin rfl (by decide +kernel) rfl rfl (Nat.le_of_ble_eq_true rfl) dX0_init_8 (fun H locs hP hD hS => ?_)
  have hP : va_P D vwCl ([(h0, .inr (0, [.ref p1, .null, .null, .null, .null, .int 0, .null, .null, .null, .int 0, .int 0])), (p1, .inl (K 0, 3, .inl (fun _ => 0)))]) H := hP
  have hD : va_D A ([(h0, .inr (0, [.ref p1, .null, .null, .null, .null, .int 0, .null, .null, .null, .int 0, .int 0])), (p1, .inl (K 0, 3, .inl (fun _ => 0)))]) := hD
  refine lv_aload_n hx hb dX0_init_11 rfl (lv_at hl 0 rfl) ?_
  refine lv_iconst (v := nI 3) hx hb dX0_init_12 (by decide) ?_
  refine va_newa (atype := .int) hx hb (hts _ k_ac__int) (ty := .int) rfl hK hP hD hS hA (N' := 3) (a0 := (3, .inl (fun _ => 0))) (fun cA => rfl) (by decide) (by decide) (by decide) (Nat.le_of_ble_eq_true rfl) (Nat.le_of_ble_eq_true rfl) dX0_init_13 (fun p2 cA H hK hP hD hS => ?_)
  have hcA := kI_eq hK
  subst hcA
  have hK := hK.sub (tys' := TY K) [0, 1, 2, 3] rfl
  have hP : va_P D vwCl ([(h0, .inr (0, [.ref p1, .null, .null, .null, .null, .int 0, .null, .null, .null, .int 0, .int 0])), (p1, .inl (K 0, 3, .inl (fun _ => 0))), (p2, .inl (K 0, 3, .inl (fun _ => 0)))]) H := hP
  have hD : va_D A ([(h0, .inr (0, [.ref p1, .null, .null, .null, .null, .int 0, .null, .null, .null, .int 0, .int 0])), (p1, .inl (K 0, 3, .inl (fun _ => 0))), (p2, .inl (K 0, 3, .inl (fun _ => 0)))]) := hD
  refine va_putF (D := D) (ci := 0) (v := .ref p2) (ty := .array .int) (C := RX0) (T := TX0) (N := 11) hx hb hts iX0 tyX0 tyX0_ok nmX0 hown hK hP hD hS 0 rfl rfl 1 (by decide) (hts _ k_f_X0_15) (fun _ h9 => h9) rfl hin rfl (by decide +kernel) rfl rfl (Nat.le_of_ble_eq_true rfl) dX0_init_15 (fun H locs hP hD hS => ?_)
  have hP : va_P D vwCl ([(h0, .inr (0, [.ref p1, .ref p2, .null, .null, .null, .int 0, .null, .null, .null, .int 0, .int 0])), (p1, .inl (K 0, 3, .inl (fun _ => 0))), (p2, .inl (K 0, 3, .inl (fun _ => 0)))]) H := hP
  have hD : va_D A ([(h0, .inr (0, [.ref p1, .ref p2, .null, .null, .null, .int 0, .null, .null, .null, .int 0, .int 0])), (p1, .inl (K 0, 3, .inl (fun _ => 0))), (p2, .inl (K 0, 3, .inl (fun _ => 0)))]) := hD
  refine lv_aload_n hx hb dX0_init_18 rfl (lv_at hl 0 rfl) ?_
  refine lv_iconst (v := nI 3) hx hb dX0_init_19 (by decide) ?_
  refine va_newa (atype := .int) hx hb (hts _ k_ac__int) (ty := .int) rfl hK hP hD hS hA (N' := 3) (a0 := (3, .inl (fun _ => 0))) (fun cA => rfl) (by decide) (by decide) (by decide) (Nat.le_of_ble_eq_true rfl) (Nat.le_of_ble_eq_true rfl) dX0_init_20 (fun p3 cA H hK hP hD hS => ?_)
  have hcA := kI_eq hK
  subst hcA
  have hK := hK.sub (tys' := TY K) [0, 1, 2, 3] rfl
  have hP : va_P D vwCl ([(h0, .inr (0, [.ref p1, .ref p2, .null, .null, .null, .int 0, .null, .null, .null, .int 0, .int 0])), (p1, .inl (K 0, 3, .inl (fun _ => 0))), (p2, .inl (K 0, 3, .inl (fun _ => 0))), (p3, .inl (K 0, 3, .inl (fun _ => 0)))]) H := hP
  have hD : va_D A ([(h0, .inr (0, [.ref p1, .ref p2, .null, .null, .null, .int 0, .null, .null, .null, .int 0, .int 0])), (p1, .inl (K 0, 3, .inl (fun _ => 0))), (p2, .inl (K 0, 3, .inl (fun _ => 0))), (p3, .inl (K 0, 3, .inl (fun _ => 0)))]) := hD
  refine va_putF (D := D) (ci := 0) (v := .ref p3) (ty := .array .int) (C := RX0) (T := TX0) (N := 11) hx hb hts iX0 tyX0 tyX0_ok nmX0 hown hK hP hD hS 0 rfl rfl 2 (by decide) (hts _ k_f_X0_18) (fun _ h9 => h9) rfl hin rfl (by decide +kernel) rfl rfl (Nat.le_of_ble_eq_true rfl) dX0_init_22 (fun H locs hP hD hS => ?_)
  have hP : va_P D vwCl ([(h0, .inr (0, [.ref p1, .ref p2, .ref p3, .null, .null, .int 0, .null, .null, .null, .int 0, .int 0])), (p1, .inl (K 0, 3, .inl (fun _ => 0))), (p2, .inl (K 0, 3, .inl (fun _ => 0))), (p3, .inl (K 0, 3, .inl (fun _ => 0)))]) H := hP
  have hD : va_D A ([(h0, .inr (0, [.ref p1, .ref p2, .ref p3, .null, .null, .int 0, .null, .null, .null, .int 0, .int 0])), (p1, .inl (K 0, 3, .inl (fun _ => 0))), (p2, .inl (K 0, 3, .inl (fun _ => 0))), (p3, .inl (K 0, 3, .inl (fun _ => 0)))]) := hD
  refine lv_aload_n hx hb dX0_init_25 rfl (lv_at hl 0 rfl) ?_
  refine lv_iconst (v := nI 3) hx hb dX0_init_26 (by decide) ?_
  refine va_newa (atype := .int) hx hb (hts _ k_ac__int) (ty := .int) rfl hK hP hD hS hA (N' := 3) (a0 := (3, .inl (fun _ => 0))) (fun cA => rfl) (by decide) (by decide) (by decide) (Nat.le_of_ble_eq_true rfl) (Nat.le_of_ble_eq_true rfl) dX0_init_27 (fun p4 cA H hK hP hD hS => ?_)
  have hcA := kI_eq hK
  subst hcA
  have hK := hK.sub (tys' := TY K) [0, 1, 2, 3] rfl
  have hP : va_P D vwCl ([(h0, .inr (0, [.ref p1, .ref p2, .ref p3, .null, .null, .int 0, .null, .null, .null, .int 0, .int 0])), (p1, .inl (K 0, 3, .inl (fun _ => 0))), (p2, .inl (K 0, 3, .inl (fun _ => 0))), (p3, .inl (K 0, 3, .inl (fun _ => 0))), (p4, .inl (K 0, 3, .inl (fun _ => 0)))]) H := hP
  have hD : va_D A ([(h0, .inr (0, [.ref p1, .ref p2, .ref p3, .null, .null, .int 0, .null, .null, .null, .int 0, .int 0])), (p1, .inl (K 0, 3, .inl (fun _ => 0))), (p2, .inl (K 0, 3, .inl (fun _ => 0))), (p3, .inl (K 0, 3, .inl (fun _ => 0))), (p4, .inl (K 0, 3, .inl (fun _ => 0)))]) := hD
  refine va_putF (D := D) (ci := 0) (v := .ref p4) (ty := .array .int) (C := RX0) (T := TX0) (N := 11) hx hb hts iX0 tyX0 tyX0_ok nmX0 hown hK hP hD hS 0 rfl rfl 3 (by decide) (hts _ k_f_X0_21) (fun _ h9 => h9) rfl hin rfl (by decide +kernel) rfl rfl (Nat.le_of_ble_eq_true rfl) dX0_init_29 (fun H locs hP hD hS => ?_)
  have hP : va_P D vwCl ([(h0, .inr (0, [.ref p1, .ref p2, .ref p3, .ref p4, .null, .int 0, .null, .null, .null, .int 0, .int 0])), (p1, .inl (K 0, 3, .inl (fun _ => 0))), (p2, .inl (K 0, 3, .inl (fun _ => 0))), (p3, .inl (K 0, 3, .inl (fun _ => 0))), (p4, .inl (K 0, 3, .inl (fun _ => 0)))]) H := hP
  have hD : va_D A ([(h0, .inr (0, [.ref p1, .ref p2, .ref p3, .ref p4, .null, .int 0, .null, .null, .null, .int 0, .int 0])), (p1, .inl (K 0, 3, .inl (fun _ => 0))), (p2, .inl (K 0, 3, .inl (fun _ => 0))), (p3, .inl (K 0, 3, .inl (fun _ => 0))), (p4, .inl (K 0, 3, .inl (fun _ => 0)))]) := hD
  refine lv_aload_n hx hb dX0_init_32 rfl (lv_at hl 0 rfl) ?_
  refine lv_iconst (v := nI 3) hx hb dX0_init_33 (by decide) ?_
  refine va_newa (atype := .int) hx hb (hts _ k_ac__int) (ty := .int) rfl hK hP hD hS hA (N' := 3) (a0 := (3, .inl (fun _ => 0))) (fun cA => rfl) (by decide) (by decide) (by decide) (Nat.le_of_ble_eq_true rfl) (Nat.le_of_ble_eq_true rfl) dX0_init_34 (fun p5 cA H hK hP hD hS => ?_)
  have hcA := kI_eq hK
  subst hcA
  have hK := hK.sub (tys' := TY K) [0, 1, 2, 3] rfl
  have hP : va_P D vwCl ([(h0, .inr (0, [.ref p1, .ref p2, .ref p3, .ref p4, .null, .int 0, .null, .null, .null, .int 0, .int 0])), (p1, .inl (K 0, 3, .inl (fun _ => 0))), (p2, .inl (K 0, 3, .inl (fun _ => 0))), (p3, .inl (K 0, 3, .inl (fun _ => 0))), (p4, .inl (K 0, 3, .inl (fun _ => 0))), (p5, .inl (K 0, 3, .inl (fun _ => 0)))]) H := hP
  have hD : va_D A ([(h0, .inr (0, [.ref p1, .ref p2, .ref p3, .ref p4, .null, .int 0, .null, .null, .null, .int 0, .int 0])), (p1, .inl (K 0, 3, .inl (fun _ => 0))), (p2, .inl (K 0, 3, .inl (fun _ => 0))), (p3, .inl (K 0, 3, .inl (fun _ => 0))), (p4, .inl (K 0, 3, .inl (fun _ => 0))), (p5, .inl (K 0, 3, .inl (fun _ => 0)))]) := hD
  refine va_putF (D := D) (ci := 0) (v := .ref p5) (ty := .array .int) (C := RX0) (T := TX0) (N := 11) hx hb hts iX0 tyX0 tyX0_ok nmX0 hown hK hP hD hS 0 rfl rfl 4 (by decide) (hts _ k_f_X0_24) (fun _ h9 => h9) rfl hin rfl (by decide +kernel) rfl rfl (Nat.le_of_ble_eq_true rfl) dX0_init_36 (fun H locs hP hD hS => ?_)
  have hP : va_P D vwCl ([(h0, .inr (0, [.ref p1, .ref p2, .ref p3, .ref p4, .ref p5, .int 0, .null, .null, .null, .int 0, .int 0])), (p1, .inl (K 0, 3, .inl (fun _ => 0))), (p2, .inl (K 0, 3, .inl (fun _ => 0))), (p3, .inl (K 0, 3, .inl (fun _ => 0))), (p4, .inl (K 0, 3, .inl (fun _ => 0))), (p5, .inl (K 0, 3, .inl (fun _ => 0)))]) H := hP
  have hD : va_D A ([(h0, .inr (0, [.ref p1, .ref p2, .ref p3, .ref p4, .ref p5, .int 0, .null, .null, .null, .int 0, .int 0])), (p1, .inl (K 0, 3, .inl (fun _ => 0))), (p2, .inl (K 0, 3, .inl (fun _ => 0))), (p3, .inl (K 0, 3, .inl (fun _ => 0))), (p4, .inl (K 0, 3, .inl (fun _ => 0))), (p5, .inl (K 0, 3, .inl (fun _ => 0)))]) := hD
  refine lv_aload_n hx hb dX0_init_39 rfl (lv_at hl 0 rfl) ?_
  refine lv_bipush (v := nI 6) hx hb dX0_init_40 (by decide) ?_
  refine va_newa (atype := .int) hx hb (hts _ k_ac__int) (ty := .int) rfl hK hP hD hS hA (N' := 6) (a0 := (6, .inl (fun _ => 0))) (fun cA => rfl) (by decide) (by decide) (by decide) (Nat.le_of_ble_eq_true rfl) (Nat.le_of_ble_eq_true rfl) dX0_init_42 (fun p6 cA H hK hP hD hS => ?_)
  have hcA := kI_eq hK
  subst hcA
  have hK := hK.sub (tys' := TY K) [0, 1, 2, 3] rfl
  have hP : va_P D vwCl ([(h0, .inr (0, [.ref p1, .ref p2, .ref p3, .ref p4, .ref p5, .int 0, .null, .null, .null, .int 0, .int 0])), (p1, .inl (K 0, 3, .inl (fun _ => 0))), (p2, .inl (K 0, 3, .inl (fun _ => 0))), (p3, .inl (K 0, 3, .inl (fun _ => 0))), (p4, .inl (K 0, 3, .inl (fun _ => 0))), (p5, .inl (K 0, 3, .inl (fun _ => 0))), (p6, .inl (K 0, 6, .inl (fun _ => 0)))]) H := hP
  have hD : va_D A ([(h0, .inr (0, [.ref p1, .ref p2, .ref p3, .ref p4, .ref p5, .int 0, .null, .null, .null, .int 0, .int 0])), (p1, .inl (K 0, 3, .inl (fun _ => 0))), (p2, .inl (K 0, 3, .inl (fun _ => 0))), (p3, .inl (K 0, 3, .inl (fun _ => 0))), (p4, .inl (K 0, 3, .inl (fun _ => 0))), (p5, .inl (K 0, 3, .inl (fun _ => 0))), (p6, .inl (K 0, 6, .inl (fun _ => 0)))]) := hD
  refine va_putF (D := D) (ci := 0) (v := .ref p6) (ty := .array .int) (C := RX0) (T := TX0) (N := 11) hx hb hts iX0 tyX0 tyX0_ok nmX0 hown hK hP hD hS 0 rfl rfl 6 (by decide) (hts _ k_f_X0_27) (fun _ h9 => h9) rfl hin rfl (by decide +kernel) rfl rfl (Nat.le_of_ble_eq_true rfl) dX0_init_44 (fun H locs hP hD hS => ?_)
  have hP : va_P D vwCl ([(h0, .inr (0, [.ref p1, .ref p2, .ref p3, .ref p4, .ref p5, .int 0, .ref p6, .null, .null, .int 0, .int 0])), (p1, .inl (K 0, 3, .inl (fun _ => 0))), (p2, .inl (K 0, 3, .inl (fun _ => 0))), (p3, .inl (K 0, 3, .inl (fun _ => 0))), (p4, .inl (K 0, 3, .inl (fun _ => 0))), (p5, .inl (K 0, 3, .inl (fun _ => 0))), (p6, .inl (K 0, 6, .inl (fun _ => 0)))]) H := hP
  have hD : va_D A ([(h0, .inr (0, [.ref p1, .ref p2, .ref p3, .ref p4, .ref p5, .int 0, .ref p6, .null, .null, .int 0, .int 0])), (p1, .inl (K 0, 3, .inl (fun _ => 0))), (p2, .inl (K 0, 3, .inl (fun _ => 0))), (p3, .inl (K 0, 3, .inl (fun _ => 0))), (p4, .inl (K 0, 3, .inl (fun _ => 0))), (p5, .inl (K 0, 3, .inl (fun _ => 0))), (p6, .inl (K 0, 6, .inl (fun _ => 0)))]) := hD
  refine lv_aload_n hx hb dX0_init_47 rfl (lv_at hl 0 rfl) ?_
  refine lv_bipush (v := nI 6) hx hb dX0_init_48 (by decide) ?_
  refine va_newa (atype := .int) hx hb (hts _ k_ac__int) (ty := .int) rfl hK hP hD hS hA (N' := 6) (a0 := (6, .inl (fun _ => 0))) (fun cA => rfl) (by decide) (by decide) (by decide) (Nat.le_of_ble_eq_true rfl) (Nat.le_of_ble_eq_true rfl) dX0_init_50 (fun p7 cA H hK hP hD hS => ?_)
  have hcA := kI_eq hK
  subst hcA
  have hK := hK.sub (tys' := TY K) [0, 1, 2, 3] rfl
  have hP : va_P D vwCl ([(h0, .inr (0, [.ref p1, .ref p2, .ref p3, .ref p4, .ref p5, .int 0, .ref p6, .null, .null, .int 0, .int 0])), (p1, .inl (K 0, 3, .inl (fun _ => 0))), (p2, .inl (K 0, 3, .inl (fun _ => 0))), (p3, .inl (K 0, 3, .inl (fun _ => 0))), (p4, .inl (K 0, 3, .inl (fun _ => 0))), (p5, .inl (K 0, 3, .inl (fun _ => 0))), (p6, .inl (K 0, 6, .inl (fun _ => 0))), (p7, .inl (K 0, 6, .inl (fun _ => 0)))]) H := hP
  have hD : va_D A ([(h0, .inr (0, [.ref p1, .ref p2, .ref p3, .ref p4, .ref p5, .int 0, .ref p6, .null, .null, .int 0, .int 0])), (p1, .inl (K 0, 3, .inl (fun _ => 0))), (p2, .inl (K 0, 3, .inl (fun _ => 0))), (p3, .inl (K 0, 3, .inl (fun _ => 0))), (p4, .inl (K 0, 3, .inl (fun _ => 0))), (p5, .inl (K 0, 3, .inl (fun _ => 0))), (p6, .inl (K 0, 6, .inl (fun _ => 0))), (p7, .inl (K 0, 6, .inl (fun _ => 0)))]) := hD
  refine va_putF (D := D) (ci := 0) (v := .ref p7) (ty := .array .int) (C := RX0) (T := TX0) (N := 11) hx hb hts iX0 tyX0 tyX0_ok nmX0 hown hK hP hD hS 0 rfl rfl 7 (by decide) (hts _ k_f_X0_30) (fun _ h9 => h9) rfl hin rfl (by decide +kernel) rfl rfl (Nat.le_of_ble_eq_true rfl) dX0_init_52 (fun H locs hP hD hS => ?_)
  have hP : va_P D vwCl ([(h0, .inr (0, [.ref p1, .ref p2, .ref p3, .ref p4, .ref p5, .int 0, .ref p6, .ref p7, .null, .int 0, .int 0])), (p1, .inl (K 0, 3, .inl (fun _ => 0))), (p2, .inl (K 0, 3, .inl (fun _ => 0))), (p3, .inl (K 0, 3, .inl (fun _ => 0))), (p4, .inl (K 0, 3, .inl (fun _ => 0))), (p5, .inl (K 0, 3, .inl (fun _ => 0))), (p6, .inl (K 0, 6, .inl (fun _ => 0))), (p7, .inl (K 0, 6, .inl (fun _ => 0)))]) H := hP
  have hD : va_D A ([(h0, .inr (0, [.ref p1, .ref p2, .ref p3, .ref p4, .ref p5, .int 0, .ref p6, .ref p7, .null, .int 0, .int 0])), (p1, .inl (K 0, 3, .inl (fun _ => 0))), (p2, .inl (K 0, 3, .inl (fun _ => 0))), (p3, .inl (K 0, 3, .inl (fun _ => 0))), (p4, .inl (K 0, 3, .inl (fun _ => 0))), (p5, .inl (K 0, 3, .inl (fun _ => 0))), (p6, .inl (K 0, 6, .inl (fun _ => 0))), (p7, .inl (K 0, 6, .inl (fun _ => 0)))]) := hD
  refine lv_aload_n hx hb dX0_init_55 rfl (lv_at hl 0 rfl) ?_
  refine lv_bipush (v := nI 6) hx hb dX0_init_56 (by decide) ?_
  refine va_newa (atype := .int) hx hb (hts _ k_ac__int) (ty := .int) rfl hK hP hD hS hA (N' := 6) (a0 := (6, .inl (fun _ => 0))) (fun cA => rfl) (by decide) (by decide) (by decide) (Nat.le_of_ble_eq_true rfl) (Nat.le_of_ble_eq_true rfl) dX0_init_58 (fun p8 cA H hK hP hD hS => ?_)
  have hcA := kI_eq hK
  subst hcA
  have hK := hK.sub (tys' := TY K) [0, 1, 2, 3] rfl
  have hP : va_P D vwCl ([(h0, .inr (0, [.ref p1, .ref p2, .ref p3, .ref p4, .ref p5, .int 0, .ref p6, .ref p7, .null, .int 0, .int 0])), (p1, .inl (K 0, 3, .inl (fun _ => 0))), (p2, .inl (K 0, 3, .inl (fun _ => 0))), (p3, .inl (K 0, 3, .inl (fun _ => 0))), (p4, .inl (K 0, 3, .inl (fun _ => 0))), (p5, .inl (K 0, 3, .inl (fun _ => 0))), (p6, .inl (K 0, 6, .inl (fun _ => 0))), (p7, .inl (K 0, 6, .inl (fun _ => 0))), (p8, .inl (K 0, 6, .inl (fun _ => 0)))]) H := hP
  have hD : va_D A ([(h0, .inr (0, [.ref p1, .ref p2, .ref p3, .ref p4, .ref p5, .int 0, .ref p6, .ref p7, .null, .int 0, .int 0])), (p1, .inl (K 0, 3, .inl (fun _ => 0))), (p2, .inl (K 0, 3, .inl (fun _ => 0))), (p3, .inl (K 0, 3, .inl (fun _ => 0))), (p4, .inl (K 0, 3, .inl (fun _ => 0))), (p5, .inl (K 0, 3, .inl (fun _ => 0))), (p6, .inl (K 0, 6, .inl (fun _ => 0))), (p7, .inl (K 0, 6, .inl (fun _ => 0))), (p8, .inl (K 0, 6, .inl (fun _ => 0)))]) := hD
  refine va_putF (D := D) (ci := 0) (v := .ref p8) (ty := .array .int) (C := RX0) (T := TX0) (N := 11) hx hb hts iX0 tyX0 tyX0_ok nmX0 hown hK hP hD hS 0 rfl rfl 8 (by decide) (hts _ k_f_X0_33) (fun _ h9 => h9) rfl hin rfl (by decide +kernel) rfl rfl (Nat.le_of_ble_eq_true rfl) dX0_init_60 (fun H locs hP hD hS => ?_)
  have hP : va_P D vwCl ([(h0, .inr (0, [.ref p1, .ref p2, .ref p3, .ref p4, .ref p5, .int 0, .ref p6, .ref p7, .ref p8, .int 0, .int 0])), (p1, .inl (K 0, 3, .inl (fun _ => 0))), (p2, .inl (K 0, 3, .inl (fun _ => 0))), (p3, .inl (K 0, 3, .inl (fun _ => 0))), (p4, .inl (K 0, 3, .inl (fun _ => 0))), (p5, .inl (K 0, 3, .inl (fun _ => 0))), (p6, .inl (K 0, 6, .inl (fun _ => 0))), (p7, .inl (K 0, 6, .inl (fun _ => 0))), (p8, .inl (K 0, 6, .inl (fun _ => 0)))]) H := hP
  have hD : va_D A ([(h0, .inr (0, [.ref p1, .ref p2, .ref p3, .ref p4, .ref p5, .int 0, .ref p6, .ref p7, .ref p8, .int 0, .int 0])), (p1, .inl (K 0, 3, .inl (fun _ => 0))), (p2, .inl (K 0, 3, .inl (fun _ => 0))), (p3, .inl (K 0, 3, .inl (fun _ => 0))), (p4, .inl (K 0, 3, .inl (fun _ => 0))), (p5, .inl (K 0, 3, .inl (fun _ => 0))), (p6, .inl (K 0, 6, .inl (fun _ => 0))), (p7, .inl (K 0, 6, .inl (fun _ => 0))), (p8, .inl (K 0, 6, .inl (fun _ => 0)))]) := hD
  have hP : va_P D vwCl (WD K (fun i => List.getD [h0, p1, p2, p3, p4, p5, p6, p7, p8] i 0) (fun _ _ => 0)) H := hP
  have hD : va_D A (WD K (fun i => List.getD [h0, p1, p2, p3, p4, p5, p6, p7, p8] i 0) (fun _ _ => 0)) := hD
  exact W.vret hx hb hr (fun t9 ht9 hW => ⟨⟨(fun i => List.getD [h0, p1, p2, p3, p4, p5, p6, p7, p8] i 0), rfl, rfl, by rw [ht9]; exact hP, va_K.moved hW.alike hK, hD⟩, hS.F ht9⟩) hS.2.2 dX0_init_63
set_option maxHeartbeats 4000000 in
set_option maxRecDepth 100000 in
theorem c_X3_init (l : Launch) (D : va_G) (K : Nat → ClassId) (h0 : Nat) (sz : Nat)  : Met l yX3_init (.code yX3_init cX3_init 1 none :: TB) ({ frames := 1, cells := 1, slots := 20, locals := 12 } : Room) (va_Pc [.ref h0] (cP D K ([(h0, .inr (3, [.null, .int 0]))]) sz)) (va_Qv (fun (u : Nat → Nat) => u 0 = h0) (fun (u : Nat → Nat) t => cB D K (va_A ([(h0, .inr (3, [.null, .int 0]))]) sz) (WH K (u 0) (u 1) (fun _ => 0) 0) t) (va_A ([(h0, .inr (3, [.null, .int 0]))]) sz)) 1 20 (va_A ([(h0, .inr (3, [.null, .int 0]))]) sz) := by
  refine Met.ofW (cc := cX3_init) (maxL := 1) (ret := none) (by decide) rfl ?_
  intro p e s m args below meth c s₁ B hml hv
  obtain ⟨rfl, hsz, hP, hK, hD0⟩ := hv
  have hx := B.exec
  have hb := B.bytes
  have hr := B.returns
  have hts := hts_tl (atoms_spec (ws := (.code yX3_init cX3_init 1 none :: TB)) B.pre)
  have hown : s.vm.findClass RX3 = some m.cls := findClass_of_methodNamed B.named
  have hlocks := B.notSynchronized
  have hin : meth.name = "<init>" := (name_of_methodNamed B.named B.method).1
  subst hsz
  have hD := hD0.self (sz := s.heap.size)
  generalize hAe : (va_A ([(h0, .inr (3, [.null, .int 0]))]) s.heap.size) = A at hD ⊢
  have hA : ∀ q : Nat, s.heap.size ≤ q → A q := fun q h => by rw [← hAe]; exact Or.inr h
  have hS : va_S A s.heap s.heap [] := va_S.rf
  have hl := lv_entry ([.ref h0]) (n := 1) (Nat.le_of_ble_eq_true rfl)
  rw [lg_entry_eq]
  generalize (lg_sl ([.ref h0]) ++ List.replicate (1 - (lg_sl ([.ref h0])).length) Slot.unset).toArray = ls at hl ⊢
  have hl : lv_has ls 1 [(0, .ref h0)] := hl
  refine lv_aload_n hx hb dX3_init_0 rfl (lv_at hl 0 rfl) ?_
  refine W.objInit hx hb hown (hts _ k_m_X3_3) (hts _ k_im_objectInit) (hts _ k_co_objectInit) rfl (by rw [hml]; exact hl.1) rfl dX3_init_1 (Nat.le_of_ble_eq_true rfl) (Nat.le_of_ble_eq_true rfl) ?_
  refine W.eq (g2 := F0 m 4 ls []) rfl ?_
  refine lv_aload_n hx hb dX3_init_4 rfl (lv_at hl 0 rfl) ?_
  refine lv_bipush (v := nI 20) hx hb dX3_init_5 (by decide) ?_
  refine va_newa (atype := .int) hx hb (hts _ k_ac__int) (ty := .int) rfl hK hP hD hS hA (N' := 20) (a0 := (20, .inl (fun _ => 0))) (fun cA => rfl) (by decide) (by decide) (by decide) (Nat.le_of_ble_eq_true rfl) (Nat.le_of_ble_eq_true rfl) dX3_init_7 (fun p1 cA H hK hP hD hS => ?_)
  have hcA := kI_eq hK
  subst hcA
  have hK := hK.sub (tys' := TY K) [0, 1, 2, 3] rfl
  have hP : va_P D vwCl ([(h0, .inr (3, [.null, .int 0])), (p1, .inl (K 0, 20, .inl (fun _ => 0)))]) H := hP
  have hD : va_D A ([(h0, .inr (3, [.null, .int 0])), (p1, .inl (K 0, 20, .inl (fun _ => 0)))]) := hD
  refine va_putF (D := D) (ci := 3) (v := .ref p1) (ty := .array .int) (C := RX3) (T := TX3) (N := 2) hx hb hts iX3 tyX3 tyX3_ok nmX3 hown hK hP hD hS 0 rfl rfl 0 (by decide) (hts _ k_f_X3_9) (fun _ h9 => h9) rfl hin rfl (by decide +kernel) rfl rfl (Nat.le_of_ble_eq_true rfl) dX3_init_9 (fun H locs hP hD hS => ?_)
  have hP : va_P D vwCl ([(h0, .inr (3, [.ref p1, .int 0])), (p1, .inl (K 0, 20, .inl (fun _ => 0)))]) H := hP
  have hD : va_D A ([(h0, .inr (3, [.ref p1, .int 0])), (p1, .inl (K 0, 20, .inl (fun _ => 0)))]) := hD
  have hP : va_P D vwCl (WH K ((fun i => List.getD [h0, p1] i 0) 0) ((fun i => List.getD [h0, p1] i 0) 1) (fun _ => 0) 0) H := hP
  have hD : va_D A (WH K ((fun i => List.getD [h0, p1] i 0) 0) ((fun i => List.getD [h0, p1] i 0) 1) (fun _ => 0) 0) := hD
  exact W.vret hx hb hr (fun t9 ht9 hW => ⟨⟨(fun i => List.getD [h0, p1] i 0), rfl, rfl, by rw [ht9]; exact hP, va_K.moved hW.alike hK, hD⟩, hS.F ht9⟩) hS.2.2 dX3_init_12
set_option maxHeartbeats 4000000 in
set_option maxRecDepth 100000 in
theorem c_X2_init (l : Launch) (D : va_G) (K : Nat → ClassId) (h0 : Nat) (sz : Nat)  : Met l yX2_init (.code yX2_init cX2_init 1 none :: TB) ({ frames := 1, cells := 5, slots := 320, locals := 12 } : Room) (va_Pc [.ref h0] (cP D K ([(h0, .inr (2, [.null, .null, .null, .null, .null, .int 0, .int 0]))]) sz)) (va_Qv (fun (u : Nat → Nat) => u 0 = h0) (fun (u : Nat → Nat) t => cB D K (va_A ([(h0, .inr (2, [.null, .null, .null, .null, .null, .int 0, .int 0]))]) sz) (WG K u (fun _ => 0) (fun _ => 0) (fun _ => 0) (fun _ => 0) (fun _ => 0) 0 0) t) (va_A ([(h0, .inr (2, [.null, .null, .null, .null, .null, .int 0, .int 0]))]) sz)) 5 320 (va_A ([(h0, .inr (2, [.null, .null, .null, .null, .null, .int 0, .int 0]))]) sz) := by
  refine Met.ofW (cc := cX2_init) (maxL := 1) (ret := none) (by decide) rfl ?_
  intro p e s m args below meth c s₁ B hml hv
  obtain ⟨rfl, hsz, hP, hK, hD0⟩ := hv
  have hx := B.exec
  have hb := B.bytes
  have hr := B.returns
  have hts := hts_tl (atoms_spec (ws := (.code yX2_init cX2_init 1 none :: TB)) B.pre)
  have hown : s.vm.findClass RX2 = some m.cls := findClass_of_methodNamed B.named
  have hlocks := B.notSynchronized
  have hin : meth.name = "<init>" := (name_of_methodNamed B.named B.method).1
  subst hsz
  have hD := hD0.self (sz := s.heap.size)
  generalize hAe : (va_A ([(h0, .inr (2, [.null, .null, .null, .null, .null, .int 0, .int 0]))]) s.heap.size) = A at hD ⊢
  have hA : ∀ q : Nat, s.heap.size ≤ q → A q := fun q h => by rw [← hAe]; exact Or.inr h
  have hS : va_S A s.heap s.heap [] := va_S.rf
  have hl := lv_entry ([.ref h0]) (n := 1) (Nat.le_of_ble_eq_true rfl)
  rw [lg_entry_eq]
  generalize (lg_sl ([.ref h0]) ++ List.replicate (1 - (lg_sl ([.ref h0])).length) Slot.unset).toArray = ls at hl ⊢
  have hl : lv_has ls 1 [(0, .ref h0)] := hl
  refine lv_aload_n hx hb dX2_init_0 rfl (lv_at hl 0 rfl) ?_
  refine W.objInit hx hb hown (hts _ k_m_X2_3) (hts _ k_im_objectInit) (hts _ k_co_objectInit) rfl (by rw [hml]; exact hl.1) rfl dX2_init_1 (Nat.le_of_ble_eq_true rfl) (Nat.le_of_ble_eq_true rfl) ?_
  refine W.eq (g2 := F0 m 4 ls []) rfl ?_
  refine lv_aload_n hx hb dX2_init_4 rfl (lv_at hl 0 rfl) ?_
  refine lv_bipush (v := nI 64) hx hb dX2_init_5 (by decide) ?_
  refine va_newa (atype := .int) hx hb (hts _ k_ac__int) (ty := .int) rfl hK hP hD hS hA (N' := 64) (a0 := (64, .inl (fun _ => 0))) (fun cA => rfl) (by decide) (by decide) (by decide) (Nat.le_of_ble_eq_true rfl) (Nat.le_of_ble_eq_true rfl) dX2_init_7 (fun p1 cA H hK hP hD hS => ?_)
  have hcA := kI_eq hK
  subst hcA
  have hK := hK.sub (tys' := TY K) [0, 1, 2, 3] rfl
  have hP : va_P D vwCl ([(h0, .inr (2, [.null, .null, .null, .null, .null, .int 0, .int 0])), (p1, .inl (K 0, 64, .inl (fun _ => 0)))]) H := hP
  have hD : va_D A ([(h0, .inr (2, [.null, .null, .null, .null, .null, .int 0, .int 0])), (p1, .inl (K 0, 64, .inl (fun _ => 0)))]) := hD
  refine va_putF (D := D) (ci := 2) (v := .ref p1) (ty := .array .int) (C := RX2) (T := TX2) (N := 7) hx hb hts iX2 tyX2 tyX2_ok nmX2 hown hK hP hD hS 0 rfl rfl 0 (by decide) (hts _ k_f_X2_9) (fun _ h9 => h9) rfl hin rfl (by decide +kernel) rfl rfl (Nat.le_of_ble_eq_true rfl) dX2_init_9 (fun H locs hP hD hS => ?_)
  have hP : va_P D vwCl ([(h0, .inr (2, [.ref p1, .null, .null, .null, .null, .int 0, .int 0])), (p1, .inl (K 0, 64, .inl (fun _ => 0)))]) H := hP
  have hD : va_D A ([(h0, .inr (2, [.ref p1, .null, .null, .null, .null, .int 0, .int 0])), (p1, .inl (K 0, 64, .inl (fun _ => 0)))]) := hD
  refine lv_aload_n hx hb dX2_init_12 rfl (lv_at hl 0 rfl) ?_
  refine lv_bipush (v := nI 64) hx hb dX2_init_13 (by decide) ?_
  refine va_newa (atype := .long) hx hb (hts _ k_ac__long) (ty := .long) rfl hK hP hD hS hA (N' := 64) (a0 := (64, .inr (.inl (fun _ => 0)))) (fun cA => rfl) (by decide) (by decide) (by decide) (Nat.le_of_ble_eq_true rfl) (Nat.le_of_ble_eq_true rfl) dX2_init_15 (fun p2 cA H hK hP hD hS => ?_)
  have hcA := kJ_eq hK
  subst hcA
  have hK := hK.sub (tys' := TY K) [0, 1, 2, 3] rfl
  have hP : va_P D vwCl ([(h0, .inr (2, [.ref p1, .null, .null, .null, .null, .int 0, .int 0])), (p1, .inl (K 0, 64, .inl (fun _ => 0))), (p2, .inl (K 1, 64, .inr (.inl (fun _ => 0))))]) H := hP
  have hD : va_D A ([(h0, .inr (2, [.ref p1, .null, .null, .null, .null, .int 0, .int 0])), (p1, .inl (K 0, 64, .inl (fun _ => 0))), (p2, .inl (K 1, 64, .inr (.inl (fun _ => 0))))]) := hD
  refine va_putF (D := D) (ci := 2) (v := .ref p2) (ty := .array .long) (C := RX2) (T := TX2) (N := 7) hx hb hts iX2 tyX2 tyX2_ok nmX2 hown hK hP hD hS 0 rfl rfl 1 (by decide) (hts _ k_f_X2_15) (fun _ h9 => h9) rfl hin rfl (by decide +kernel) rfl rfl (Nat.le_of_ble_eq_true rfl) dX2_init_17 (fun H locs hP hD hS => ?_)
  have hP : va_P D vwCl ([(h0, .inr (2, [.ref p1, .ref p2, .null, .null, .null, .int 0, .int 0])), (p1, .inl (K 0, 64, .inl (fun _ => 0))), (p2, .inl (K 1, 64, .inr (.inl (fun _ => 0))))]) H := hP
  have hD : va_D A ([(h0, .inr (2, [.ref p1, .ref p2, .null, .null, .null, .int 0, .int 0])), (p1, .inl (K 0, 64, .inl (fun _ => 0))), (p2, .inl (K 1, 64, .inr (.inl (fun _ => 0))))]) := hD
  refine lv_aload_n hx hb dX2_init_20 rfl (lv_at hl 0 rfl) ?_
  refine lv_bipush (v := nI 64) hx hb dX2_init_21 (by decide) ?_
  refine va_newa (atype := .long) hx hb (hts _ k_ac__long) (ty := .long) rfl hK hP hD hS hA (N' := 64) (a0 := (64, .inr (.inl (fun _ => 0)))) (fun cA => rfl) (by decide) (by decide) (by decide) (Nat.le_of_ble_eq_true rfl) (Nat.le_of_ble_eq_true rfl) dX2_init_23 (fun p3 cA H hK hP hD hS => ?_)
  have hcA := kJ_eq hK
  subst hcA
  have hK := hK.sub (tys' := TY K) [0, 1, 2, 3] rfl
  have hP : va_P D vwCl ([(h0, .inr (2, [.ref p1, .ref p2, .null, .null, .null, .int 0, .int 0])), (p1, .inl (K 0, 64, .inl (fun _ => 0))), (p2, .inl (K 1, 64, .inr (.inl (fun _ => 0)))), (p3, .inl (K 1, 64, .inr (.inl (fun _ => 0))))]) H := hP
  have hD : va_D A ([(h0, .inr (2, [.ref p1, .ref p2, .null, .null, .null, .int 0, .int 0])), (p1, .inl (K 0, 64, .inl (fun _ => 0))), (p2, .inl (K 1, 64, .inr (.inl (fun _ => 0)))), (p3, .inl (K 1, 64, .inr (.inl (fun _ => 0))))]) := hD
  refine va_putF (D := D) (ci := 2) (v := .ref p3) (ty := .array .long) (C := RX2) (T := TX2) (N := 7) hx hb hts iX2 tyX2 tyX2_ok nmX2 hown hK hP hD hS 0 rfl rfl 2 (by decide) (hts _ k_f_X2_19) (fun _ h9 => h9) rfl hin rfl (by decide +kernel) rfl rfl (Nat.le_of_ble_eq_true rfl) dX2_init_25 (fun H locs hP hD hS => ?_)
  have hP : va_P D vwCl ([(h0, .inr (2, [.ref p1, .ref p2, .ref p3, .null, .null, .int 0, .int 0])), (p1, .inl (K 0, 64, .inl (fun _ => 0))), (p2, .inl (K 1, 64, .inr (.inl (fun _ => 0)))), (p3, .inl (K 1, 64, .inr (.inl (fun _ => 0))))]) H := hP
  have hD : va_D A ([(h0, .inr (2, [.ref p1, .ref p2, .ref p3, .null, .null, .int 0, .int 0])), (p1, .inl (K 0, 64, .inl (fun _ => 0))), (p2, .inl (K 1, 64, .inr (.inl (fun _ => 0)))), (p3, .inl (K 1, 64, .inr (.inl (fun _ => 0))))]) := hD
  refine lv_aload_n hx hb dX2_init_28 rfl (lv_at hl 0 rfl) ?_
  refine lv_bipush (v := nI 64) hx hb dX2_init_29 (by decide) ?_
  refine va_newa (atype := .boolean) hx hb (hts _ k_ac__boolean) (ty := .boolean) rfl hK hP hD hS hA (N' := 64) (a0 := (64, .inl (fun _ => 0))) (fun cA => rfl) (by decide) (by decide) (by decide) (Nat.le_of_ble_eq_true rfl) (Nat.le_of_ble_eq_true rfl) dX2_init_31 (fun p4 cA H hK hP hD hS => ?_)
  have hcA := kZ_eq hK
  subst hcA
  have hK := hK.sub (tys' := TY K) [0, 1, 2, 3] rfl
  have hP : va_P D vwCl ([(h0, .inr (2, [.ref p1, .ref p2, .ref p3, .null, .null, .int 0, .int 0])), (p1, .inl (K 0, 64, .inl (fun _ => 0))), (p2, .inl (K 1, 64, .inr (.inl (fun _ => 0)))), (p3, .inl (K 1, 64, .inr (.inl (fun _ => 0)))), (p4, .inl (K 2, 64, .inl (fun _ => 0)))]) H := hP
  have hD : va_D A ([(h0, .inr (2, [.ref p1, .ref p2, .ref p3, .null, .null, .int 0, .int 0])), (p1, .inl (K 0, 64, .inl (fun _ => 0))), (p2, .inl (K 1, 64, .inr (.inl (fun _ => 0)))), (p3, .inl (K 1, 64, .inr (.inl (fun _ => 0)))), (p4, .inl (K 2, 64, .inl (fun _ => 0)))]) := hD
  refine va_putF (D := D) (ci := 2) (v := .ref p4) (ty := .array .boolean) (C := RX2) (T := TX2) (N := 7) hx hb hts iX2 tyX2 tyX2_ok nmX2 hown hK hP hD hS 0 rfl rfl 3 (by decide) (hts _ k_f_X2_22) (fun _ h9 => h9) rfl hin rfl (by decide +kernel) rfl rfl (Nat.le_of_ble_eq_true rfl) dX2_init_33 (fun H locs hP hD hS => ?_)
  have hP : va_P D vwCl ([(h0, .inr (2, [.ref p1, .ref p2, .ref p3, .ref p4, .null, .int 0, .int 0])), (p1, .inl (K 0, 64, .inl (fun _ => 0))), (p2, .inl (K 1, 64, .inr (.inl (fun _ => 0)))), (p3, .inl (K 1, 64, .inr (.inl (fun _ => 0)))), (p4, .inl (K 2, 64, .inl (fun _ => 0)))]) H := hP
  have hD : va_D A ([(h0, .inr (2, [.ref p1, .ref p2, .ref p3, .ref p4, .null, .int 0, .int 0])), (p1, .inl (K 0, 64, .inl (fun _ => 0))), (p2, .inl (K 1, 64, .inr (.inl (fun _ => 0)))), (p3, .inl (K 1, 64, .inr (.inl (fun _ => 0)))), (p4, .inl (K 2, 64, .inl (fun _ => 0)))]) := hD
  refine lv_aload_n hx hb dX2_init_36 rfl (lv_at hl 0 rfl) ?_
  refine lv_bipush (v := nI 64) hx hb dX2_init_37 (by decide) ?_
  refine va_newa (atype := .int) hx hb (hts _ k_ac__int) (ty := .int) rfl hK hP hD hS hA (N' := 64) (a0 := (64, .inl (fun _ => 0))) (fun cA => rfl) (by decide) (by decide) (by decide) (Nat.le_of_ble_eq_true rfl) (Nat.le_of_ble_eq_true rfl) dX2_init_39 (fun p5 cA H hK hP hD hS => ?_)
  have hcA := kI_eq hK
  subst hcA
  have hK := hK.sub (tys' := TY K) [0, 1, 2, 3] rfl
  have hP : va_P D vwCl ([(h0, .inr (2, [.ref p1, .ref p2, .ref p3, .ref p4, .null, .int 0, .int 0])), (p1, .inl (K 0, 64, .inl (fun _ => 0))), (p2, .inl (K 1, 64, .inr (.inl (fun _ => 0)))), (p3, .inl (K 1, 64, .inr (.inl (fun _ => 0)))), (p4, .inl (K 2, 64, .inl (fun _ => 0))), (p5, .inl (K 0, 64, .inl (fun _ => 0)))]) H := hP
  have hD : va_D A ([(h0, .inr (2, [.ref p1, .ref p2, .ref p3, .ref p4, .null, .int 0, .int 0])), (p1, .inl (K 0, 64, .inl (fun _ => 0))), (p2, .inl (K 1, 64, .inr (.inl (fun _ => 0)))), (p3, .inl (K 1, 64, .inr (.inl (fun _ => 0)))), (p4, .inl (K 2, 64, .inl (fun _ => 0))), (p5, .inl (K 0, 64, .inl (fun _ => 0)))]) := hD
  refine va_putF (D := D) (ci := 2) (v := .ref p5) (ty := .array .int) (C := RX2) (T := TX2) (N := 7) hx hb hts iX2 tyX2 tyX2_ok nmX2 hown hK hP hD hS 0 rfl rfl 4 (by decide) (hts _ k_f_X2_26) (fun _ h9 => h9) rfl hin rfl (by decide +kernel) rfl rfl (Nat.le_of_ble_eq_true rfl) dX2_init_41 (fun H locs hP hD hS => ?_)
  have hP : va_P D vwCl ([(h0, .inr (2, [.ref p1, .ref p2, .ref p3, .ref p4, .ref p5, .int 0, .int 0])), (p1, .inl (K 0, 64, .inl (fun _ => 0))), (p2, .inl (K 1, 64, .inr (.inl (fun _ => 0)))), (p3, .inl (K 1, 64, .inr (.inl (fun _ => 0)))), (p4, .inl (K 2, 64, .inl (fun _ => 0))), (p5, .inl (K 0, 64, .inl (fun _ => 0)))]) H := hP
  have hD : va_D A ([(h0, .inr (2, [.ref p1, .ref p2, .ref p3, .ref p4, .ref p5, .int 0, .int 0])), (p1, .inl (K 0, 64, .inl (fun _ => 0))), (p2, .inl (K 1, 64, .inr (.inl (fun _ => 0)))), (p3, .inl (K 1, 64, .inr (.inl (fun _ => 0)))), (p4, .inl (K 2, 64, .inl (fun _ => 0))), (p5, .inl (K 0, 64, .inl (fun _ => 0)))]) := hD
  have hP : va_P D vwCl (WG K (fun i => List.getD [h0, p1, p2, p3, p4, p5] i 0) (fun _ => 0) (fun _ => 0) (fun _ => 0) (fun _ => 0) (fun _ => 0) 0 0) H := hP
  have hD : va_D A (WG K (fun i => List.getD [h0, p1, p2, p3, p4, p5] i 0) (fun _ => 0) (fun _ => 0) (fun _ => 0) (fun _ => 0) (fun _ => 0) 0 0) := hD
  exact W.vret hx hb hr (fun t9 ht9 hW => ⟨⟨(fun i => List.getD [h0, p1, p2, p3, p4, p5] i 0), rfl, rfl, by rw [ht9]; exact hP, va_K.moved hW.alike hK, hD⟩, hS.F ht9⟩) hS.2.2 dX2_init_44
set_option maxHeartbeats 4000000 in
set_option maxRecDepth 100000 in
theorem c_X1_init (l : Launch) (D : va_G) (K : Nat → ClassId) (h0 : Nat) (sz : Nat)  : Met l yX1_init (.code yX1_init cX1_init 1 none :: TB) ({ frames := 1, cells := 13, slots := 140, locals := 12 } : Room) (va_Pc [.ref h0] (cPX D K ([(h0, .inr (1, [.null, .null, .null, .int 0]))]) sz)) (va_Qv (fun (u : Nat × Nat × Nat × Nat × (Nat → Nat)) => u.1 = h0) (fun (u : Nat × Nat × Nat × Nat × (Nat → Nat)) t => cB D K (va_A ([(h0, .inr (1, [.null, .null, .null, .int 0]))]) sz) (WE K u.1 u.2.1 u.2.2.1 u.2.2.2.1 u.2.2.2.2 (fun _ _ => 0) (fun _ => 0) (fun _ => 0) 0) t) (va_A ([(h0, .inr (1, [.null, .null, .null, .int 0]))]) sz)) 13 140 (va_A ([(h0, .inr (1, [.null, .null, .null, .int 0]))]) sz) := by
  refine Met.ofW (cc := cX1_init) (maxL := 1) (ret := none) (by decide) rfl ?_
  intro p e s m args below meth c s₁ B hml hv
  obtain ⟨rfl, ⟨hsz, hP, hK, hD0⟩, hCX⟩ := hv
  have hx := B.exec
  have hb := B.bytes
  have hr := B.returns
  have hts := hts_tl (atoms_spec (ws := (.code yX1_init cX1_init 1 none :: TB)) B.pre)
  have hown : s.vm.findClass RX1 = some m.cls := findClass_of_methodNamed B.named
  have hlocks := B.notSynchronized
  have hin : meth.name = "<init>" := (name_of_methodNamed B.named B.method).1
  subst hsz
  have hD := hD0.self (sz := s.heap.size)
  generalize hAe : (va_A ([(h0, .inr (1, [.null, .null, .null, .int 0]))]) s.heap.size) = A at hD ⊢
  have hA : ∀ q : Nat, s.heap.size ≤ q → A q := fun q h => by rw [← hAe]; exact Or.inr h
  have hS : va_S A s.heap s.heap [] := va_S.rf
  have hl := lv_entry ([.ref h0]) (n := 1) (Nat.le_of_ble_eq_true rfl)
  rw [lg_entry_eq]
  generalize (lg_sl ([.ref h0]) ++ List.replicate (1 - (lg_sl ([.ref h0])).length) Slot.unset).toArray = ls at hl ⊢
  have hl : lv_has ls 1 [(0, .ref h0)] := hl
  refine lv_aload_n hx hb dX1_init_0 rfl (lv_at hl 0 rfl) ?_
  refine W.objInit hx hb hown (hts _ k_m_X1_5) (hts _ k_im_objectInit) (hts _ k_co_objectInit) rfl (by rw [hml]; exact hl.1) rfl dX1_init_1 (Nat.le_of_ble_eq_true rfl) (Nat.le_of_ble_eq_true rfl) ?_
  refine W.eq (g2 := F0 m 4 ls []) rfl ?_
  refine lv_aload_n hx hb dX1_init_4 rfl (lv_at hl 0 rfl) ?_
  refine lv_bipush (v := nI 10) hx hb dX1_init_5 (by decide) ?_
  refine lv_bipush (v := nI 11) hx hb dX1_init_7 (by decide) ?_
  have hP0 : va_P D vwCl ([(h0, .inr (1, [.null, .null, .null, .int 0]))] ++ va_pl [] (fun _ => .inr (0, []))) s.heap := hP
  have hD0q : va_D A ([(h0, .inr (1, [.null, .null, .null, .int 0]))] ++ va_pl [] (fun _ => .inr (0, []))) := hD
  refine va_mna (ty := .long) (cy := K 1) hx hb hown (cl_arr (hts _ k_cl_X1_11)) hCX.1 (hts _ k_ac__long) (hK.2 1 _ rfl).2 hK hP0 hD0q hS hA (n := nI 10) (k := nI 11) (N' := 10) (K' := 11) (z := (11, .inr (.inl (fun _ => 0)))) (by decide) (by decide) (by decide) (by decide) (by decide) (by decide) (by decide) rfl rfl (Nat.le_of_ble_eq_true rfl) (Nat.le_of_ble_eq_true rfl) (fun cz => by show ({ cls := cz, slots := Array.replicate 11 (.long 0), vm := .none } : Cell) = _; rw [arrV_new]; rfl) dX1_init_9 (fun p1 rr cA H hinj hnot hK hP hD hS => ?_)
  have hcA := kO_eq hK
  subst hcA
  have hK := hK.sub (tys' := TY K) [0, 1, 2, 3] rfl
  rw [pl_rows] at hP hD
  have hP : va_P D vwCl ((h0, .inr (1, [.null, .null, .null, .int 0])) :: (p1, .inl (K 3, 10, .inr (.inr (.inr (.inr (fun i => if i < 10 then some (rr i) else none)))))) :: ((List.range 10).map (fun i => (rr i, .inl (K 1, 11, .inr (.inl (fun _ => 0))))))) H := hP
  have hD : va_D A ((h0, .inr (1, [.null, .null, .null, .int 0])) :: (p1, .inl (K 3, 10, .inr (.inr (.inr (.inr (fun i => if i < 10 then some (rr i) else none)))))) :: ((List.range 10).map (fun i => (rr i, .inl (K 1, 11, .inr (.inl (fun _ => 0))))))) := hD
  rw [← List.append_nil ((List.range 10).map _)] at hP hD
  have hP : va_P D vwCl ((h0, .inr (1, [.null, .null, .null, .int 0])) :: (p1, .inl (K 3, 10, .inr (.inr (.inr (.inr (fun i => if i < 10 then some (rr i) else none)))))) :: ((List.range 10).map (fun i => (rr i, .inl (K 1, 11, .inr (.inl (fun _ => 0))))) ++ [])) H := hP
  have hD : va_D A ((h0, .inr (1, [.null, .null, .null, .int 0])) :: (p1, .inl (K 3, 10, .inr (.inr (.inr (.inr (fun i => if i < 10 then some (rr i) else none)))))) :: ((List.range 10).map (fun i => (rr i, .inl (K 1, 11, .inr (.inl (fun _ => 0))))) ++ [])) := hD
  refine va_putF (D := D) (ci := 1) (v := .ref p1) (ty := .array (.array .long)) (C := RX1) (T := TX1) (N := 4) hx hb hts iX1 tyX1 tyX1_ok nmX1 hown hK hP hD hS 0 rfl rfl 0 (by decide) (hts _ k_f_X1_13) (fun _ h9 => h9) rfl hin rfl (by decide +kernel) rfl rfl (Nat.le_of_ble_eq_true rfl) dX1_init_13 (fun H locs hP hD hS => ?_)
  have hP : va_P D vwCl ((h0, .inr (1, [.ref p1, .null, .null, .int 0])) :: (p1, .inl (K 3, 10, .inr (.inr (.inr (.inr (fun i => if i < 10 then some (rr i) else none)))))) :: ((List.range 10).map (fun i => (rr i, .inl (K 1, 11, .inr (.inl (fun _ => 0))))) ++ [])) H := hP
  have hD : va_D A ((h0, .inr (1, [.ref p1, .null, .null, .int 0])) :: (p1, .inl (K 3, 10, .inr (.inr (.inr (.inr (fun i => if i < 10 then some (rr i) else none)))))) :: ((List.range 10).map (fun i => (rr i, .inl (K 1, 11, .inr (.inl (fun _ => 0))))) ++ [])) := hD
  refine lv_aload_n hx hb dX1_init_16 rfl (lv_at hl 0 rfl) ?_
  refine lv_bipush (v := nI 10) hx hb dX1_init_17 (by decide) ?_
  refine va_newa (atype := .int) hx hb (hts _ k_ac__int) (ty := .int) rfl hK hP hD hS hA (N' := 10) (a0 := (10, .inl (fun _ => 0))) (fun cA => rfl) (by decide) (by decide) (by decide) (Nat.le_of_ble_eq_true rfl) (Nat.le_of_ble_eq_true rfl) dX1_init_19 (fun p2 cA H hK hP hD hS => ?_)
  have hcA := kI_eq hK
  subst hcA
  have hK := hK.sub (tys' := TY K) [0, 1, 2, 3] rfl
  simp only [List.cons_append, List.append_assoc, List.nil_append] at hP hD
  have hP : va_P D vwCl ((h0, .inr (1, [.ref p1, .null, .null, .int 0])) :: (p1, .inl (K 3, 10, .inr (.inr (.inr (.inr (fun i => if i < 10 then some (rr i) else none)))))) :: ((List.range 10).map (fun i => (rr i, .inl (K 1, 11, .inr (.inl (fun _ => 0))))) ++ [(p2, .inl (K 0, 10, .inl (fun _ => 0)))])) H := hP
  have hD : va_D A ((h0, .inr (1, [.ref p1, .null, .null, .int 0])) :: (p1, .inl (K 3, 10, .inr (.inr (.inr (.inr (fun i => if i < 10 then some (rr i) else none)))))) :: ((List.range 10).map (fun i => (rr i, .inl (K 1, 11, .inr (.inl (fun _ => 0))))) ++ [(p2, .inl (K 0, 10, .inl (fun _ => 0)))])) := hD
  refine va_putF (D := D) (ci := 1) (v := .ref p2) (ty := .array .int) (C := RX1) (T := TX1) (N := 4) hx hb hts iX1 tyX1 tyX1_ok nmX1 hown hK hP hD hS 0 rfl rfl 1 (by decide) (hts _ k_f_X1_16) (fun _ h9 => h9) rfl hin rfl (by decide +kernel) rfl rfl (Nat.le_of_ble_eq_true rfl) dX1_init_21 (fun H locs hP hD hS => ?_)
  have hP : va_P D vwCl ((h0, .inr (1, [.ref p1, .ref p2, .null, .int 0])) :: (p1, .inl (K 3, 10, .inr (.inr (.inr (.inr (fun i => if i < 10 then some (rr i) else none)))))) :: ((List.range 10).map (fun i => (rr i, .inl (K 1, 11, .inr (.inl (fun _ => 0))))) ++ [(p2, .inl (K 0, 10, .inl (fun _ => 0)))])) H := hP
  have hD : va_D A ((h0, .inr (1, [.ref p1, .ref p2, .null, .int 0])) :: (p1, .inl (K 3, 10, .inr (.inr (.inr (.inr (fun i => if i < 10 then some (rr i) else none)))))) :: ((List.range 10).map (fun i => (rr i, .inl (K 1, 11, .inr (.inl (fun _ => 0))))) ++ [(p2, .inl (K 0, 10, .inl (fun _ => 0)))])) := hD
  refine lv_aload_n hx hb dX1_init_24 rfl (lv_at hl 0 rfl) ?_
  refine lv_bipush (v := nI 10) hx hb dX1_init_25 (by decide) ?_
  refine va_newa (atype := .boolean) hx hb (hts _ k_ac__boolean) (ty := .boolean) rfl hK hP hD hS hA (N' := 10) (a0 := (10, .inl (fun _ => 0))) (fun cA => rfl) (by decide) (by decide) (by decide) (Nat.le_of_ble_eq_true rfl) (Nat.le_of_ble_eq_true rfl) dX1_init_27 (fun p3 cA H hK hP hD hS => ?_)
  have hcA := kZ_eq hK
  subst hcA
  have hK := hK.sub (tys' := TY K) [0, 1, 2, 3] rfl
  simp only [List.cons_append, List.append_assoc, List.nil_append] at hP hD
  have hP : va_P D vwCl ((h0, .inr (1, [.ref p1, .ref p2, .null, .int 0])) :: (p1, .inl (K 3, 10, .inr (.inr (.inr (.inr (fun i => if i < 10 then some (rr i) else none)))))) :: ((List.range 10).map (fun i => (rr i, .inl (K 1, 11, .inr (.inl (fun _ => 0))))) ++ [(p2, .inl (K 0, 10, .inl (fun _ => 0))), (p3, .inl (K 2, 10, .inl (fun _ => 0)))])) H := hP
  have hD : va_D A ((h0, .inr (1, [.ref p1, .ref p2, .null, .int 0])) :: (p1, .inl (K 3, 10, .inr (.inr (.inr (.inr (fun i => if i < 10 then some (rr i) else none)))))) :: ((List.range 10).map (fun i => (rr i, .inl (K 1, 11, .inr (.inl (fun _ => 0))))) ++ [(p2, .inl (K 0, 10, .inl (fun _ => 0))), (p3, .inl (K 2, 10, .inl (fun _ => 0)))])) := hD
  refine va_putF (D := D) (ci := 1) (v := .ref p3) (ty := .array .boolean) (C := RX1) (T := TX1) (N := 4) hx hb hts iX1 tyX1 tyX1_ok nmX1 hown hK hP hD hS 0 rfl rfl 2 (by decide) (hts _ k_f_X1_20) (fun _ h9 => h9) rfl hin rfl (by decide +kernel) rfl rfl (Nat.le_of_ble_eq_true rfl) dX1_init_29 (fun H locs hP hD hS => ?_)
  have hP : va_P D vwCl ((h0, .inr (1, [.ref p1, .ref p2, .ref p3, .int 0])) :: (p1, .inl (K 3, 10, .inr (.inr (.inr (.inr (fun i => if i < 10 then some (rr i) else none)))))) :: ((List.range 10).map (fun i => (rr i, .inl (K 1, 11, .inr (.inl (fun _ => 0))))) ++ [(p2, .inl (K 0, 10, .inl (fun _ => 0))), (p3, .inl (K 2, 10, .inl (fun _ => 0)))])) H := hP
  have hD : va_D A ((h0, .inr (1, [.ref p1, .ref p2, .ref p3, .int 0])) :: (p1, .inl (K 3, 10, .inr (.inr (.inr (.inr (fun i => if i < 10 then some (rr i) else none)))))) :: ((List.range 10).map (fun i => (rr i, .inl (K 1, 11, .inr (.inl (fun _ => 0))))) ++ [(p2, .inl (K 0, 10, .inl (fun _ => 0))), (p3, .inl (K 2, 10, .inl (fun _ => 0)))])) := hD
  have hpm := List.Perm.cons (((h0, .inr (1, [.ref p1, .ref p2, .ref p3, .int 0])) : Nat × va_E)) (List.Perm.cons (((p1, .inl (K 3, 10, .inr (.inr (.inr (.inr (fun i => if i < 10 then some (rr i) else none)))))) : Nat × va_E)) (List.perm_append_comm (l₁ := (List.range 10).map (fun i => ((rr i, .inl (K 1, 11, .inr (.inl (fun _ => 0)))) : Nat × va_E))) (l₂ := [(p2, .inl (K 0, 10, .inl (fun _ => 0))), (p3, .inl (K 2, 10, .inl (fun _ => 0)))])))
  have hP : va_P D vwCl (WE K h0 p1 p2 p3 rr (fun _ _ => 0) (fun _ => 0) (fun _ => 0) 0) H := P_perm hpm hP
  have hD : va_D A (WE K h0 p1 p2 p3 rr (fun _ _ => 0) (fun _ => 0) (fun _ => 0) 0) := D_perm hpm hD
  exact W.vret hx hb hr (fun t9 ht9 hW => ⟨⟨(h0, p1, p2, p3, rr), rfl, rfl, by rw [ht9]; exact hP, va_K.moved hW.alike hK, hD⟩, hS.F ht9⟩) hS.2.2 dX1_init_32
set_option maxHeartbeats 4000000 in
set_option maxRecDepth 100000 in
theorem c_X4_init (l : Launch) (D : va_G) (K : Nat → ClassId) (h0 : Nat) (sz : Nat)  : Met l yX4_init (.code yX4_init cX4_init 1 none :: TB) ({ frames := 2, cells := 14, slots := 144, locals := 32 } : Room) (va_Pc [.ref h0] (cPX D K ([(h0, .inr (4, [.null]))]) sz)) (va_Qv (fun (_ : Nat × Nat × Nat × Nat × (Nat → Nat)) => True) (fun (u : Nat × Nat × Nat × Nat × (Nat → Nat)) t => cB D K (va_A ([(h0, .inr (4, [.null]))]) sz) ([(h0, .inr (4, [.ref u.1]))] ++ WE K u.1 u.2.1 u.2.2.1 u.2.2.2.1 u.2.2.2.2 (fun _ _ => 0) (fun _ => 0) (fun _ => 0) 0) t) (va_A ([(h0, .inr (4, [.null]))]) sz)) 14 144 (va_A ([(h0, .inr (4, [.null]))]) sz) := by
  refine Met.ofW (cc := cX4_init) (maxL := 1) (ret := none) (by decide) rfl ?_
  intro p e s m args below meth c s₁ B hml hv
  obtain ⟨rfl, ⟨hsz, hP, hK, hD0⟩, hCX⟩ := hv
  have hx := B.exec
  have hb := B.bytes
  have hr := B.returns
  have hts := hts_tl (atoms_spec (ws := (.code yX4_init cX4_init 1 none :: TB)) B.pre)
  have hown : s.vm.findClass RX4 = some m.cls := findClass_of_methodNamed B.named
  have hlocks := B.notSynchronized
  have hin : meth.name = "<init>" := (name_of_methodNamed B.named B.method).1
  subst hsz
  have hD := hD0.self (sz := s.heap.size)
  generalize hAe : (va_A ([(h0, .inr (4, [.null]))]) s.heap.size) = A at hD ⊢
  have hA : ∀ q : Nat, s.heap.size ≤ q → A q := fun q h => by rw [← hAe]; exact Or.inr h
  have hS : va_S A s.heap s.heap [] := va_S.rf
  have hl := lv_entry ([.ref h0]) (n := 1) (Nat.le_of_ble_eq_true rfl)
  rw [lg_entry_eq]
  generalize (lg_sl ([.ref h0]) ++ List.replicate (1 - (lg_sl ([.ref h0])).length) Slot.unset).toArray = ls at hl ⊢
  have hl : lv_has ls 1 [(0, .ref h0)] := hl
  refine lv_aload_n hx hb dX4_init_0 rfl (lv_at hl 0 rfl) ?_
  refine W.objInit hx hb hown (hts _ k_m_X4_5) (hts _ k_im_objectInit) (hts _ k_co_objectInit) rfl (by rw [hml]; exact hl.1) rfl dX4_init_1 (Nat.le_of_ble_eq_true rfl) (Nat.le_of_ble_eq_true rfl) ?_
  refine W.eq (g2 := F0 m 4 ls []) rfl ?_
  refine lv_aload_n hx hb dX4_init_4 rfl (lv_at hl 0 rfl) ?_
  refine va_new (ci := 1) (fs := [.null, .null, .null, .int 0]) (C := RX1) (T := TX1) (N := 4) hx hb hts iX1 tyX1 tyX1_ok hown (hts _ k_cl_X4_11) (hts _ k_il_X1) (hts _ k_in_X1) hK hP hD hS hA rfl (fun j hj => by rcases (show j = 0 ∨ j = 1 ∨ j = 2 ∨ j = 3 by omega) with rfl | rfl | rfl | rfl <;> rfl) (Nat.le_of_ble_eq_true rfl) (Nat.le_of_ble_eq_true rfl) dX4_init_5 (fun p1 H hP hD hS => ?_)
  have hP : va_P D vwCl ([(h0, .inr (4, [.null])), (p1, .inr (1, [.null, .null, .null, .int 0]))]) H := hP
  have hD : va_D A ([(h0, .inr (4, [.null])), (p1, .inr (1, [.null, .null, .null, .int 0]))]) := hD
  refine lv_dup hx hb dX4_init_8 rfl ?_
  have hP : va_P D vwCl ([(h0, .inr (4, [.null]))] ++ [(p1, .inr (1, [.null, .null, .null, .int 0]))]) H := hP
  have hD : va_D A ([(h0, .inr (4, [.null]))] ++ [(p1, .inr (1, [.null, .null, .null, .int 0]))]) := hD
  have hPc := bP1e hP
  have hDc := bD1e hD
  have hFc := bF1e hD hS hA
  refine va_callv (va_runIN (As := []) (rest := [.ref p1, .ref h0]) ⟨hx, hb, hml, hown, hts⟩ (c_X1_init l D K p1 H.size) ⟨va_cnB 0 hts (TB_in (fun _ h => h) k_co_X1_init) rfl rfl rfl hCX.2.2.2.2.1 (hts _ k_in_X1) (by decide +kernel) ⟨Nat.le_of_ble_eq_true rfl, Nat.le_of_ble_eq_true rfl⟩, rfl, hts _ k_im_X1_init⟩ ⟨cPX_blind, cPX_of hPc hK hDc hCX⟩ rfl rfl hl.1 rfl (lv_room (Nat.le_of_ble_eq_true rfl)) dX4_init_9 ⟨Nat.le_of_ble_eq_true rfl, Nat.le_of_ble_eq_true rfl⟩) hS (fun q _ h => hFc q h) hFc (fun u t9 H locs ht9 hvm hw hB hz1 hk1 hS => ?_)
  obtain ⟨u1, u2, u3, u4, u5⟩ := u
  have hw : u1 = p1 := hw
  subst hw
  obtain ⟨hP1, hK1, hD1⟩ := hB
  rw [ht9] at hP1
  obtain ⟨hP, hD⟩ := bJ1e hP hD hk1 hFc hP1 hD1
  have hP : va_P D vwCl ([(h0, .inr (4, [.null]))] ++ (WE K u1 u2 u3 u4 u5 (fun _ _ => 0) (fun _ => 0) (fun _ => 0) 0)) H := hP
  have hD : va_D A ([(h0, .inr (4, [.null]))] ++ (WE K u1 u2 u3 u4 u5 (fun _ _ => 0) (fun _ => 0) (fun _ => 0) 0)) := hD
  refine va_putF (D := D) (ci := 4) (v := .ref u1) (ty := .object "PlanetaryGearbox$Equations") (C := RX4) (T := TX4) (N := 1) hx hb hts iX4 tyX4 tyX4_ok nmX4 hown hK hP hD hS 0 rfl rfl 0 (by decide) (hts _ k_f_X4_14) (fun _ h9 => h9) rfl hin rfl (by decide +kernel) rfl rfl (Nat.le_of_ble_eq_true rfl) dX4_init_12 (fun H locs hP hD hS => ?_)
  have hP : va_P D vwCl ([(h0, .inr (4, [.ref u1]))] ++ (WE K u1 u2 u3 u4 u5 (fun _ _ => 0) (fun _ => 0) (fun _ => 0) 0)) H := hP
  have hD : va_D A ([(h0, .inr (4, [.ref u1]))] ++ (WE K u1 u2 u3 u4 u5 (fun _ _ => 0) (fun _ => 0) (fun _ => 0) 0)) := hD
  exact W.vret hx hb hr (fun t9 ht9 hW => ⟨⟨(u1, u2, u3, u4, u5), rfl, trivial, by rw [ht9]; exact hP, va_K.moved hW.alike hK, hD⟩, hS.F ht9⟩) hS.2.2 dX4_init_15
set_option maxHeartbeats 4000000 in
set_option maxRecDepth 100000 in
theorem c_X5_init (l : Launch) (D : va_G) (K : Nat → ClassId) (h0 : Nat) (sz : Nat)  : Met l yX5_init (.code yX5_init cX5_init 1 none :: TB) ({ frames := 2, cells := 14, slots := 144, locals := 32 } : Room) (va_Pc [.ref h0] (cPX D K ([(h0, .inr (5, [.null]))]) sz)) (va_Qv (fun (_ : Nat × Nat × Nat × Nat × (Nat → Nat)) => True) (fun (u : Nat × Nat × Nat × Nat × (Nat → Nat)) t => cB D K (va_A ([(h0, .inr (5, [.null]))]) sz) ([(h0, .inr (5, [.ref u.1]))] ++ WE K u.1 u.2.1 u.2.2.1 u.2.2.2.1 u.2.2.2.2 (fun _ _ => 0) (fun _ => 0) (fun _ => 0) 0) t) (va_A ([(h0, .inr (5, [.null]))]) sz)) 14 144 (va_A ([(h0, .inr (5, [.null]))]) sz) := by
  refine Met.ofW (cc := cX5_init) (maxL := 1) (ret := none) (by decide) rfl ?_
  intro p e s m args below meth c s₁ B hml hv
  obtain ⟨rfl, ⟨hsz, hP, hK, hD0⟩, hCX⟩ := hv
  have hx := B.exec
  have hb := B.bytes
  have hr := B.returns
  have hts := hts_tl (atoms_spec (ws := (.code yX5_init cX5_init 1 none :: TB)) B.pre)
  have hown : s.vm.findClass RX5 = some m.cls := findClass_of_methodNamed B.named
  have hlocks := B.notSynchronized
  have hin : meth.name = "<init>" := (name_of_methodNamed B.named B.method).1
  subst hsz
  have hD := hD0.self (sz := s.heap.size)
  generalize hAe : (va_A ([(h0, .inr (5, [.null]))]) s.heap.size) = A at hD ⊢
  have hA : ∀ q : Nat, s.heap.size ≤ q → A q := fun q h => by rw [← hAe]; exact Or.inr h
  have hS : va_S A s.heap s.heap [] := va_S.rf
  have hl := lv_entry ([.ref h0]) (n := 1) (Nat.le_of_ble_eq_true rfl)
  rw [lg_entry_eq]
  generalize (lg_sl ([.ref h0]) ++ List.replicate (1 - (lg_sl ([.ref h0])).length) Slot.unset).toArray = ls at hl ⊢
  have hl : lv_has ls 1 [(0, .ref h0)] := hl
  refine lv_aload_n hx hb dX5_init_0 rfl (lv_at hl 0 rfl) ?_
  refine W.objInit hx hb hown (hts _ k_m_X5_5) (hts _ k_im_objectInit) (hts _ k_co_objectInit) rfl (by rw [hml]; exact hl.1) rfl dX5_init_1 (Nat.le_of_ble_eq_true rfl) (Nat.le_of_ble_eq_true rfl) ?_
  refine W.eq (g2 := F0 m 4 ls []) rfl ?_
  refine lv_aload_n hx hb dX5_init_4 rfl (lv_at hl 0 rfl) ?_
  refine va_new (ci := 1) (fs := [.null, .null, .null, .int 0]) (C := RX1) (T := TX1) (N := 4) hx hb hts iX1 tyX1 tyX1_ok hown (hts _ k_cl_X5_11) (hts _ k_il_X1) (hts _ k_in_X1) hK hP hD hS hA rfl (fun j hj => by rcases (show j = 0 ∨ j = 1 ∨ j = 2 ∨ j = 3 by omega) with rfl | rfl | rfl | rfl <;> rfl) (Nat.le_of_ble_eq_true rfl) (Nat.le_of_ble_eq_true rfl) dX5_init_5 (fun p1 H hP hD hS => ?_)
  have hP : va_P D vwCl ([(h0, .inr (5, [.null])), (p1, .inr (1, [.null, .null, .null, .int 0]))]) H := hP
  have hD : va_D A ([(h0, .inr (5, [.null])), (p1, .inr (1, [.null, .null, .null, .int 0]))]) := hD
  refine lv_dup hx hb dX5_init_8 rfl ?_
  have hP : va_P D vwCl ([(h0, .inr (5, [.null]))] ++ [(p1, .inr (1, [.null, .null, .null, .int 0]))]) H := hP
  have hD : va_D A ([(h0, .inr (5, [.null]))] ++ [(p1, .inr (1, [.null, .null, .null, .int 0]))]) := hD
  have hPc := bP1e hP
  have hDc := bD1e hD
  have hFc := bF1e hD hS hA
  refine va_callv (va_runIN (As := []) (rest := [.ref p1, .ref h0]) ⟨hx, hb, hml, hown, hts⟩ (c_X1_init l D K p1 H.size) ⟨va_cnB 0 hts (TB_in (fun _ h => h) k_co_X1_init) rfl rfl rfl hCX.2.2.2.2.2.2.1 (hts _ k_in_X1) (by decide +kernel) ⟨Nat.le_of_ble_eq_true rfl, Nat.le_of_ble_eq_true rfl⟩, rfl, hts _ k_im_X1_init⟩ ⟨cPX_blind, cPX_of hPc hK hDc hCX⟩ rfl rfl hl.1 rfl (lv_room (Nat.le_of_ble_eq_true rfl)) dX5_init_9 ⟨Nat.le_of_ble_eq_true rfl, Nat.le_of_ble_eq_true rfl⟩) hS (fun q _ h => hFc q h) hFc (fun u t9 H locs ht9 hvm hw hB hz1 hk1 hS => ?_)
  obtain ⟨u1, u2, u3, u4, u5⟩ := u
  have hw : u1 = p1 := hw
  subst hw
  obtain ⟨hP1, hK1, hD1⟩ := hB
  rw [ht9] at hP1
  obtain ⟨hP, hD⟩ := bJ1e hP hD hk1 hFc hP1 hD1
  have hP : va_P D vwCl ([(h0, .inr (5, [.null]))] ++ (WE K u1 u2 u3 u4 u5 (fun _ _ => 0) (fun _ => 0) (fun _ => 0) 0)) H := hP
  have hD : va_D A ([(h0, .inr (5, [.null]))] ++ (WE K u1 u2 u3 u4 u5 (fun _ _ => 0) (fun _ => 0) (fun _ => 0) 0)) := hD
  refine va_putF (D := D) (ci := 5) (v := .ref u1) (ty := .object "PlanetaryGearbox$Equations") (C := RX5) (T := TX5) (N := 1) hx hb hts iX5 tyX5 tyX5_ok nmX5 hown hK hP hD hS 0 rfl rfl 0 (by decide) (hts _ k_f_X5_14) (fun _ h9 => h9) rfl hin rfl (by decide +kernel) rfl rfl (Nat.le_of_ble_eq_true rfl) dX5_init_12 (fun H locs hP hD hS => ?_)
  have hP : va_P D vwCl ([(h0, .inr (5, [.ref u1]))] ++ (WE K u1 u2 u3 u4 u5 (fun _ _ => 0) (fun _ => 0) (fun _ => 0) 0)) H := hP
  have hD : va_D A ([(h0, .inr (5, [.ref u1]))] ++ (WE K u1 u2 u3 u4 u5 (fun _ _ => 0) (fun _ => 0) (fun _ => 0) 0)) := hD
  exact W.vret hx hb hr (fun t9 ht9 hW => ⟨⟨(u1, u2, u3, u4, u5), rfl, trivial, by rw [ht9]; exact hP, va_K.moved hW.alike hK, hD⟩, hS.F ht9⟩) hS.2.2 dX5_init_15
