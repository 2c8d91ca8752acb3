/-! the law's helpers: a call of the class, its exceptions caught -/
theorem exc1 {a E : String} {k : Nat} (h : exc [a] k E) : k = 1 ∧ E = a := by
  obtain ⟨h1, h2⟩ := h
  have h3 := (List.getElem?_eq_some_iff.mp h2).1
  have hk : k = 1 := by simp at h3; omega
  subst hk
  exact ⟨rfl, (Option.some.inj h2).symm⟩
theorem exc2 {a b E : String} {k : Nat} (h : exc [a, b] k E) : (k = 1 ∧ E = a) ∨ (k = 2 ∧ E = b) := by
  obtain ⟨h1, h2⟩ := h
  have h3 := (List.getElem?_eq_some_iff.mp h2).1
  have hk : k = 1 ∨ k = 2 := by simp at h3; omega
  rcases hk with hk | hk <;> subst hk
  · exact Or.inl ⟨rfl, (Option.some.inj h2).symm⟩
  · exact Or.inr ⟨rfl, (Option.some.inj h2).symm⟩
theorem exc3 {a b c E : String} {k : Nat} (h : exc [a, b, c] k E) : (k = 1 ∧ E = a) ∨ (k = 2 ∧ E = b) ∨ (k = 3 ∧ E = c) := by
  obtain ⟨h1, h2⟩ := h
  have h3 := (List.getElem?_eq_some_iff.mp h2).1
  have hk : k = 1 ∨ k = 2 ∨ k = 3 := by simp at h3; omega
  rcases hk with hk | hk | hk <;> subst hk
  · exact Or.inl ⟨rfl, (Option.some.inj h2).symm⟩
  · exact Or.inr (Or.inl ⟨rfl, (Option.some.inj h2).symm⟩)
  · exact Or.inr (Or.inr ⟨rfl, (Option.some.inj h2).symm⟩)
section ND
variable {p : Program} {l : Launch} {e : Env} {R : Room} {s : State} {m : MethodId} {args : Array Value} {below : List Frame} {meth : Method} {c : Code} {H H0 : Heap} {locs : List Loc} {cells slots : Nat} {Q : State → Prop} {pc a : Nat} {ls : Array Slot} {rest : List Value} {cc : ByteArray} {D : va_G} {cl : List vw_C} {ws : va_W} {tys : List (ClassId × FieldType)} {A : Nat → Prop}
theorem n_dald (hx : p.tables.exec = Jvm.exec) (hb : c.code = cc) (hK : va_K D cl tys s) (hP : va_P D cl ws H) (q0 t0 : Nat) {cA : ClassId} {n : Nat} {f : Nat → UInt64} (ha : ws[q0]? = some (a, .inl (cA, n, .inr (.inr (.inr (.inl f)))))) (ht : tys[t0]? = some (cA, .double)) {i : Nat} (hi : i < n) (hn : n < 2 ^ 31) (hdg : decode cc pc = .ok (.daload, 1))
    (kk : W p l e R s m args below meth c H locs cells slots Q (F0 m (pc + 1) ls (.double (f i) :: rest))) : W p l e R s m args below meth c H locs cells slots Q (F0 m pc ls (.int (nI i) :: .ref a :: rest)) :=
  va_dald hx hb hK hP q0 t0 ha ht (vp_in_nI hi hn) hdg (by rw [nI_clamp (Nat.lt_trans hi hn)]; exact kk)
theorem n_dast (hx : p.tables.exec = Jvm.exec) (hb : c.code = cc) (hK : va_K D cl tys s) (hP : va_P D cl ws H) (hD : va_D A ws) (hS : va_S A H0 H locs) (q0 t0 : Nat) {cA : ClassId} {n : Nat} {f : Nat → UInt64} (ha : ws[q0]? = some (a, .inl (cA, n, .inr (.inr (.inr (.inl f)))))) (ht : tys[t0]? = some (cA, .double)) {i : Nat} {x : UInt64} (hi : i < n) (hn : n < 2 ^ 31) (hdg : decode cc pc = .ok (.dastore, 1))
    (kk : ∀ (H1 : Heap) (locs1 : List Loc), va_P D cl (ws.set q0 (a, .inl (cA, n, .inr (.inr (.inr (.inl (vf_upd f i x))))))) H1 → va_D A (ws.set q0 (a, .inl (cA, n, .inr (.inr (.inr (.inl (vf_upd f i x))))))) → va_S A H0 H1 locs1 → W p l e R s m args below meth c H1 locs1 cells slots Q (F0 m (pc + 1) ls rest)) : W p l e R s m args below meth c H locs cells slots Q (F0 m pc ls (.double x :: .int (nI i) :: .ref a :: rest)) :=
  va_dast hx hb hK hP hD hS q0 t0 ha ht (vp_in_nI hi hn) hdg (by rw [nI_clamp (Nat.lt_trans hi hn)]; exact kk)
end ND
theorem Met.ofWH {l : Launch} {y : MethodName} {ws ws' : List Cond} {rm : Room} {Pc : Array Value → State → Prop} {Qc : Array Value → State → Outcome → State → Prop} {mc ms : Nat} {free : Addr → Prop} {cc : ByteArray} {maxL : Nat} {ret : Option FieldType} {hh : List (Nat × Nat × Nat × Nat)}
    (hy : plainName y.cls = true) (hw : ws = Cond.codeWith y cc maxL ret hh :: ws')
    (body : ∀ p e s m args below meth c s₁, BodyLoose p l y (headSpec ws rm) cc maxL ret e s m args below meth c s₁ → c.maxLocals = maxL → Pc args s →
      W p l e (headSpec ws rm).room s m args below meth c s.heap [] 0 0 (MQ below Qc args s mc ms free) (entryFrame m args maxL)) : Met l y ws rm Pc Qc mc ms free := by
  refine MetFree.of_bodyS (code := cc) (maxLocals := maxL) (ret := ret) hy ?_ ?_
  · intro args s m h hn
    obtain ⟨m9, meth, c, hn9, h1, h2, h3, h4, -, h5, h6, -⟩ := Cond.codeWith_spec (atoms_spec (ws := ws) h _ (by rw [hw]; exact List.mem_cons_self))
    cases hn.symm.trans hn9
    exact ⟨meth, c, h1, h2, h3, h4, h5, h6⟩
  · intro p e s m args below meth c s₁ B hml hP _
    have hh0 : s₁.heap = s.heap := by rw [B.state]; rfl
    obtain ⟨t, a1, o, b1, b2, b3⟩ := body p e s m args below meth c s₁ B hml hP s₁ hh0 (Stand.of_body B)
    exact ⟨t, o, a1, b1, b2, b3⟩
/-- what the catching needs beside the words -/
def CL (U : State) : Prop := (va_Nw (.castable eIO eIO) U ∧ va_Nw (.castable eIA eIA) U ∧ va_Nw (.castable eIS eIS) U) ∧ va_Nc eIA eIO U ∧ va_Nc eIS eIO U ∧ va_Nc eIS eIA U
theorem CL_warm {s U : State} (hW : s.WarmedH U.vm) (h : CL s) : CL U := by
  obtain ⟨⟨h1, h2, h3⟩, h4, h5, h6⟩ := h
  exact ⟨⟨dc_warm rfl hW h1, dc_warm rfl hW h2, dc_warm rfl hW h3⟩, h4.moved hW.alike, h5.moved hW.alike, h6.moved hW.alike⟩
theorem CL_same {s U : State} (e : s.vm = U.vm) (h : CL s) : CL U := by
  obtain ⟨⟨h1, h2, h3⟩, h4, h5, h6⟩ := h
  have hal : s.vm.Alike U.vm := by rw [e]; exact Vm.Alike.refl U.vm
  exact ⟨⟨dc_same rfl e h1, dc_same rfl e h2, dc_same rfl e h3⟩, h4.moved hal, h5.moved hal, h6.moved hal⟩
abbrev TY5 (K : Nat → ClassId) : List (ClassId × FieldType) := [(K 0, .int), (K 1, .long), (K 2, .boolean), (K 3, .array .long), (K 4, .double)]
def HW (K : Nat → ClassId) (oa ob : Nat) (fo : Nat → Int64) (fd : Nat → UInt64) (ad q q1 q2 g r r2 : Nat → Nat) (v : CV) (i : CI) : va_W := [(oa, .inl (K 1, 1, .inr (.inl fo)))] ++ ([(ob, .inl (K 4, 1, .inr (.inr (.inr (.inl fd)))))] ++ WX K ad q q1 q2 g r r2 v i)
abbrev LS9 : Type := CV × CI × (Nat → Int64) × (Nat → UInt64)
abbrev cPL (D : va_G) (K : Nat → ClassId) (ws : va_W) (sz : Nat) : State → Prop := fun U => (U.heap.size = sz ∧ va_P D vwCl ws U.heap ∧ va_K D vwCl (TY5 K) U ∧ va_D (fun _ => True) ws) ∧ TX (va_A ws sz) U.heap U ∧ CL U
abbrev cB5 (D : va_G) (K : Nat → ClassId) (A : Nat → Prop) (ws : va_W) : State → Prop := fun t => va_P D vwCl ws t.heap ∧ va_K D vwCl (TY5 K) t ∧ va_D A ws
theorem cPL_blind {D : va_G} {K : Nat → ClassId} {ws : va_W} {sz : Nat} {as : List Value} : FrameBlind (va_Pc as (cPL D K ws sz)) := fun a U g mk q => by
  obtain ⟨q0, ⟨q1, qP, qK, qD⟩, qX, qC⟩ := q
  exact ⟨q0, ⟨q1, qP, va_K.moved (u := U) (U := U.calling g mk a) (Vm.Alike.refl U.vm) qK, qD⟩, TX_same (s := U) (U := U.calling g mk a) rfl qX, CL_same (s := U) (U := U.calling g mk a) rfl qC⟩
theorem cPL_of {D : va_G} {K : Nat → ClassId} {ws : va_W} {s : State} {H : Heap} {A : Nat → Prop} {as : List Value} {locs : List Loc} (hP : va_P D vwCl ws H) (hK : va_K D vwCl (TY5 K) s) (hD : va_D A ws) (hX : TX A s.heap s) (hC : CL s) (hS : va_S A s.heap H locs) (hF : ∀ q, va_A ws H.size q → A q) : ∀ U : State, U.heap = H → s.WarmedH U.vm → va_Pc as (cPL D K ws H.size) as.toArray U := fun U hU hW => ⟨rfl, ⟨by rw [hU], by rw [hU]; exact hP, va_K.moved hW.alike hK, hD.weaken (fun _ _ _ _ => trivial)⟩, by rw [hU]; exact TX_warm hW hS.2.1 hF hX, CL_warm hW hC⟩
theorem n32_to {r : UInt32} (h : vf_n32 r) : r.toNat % 2 ^ 31 ≤ 2139095040 := by
  unfold vf_n32 at h
  rw [UInt32.le_iff_toNat_le, UInt32.toNat_and] at h
  have h2 : r.toNat &&& (2 ^ 31 - 1) ≤ 2139095040 := h
  rw [Nat.and_two_pow_sub_one_eq_mod] at h2
  exact h2
theorem n64_of {r : UInt64} (h : r.toNat % 2 ^ 63 ≤ 9218868437227405312) : vf_n64 r := by
  unfold vf_n64
  rw [UInt64.le_iff_toNat_le, UInt64.toNat_and]
  show r.toNat &&& (2 ^ 63 - 1) ≤ 9218868437227405312
  rw [Nat.and_two_pow_sub_one_eq_mod]
  exact h
theorem n32_nan {x : UInt32} (h : vf_n32 x) : FP.fIsNaN x = false := by
  have h1 := n32_to h
  have h2 : FP.fIsNaN x = true ↔ _ := FP.Core.isNaN_bits32 x
  cases hq : FP.fIsNaN x
  · rfl
  · exact absurd (h2.mp hq) (by omega)
theorem f2d_nan0 {x : UInt32} (h : vf_n32 x) : FP.dIsNaN (FP.f2d x) = false := (FP.f2d_nan x).trans (n32_nan h)
theorem f2d_n64 {x : UInt32} (h : vf_n32 x) : vf_n64 (FP.f2d x) := by
  have h1 := f2d_nan0 h
  have h2 : FP.dIsNaN (FP.f2d x) = true ↔ _ := FP.Core.isNaN_bits (FP.f2d x)
  refine n64_of (Nat.not_lt.mp fun q => ?_)
  rw [h2.mpr q] at h1
  exact absurd h1 (by decide)
theorem f2d_self {x : UInt32} (h : vf_n32 x) : FP.dcmp (FP.f2d x) (FP.f2d x) = some .eq := FP.Core.dcmp_self ((FP.Core.notNaN_iff _).mp (f2d_nan0 h))
set_option maxHeartbeats 4000000 in
set_option maxRecDepth 100000 in
theorem c_L_addSet (l : Launch) (hlf : l.stackTraces = false) (D : va_G) (K : Nat → ClassId) (oa ob : Nat) (fo : Nat → Int64) (fd : Nat → UInt64) (ad q q1 q2 g r r2 : Nat → Nat) (v : CV) (i : CI) (xa xb xc xs xr : Int32) (sz : Nat) (hI : IV v) (hJ : II v.1 i) : Met l yL_addSet (.codeWith yL_addSet cL_addSet 8 (some .int) [(0, 16, 19, 13), (0, 16, 23, 15), (0, 16, 27, 17)] :: TB) ({ frames := 8, cells := 1, slots := 6, locals := 175 } : Room) (va_Pc [.ref (ad 0), .int xa, .int xb, .int xc, .int xs, .int xr, .ref oa] (cPL D K (HW K oa ob fo fd ad q q1 q2 g r r2 v i) sz)) (va_Qi (fun (z : Int32) (u : LS9) => z = nI (rs_addSet v.1 xa xb xc xs xr).1 ∧ (rs_addSet v.1 xa xb xc xs xr).1 ≤ 3 ∧ IV u.1 ∧ II u.1.1 u.2.1 ∧ ((rs_addSet v.1 xa xb xc xs xr).1 = 0 → (u.2.2.1 0).toInt = (rs_addSet v.1 xa xb xc xs xr).2 ∧ u.1 = (dS v.1 (dn v.1 8 0) xa xb xc xs xr, v.2)) ∧ (¬ (rs_addSet v.1 xa xb xc xs xr).1 = 0 → u.1 = v)) (fun (u : LS9) t => cB5 D K (va_A (HW K oa ob fo fd ad q q1 q2 g r r2 v i) sz) (HW K oa ob u.2.2.1 u.2.2.2 ad q q1 q2 g r r2 u.1 u.2.1) t) (va_A (HW K oa ob fo fd ad q q1 q2 g r r2 v i) sz)) 1 6 (va_A (HW K oa ob fo fd ad q q1 q2 g r r2 v i) sz) := by
  refine Met.ofWH (cc := cL_addSet) (maxL := 8) (ret := (some .int)) (hh := [(0, 16, 19, 13), (0, 16, 23, 15), (0, 16, 27, 17)]) (by decide) rfl ?_
  intro p e s m args below meth c s₁ B hml hv
  obtain ⟨rfl, ⟨hsz, hP, hK, hD0⟩, hTX, hCL⟩ := hv
  have hx := B.exec
  have hb := B.bytes
  have hr := B.returns
  have hts := hts_tl (atoms_spec (ws := (.codeWith yL_addSet cL_addSet 8 (some .int) [(0, 16, 19, 13), (0, 16, 23, 15), (0, 16, 27, 17)] :: TB)) B.pre)
  have hxt := vx_table (x := yL_addSet) B (atoms_spec (ws := (.codeWith yL_addSet cL_addSet 8 (some .int) [(0, 16, 19, 13), (0, 16, 23, 15), (0, 16, 27, 17)] :: TB)) B.pre _ List.mem_cons_self)
  have hown : s.vm.findClass RL = some m.cls := findClass_of_methodNamed B.named
  have hlocks := B.notSynchronized
  subst hsz
  have hD := hD0.self (sz := s.heap.size)
  generalize hAe : (va_A (HW K oa ob fo fd ad q q1 q2 g r r2 v i) s.heap.size) = A at hD hTX ⊢
  have hA : ∀ q : Nat, s.heap.size ≤ q → A q := fun q h => by rw [← hAe]; exact Or.inr h
  have hS : va_S A s.heap s.heap [] := va_S.rf
  clear hAe hD0
  have hK4 := hK.sub (tys' := TY K) [0, 1, 2, 3] rfl
  have hP : va_P D vwCl ([(oa, .inl (K 1, 1, .inr (.inl fo)))] ++ ([(ob, .inl (K 4, 1, .inr (.inr (.inr (.inl fd)))))] ++ (WX K ad q q1 q2 g r r2 v i))) s.heap := hP
  have hD : va_D A ([(oa, .inl (K 1, 1, .inr (.inl fo)))] ++ ([(ob, .inl (K 4, 1, .inr (.inr (.inr (.inl fd)))))] ++ (WX K ad q q1 q2 g r r2 v i))) := hD
  have hl := lv_entry ([.ref (ad 0), .int xa, .int xb, .int xc, .int xs, .int xr, .ref oa]) (n := 8) (Nat.le_of_ble_eq_true rfl)
  rw [lg_entry_eq]
  generalize (lg_sl ([.ref (ad 0), .int xa, .int xb, .int xc, .int xs, .int xr, .ref oa]) ++ List.replicate (8 - (lg_sl ([.ref (ad 0), .int xa, .int xb, .int xc, .int xs, .int xr, .ref oa])).length) Slot.unset).toArray = ls at hl ⊢
  have hl : lv_has ls 8 [(0, .ref (ad 0)), (1, .int xa), (2, .int xb), (3, .int xc), (4, .int xs), (5, .int xr), (6, .ref oa)] := hl
  refine lv_aload hx hb dL_addSet_0 (lv_at hl 6 rfl) ?_
  refine lv_iconst (v := nI 0) hx hb dL_addSet_2 (by decide) ?_
  refine lv_aload_n hx hb dL_addSet_3 rfl (lv_at hl 0 rfl) ?_
  refine lv_iload_n hx hb dL_addSet_4 rfl (lv_at hl 1 rfl) ?_
  refine lv_iload_n hx hb dL_addSet_5 rfl (lv_at hl 2 rfl) ?_
  refine lv_iload_n hx hb dL_addSet_6 rfl (lv_at hl 3 rfl) ?_
  refine lv_iload hx hb dL_addSet_7 (lv_at hl 4 rfl) ?_
  refine lv_iload hx hb dL_addSet_9 (lv_at hl 5 rfl) ?_
  have hPc := bP2e hP
  have hDc := bD2e hD
  have hFc := bF2e hD hS hA
  refine vx_calli (vx_runV (As := [.int xa, .int xb, .int xc, .int xs, .int xr]) (rest := [.int (nI 0), .ref oa]) ⟨hx, hb, hml, hown, hts⟩ (c_X6_addSet l hlf D K ad q q1 q2 g r r2 v i xa xb xc xs xr s.heap.size hI hJ) (cwV 5 hts (TB_V k_m_L_7 k_im_X6_addSet k_se_X6_addSet k_in_X6 k_co_X6_addSet (fun _ h => h)) rfl rfl rfl (by decide +kernel) ⟨Nat.le_of_ble_eq_true rfl, Nat.le_of_ble_eq_true rfl⟩) ⟨cPT_blind, va_recv hK4 hPc (ci := 6) (q0 := 0) rfl rfl, cPT_of hPc hK4 hDc hTX hS hFc⟩ rfl rfl hl.1 rfl (lv_room (Nat.le_of_ble_eq_true rfl)) dL_addSet_11 ⟨Nat.le_of_ble_eq_true rfl, Nat.le_of_ble_eq_true rfl⟩) hS (fun q _ h => hFc q h) hFc (fun q _ h => hFc q h) (fun E ce q9 u9 t9 H locs ht9 hal hpx hB hz1 hk1 hS hce hcv hcl => ?_) (fun rz u9 t9 H locs ht9 hal hw hB hz1 hk1 hS => ?_)
  · obtain ⟨v9, i9⟩ := u9
    obtain ⟨hv9, hJ9⟩ := hpx
    have hv9 : v9 = v := hv9
    obtain ⟨hexc, hP1, hK1, hD1⟩ := hB
    rw [ht9] at hP1
    obtain ⟨hP, hD⟩ := bJ2e hP hD hk1 hFc hP1 hD1
    have hJ9 : II v9.1 i9 := hJ9
    dsimp only at hP hD
    rw [hv9] at hP hD hJ9
    have hP : va_P D vwCl ([(oa, .inl (K 1, 1, .inr (.inl fo)))] ++ ([(ob, .inl (K 4, 1, .inr (.inr (.inr (.inl fd)))))] ++ (WX K ad q q1 q2 g r r2 v i9))) H := hP
    have hD : va_D A ([(oa, .inl (K 1, 1, .inr (.inl fo)))] ++ ([(ob, .inl (K 4, 1, .inr (.inr (.inr (.inl fd)))))] ++ (WX K ad q q1 q2 g r r2 v i9))) := hD
    rcases exc3 hexc with ⟨hk, rfl⟩ | ⟨hk, rfl⟩ | ⟨hk, rfl⟩
    · refine vx_catch (own := RL) (name := eIO) (E := eIO) hown [] ⟨0, 16, 19, 13⟩ [⟨0, 16, 23, 15⟩, ⟨0, 16, 27, 17⟩] hxt (fun z h => absurd h List.not_mem_nil) (by decide) (by decide) (hts _ k_cl_L_13) (dc_use rfl hCL.1.1) hce hcv hcl ?_
      refine lv_astore (lv' := [(7, .ref q9), (0, .ref (ad 0)), (1, .int xa), (2, .int xb), (3, .int xc), (4, .int xs), (5, .int xr), (6, .ref oa)]) hx hb dL_addSet_19 hl (by decide) rfl (fun ls hl => ?_)
      refine lv_iconst (v := nI 1) hx hb dL_addSet_21 (by decide) ?_
      exact W.iret (v := nI 1) hx hb hr (fun t9 ht9 hW => ⟨⟨nI 1, (v, i9, fo, fd), rfl, ⟨by rw [hk], by rw [hk]; decide, hI, hJ9, fun h9 => absurd (hk.symm.trans h9) (by decide), fun _ => rfl⟩, by rw [ht9]; exact hP, va_K.moved hW.alike hK, hD⟩, hS.F ht9⟩) hS.2.2 dL_addSet_22
    · refine vx_catch (own := RL) (name := eIA) (E := eIA) hown [⟨0, 16, 19, 13⟩] ⟨0, 16, 23, 15⟩ [⟨0, 16, 27, 17⟩] hxt (List.forall_mem_cons.mpr ⟨Or.inr ⟨by decide, eIO, hts _ k_cl_L_13, hCL.2.1⟩, (fun z h => absurd h List.not_mem_nil)⟩) (by decide) (by decide) (hts _ k_cl_L_15) (dc_use rfl hCL.1.2.1) hce hcv hcl ?_
      refine lv_astore (lv' := [(7, .ref q9), (0, .ref (ad 0)), (1, .int xa), (2, .int xb), (3, .int xc), (4, .int xs), (5, .int xr), (6, .ref oa)]) hx hb dL_addSet_23 hl (by decide) rfl (fun ls hl => ?_)
      refine lv_iconst (v := nI 2) hx hb dL_addSet_25 (by decide) ?_
      exact W.iret (v := nI 2) hx hb hr (fun t9 ht9 hW => ⟨⟨nI 2, (v, i9, fo, fd), rfl, ⟨by rw [hk], by rw [hk]; decide, hI, hJ9, fun h9 => absurd (hk.symm.trans h9) (by decide), fun _ => rfl⟩, by rw [ht9]; exact hP, va_K.moved hW.alike hK, hD⟩, hS.F ht9⟩) hS.2.2 dL_addSet_26
    · refine vx_catch (own := RL) (name := eIS) (E := eIS) hown [⟨0, 16, 19, 13⟩, ⟨0, 16, 23, 15⟩] ⟨0, 16, 27, 17⟩ [] hxt (List.forall_mem_cons.mpr ⟨Or.inr ⟨by decide, eIO, hts _ k_cl_L_13, hCL.2.2.1⟩, (List.forall_mem_cons.mpr ⟨Or.inr ⟨by decide, eIA, hts _ k_cl_L_15, hCL.2.2.2⟩, (fun z h => absurd h List.not_mem_nil)⟩)⟩) (by decide) (by decide) (hts _ k_cl_L_17) (dc_use rfl hCL.1.2.2) hce hcv hcl ?_
      refine lv_astore (lv' := [(7, .ref q9), (0, .ref (ad 0)), (1, .int xa), (2, .int xb), (3, .int xc), (4, .int xs), (5, .int xr), (6, .ref oa)]) hx hb dL_addSet_27 hl (by decide) rfl (fun ls hl => ?_)
      refine lv_iconst (v := nI 3) hx hb dL_addSet_29 (by decide) ?_
      exact W.iret (v := nI 3) hx hb hr (fun t9 ht9 hW => ⟨⟨nI 3, (v, i9, fo, fd), rfl, ⟨by rw [hk], by rw [hk]; decide, hI, hJ9, fun h9 => absurd (hk.symm.trans h9) (by decide), fun _ => rfl⟩, by rw [ht9]; exact hP, va_K.moved hW.alike hK, hD⟩, hS.F ht9⟩) hS.2.2 dL_addSet_30
  obtain ⟨v9, i9⟩ := u9
  obtain ⟨hP1, hK1, hD1⟩ := hB
  rw [ht9] at hP1
  obtain ⟨hP, hD⟩ := bJ2e hP hD hk1 hFc hP1 hD1
  have hP : va_P D vwCl ([(oa, .inl (K 1, 1, .inr (.inl fo)))] ++ ([(ob, .inl (K 4, 1, .inr (.inr (.inr (.inl fd)))))] ++ (WX K ad q q1 q2 g r r2 v9 i9))) H := hP
  have hD : va_D A ([(oa, .inl (K 1, 1, .inr (.inl fo)))] ++ ([(ob, .inl (K 4, 1, .inr (.inr (.inr (.inl fd)))))] ++ (WX K ad q q1 q2 g r r2 v9 i9))) := hD
  refine lv_i2l (v := rz.toInt64) hx hb dL_addSet_14 rfl ?_
  refine n_last hx hb hK hP hD hS 0 1 rfl rfl (i := 0) (n := 1) (by omega) (by decide) dL_addSet_15 (fun H locs hP hD hS => ?_)
  have hP : va_P D vwCl ([(oa, .inl (K 1, 1, .inr (.inl (vp_updL fo 0 rz.toInt64))))] ++ ([(ob, .inl (K 4, 1, .inr (.inr (.inr (.inl fd)))))] ++ (WX K ad q q1 q2 g r r2 v9 i9))) H := hP
  have hD : va_D A ([(oa, .inl (K 1, 1, .inr (.inl (vp_updL fo 0 rz.toInt64))))] ++ ([(ob, .inl (K 4, 1, .inr (.inr (.inr (.inl fd)))))] ++ (WX K ad q q1 q2 g r r2 v9 i9))) := hD
  refine lv_goto (tgt := 31) hx hb dL_addSet_16 (by decide) ?_
  refine lv_iconst (v := nI 0) hx hb dL_addSet_31 (by decide) ?_
  have hrs : rs_addSet v.1 xa xb xc xs xr = _ := hw.2.2.2
  exact W.iret (v := nI 0) hx hb hr (fun t9 ht9 hW => ⟨⟨nI 0, (v9, i9, vp_updL fo 0 rz.toInt64, fd), rfl, ⟨by rw [hrs], by rw [hrs]; exact Nat.zero_le 3, hw.2.1, hw.2.2.1, fun _ => ⟨(by rw [hrs]; exact (congrArg Int64.toInt (if_pos rfl)).trans (Int32.toInt_toInt64 rz)), hw.1⟩, by rw [hrs]; exact fun h9 => absurd rfl h9⟩, by rw [ht9]; exact hP, va_K.moved hW.alike hK, hD⟩, hS.F ht9⟩) hS.2.2 dL_addSet_32
set_option maxHeartbeats 4000000 in
set_option maxRecDepth 100000 in
theorem c_L_addBrake (l : Launch) (hlf : l.stackTraces = false) (D : va_G) (K : Nat → ClassId) (oa ob : Nat) (fo : Nat → Int64) (fd : Nat → UInt64) (ad q q1 q2 g r r2 : Nat → Nat) (v : CV) (i : CI) (xa : Int32) (sz : Nat) (hI : IV v) (hJ : II v.1 i) : Met l yL_addBrake (.codeWith yL_addBrake cL_addBrake 4 (some .int) [(0, 9, 12, 13), (0, 9, 15, 17)] :: TB) ({ frames := 8, cells := 1, slots := 6, locals := 171 } : Room) (va_Pc [.ref (ad 0), .int xa, .ref oa] (cPL D K (HW K oa ob fo fd ad q q1 q2 g r r2 v i) sz)) (va_Qi (fun (z : Int32) (u : LS9) => z = nI (rs_addBrake v.1 xa).1 ∧ (rs_addBrake v.1 xa).1 ≤ 3 ∧ IV u.1 ∧ II u.1.1 u.2.1 ∧ ((rs_addBrake v.1 xa).1 = 0 → (u.2.2.1 0).toInt = (rs_addBrake v.1 xa).2 ∧ u.1 = (dE v.1 (dn v.1 8 1) xa (-1), v.2)) ∧ (¬ (rs_addBrake v.1 xa).1 = 0 → u.1 = v)) (fun (u : LS9) t => cB5 D K (va_A (HW K oa ob fo fd ad q q1 q2 g r r2 v i) sz) (HW K oa ob u.2.2.1 u.2.2.2 ad q q1 q2 g r r2 u.1 u.2.1) t) (va_A (HW K oa ob fo fd ad q q1 q2 g r r2 v i) sz)) 1 6 (va_A (HW K oa ob fo fd ad q q1 q2 g r r2 v i) sz) := by
  refine Met.ofWH (cc := cL_addBrake) (maxL := 4) (ret := (some .int)) (hh := [(0, 9, 12, 13), (0, 9, 15, 17)]) (by decide) rfl ?_
  intro p e s m args below meth c s₁ B hml hv
  obtain ⟨rfl, ⟨hsz, hP, hK, hD0⟩, hTX, hCL⟩ := hv
  have hx := B.exec
  have hb := B.bytes
  have hr := B.returns
  have hts := hts_tl (atoms_spec (ws := (.codeWith yL_addBrake cL_addBrake 4 (some .int) [(0, 9, 12, 13), (0, 9, 15, 17)] :: TB)) B.pre)
  have hxt := vx_table (x := yL_addBrake) B (atoms_spec (ws := (.codeWith yL_addBrake cL_addBrake 4 (some .int) [(0, 9, 12, 13), (0, 9, 15, 17)] :: TB)) B.pre _ List.mem_cons_self)
  have hown : s.vm.findClass RL = some m.cls := findClass_of_methodNamed B.named
  have hlocks := B.notSynchronized
  subst hsz
  have hD := hD0.self (sz := s.heap.size)
  generalize hAe : (va_A (HW K oa ob fo fd ad q q1 q2 g r r2 v i) s.heap.size) = A at hD hTX ⊢
  have hA : ∀ q : Nat, s.heap.size ≤ q → A q := fun q h => by rw [← hAe]; exact Or.inr h
  have hS : va_S A s.heap s.heap [] := va_S.rf
  clear hAe hD0
  have hK4 := hK.sub (tys' := TY K) [0, 1, 2, 3] rfl
  have hP : va_P D vwCl ([(oa, .inl (K 1, 1, .inr (.inl fo)))] ++ ([(ob, .inl (K 4, 1, .inr (.inr (.inr (.inl fd)))))] ++ (WX K ad q q1 q2 g r r2 v i))) s.heap := hP
  have hD : va_D A ([(oa, .inl (K 1, 1, .inr (.inl fo)))] ++ ([(ob, .inl (K 4, 1, .inr (.inr (.inr (.inl fd)))))] ++ (WX K ad q q1 q2 g r r2 v i))) := hD
  have hl := lv_entry ([.ref (ad 0), .int xa, .ref oa]) (n := 4) (Nat.le_of_ble_eq_true rfl)
  rw [lg_entry_eq]
  generalize (lg_sl ([.ref (ad 0), .int xa, .ref oa]) ++ List.replicate (4 - (lg_sl ([.ref (ad 0), .int xa, .ref oa])).length) Slot.unset).toArray = ls at hl ⊢
  have hl : lv_has ls 4 [(0, .ref (ad 0)), (1, .int xa), (2, .ref oa)] := hl
  refine lv_aload_n hx hb dL_addBrake_0 rfl (lv_at hl 2 rfl) ?_
  refine lv_iconst (v := nI 0) hx hb dL_addBrake_1 (by decide) ?_
  refine lv_aload_n hx hb dL_addBrake_2 rfl (lv_at hl 0 rfl) ?_
  refine lv_iload_n hx hb dL_addBrake_3 rfl (lv_at hl 1 rfl) ?_
  have hPc := bP2e hP
  have hDc := bD2e hD
  have hFc := bF2e hD hS hA
  refine vx_calli (vx_runV (As := [.int xa]) (rest := [.int (nI 0), .ref oa]) ⟨hx, hb, hml, hown, hts⟩ (c_X6_addBrake l hlf D K ad q q1 q2 g r r2 v i xa s.heap.size hI hJ) (cwV 1 hts (TB_V k_m_L_19 k_im_X6_addBrake k_se_X6_addBrake k_in_X6 k_co_X6_addBrake (fun _ h => h)) rfl rfl rfl (by decide +kernel) ⟨Nat.le_of_ble_eq_true rfl, Nat.le_of_ble_eq_true rfl⟩) ⟨cPT_blind, va_recv hK4 hPc (ci := 6) (q0 := 0) rfl rfl, cPT_of hPc hK4 hDc hTX hS hFc⟩ rfl rfl hl.1 rfl (lv_room (Nat.le_of_ble_eq_true rfl)) dL_addBrake_4 ⟨Nat.le_of_ble_eq_true rfl, Nat.le_of_ble_eq_true rfl⟩) hS (fun q _ h => hFc q h) hFc (fun q _ h => hFc q h) (fun E ce q9 u9 t9 H locs ht9 hal hpx hB hz1 hk1 hS hce hcv hcl => ?_) (fun rz u9 t9 H locs ht9 hal hw hB hz1 hk1 hS => ?_)
  · obtain ⟨v9, i9⟩ := u9
    obtain ⟨hv9, hJ9⟩ := hpx
    have hv9 : v9 = v := hv9
    obtain ⟨hexc, hP1, hK1, hD1⟩ := hB
    rw [ht9] at hP1
    obtain ⟨hP, hD⟩ := bJ2e hP hD hk1 hFc hP1 hD1
    have hJ9 : II v9.1 i9 := hJ9
    dsimp only at hP hD
    rw [hv9] at hP hD hJ9
    have hP : va_P D vwCl ([(oa, .inl (K 1, 1, .inr (.inl fo)))] ++ ([(ob, .inl (K 4, 1, .inr (.inr (.inr (.inl fd)))))] ++ (WX K ad q q1 q2 g r r2 v i9))) H := hP
    have hD : va_D A ([(oa, .inl (K 1, 1, .inr (.inl fo)))] ++ ([(ob, .inl (K 4, 1, .inr (.inr (.inr (.inl fd)))))] ++ (WX K ad q q1 q2 g r r2 v i9))) := hD
    rcases exc2 hexc with ⟨hk, rfl⟩ | ⟨hk, rfl⟩
    · refine vx_catch (own := RL) (name := eIO) (E := eIO) hown [] ⟨0, 9, 12, 13⟩ [⟨0, 9, 15, 17⟩] hxt (fun z h => absurd h List.not_mem_nil) (by decide) (by decide) (hts _ k_cl_L_13) (dc_use rfl hCL.1.1) hce hcv hcl ?_
      refine lv_astore_n (lv' := [(3, .ref q9), (0, .ref (ad 0)), (1, .int xa), (2, .ref oa)]) hx hb dL_addBrake_12 rfl hl (by decide) rfl (fun ls hl => ?_)
      refine lv_iconst (v := nI 1) hx hb dL_addBrake_13 (by decide) ?_
      exact W.iret (v := nI 1) hx hb hr (fun t9 ht9 hW => ⟨⟨nI 1, (v, i9, fo, fd), rfl, ⟨by rw [hk], by rw [hk]; decide, hI, hJ9, fun h9 => absurd (hk.symm.trans h9) (by decide), fun _ => rfl⟩, by rw [ht9]; exact hP, va_K.moved hW.alike hK, hD⟩, hS.F ht9⟩) hS.2.2 dL_addBrake_14
    · refine vx_catch (own := RL) (name := eIS) (E := eIS) hown [⟨0, 9, 12, 13⟩] ⟨0, 9, 15, 17⟩ [] hxt (List.forall_mem_cons.mpr ⟨Or.inr ⟨by decide, eIO, hts _ k_cl_L_13, hCL.2.2.1⟩, (fun z h => absurd h List.not_mem_nil)⟩) (by decide) (by decide) (hts _ k_cl_L_17) (dc_use rfl hCL.1.2.2) hce hcv hcl ?_
      refine lv_astore_n (lv' := [(3, .ref q9), (0, .ref (ad 0)), (1, .int xa), (2, .ref oa)]) hx hb dL_addBrake_15 rfl hl (by decide) rfl (fun ls hl => ?_)
      refine lv_iconst (v := nI 2) hx hb dL_addBrake_16 (by decide) ?_
      exact W.iret (v := nI 2) hx hb hr (fun t9 ht9 hW => ⟨⟨nI 2, (v, i9, fo, fd), rfl, ⟨by rw [hk], by rw [hk]; decide, hI, hJ9, fun h9 => absurd (hk.symm.trans h9) (by decide), fun _ => rfl⟩, by rw [ht9]; exact hP, va_K.moved hW.alike hK, hD⟩, hS.F ht9⟩) hS.2.2 dL_addBrake_17
  obtain ⟨v9, i9⟩ := u9
  obtain ⟨hP1, hK1, hD1⟩ := hB
  rw [ht9] at hP1
  obtain ⟨hP, hD⟩ := bJ2e hP hD hk1 hFc hP1 hD1
  have hP : va_P D vwCl ([(oa, .inl (K 1, 1, .inr (.inl fo)))] ++ ([(ob, .inl (K 4, 1, .inr (.inr (.inr (.inl fd)))))] ++ (WX K ad q q1 q2 g r r2 v9 i9))) H := hP
  have hD : va_D A ([(oa, .inl (K 1, 1, .inr (.inl fo)))] ++ ([(ob, .inl (K 4, 1, .inr (.inr (.inr (.inl fd)))))] ++ (WX K ad q q1 q2 g r r2 v9 i9))) := hD
  refine lv_i2l (v := rz.toInt64) hx hb dL_addBrake_7 rfl ?_
  refine n_last hx hb hK hP hD hS 0 1 rfl rfl (i := 0) (n := 1) (by omega) (by decide) dL_addBrake_8 (fun H locs hP hD hS => ?_)
  have hP : va_P D vwCl ([(oa, .inl (K 1, 1, .inr (.inl (vp_updL fo 0 rz.toInt64))))] ++ ([(ob, .inl (K 4, 1, .inr (.inr (.inr (.inl fd)))))] ++ (WX K ad q q1 q2 g r r2 v9 i9))) H := hP
  have hD : va_D A ([(oa, .inl (K 1, 1, .inr (.inl (vp_updL fo 0 rz.toInt64))))] ++ ([(ob, .inl (K 4, 1, .inr (.inr (.inr (.inl fd)))))] ++ (WX K ad q q1 q2 g r r2 v9 i9))) := hD
  refine lv_goto (tgt := 18) hx hb dL_addBrake_9 (by decide) ?_
  refine lv_iconst (v := nI 0) hx hb dL_addBrake_18 (by decide) ?_
  have hrs : rs_addBrake v.1 xa = _ := hw.2.2.2
  exact W.iret (v := nI 0) hx hb hr (fun t9 ht9 hW => ⟨⟨nI 0, (v9, i9, vp_updL fo 0 rz.toInt64, fd), rfl, ⟨by rw [hrs], by rw [hrs]; exact Nat.zero_le 3, hw.2.1, hw.2.2.1, fun _ => ⟨(by rw [hrs]; exact (congrArg Int64.toInt (if_pos rfl)).trans (Int32.toInt_toInt64 rz)), hw.1⟩, by rw [hrs]; exact fun h9 => absurd rfl h9⟩, by rw [ht9]; exact hP, va_K.moved hW.alike hK, hD⟩, hS.F ht9⟩) hS.2.2 dL_addBrake_19
set_option maxHeartbeats 4000000 in
set_option maxRecDepth 100000 in
theorem c_L_addClutch (l : Launch) (hlf : l.stackTraces = false) (D : va_G) (K : Nat → ClassId) (oa ob : Nat) (fo : Nat → Int64) (fd : Nat → UInt64) (ad q q1 q2 g r r2 : Nat → Nat) (v : CV) (i : CI) (xa xb : Int32) (sz : Nat) (hI : IV v) (hJ : II v.1 i) : Met l yL_addClutch (.codeWith yL_addClutch cL_addClutch 5 (some .int) [(0, 10, 13, 13), (0, 10, 17, 15), (0, 10, 21, 17)] :: TB) ({ frames := 8, cells := 1, slots := 6, locals := 172 } : Room) (va_Pc [.ref (ad 0), .int xa, .int xb, .ref oa] (cPL D K (HW K oa ob fo fd ad q q1 q2 g r r2 v i) sz)) (va_Qi (fun (z : Int32) (u : LS9) => z = nI (rs_addClutch v.1 xa xb).1 ∧ (rs_addClutch v.1 xa xb).1 ≤ 3 ∧ IV u.1 ∧ II u.1.1 u.2.1 ∧ ((rs_addClutch v.1 xa xb).1 = 0 → (u.2.2.1 0).toInt = (rs_addClutch v.1 xa xb).2 ∧ u.1 = (dE v.1 (dn v.1 8 1) xa xb, v.2)) ∧ (¬ (rs_addClutch v.1 xa xb).1 = 0 → u.1 = v)) (fun (u : LS9) t => cB5 D K (va_A (HW K oa ob fo fd ad q q1 q2 g r r2 v i) sz) (HW K oa ob u.2.2.1 u.2.2.2 ad q q1 q2 g r r2 u.1 u.2.1) t) (va_A (HW K oa ob fo fd ad q q1 q2 g r r2 v i) sz)) 1 6 (va_A (HW K oa ob fo fd ad q q1 q2 g r r2 v i) sz) := by
  refine Met.ofWH (cc := cL_addClutch) (maxL := 5) (ret := (some .int)) (hh := [(0, 10, 13, 13), (0, 10, 17, 15), (0, 10, 21, 17)]) (by decide) rfl ?_
  intro p e s m args below meth c s₁ B hml hv
  obtain ⟨rfl, ⟨hsz, hP, hK, hD0⟩, hTX, hCL⟩ := hv
  have hx := B.exec
  have hb := B.bytes
  have hr := B.returns
  have hts := hts_tl (atoms_spec (ws := (.codeWith yL_addClutch cL_addClutch 5 (some .int) [(0, 10, 13, 13), (0, 10, 17, 15), (0, 10, 21, 17)] :: TB)) B.pre)
  have hxt := vx_table (x := yL_addClutch) B (atoms_spec (ws := (.codeWith yL_addClutch cL_addClutch 5 (some .int) [(0, 10, 13, 13), (0, 10, 17, 15), (0, 10, 21, 17)] :: TB)) B.pre _ List.mem_cons_self)
  have hown : s.vm.findClass RL = some m.cls := findClass_of_methodNamed B.named
  have hlocks := B.notSynchronized
  subst hsz
  have hD := hD0.self (sz := s.heap.size)
  generalize hAe : (va_A (HW K oa ob fo fd ad q q1 q2 g r r2 v i) s.heap.size) = A at hD hTX ⊢
  have hA : ∀ q : Nat, s.heap.size ≤ q → A q := fun q h => by rw [← hAe]; exact Or.inr h
  have hS : va_S A s.heap s.heap [] := va_S.rf
  clear hAe hD0
  have hK4 := hK.sub (tys' := TY K) [0, 1, 2, 3] rfl
  have hP : va_P D vwCl ([(oa, .inl (K 1, 1, .inr (.inl fo)))] ++ ([(ob, .inl (K 4, 1, .inr (.inr (.inr (.inl fd)))))] ++ (WX K ad q q1 q2 g r r2 v i))) s.heap := hP
  have hD : va_D A ([(oa, .inl (K 1, 1, .inr (.inl fo)))] ++ ([(ob, .inl (K 4, 1, .inr (.inr (.inr (.inl fd)))))] ++ (WX K ad q q1 q2 g r r2 v i))) := hD
  have hl := lv_entry ([.ref (ad 0), .int xa, .int xb, .ref oa]) (n := 5) (Nat.le_of_ble_eq_true rfl)
  rw [lg_entry_eq]
  generalize (lg_sl ([.ref (ad 0), .int xa, .int xb, .ref oa]) ++ List.replicate (5 - (lg_sl ([.ref (ad 0), .int xa, .int xb, .ref oa])).length) Slot.unset).toArray = ls at hl ⊢
  have hl : lv_has ls 5 [(0, .ref (ad 0)), (1, .int xa), (2, .int xb), (3, .ref oa)] := hl
  refine lv_aload_n hx hb dL_addClutch_0 rfl (lv_at hl 3 rfl) ?_
  refine lv_iconst (v := nI 0) hx hb dL_addClutch_1 (by decide) ?_
  refine lv_aload_n hx hb dL_addClutch_2 rfl (lv_at hl 0 rfl) ?_
  refine lv_iload_n hx hb dL_addClutch_3 rfl (lv_at hl 1 rfl) ?_
  refine lv_iload_n hx hb dL_addClutch_4 rfl (lv_at hl 2 rfl) ?_
  have hPc := bP2e hP
  have hDc := bD2e hD
  have hFc := bF2e hD hS hA
  refine vx_calli (vx_runV (As := [.int xa, .int xb]) (rest := [.int (nI 0), .ref oa]) ⟨hx, hb, hml, hown, hts⟩ (c_X6_addClutch l hlf D K ad q q1 q2 g r r2 v i xa xb s.heap.size hI hJ) (cwV 2 hts (TB_V k_m_L_23 k_im_X6_addClutch k_se_X6_addClutch k_in_X6 k_co_X6_addClutch (fun _ h => h)) rfl rfl rfl (by decide +kernel) ⟨Nat.le_of_ble_eq_true rfl, Nat.le_of_ble_eq_true rfl⟩) ⟨cPT_blind, va_recv hK4 hPc (ci := 6) (q0 := 0) rfl rfl, cPT_of hPc hK4 hDc hTX hS hFc⟩ rfl rfl hl.1 rfl (lv_room (Nat.le_of_ble_eq_true rfl)) dL_addClutch_5 ⟨Nat.le_of_ble_eq_true rfl, Nat.le_of_ble_eq_true rfl⟩) hS (fun q _ h => hFc q h) hFc (fun q _ h => hFc q h) (fun E ce q9 u9 t9 H locs ht9 hal hpx hB hz1 hk1 hS hce hcv hcl => ?_) (fun rz u9 t9 H locs ht9 hal hw hB hz1 hk1 hS => ?_)
  · obtain ⟨v9, i9⟩ := u9
    obtain ⟨hv9, hJ9⟩ := hpx
    have hv9 : v9 = v := hv9
    obtain ⟨hexc, hP1, hK1, hD1⟩ := hB
    rw [ht9] at hP1
    obtain ⟨hP, hD⟩ := bJ2e hP hD hk1 hFc hP1 hD1
    have hJ9 : II v9.1 i9 := hJ9
    dsimp only at hP hD
    rw [hv9] at hP hD hJ9
    have hP : va_P D vwCl ([(oa, .inl (K 1, 1, .inr (.inl fo)))] ++ ([(ob, .inl (K 4, 1, .inr (.inr (.inr (.inl fd)))))] ++ (WX K ad q q1 q2 g r r2 v i9))) H := hP
    have hD : va_D A ([(oa, .inl (K 1, 1, .inr (.inl fo)))] ++ ([(ob, .inl (K 4, 1, .inr (.inr (.inr (.inl fd)))))] ++ (WX K ad q q1 q2 g r r2 v i9))) := hD
    rcases exc3 hexc with ⟨hk, rfl⟩ | ⟨hk, rfl⟩ | ⟨hk, rfl⟩
    · refine vx_catch (own := RL) (name := eIO) (E := eIO) hown [] ⟨0, 10, 13, 13⟩ [⟨0, 10, 17, 15⟩, ⟨0, 10, 21, 17⟩] hxt (fun z h => absurd h List.not_mem_nil) (by decide) (by decide) (hts _ k_cl_L_13) (dc_use rfl hCL.1.1) hce hcv hcl ?_
      refine lv_astore (lv' := [(4, .ref q9), (0, .ref (ad 0)), (1, .int xa), (2, .int xb), (3, .ref oa)]) hx hb dL_addClutch_13 hl (by decide) rfl (fun ls hl => ?_)
      refine lv_iconst (v := nI 1) hx hb dL_addClutch_15 (by decide) ?_
      exact W.iret (v := nI 1) hx hb hr (fun t9 ht9 hW => ⟨⟨nI 1, (v, i9, fo, fd), rfl, ⟨by rw [hk], by rw [hk]; decide, hI, hJ9, fun h9 => absurd (hk.symm.trans h9) (by decide), fun _ => rfl⟩, by rw [ht9]; exact hP, va_K.moved hW.alike hK, hD⟩, hS.F ht9⟩) hS.2.2 dL_addClutch_16
    · refine vx_catch (own := RL) (name := eIA) (E := eIA) hown [⟨0, 10, 13, 13⟩] ⟨0, 10, 17, 15⟩ [⟨0, 10, 21, 17⟩] hxt (List.forall_mem_cons.mpr ⟨Or.inr ⟨by decide, eIO, hts _ k_cl_L_13, hCL.2.1⟩, (fun z h => absurd h List.not_mem_nil)⟩) (by decide) (by decide) (hts _ k_cl_L_15) (dc_use rfl hCL.1.2.1) hce hcv hcl ?_
      refine lv_astore (lv' := [(4, .ref q9), (0, .ref (ad 0)), (1, .int xa), (2, .int xb), (3, .ref oa)]) hx hb dL_addClutch_17 hl (by decide) rfl (fun ls hl => ?_)
      refine lv_iconst (v := nI 2) hx hb dL_addClutch_19 (by decide) ?_
      exact W.iret (v := nI 2) hx hb hr (fun t9 ht9 hW => ⟨⟨nI 2, (v, i9, fo, fd), rfl, ⟨by rw [hk], by rw [hk]; decide, hI, hJ9, fun h9 => absurd (hk.symm.trans h9) (by decide), fun _ => rfl⟩, by rw [ht9]; exact hP, va_K.moved hW.alike hK, hD⟩, hS.F ht9⟩) hS.2.2 dL_addClutch_20
    · refine vx_catch (own := RL) (name := eIS) (E := eIS) hown [⟨0, 10, 13, 13⟩, ⟨0, 10, 17, 15⟩] ⟨0, 10, 21, 17⟩ [] hxt (List.forall_mem_cons.mpr ⟨Or.inr ⟨by decide, eIO, hts _ k_cl_L_13, hCL.2.2.1⟩, (List.forall_mem_cons.mpr ⟨Or.inr ⟨by decide, eIA, hts _ k_cl_L_15, hCL.2.2.2⟩, (fun z h => absurd h List.not_mem_nil)⟩)⟩) (by decide) (by decide) (hts _ k_cl_L_17) (dc_use rfl hCL.1.2.2) hce hcv hcl ?_
      refine lv_astore (lv' := [(4, .ref q9), (0, .ref (ad 0)), (1, .int xa), (2, .int xb), (3, .ref oa)]) hx hb dL_addClutch_21 hl (by decide) rfl (fun ls hl => ?_)
      refine lv_iconst (v := nI 3) hx hb dL_addClutch_23 (by decide) ?_
      exact W.iret (v := nI 3) hx hb hr (fun t9 ht9 hW => ⟨⟨nI 3, (v, i9, fo, fd), rfl, ⟨by rw [hk], by rw [hk]; decide, hI, hJ9, fun h9 => absurd (hk.symm.trans h9) (by decide), fun _ => rfl⟩, by rw [ht9]; exact hP, va_K.moved hW.alike hK, hD⟩, hS.F ht9⟩) hS.2.2 dL_addClutch_24
  obtain ⟨v9, i9⟩ := u9
  obtain ⟨hP1, hK1, hD1⟩ := hB
  rw [ht9] at hP1
  obtain ⟨hP, hD⟩ := bJ2e hP hD hk1 hFc hP1 hD1
  have hP : va_P D vwCl ([(oa, .inl (K 1, 1, .inr (.inl fo)))] ++ ([(ob, .inl (K 4, 1, .inr (.inr (.inr (.inl fd)))))] ++ (WX K ad q q1 q2 g r r2 v9 i9))) H := hP
  have hD : va_D A ([(oa, .inl (K 1, 1, .inr (.inl fo)))] ++ ([(ob, .inl (K 4, 1, .inr (.inr (.inr (.inl fd)))))] ++ (WX K ad q q1 q2 g r r2 v9 i9))) := hD
  refine lv_i2l (v := rz.toInt64) hx hb dL_addClutch_8 rfl ?_
  refine n_last hx hb hK hP hD hS 0 1 rfl rfl (i := 0) (n := 1) (by omega) (by decide) dL_addClutch_9 (fun H locs hP hD hS => ?_)
  have hP : va_P D vwCl ([(oa, .inl (K 1, 1, .inr (.inl (vp_updL fo 0 rz.toInt64))))] ++ ([(ob, .inl (K 4, 1, .inr (.inr (.inr (.inl fd)))))] ++ (WX K ad q q1 q2 g r r2 v9 i9))) H := hP
  have hD : va_D A ([(oa, .inl (K 1, 1, .inr (.inl (vp_updL fo 0 rz.toInt64))))] ++ ([(ob, .inl (K 4, 1, .inr (.inr (.inr (.inl fd)))))] ++ (WX K ad q q1 q2 g r r2 v9 i9))) := hD
  refine lv_goto (tgt := 25) hx hb dL_addClutch_10 (by decide) ?_
  refine lv_iconst (v := nI 0) hx hb dL_addClutch_25 (by decide) ?_
  have hrs : rs_addClutch v.1 xa xb = _ := hw.2.2.2
  exact W.iret (v := nI 0) hx hb hr (fun t9 ht9 hW => ⟨⟨nI 0, (v9, i9, vp_updL fo 0 rz.toInt64, fd), rfl, ⟨by rw [hrs], by rw [hrs]; exact Nat.zero_le 3, hw.2.1, hw.2.2.1, fun _ => ⟨(by rw [hrs]; exact (congrArg Int64.toInt (if_pos rfl)).trans (Int32.toInt_toInt64 rz)), hw.1⟩, by rw [hrs]; exact fun h9 => absurd rfl h9⟩, by rw [ht9]; exact hP, va_K.moved hW.alike hK, hD⟩, hS.F ht9⟩) hS.2.2 dL_addClutch_26
set_option maxHeartbeats 4000000 in
set_option maxRecDepth 100000 in
theorem c_L_setCapacity (l : Launch) (hlf : l.stackTraces = false) (D : va_G) (K : Nat → ClassId) (oa ob : Nat) (fo : Nat → Int64) (fd : Nat → UInt64) (ad q q1 q2 g r r2 : Nat → Nat) (v : CV) (i : CI) (x y : Int32) (sz : Nat) (hI : IV v) (hJ : II v.1 i) : Met l yL_setCapacity (.codeWith yL_setCapacity cL_setCapacity 5 (some .int) [(0, 10, 13, 13), (0, 10, 17, 15)] :: TB) ({ frames := 8, cells := 1, slots := 6, locals := 173 } : Room) (va_Pc [.ref (ad 0), .int x, .int y, .ref oa] (cPL D K (HW K oa ob fo fd ad q q1 q2 g r r2 v i) sz)) (va_Qi (fun (z : Int32) (u : LS9) => z = nI (rs_setCapacity v.1 x y).1 ∧ (rs_setCapacity v.1 x y).1 ≤ 3 ∧ IV u.1 ∧ II u.1.1 u.2.1 ∧ ((rs_setCapacity v.1 x y).1 = 0 → (u.2.2.1 0).toInt = (rs_setCapacity v.1 x y).2 ∧ u.1 = (dU v.1 7 x.toInt.toNat y, v.2)) ∧ (¬ (rs_setCapacity v.1 x y).1 = 0 → u.1 = v)) (fun (u : LS9) t => cB5 D K (va_A (HW K oa ob fo fd ad q q1 q2 g r r2 v i) sz) (HW K oa ob u.2.2.1 u.2.2.2 ad q q1 q2 g r r2 u.1 u.2.1) t) (va_A (HW K oa ob fo fd ad q q1 q2 g r r2 v i) sz)) 1 6 (va_A (HW K oa ob fo fd ad q q1 q2 g r r2 v i) sz) := by
  refine Met.ofWH (cc := cL_setCapacity) (maxL := 5) (ret := (some .int)) (hh := [(0, 10, 13, 13), (0, 10, 17, 15)]) (by decide) rfl ?_
  intro p e s m args below meth c s₁ B hml hv
  obtain ⟨rfl, ⟨hsz, hP, hK, hD0⟩, hTX, hCL⟩ := hv
  have hx := B.exec
  have hb := B.bytes
  have hr := B.returns
  have hts := hts_tl (atoms_spec (ws := (.codeWith yL_setCapacity cL_setCapacity 5 (some .int) [(0, 10, 13, 13), (0, 10, 17, 15)] :: TB)) B.pre)
  have hxt := vx_table (x := yL_setCapacity) B (atoms_spec (ws := (.codeWith yL_setCapacity cL_setCapacity 5 (some .int) [(0, 10, 13, 13), (0, 10, 17, 15)] :: TB)) B.pre _ List.mem_cons_self)
  have hown : s.vm.findClass RL = some m.cls := findClass_of_methodNamed B.named
  have hlocks := B.notSynchronized
  subst hsz
  have hD := hD0.self (sz := s.heap.size)
  generalize hAe : (va_A (HW K oa ob fo fd ad q q1 q2 g r r2 v i) s.heap.size) = A at hD hTX ⊢
  have hA : ∀ q : Nat, s.heap.size ≤ q → A q := fun q h => by rw [← hAe]; exact Or.inr h
  have hS : va_S A s.heap s.heap [] := va_S.rf
  clear hAe hD0
  have hK4 := hK.sub (tys' := TY K) [0, 1, 2, 3] rfl
  have hP : va_P D vwCl ([(oa, .inl (K 1, 1, .inr (.inl fo)))] ++ ([(ob, .inl (K 4, 1, .inr (.inr (.inr (.inl fd)))))] ++ (WX K ad q q1 q2 g r r2 v i))) s.heap := hP
  have hD : va_D A ([(oa, .inl (K 1, 1, .inr (.inl fo)))] ++ ([(ob, .inl (K 4, 1, .inr (.inr (.inr (.inl fd)))))] ++ (WX K ad q q1 q2 g r r2 v i))) := hD
  have hl := lv_entry ([.ref (ad 0), .int x, .int y, .ref oa]) (n := 5) (Nat.le_of_ble_eq_true rfl)
  rw [lg_entry_eq]
  generalize (lg_sl ([.ref (ad 0), .int x, .int y, .ref oa]) ++ List.replicate (5 - (lg_sl ([.ref (ad 0), .int x, .int y, .ref oa])).length) Slot.unset).toArray = ls at hl ⊢
  have hl : lv_has ls 5 [(0, .ref (ad 0)), (1, .int x), (2, .int y), (3, .ref oa)] := hl
  refine lv_aload_n hx hb dL_setCapacity_0 rfl (lv_at hl 3 rfl) ?_
  refine lv_iconst (v := nI 0) hx hb dL_setCapacity_1 (by decide) ?_
  refine lv_aload_n hx hb dL_setCapacity_2 rfl (lv_at hl 0 rfl) ?_
  refine lv_iload_n hx hb dL_setCapacity_3 rfl (lv_at hl 1 rfl) ?_
  refine lv_iload_n hx hb dL_setCapacity_4 rfl (lv_at hl 2 rfl) ?_
  have hPc := bP2e hP
  have hDc := bD2e hD
  have hFc := bF2e hD hS hA
  refine vx_calli (vx_runV (As := [.int x, .int y]) (rest := [.int (nI 0), .ref oa]) ⟨hx, hb, hml, hown, hts⟩ (c_X6_setCapacity l hlf D K ad q q1 q2 g r r2 v i x y s.heap.size hI hJ) (cwV 2 hts (TB_V k_m_L_27 k_im_X6_setCapacity k_se_X6_setCapacity k_in_X6 k_co_X6_setCapacity (fun _ h => h)) rfl rfl rfl (by decide +kernel) ⟨Nat.le_of_ble_eq_true rfl, Nat.le_of_ble_eq_true rfl⟩) ⟨cPT_blind, va_recv hK4 hPc (ci := 6) (q0 := 0) rfl rfl, cPT_of hPc hK4 hDc hTX hS hFc⟩ rfl rfl hl.1 rfl (lv_room (Nat.le_of_ble_eq_true rfl)) dL_setCapacity_5 ⟨Nat.le_of_ble_eq_true rfl, Nat.le_of_ble_eq_true rfl⟩) hS (fun q _ h => hFc q h) hFc (fun q _ h => hFc q h) (fun E ce q9 u9 t9 H locs ht9 hal hpx hB hz1 hk1 hS hce hcv hcl => ?_) (fun rz u9 t9 H locs ht9 hal hw hB hz1 hk1 hS => ?_)
  · obtain ⟨v9, i9⟩ := u9
    obtain ⟨hv9, hJ9⟩ := hpx
    have hv9 : v9 = v := hv9
    obtain ⟨hexc, hP1, hK1, hD1⟩ := hB
    rw [ht9] at hP1
    obtain ⟨hP, hD⟩ := bJ2e hP hD hk1 hFc hP1 hD1
    have hJ9 : II v9.1 i9 := hJ9
    dsimp only at hP hD
    rw [hv9] at hP hD hJ9
    have hP : va_P D vwCl ([(oa, .inl (K 1, 1, .inr (.inl fo)))] ++ ([(ob, .inl (K 4, 1, .inr (.inr (.inr (.inl fd)))))] ++ (WX K ad q q1 q2 g r r2 v i9))) H := hP
    have hD : va_D A ([(oa, .inl (K 1, 1, .inr (.inl fo)))] ++ ([(ob, .inl (K 4, 1, .inr (.inr (.inr (.inl fd)))))] ++ (WX K ad q q1 q2 g r r2 v i9))) := hD
    rcases exc2 hexc with ⟨hk, rfl⟩ | ⟨hk, rfl⟩
    · refine vx_catch (own := RL) (name := eIO) (E := eIO) hown [] ⟨0, 10, 13, 13⟩ [⟨0, 10, 17, 15⟩] hxt (fun z h => absurd h List.not_mem_nil) (by decide) (by decide) (hts _ k_cl_L_13) (dc_use rfl hCL.1.1) hce hcv hcl ?_
      refine lv_astore (lv' := [(4, .ref q9), (0, .ref (ad 0)), (1, .int x), (2, .int y), (3, .ref oa)]) hx hb dL_setCapacity_13 hl (by decide) rfl (fun ls hl => ?_)
      refine lv_iconst (v := nI 1) hx hb dL_setCapacity_15 (by decide) ?_
      exact W.iret (v := nI 1) hx hb hr (fun t9 ht9 hW => ⟨⟨nI 1, (v, i9, fo, fd), rfl, ⟨by rw [hk], by rw [hk]; decide, hI, hJ9, fun h9 => absurd (hk.symm.trans h9) (by decide), fun _ => rfl⟩, by rw [ht9]; exact hP, va_K.moved hW.alike hK, hD⟩, hS.F ht9⟩) hS.2.2 dL_setCapacity_16
    · refine vx_catch (own := RL) (name := eIA) (E := eIA) hown [⟨0, 10, 13, 13⟩] ⟨0, 10, 17, 15⟩ [] hxt (List.forall_mem_cons.mpr ⟨Or.inr ⟨by decide, eIO, hts _ k_cl_L_13, hCL.2.1⟩, (fun z h => absurd h List.not_mem_nil)⟩) (by decide) (by decide) (hts _ k_cl_L_15) (dc_use rfl hCL.1.2.1) hce hcv hcl ?_
      refine lv_astore (lv' := [(4, .ref q9), (0, .ref (ad 0)), (1, .int x), (2, .int y), (3, .ref oa)]) hx hb dL_setCapacity_17 hl (by decide) rfl (fun ls hl => ?_)
      refine lv_iconst (v := nI 2) hx hb dL_setCapacity_19 (by decide) ?_
      exact W.iret (v := nI 2) hx hb hr (fun t9 ht9 hW => ⟨⟨nI 2, (v, i9, fo, fd), rfl, ⟨by rw [hk], by rw [hk]; decide, hI, hJ9, fun h9 => absurd (hk.symm.trans h9) (by decide), fun _ => rfl⟩, by rw [ht9]; exact hP, va_K.moved hW.alike hK, hD⟩, hS.F ht9⟩) hS.2.2 dL_setCapacity_20
  obtain ⟨v9, i9⟩ := u9
  obtain ⟨hP1, hK1, hD1⟩ := hB
  rw [ht9] at hP1
  obtain ⟨hP, hD⟩ := bJ2e hP hD hk1 hFc hP1 hD1
  have hP : va_P D vwCl ([(oa, .inl (K 1, 1, .inr (.inl fo)))] ++ ([(ob, .inl (K 4, 1, .inr (.inr (.inr (.inl fd)))))] ++ (WX K ad q q1 q2 g r r2 v9 i9))) H := hP
  have hD : va_D A ([(oa, .inl (K 1, 1, .inr (.inl fo)))] ++ ([(ob, .inl (K 4, 1, .inr (.inr (.inr (.inl fd)))))] ++ (WX K ad q q1 q2 g r r2 v9 i9))) := hD
  refine lv_i2l (v := rz.toInt64) hx hb dL_setCapacity_8 rfl ?_
  refine n_last hx hb hK hP hD hS 0 1 rfl rfl (i := 0) (n := 1) (by omega) (by decide) dL_setCapacity_9 (fun H locs hP hD hS => ?_)
  have hP : va_P D vwCl ([(oa, .inl (K 1, 1, .inr (.inl (vp_updL fo 0 rz.toInt64))))] ++ ([(ob, .inl (K 4, 1, .inr (.inr (.inr (.inl fd)))))] ++ (WX K ad q q1 q2 g r r2 v9 i9))) H := hP
  have hD : va_D A ([(oa, .inl (K 1, 1, .inr (.inl (vp_updL fo 0 rz.toInt64))))] ++ ([(ob, .inl (K 4, 1, .inr (.inr (.inr (.inl fd)))))] ++ (WX K ad q q1 q2 g r r2 v9 i9))) := hD
  refine lv_goto (tgt := 21) hx hb dL_setCapacity_10 (by decide) ?_
  refine lv_iconst (v := nI 0) hx hb dL_setCapacity_21 (by decide) ?_
  have hrs : rs_setCapacity v.1 x y = _ := hw.2.2.2
  exact W.iret (v := nI 0) hx hb hr (fun t9 ht9 hW => ⟨⟨nI 0, (v9, i9, vp_updL fo 0 rz.toInt64, fd), rfl, ⟨by rw [hrs], by rw [hrs]; exact Nat.zero_le 3, hw.2.1, hw.2.2.1, fun _ => ⟨(by rw [hrs]; exact (congrArg Int64.toInt (if_pos rfl)).trans (Int32.toInt_toInt64 rz)), hw.1⟩, by rw [hrs]; exact fun h9 => absurd rfl h9⟩, by rw [ht9]; exact hP, va_K.moved hW.alike hK, hD⟩, hS.F ht9⟩) hS.2.2 dL_setCapacity_22
set_option maxHeartbeats 4000000 in
set_option maxRecDepth 100000 in
theorem c_L_count (l : Launch) (hlf : l.stackTraces = false) (D : va_G) (K : Nat → ClassId) (oa ob : Nat) (fo : Nat → Int64) (fd : Nat → UInt64) (ad q q1 q2 g r r2 : Nat → Nat) (v : CV) (i : CI) (x : Int32) (sz : Nat) (hI : IV v) (hJ : II v.1 i) : Met l yL_count (.codeWith yL_count cL_count 4 (some .int) [(0, 9, 12, 15)] :: TB) ({ frames := 8, cells := 1, slots := 6, locals := 171 } : Room) (va_Pc [.ref (ad 0), .int x, .ref oa] (cPL D K (HW K oa ob fo fd ad q q1 q2 g r r2 v i) sz)) (va_Qi (fun (z : Int32) (u : LS9) => z = nI (rs_count v.1 x).1 ∧ (rs_count v.1 x).1 ≤ 3 ∧ IV u.1 ∧ II u.1.1 u.2.1 ∧ ((rs_count v.1 x).1 = 0 → (u.2.2.1 0).toInt = (rs_count v.1 x).2 ∧ u.1 = v) ∧ (¬ (rs_count v.1 x).1 = 0 → u.1 = v)) (fun (u : LS9) t => cB5 D K (va_A (HW K oa ob fo fd ad q q1 q2 g r r2 v i) sz) (HW K oa ob u.2.2.1 u.2.2.2 ad q q1 q2 g r r2 u.1 u.2.1) t) (va_A (HW K oa ob fo fd ad q q1 q2 g r r2 v i) sz)) 1 6 (va_A (HW K oa ob fo fd ad q q1 q2 g r r2 v i) sz) := by
  refine Met.ofWH (cc := cL_count) (maxL := 4) (ret := (some .int)) (hh := [(0, 9, 12, 15)]) (by decide) rfl ?_
  intro p e s m args below meth c s₁ B hml hv
  obtain ⟨rfl, ⟨hsz, hP, hK, hD0⟩, hTX, hCL⟩ := hv
  have hx := B.exec
  have hb := B.bytes
  have hr := B.returns
  have hts := hts_tl (atoms_spec (ws := (.codeWith yL_count cL_count 4 (some .int) [(0, 9, 12, 15)] :: TB)) B.pre)
  have hxt := vx_table (x := yL_count) B (atoms_spec (ws := (.codeWith yL_count cL_count 4 (some .int) [(0, 9, 12, 15)] :: TB)) B.pre _ List.mem_cons_self)
  have hown : s.vm.findClass RL = some m.cls := findClass_of_methodNamed B.named
  have hlocks := B.notSynchronized
  subst hsz
  have hD := hD0.self (sz := s.heap.size)
  generalize hAe : (va_A (HW K oa ob fo fd ad q q1 q2 g r r2 v i) s.heap.size) = A at hD hTX ⊢
  have hA : ∀ q : Nat, s.heap.size ≤ q → A q := fun q h => by rw [← hAe]; exact Or.inr h
  have hS : va_S A s.heap s.heap [] := va_S.rf
  clear hAe hD0
  have hK4 := hK.sub (tys' := TY K) [0, 1, 2, 3] rfl
  have hP : va_P D vwCl ([(oa, .inl (K 1, 1, .inr (.inl fo)))] ++ ([(ob, .inl (K 4, 1, .inr (.inr (.inr (.inl fd)))))] ++ (WX K ad q q1 q2 g r r2 v i))) s.heap := hP
  have hD : va_D A ([(oa, .inl (K 1, 1, .inr (.inl fo)))] ++ ([(ob, .inl (K 4, 1, .inr (.inr (.inr (.inl fd)))))] ++ (WX K ad q q1 q2 g r r2 v i))) := hD
  have hl := lv_entry ([.ref (ad 0), .int x, .ref oa]) (n := 4) (Nat.le_of_ble_eq_true rfl)
  rw [lg_entry_eq]
  generalize (lg_sl ([.ref (ad 0), .int x, .ref oa]) ++ List.replicate (4 - (lg_sl ([.ref (ad 0), .int x, .ref oa])).length) Slot.unset).toArray = ls at hl ⊢
  have hl : lv_has ls 4 [(0, .ref (ad 0)), (1, .int x), (2, .ref oa)] := hl
  refine lv_aload_n hx hb dL_count_0 rfl (lv_at hl 2 rfl) ?_
  refine lv_iconst (v := nI 0) hx hb dL_count_1 (by decide) ?_
  refine lv_aload_n hx hb dL_count_2 rfl (lv_at hl 0 rfl) ?_
  refine lv_iload_n hx hb dL_count_3 rfl (lv_at hl 1 rfl) ?_
  have hPc := bP2e hP
  have hDc := bD2e hD
  have hFc := bF2e hD hS hA
  refine vx_calli (vx_runV (As := [.int x]) (rest := [.int (nI 0), .ref oa]) ⟨hx, hb, hml, hown, hts⟩ (c_X6_count l hlf D K ad q q1 q2 g r r2 v i x s.heap.size hI hJ) (cwV 1 hts (TB_V k_m_L_30 k_im_X6_count k_se_X6_count k_in_X6 k_co_X6_count (fun _ h => h)) rfl rfl rfl (by decide +kernel) ⟨Nat.le_of_ble_eq_true rfl, Nat.le_of_ble_eq_true rfl⟩) ⟨cPT_blind, va_recv hK4 hPc (ci := 6) (q0 := 0) rfl rfl, cPT_of hPc hK4 hDc hTX hS hFc⟩ rfl rfl hl.1 rfl (lv_room (Nat.le_of_ble_eq_true rfl)) dL_count_4 ⟨Nat.le_of_ble_eq_true rfl, Nat.le_of_ble_eq_true rfl⟩) hS (fun q _ h => hFc q h) hFc (fun q _ h => hFc q h) (fun E ce q9 u9 t9 H locs ht9 hal hpx hB hz1 hk1 hS hce hcv hcl => ?_) (fun rz u9 t9 H locs ht9 hal hw hB hz1 hk1 hS => ?_)
  · obtain ⟨v9, i9⟩ := u9
    obtain ⟨hv9, hJ9⟩ := hpx
    have hv9 : v9 = v := hv9
    obtain ⟨hexc, hP1, hK1, hD1⟩ := hB
    rw [ht9] at hP1
    obtain ⟨hP, hD⟩ := bJ2e hP hD hk1 hFc hP1 hD1
    have hJ9 : II v9.1 i9 := hJ9
    dsimp only at hP hD
    rw [hv9] at hP hD hJ9
    have hP : va_P D vwCl ([(oa, .inl (K 1, 1, .inr (.inl fo)))] ++ ([(ob, .inl (K 4, 1, .inr (.inr (.inr (.inl fd)))))] ++ (WX K ad q q1 q2 g r r2 v i9))) H := hP
    have hD : va_D A ([(oa, .inl (K 1, 1, .inr (.inl fo)))] ++ ([(ob, .inl (K 4, 1, .inr (.inr (.inr (.inl fd)))))] ++ (WX K ad q q1 q2 g r r2 v i9))) := hD
    obtain ⟨hk, rfl⟩ := exc1 hexc
    refine vx_catch (own := RL) (name := eIA) (E := eIA) hown [] ⟨0, 9, 12, 15⟩ [] hxt (fun z h => absurd h List.not_mem_nil) (by decide) (by decide) (hts _ k_cl_L_15) (dc_use rfl hCL.1.2.1) hce hcv hcl ?_
    refine lv_astore_n (lv' := [(3, .ref q9), (0, .ref (ad 0)), (1, .int x), (2, .ref oa)]) hx hb dL_count_12 rfl hl (by decide) rfl (fun ls hl => ?_)
    refine lv_iconst (v := nI 1) hx hb dL_count_13 (by decide) ?_
    exact W.iret (v := nI 1) hx hb hr (fun t9 ht9 hW => ⟨⟨nI 1, (v, i9, fo, fd), rfl, ⟨by rw [hk], by rw [hk]; decide, hI, hJ9, fun h9 => absurd (hk.symm.trans h9) (by decide), fun _ => rfl⟩, by rw [ht9]; exact hP, va_K.moved hW.alike hK, hD⟩, hS.F ht9⟩) hS.2.2 dL_count_14
  obtain ⟨v9, i9⟩ := u9
  obtain ⟨hP1, hK1, hD1⟩ := hB
  rw [ht9] at hP1
  obtain ⟨hP, hD⟩ := bJ2e hP hD hk1 hFc hP1 hD1
  have hP : va_P D vwCl ([(oa, .inl (K 1, 1, .inr (.inl fo)))] ++ ([(ob, .inl (K 4, 1, .inr (.inr (.inr (.inl fd)))))] ++ (WX K ad q q1 q2 g r r2 v9 i9))) H := hP
  have hD : va_D A ([(oa, .inl (K 1, 1, .inr (.inl fo)))] ++ ([(ob, .inl (K 4, 1, .inr (.inr (.inr (.inl fd)))))] ++ (WX K ad q q1 q2 g r r2 v9 i9))) := hD
  refine lv_i2l (v := rz.toInt64) hx hb dL_count_7 rfl ?_
  refine n_last hx hb hK hP hD hS 0 1 rfl rfl (i := 0) (n := 1) (by omega) (by decide) dL_count_8 (fun H locs hP hD hS => ?_)
  have hP : va_P D vwCl ([(oa, .inl (K 1, 1, .inr (.inl (vp_updL fo 0 rz.toInt64))))] ++ ([(ob, .inl (K 4, 1, .inr (.inr (.inr (.inl fd)))))] ++ (WX K ad q q1 q2 g r r2 v9 i9))) H := hP
  have hD : va_D A ([(oa, .inl (K 1, 1, .inr (.inl (vp_updL fo 0 rz.toInt64))))] ++ ([(ob, .inl (K 4, 1, .inr (.inr (.inr (.inl fd)))))] ++ (WX K ad q q1 q2 g r r2 v9 i9))) := hD
  refine lv_goto (tgt := 15) hx hb dL_count_9 (by decide) ?_
  refine lv_iconst (v := nI 0) hx hb dL_count_15 (by decide) ?_
  have hrs : rs_count v.1 x = _ := hw.2.2
  exact W.iret (v := nI 0) hx hb hr (fun t9 ht9 hW => ⟨⟨nI 0, (v9, i9, vp_updL fo 0 rz.toInt64, fd), rfl, ⟨by rw [hrs], by rw [hrs]; exact Nat.zero_le 3, (by rw [show v9 = v from hw.1]; exact hI), hw.2.1, fun _ => ⟨(by rw [hrs]; exact (congrArg Int64.toInt (if_pos rfl)).trans (Int32.toInt_toInt64 rz)), hw.1⟩, by rw [hrs]; exact fun h9 => absurd rfl h9⟩, by rw [ht9]; exact hP, va_K.moved hW.alike hK, hD⟩, hS.F ht9⟩) hS.2.2 dL_count_16
set_option maxHeartbeats 4000000 in
set_option maxRecDepth 100000 in
theorem c_L_engage (l : Launch) (hlf : l.stackTraces = false) (D : va_G) (K : Nat → ClassId) (oa ob : Nat) (fo : Nat → Int64) (fd : Nat → UInt64) (ad q q1 q2 g r r2 : Nat → Nat) (v : CV) (i : CI) (x : Int32) (sz : Nat) (hI : IV v) (hJ : II v.1 i) : Met l yL_engage (.codeWith yL_engage cL_engage 4 (some .int) [(0, 16, 19, 13)] :: TB) ({ frames := 8, cells := 1, slots := 6, locals := 171 } : Room) (va_Pc [.ref (ad 0), .int x, .ref oa] (cPL D K (HW K oa ob fo fd ad q q1 q2 g r r2 v i) sz)) (va_Qi (fun (z : Int32) (u : LS9) => z = nI (rs_engage v.1 x).1 ∧ (rs_engage v.1 x).1 ≤ 3 ∧ IV u.1 ∧ II u.1.1 u.2.1 ∧ ((rs_engage v.1 x).1 = 0 → (u.2.2.1 0).toInt = (rs_engage v.1 x).2 ∧ (∃ z1, CHG v (nI (dn v.1 8 2 ||| 2 ^ x.toInt.toNat)) z1 u.1)) ∧ (¬ (rs_engage v.1 x).1 = 0 → u.1 = v)) (fun (u : LS9) t => cB5 D K (va_A (HW K oa ob fo fd ad q q1 q2 g r r2 v i) sz) (HW K oa ob u.2.2.1 u.2.2.2 ad q q1 q2 g r r2 u.1 u.2.1) t) (va_A (HW K oa ob fo fd ad q q1 q2 g r r2 v i) sz)) 1 6 (va_A (HW K oa ob fo fd ad q q1 q2 g r r2 v i) sz) := by
  refine Met.ofWH (cc := cL_engage) (maxL := 4) (ret := (some .int)) (hh := [(0, 16, 19, 13)]) (by decide) rfl ?_
  intro p e s m args below meth c s₁ B hml hv
  obtain ⟨rfl, ⟨hsz, hP, hK, hD0⟩, hTX, hCL⟩ := hv
  have hx := B.exec
  have hb := B.bytes
  have hr := B.returns
  have hts := hts_tl (atoms_spec (ws := (.codeWith yL_engage cL_engage 4 (some .int) [(0, 16, 19, 13)] :: TB)) B.pre)
  have hxt := vx_table (x := yL_engage) B (atoms_spec (ws := (.codeWith yL_engage cL_engage 4 (some .int) [(0, 16, 19, 13)] :: TB)) B.pre _ List.mem_cons_self)
  have hown : s.vm.findClass RL = some m.cls := findClass_of_methodNamed B.named
  have hlocks := B.notSynchronized
  subst hsz
  have hD := hD0.self (sz := s.heap.size)
  generalize hAe : (va_A (HW K oa ob fo fd ad q q1 q2 g r r2 v i) s.heap.size) = A at hD hTX ⊢
  have hA : ∀ q : Nat, s.heap.size ≤ q → A q := fun q h => by rw [← hAe]; exact Or.inr h
  have hS : va_S A s.heap s.heap [] := va_S.rf
  clear hAe hD0
  have hK4 := hK.sub (tys' := TY K) [0, 1, 2, 3] rfl
  have hP : va_P D vwCl ([(oa, .inl (K 1, 1, .inr (.inl fo)))] ++ ([(ob, .inl (K 4, 1, .inr (.inr (.inr (.inl fd)))))] ++ (WX K ad q q1 q2 g r r2 v i))) s.heap := hP
  have hD : va_D A ([(oa, .inl (K 1, 1, .inr (.inl fo)))] ++ ([(ob, .inl (K 4, 1, .inr (.inr (.inr (.inl fd)))))] ++ (WX K ad q q1 q2 g r r2 v i))) := hD
  have hl := lv_entry ([.ref (ad 0), .int x, .ref oa]) (n := 4) (Nat.le_of_ble_eq_true rfl)
  rw [lg_entry_eq]
  generalize (lg_sl ([.ref (ad 0), .int x, .ref oa]) ++ List.replicate (4 - (lg_sl ([.ref (ad 0), .int x, .ref oa])).length) Slot.unset).toArray = ls at hl ⊢
  have hl : lv_has ls 4 [(0, .ref (ad 0)), (1, .int x), (2, .ref oa)] := hl
  refine lv_aload_n hx hb dL_engage_0 rfl (lv_at hl 2 rfl) ?_
  refine lv_iconst (v := nI 0) hx hb dL_engage_1 (by decide) ?_
  refine lv_aload_n hx hb dL_engage_2 rfl (lv_at hl 0 rfl) ?_
  refine lv_iload_n hx hb dL_engage_3 rfl (lv_at hl 1 rfl) ?_
  have hPc := bP2e hP
  have hDc := bD2e hD
  have hFc := bF2e hD hS hA
  refine vx_calli (vx_runV (As := [.int x]) (rest := [.int (nI 0), .ref oa]) ⟨hx, hb, hml, hown, hts⟩ (c_X6_engage l hlf D K ad q q1 q2 g r r2 v i x s.heap.size hI hJ) (cwV 1 hts (TB_V k_m_L_33 k_im_X6_engage k_se_X6_engage k_in_X6 k_co_X6_engage (fun _ h => h)) rfl rfl rfl (by decide +kernel) ⟨Nat.le_of_ble_eq_true rfl, Nat.le_of_ble_eq_true rfl⟩) ⟨cPT_blind, va_recv hK4 hPc (ci := 6) (q0 := 0) rfl rfl, cPT_of hPc hK4 hDc hTX hS hFc⟩ rfl rfl hl.1 rfl (lv_room (Nat.le_of_ble_eq_true rfl)) dL_engage_4 ⟨Nat.le_of_ble_eq_true rfl, Nat.le_of_ble_eq_true rfl⟩) hS (fun q _ h => hFc q h) hFc (fun q _ h => hFc q h) (fun E ce q9 u9 t9 H locs ht9 hal hpx hB hz1 hk1 hS hce hcv hcl => ?_) (fun rz u9 t9 H locs ht9 hal hw hB hz1 hk1 hS => ?_)
  · obtain ⟨v9, i9⟩ := u9
    obtain ⟨hv9, hJ9⟩ := hpx
    have hv9 : v9 = v := hv9
    obtain ⟨hexc, hP1, hK1, hD1⟩ := hB
    rw [ht9] at hP1
    obtain ⟨hP, hD⟩ := bJ2e hP hD hk1 hFc hP1 hD1
    have hJ9 : II v9.1 i9 := hJ9
    dsimp only at hP hD
    rw [hv9] at hP hD hJ9
    have hP : va_P D vwCl ([(oa, .inl (K 1, 1, .inr (.inl fo)))] ++ ([(ob, .inl (K 4, 1, .inr (.inr (.inr (.inl fd)))))] ++ (WX K ad q q1 q2 g r r2 v i9))) H := hP
    have hD : va_D A ([(oa, .inl (K 1, 1, .inr (.inl fo)))] ++ ([(ob, .inl (K 4, 1, .inr (.inr (.inr (.inl fd)))))] ++ (WX K ad q q1 q2 g r r2 v i9))) := hD
    obtain ⟨hk, rfl⟩ := exc1 hexc
    refine vx_catch (own := RL) (name := eIO) (E := eIO) hown [] ⟨0, 16, 19, 13⟩ [] hxt (fun z h => absurd h List.not_mem_nil) (by decide) (by decide) (hts _ k_cl_L_13) (dc_use rfl hCL.1.1) hce hcv hcl ?_
    refine lv_astore_n (lv' := [(3, .ref q9), (0, .ref (ad 0)), (1, .int x), (2, .ref oa)]) hx hb dL_engage_19 rfl hl (by decide) rfl (fun ls hl => ?_)
    refine lv_iconst (v := nI 1) hx hb dL_engage_20 (by decide) ?_
    exact W.iret (v := nI 1) hx hb hr (fun t9 ht9 hW => ⟨⟨nI 1, (v, i9, fo, fd), rfl, ⟨by rw [hk], by rw [hk]; decide, hI, hJ9, fun h9 => absurd (hk.symm.trans h9) (by decide), fun _ => rfl⟩, by rw [ht9]; exact hP, va_K.moved hW.alike hK, hD⟩, hS.F ht9⟩) hS.2.2 dL_engage_21
  obtain ⟨v9, i9⟩ := u9
  obtain ⟨hP1, hK1, hD1⟩ := hB
  rw [ht9] at hP1
  obtain ⟨hP, hD⟩ := bJ2e hP hD hk1 hFc hP1 hD1
  have hP : va_P D vwCl ([(oa, .inl (K 1, 1, .inr (.inl fo)))] ++ ([(ob, .inl (K 4, 1, .inr (.inr (.inr (.inl fd)))))] ++ (WX K ad q q1 q2 g r r2 v9 i9))) H := hP
  have hD : va_D A ([(oa, .inl (K 1, 1, .inr (.inl fo)))] ++ ([(ob, .inl (K 4, 1, .inr (.inr (.inr (.inl fd)))))] ++ (WX K ad q q1 q2 g r r2 v9 i9))) := hD
  refine b_if_eq hx hb rfl dL_engage_7 (tgt := 14) (by decide) (fun c7 => ?_) (fun c7 => ?_)
  · refine lv_lconst (v := 0) hx hb dL_engage_14 (by decide) ?_
    refine n_last hx hb hK hP hD hS 0 1 rfl rfl (i := 0) (n := 1) (by omega) (by decide) dL_engage_15 (fun H locs hP hD hS => ?_)
    have hP : va_P D vwCl ([(oa, .inl (K 1, 1, .inr (.inl (vp_updL fo 0 (0 : Int64)))))] ++ ([(ob, .inl (K 4, 1, .inr (.inr (.inr (.inl fd)))))] ++ (WX K ad q q1 q2 g r r2 v9 i9))) H := hP
    have hD : va_D A ([(oa, .inl (K 1, 1, .inr (.inl (vp_updL fo 0 (0 : Int64)))))] ++ ([(ob, .inl (K 4, 1, .inr (.inr (.inr (.inl fd)))))] ++ (WX K ad q q1 q2 g r r2 v9 i9))) := hD
    refine lv_goto (tgt := 22) hx hb dL_engage_16 (by decide) ?_
    refine lv_iconst (v := nI 0) hx hb dL_engage_22 (by decide) ?_
    have hrs : rs_engage v.1 x = _ := hw.2.2.2
    have hbz : (0 : Int64).toInt = rz.toInt := by
      rw [show (0 : Int64).toInt = 0 by decide]; omega
    exact W.iret (v := nI 0) hx hb hr (fun t9 ht9 hW => ⟨⟨nI 0, (v9, i9, vp_updL fo 0 (0 : Int64), fd), rfl, ⟨by rw [hrs], by rw [hrs]; exact Nat.zero_le 3, hw.2.1, hw.2.2.1, fun _ => ⟨(by rw [hrs]; exact (congrArg Int64.toInt (if_pos rfl)).trans hbz), ⟨_, hw.1⟩⟩, by rw [hrs]; exact fun h9 => absurd rfl h9⟩, by rw [ht9]; exact hP, va_K.moved hW.alike hK, hD⟩, hS.F ht9⟩) hS.2.2 dL_engage_23
  refine lv_lconst (v := 1) hx hb dL_engage_10 (by decide) ?_
  refine lv_goto (tgt := 15) hx hb dL_engage_11 (by decide) ?_
  refine n_last hx hb hK hP hD hS 0 1 rfl rfl (i := 0) (n := 1) (by omega) (by decide) dL_engage_15 (fun H locs hP hD hS => ?_)
  have hP : va_P D vwCl ([(oa, .inl (K 1, 1, .inr (.inl (vp_updL fo 0 (1 : Int64)))))] ++ ([(ob, .inl (K 4, 1, .inr (.inr (.inr (.inl fd)))))] ++ (WX K ad q q1 q2 g r r2 v9 i9))) H := hP
  have hD : va_D A ([(oa, .inl (K 1, 1, .inr (.inl (vp_updL fo 0 (1 : Int64)))))] ++ ([(ob, .inl (K 4, 1, .inr (.inr (.inr (.inl fd)))))] ++ (WX K ad q q1 q2 g r r2 v9 i9))) := hD
  refine lv_goto (tgt := 22) hx hb dL_engage_16 (by decide) ?_
  refine lv_iconst (v := nI 0) hx hb dL_engage_22 (by decide) ?_
  have hrs : rs_engage v.1 x = _ := hw.2.2.2
  have hbz : (1 : Int64).toInt = rz.toInt := by
    rw [show (1 : Int64).toInt = 1 by decide]
    rcases hw.1 with ⟨-, z, -⟩ | ⟨-, z, -⟩
    · rw [z] at c7; exact absurd (nI_toIntI (n := 0) (by decide)) c7
    · rw [z]; exact (nI_toIntI (n := 1) (by decide)).symm
  exact W.iret (v := nI 0) hx hb hr (fun t9 ht9 hW => ⟨⟨nI 0, (v9, i9, vp_updL fo 0 (1 : Int64), fd), rfl, ⟨by rw [hrs], by rw [hrs]; exact Nat.zero_le 3, hw.2.1, hw.2.2.1, fun _ => ⟨(by rw [hrs]; exact (congrArg Int64.toInt (if_pos rfl)).trans hbz), ⟨_, hw.1⟩⟩, by rw [hrs]; exact fun h9 => absurd rfl h9⟩, by rw [ht9]; exact hP, va_K.moved hW.alike hK, hD⟩, hS.F ht9⟩) hS.2.2 dL_engage_23
set_option maxHeartbeats 4000000 in
set_option maxRecDepth 100000 in
theorem c_L_release (l : Launch) (hlf : l.stackTraces = false) (D : va_G) (K : Nat → ClassId) (oa ob : Nat) (fo : Nat → Int64) (fd : Nat → UInt64) (ad q q1 q2 g r r2 : Nat → Nat) (v : CV) (i : CI) (x : Int32) (sz : Nat) (hI : IV v) (hJ : II v.1 i) : Met l yL_release (.codeWith yL_release cL_release 4 (some .int) [(0, 16, 19, 13)] :: TB) ({ frames := 8, cells := 1, slots := 6, locals := 171 } : Room) (va_Pc [.ref (ad 0), .int x, .ref oa] (cPL D K (HW K oa ob fo fd ad q q1 q2 g r r2 v i) sz)) (va_Qi (fun (z : Int32) (u : LS9) => z = nI (rs_release v.1 x).1 ∧ (rs_release v.1 x).1 ≤ 3 ∧ IV u.1 ∧ II u.1.1 u.2.1 ∧ ((rs_release v.1 x).1 = 0 → (u.2.2.1 0).toInt = (rs_release v.1 x).2 ∧ (∃ z1, CHG v (nI (cl1 (dn v.1 8 2) x.toInt.toNat)) z1 u.1)) ∧ (¬ (rs_release v.1 x).1 = 0 → u.1 = v)) (fun (u : LS9) t => cB5 D K (va_A (HW K oa ob fo fd ad q q1 q2 g r r2 v i) sz) (HW K oa ob u.2.2.1 u.2.2.2 ad q q1 q2 g r r2 u.1 u.2.1) t) (va_A (HW K oa ob fo fd ad q q1 q2 g r r2 v i) sz)) 1 6 (va_A (HW K oa ob fo fd ad q q1 q2 g r r2 v i) sz) := by
  refine Met.ofWH (cc := cL_release) (maxL := 4) (ret := (some .int)) (hh := [(0, 16, 19, 13)]) (by decide) rfl ?_
  intro p e s m args below meth c s₁ B hml hv
  obtain ⟨rfl, ⟨hsz, hP, hK, hD0⟩, hTX, hCL⟩ := hv
  have hx := B.exec
  have hb := B.bytes
  have hr := B.returns
  have hts := hts_tl (atoms_spec (ws := (.codeWith yL_release cL_release 4 (some .int) [(0, 16, 19, 13)] :: TB)) B.pre)
  have hxt := vx_table (x := yL_release) B (atoms_spec (ws := (.codeWith yL_release cL_release 4 (some .int) [(0, 16, 19, 13)] :: TB)) B.pre _ List.mem_cons_self)
  have hown : s.vm.findClass RL = some m.cls := findClass_of_methodNamed B.named
  have hlocks := B.notSynchronized
  subst hsz
  have hD := hD0.self (sz := s.heap.size)
  generalize hAe : (va_A (HW K oa ob fo fd ad q q1 q2 g r r2 v i) s.heap.size) = A at hD hTX ⊢
  have hA : ∀ q : Nat, s.heap.size ≤ q → A q := fun q h => by rw [← hAe]; exact Or.inr h
  have hS : va_S A s.heap s.heap [] := va_S.rf
  clear hAe hD0
  have hK4 := hK.sub (tys' := TY K) [0, 1, 2, 3] rfl
  have hP : va_P D vwCl ([(oa, .inl (K 1, 1, .inr (.inl fo)))] ++ ([(ob, .inl (K 4, 1, .inr (.inr (.inr (.inl fd)))))] ++ (WX K ad q q1 q2 g r r2 v i))) s.heap := hP
  have hD : va_D A ([(oa, .inl (K 1, 1, .inr (.inl fo)))] ++ ([(ob, .inl (K 4, 1, .inr (.inr (.inr (.inl fd)))))] ++ (WX K ad q q1 q2 g r r2 v i))) := hD
  have hl := lv_entry ([.ref (ad 0), .int x, .ref oa]) (n := 4) (Nat.le_of_ble_eq_true rfl)
  rw [lg_entry_eq]
  generalize (lg_sl ([.ref (ad 0), .int x, .ref oa]) ++ List.replicate (4 - (lg_sl ([.ref (ad 0), .int x, .ref oa])).length) Slot.unset).toArray = ls at hl ⊢
  have hl : lv_has ls 4 [(0, .ref (ad 0)), (1, .int x), (2, .ref oa)] := hl
  refine lv_aload_n hx hb dL_release_0 rfl (lv_at hl 2 rfl) ?_
  refine lv_iconst (v := nI 0) hx hb dL_release_1 (by decide) ?_
  refine lv_aload_n hx hb dL_release_2 rfl (lv_at hl 0 rfl) ?_
  refine lv_iload_n hx hb dL_release_3 rfl (lv_at hl 1 rfl) ?_
  have hPc := bP2e hP
  have hDc := bD2e hD
  have hFc := bF2e hD hS hA
  refine vx_calli (vx_runV (As := [.int x]) (rest := [.int (nI 0), .ref oa]) ⟨hx, hb, hml, hown, hts⟩ (c_X6_release l hlf D K ad q q1 q2 g r r2 v i x s.heap.size hI hJ) (cwV 1 hts (TB_V k_m_L_37 k_im_X6_release k_se_X6_release k_in_X6 k_co_X6_release (fun _ h => h)) rfl rfl rfl (by decide +kernel) ⟨Nat.le_of_ble_eq_true rfl, Nat.le_of_ble_eq_true rfl⟩) ⟨cPT_blind, va_recv hK4 hPc (ci := 6) (q0 := 0) rfl rfl, cPT_of hPc hK4 hDc hTX hS hFc⟩ rfl rfl hl.1 rfl (lv_room (Nat.le_of_ble_eq_true rfl)) dL_release_4 ⟨Nat.le_of_ble_eq_true rfl, Nat.le_of_ble_eq_true rfl⟩) hS (fun q _ h => hFc q h) hFc (fun q _ h => hFc q h) (fun E ce q9 u9 t9 H locs ht9 hal hpx hB hz1 hk1 hS hce hcv hcl => ?_) (fun rz u9 t9 H locs ht9 hal hw hB hz1 hk1 hS => ?_)
  · obtain ⟨v9, i9⟩ := u9
    obtain ⟨hv9, hJ9⟩ := hpx
    have hv9 : v9 = v := hv9
    obtain ⟨hexc, hP1, hK1, hD1⟩ := hB
    rw [ht9] at hP1
    obtain ⟨hP, hD⟩ := bJ2e hP hD hk1 hFc hP1 hD1
    have hJ9 : II v9.1 i9 := hJ9
    dsimp only at hP hD
    rw [hv9] at hP hD hJ9
    have hP : va_P D vwCl ([(oa, .inl (K 1, 1, .inr (.inl fo)))] ++ ([(ob, .inl (K 4, 1, .inr (.inr (.inr (.inl fd)))))] ++ (WX K ad q q1 q2 g r r2 v i9))) H := hP
    have hD : va_D A ([(oa, .inl (K 1, 1, .inr (.inl fo)))] ++ ([(ob, .inl (K 4, 1, .inr (.inr (.inr (.inl fd)))))] ++ (WX K ad q q1 q2 g r r2 v i9))) := hD
    obtain ⟨hk, rfl⟩ := exc1 hexc
    refine vx_catch (own := RL) (name := eIO) (E := eIO) hown [] ⟨0, 16, 19, 13⟩ [] hxt (fun z h => absurd h List.not_mem_nil) (by decide) (by decide) (hts _ k_cl_L_13) (dc_use rfl hCL.1.1) hce hcv hcl ?_
    refine lv_astore_n (lv' := [(3, .ref q9), (0, .ref (ad 0)), (1, .int x), (2, .ref oa)]) hx hb dL_release_19 rfl hl (by decide) rfl (fun ls hl => ?_)
    refine lv_iconst (v := nI 1) hx hb dL_release_20 (by decide) ?_
    exact W.iret (v := nI 1) hx hb hr (fun t9 ht9 hW => ⟨⟨nI 1, (v, i9, fo, fd), rfl, ⟨by rw [hk], by rw [hk]; decide, hI, hJ9, fun h9 => absurd (hk.symm.trans h9) (by decide), fun _ => rfl⟩, by rw [ht9]; exact hP, va_K.moved hW.alike hK, hD⟩, hS.F ht9⟩) hS.2.2 dL_release_21
  obtain ⟨v9, i9⟩ := u9
  obtain ⟨hP1, hK1, hD1⟩ := hB
  rw [ht9] at hP1
  obtain ⟨hP, hD⟩ := bJ2e hP hD hk1 hFc hP1 hD1
  have hP : va_P D vwCl ([(oa, .inl (K 1, 1, .inr (.inl fo)))] ++ ([(ob, .inl (K 4, 1, .inr (.inr (.inr (.inl fd)))))] ++ (WX K ad q q1 q2 g r r2 v9 i9))) H := hP
  have hD : va_D A ([(oa, .inl (K 1, 1, .inr (.inl fo)))] ++ ([(ob, .inl (K 4, 1, .inr (.inr (.inr (.inl fd)))))] ++ (WX K ad q q1 q2 g r r2 v9 i9))) := hD
  refine b_if_eq hx hb rfl dL_release_7 (tgt := 14) (by decide) (fun c7 => ?_) (fun c7 => ?_)
  · refine lv_lconst (v := 0) hx hb dL_release_14 (by decide) ?_
    refine n_last hx hb hK hP hD hS 0 1 rfl rfl (i := 0) (n := 1) (by omega) (by decide) dL_release_15 (fun H locs hP hD hS => ?_)
    have hP : va_P D vwCl ([(oa, .inl (K 1, 1, .inr (.inl (vp_updL fo 0 (0 : Int64)))))] ++ ([(ob, .inl (K 4, 1, .inr (.inr (.inr (.inl fd)))))] ++ (WX K ad q q1 q2 g r r2 v9 i9))) H := hP
    have hD : va_D A ([(oa, .inl (K 1, 1, .inr (.inl (vp_updL fo 0 (0 : Int64)))))] ++ ([(ob, .inl (K 4, 1, .inr (.inr (.inr (.inl fd)))))] ++ (WX K ad q q1 q2 g r r2 v9 i9))) := hD
    refine lv_goto (tgt := 22) hx hb dL_release_16 (by decide) ?_
    refine lv_iconst (v := nI 0) hx hb dL_release_22 (by decide) ?_
    have hrs : rs_release v.1 x = _ := hw.2.2.2
    have hbz : (0 : Int64).toInt = rz.toInt := by
      rw [show (0 : Int64).toInt = 0 by decide]; omega
    exact W.iret (v := nI 0) hx hb hr (fun t9 ht9 hW => ⟨⟨nI 0, (v9, i9, vp_updL fo 0 (0 : Int64), fd), rfl, ⟨by rw [hrs], by rw [hrs]; exact Nat.zero_le 3, hw.2.1, hw.2.2.1, fun _ => ⟨(by rw [hrs]; exact (congrArg Int64.toInt (if_pos rfl)).trans hbz), ⟨_, hw.1⟩⟩, by rw [hrs]; exact fun h9 => absurd rfl h9⟩, by rw [ht9]; exact hP, va_K.moved hW.alike hK, hD⟩, hS.F ht9⟩) hS.2.2 dL_release_23
  refine lv_lconst (v := 1) hx hb dL_release_10 (by decide) ?_
  refine lv_goto (tgt := 15) hx hb dL_release_11 (by decide) ?_
  refine n_last hx hb hK hP hD hS 0 1 rfl rfl (i := 0) (n := 1) (by omega) (by decide) dL_release_15 (fun H locs hP hD hS => ?_)
  have hP : va_P D vwCl ([(oa, .inl (K 1, 1, .inr (.inl (vp_updL fo 0 (1 : Int64)))))] ++ ([(ob, .inl (K 4, 1, .inr (.inr (.inr (.inl fd)))))] ++ (WX K ad q q1 q2 g r r2 v9 i9))) H := hP
  have hD : va_D A ([(oa, .inl (K 1, 1, .inr (.inl (vp_updL fo 0 (1 : Int64)))))] ++ ([(ob, .inl (K 4, 1, .inr (.inr (.inr (.inl fd)))))] ++ (WX K ad q q1 q2 g r r2 v9 i9))) := hD
  refine lv_goto (tgt := 22) hx hb dL_release_16 (by decide) ?_
  refine lv_iconst (v := nI 0) hx hb dL_release_22 (by decide) ?_
  have hrs : rs_release v.1 x = _ := hw.2.2.2
  have hbz : (1 : Int64).toInt = rz.toInt := by
    rw [show (1 : Int64).toInt = 1 by decide]
    rcases hw.1 with ⟨-, z, -⟩ | ⟨-, z, -⟩
    · rw [z] at c7; exact absurd (nI_toIntI (n := 0) (by decide)) c7
    · rw [z]; exact (nI_toIntI (n := 1) (by decide)).symm
  exact W.iret (v := nI 0) hx hb hr (fun t9 ht9 hW => ⟨⟨nI 0, (v9, i9, vp_updL fo 0 (1 : Int64), fd), rfl, ⟨by rw [hrs], by rw [hrs]; exact Nat.zero_le 3, hw.2.1, hw.2.2.1, fun _ => ⟨(by rw [hrs]; exact (congrArg Int64.toInt (if_pos rfl)).trans hbz), ⟨_, hw.1⟩⟩, by rw [hrs]; exact fun h9 => absurd rfl h9⟩, by rw [ht9]; exact hP, va_K.moved hW.alike hK, hD⟩, hS.F ht9⟩) hS.2.2 dL_release_23
set_option maxHeartbeats 4000000 in
set_option maxRecDepth 100000 in
theorem c_L_select (l : Launch) (hlf : l.stackTraces = false) (D : va_G) (K : Nat → ClassId) (oa ob : Nat) (fo : Nat → Int64) (fd : Nat → UInt64) (ad q q1 q2 g r r2 : Nat → Nat) (v : CV) (i : CI) (x : Int32) (sz : Nat) (hI : IV v) (hJ : II v.1 i) : Met l yL_select (.codeWith yL_select cL_select 4 (some .int) [(0, 9, 12, 15)] :: TB) ({ frames := 8, cells := 1, slots := 6, locals := 172 } : Room) (va_Pc [.ref (ad 0), .int x, .ref oa] (cPL D K (HW K oa ob fo fd ad q q1 q2 g r r2 v i) sz)) (va_Qi (fun (z : Int32) (u : LS9) => z = nI (rs_select v.1 x).1 ∧ (rs_select v.1 x).1 ≤ 3 ∧ IV u.1 ∧ II u.1.1 u.2.1 ∧ ((rs_select v.1 x).1 = 0 → (u.2.2.1 0).toInt = (rs_select v.1 x).2 ∧ (∃ z1, CHG v x z1 u.1)) ∧ (¬ (rs_select v.1 x).1 = 0 → u.1 = v)) (fun (u : LS9) t => cB5 D K (va_A (HW K oa ob fo fd ad q q1 q2 g r r2 v i) sz) (HW K oa ob u.2.2.1 u.2.2.2 ad q q1 q2 g r r2 u.1 u.2.1) t) (va_A (HW K oa ob fo fd ad q q1 q2 g r r2 v i) sz)) 1 6 (va_A (HW K oa ob fo fd ad q q1 q2 g r r2 v i) sz) := by
  refine Met.ofWH (cc := cL_select) (maxL := 4) (ret := (some .int)) (hh := [(0, 9, 12, 15)]) (by decide) rfl ?_
  intro p e s m args below meth c s₁ B hml hv
  obtain ⟨rfl, ⟨hsz, hP, hK, hD0⟩, hTX, hCL⟩ := hv
  have hx := B.exec
  have hb := B.bytes
  have hr := B.returns
  have hts := hts_tl (atoms_spec (ws := (.codeWith yL_select cL_select 4 (some .int) [(0, 9, 12, 15)] :: TB)) B.pre)
  have hxt := vx_table (x := yL_select) B (atoms_spec (ws := (.codeWith yL_select cL_select 4 (some .int) [(0, 9, 12, 15)] :: TB)) B.pre _ List.mem_cons_self)
  have hown : s.vm.findClass RL = some m.cls := findClass_of_methodNamed B.named
  have hlocks := B.notSynchronized
  subst hsz
  have hD := hD0.self (sz := s.heap.size)
  generalize hAe : (va_A (HW K oa ob fo fd ad q q1 q2 g r r2 v i) s.heap.size) = A at hD hTX ⊢
  have hA : ∀ q : Nat, s.heap.size ≤ q → A q := fun q h => by rw [← hAe]; exact Or.inr h
  have hS : va_S A s.heap s.heap [] := va_S.rf
  clear hAe hD0
  have hK4 := hK.sub (tys' := TY K) [0, 1, 2, 3] rfl
  have hP : va_P D vwCl ([(oa, .inl (K 1, 1, .inr (.inl fo)))] ++ ([(ob, .inl (K 4, 1, .inr (.inr (.inr (.inl fd)))))] ++ (WX K ad q q1 q2 g r r2 v i))) s.heap := hP
  have hD : va_D A ([(oa, .inl (K 1, 1, .inr (.inl fo)))] ++ ([(ob, .inl (K 4, 1, .inr (.inr (.inr (.inl fd)))))] ++ (WX K ad q q1 q2 g r r2 v i))) := hD
  have hl := lv_entry ([.ref (ad 0), .int x, .ref oa]) (n := 4) (Nat.le_of_ble_eq_true rfl)
  rw [lg_entry_eq]
  generalize (lg_sl ([.ref (ad 0), .int x, .ref oa]) ++ List.replicate (4 - (lg_sl ([.ref (ad 0), .int x, .ref oa])).length) Slot.unset).toArray = ls at hl ⊢
  have hl : lv_has ls 4 [(0, .ref (ad 0)), (1, .int x), (2, .ref oa)] := hl
  refine lv_aload_n hx hb dL_select_0 rfl (lv_at hl 2 rfl) ?_
  refine lv_iconst (v := nI 0) hx hb dL_select_1 (by decide) ?_
  refine lv_aload_n hx hb dL_select_2 rfl (lv_at hl 0 rfl) ?_
  refine lv_iload_n hx hb dL_select_3 rfl (lv_at hl 1 rfl) ?_
  have hPc := bP2e hP
  have hDc := bD2e hD
  have hFc := bF2e hD hS hA
  refine vx_calli (vx_runV (As := [.int x]) (rest := [.int (nI 0), .ref oa]) ⟨hx, hb, hml, hown, hts⟩ (c_X6_select l hlf D K ad q q1 q2 g r r2 v i x s.heap.size hI hJ) (cwV 1 hts (TB_V k_m_L_40 k_im_X6_select k_se_X6_select k_in_X6 k_co_X6_select (fun _ h => h)) rfl rfl rfl (by decide +kernel) ⟨Nat.le_of_ble_eq_true rfl, Nat.le_of_ble_eq_true rfl⟩) ⟨cPT_blind, va_recv hK4 hPc (ci := 6) (q0 := 0) rfl rfl, cPT_of hPc hK4 hDc hTX hS hFc⟩ rfl rfl hl.1 rfl (lv_room (Nat.le_of_ble_eq_true rfl)) dL_select_4 ⟨Nat.le_of_ble_eq_true rfl, Nat.le_of_ble_eq_true rfl⟩) hS (fun q _ h => hFc q h) hFc (fun q _ h => hFc q h) (fun E ce q9 u9 t9 H locs ht9 hal hpx hB hz1 hk1 hS hce hcv hcl => ?_) (fun rz u9 t9 H locs ht9 hal hw hB hz1 hk1 hS => ?_)
  · obtain ⟨v9, i9⟩ := u9
    obtain ⟨hv9, hJ9⟩ := hpx
    have hv9 : v9 = v := hv9
    obtain ⟨hexc, hP1, hK1, hD1⟩ := hB
    rw [ht9] at hP1
    obtain ⟨hP, hD⟩ := bJ2e hP hD hk1 hFc hP1 hD1
    have hJ9 : II v9.1 i9 := hJ9
    dsimp only at hP hD
    rw [hv9] at hP hD hJ9
    have hP : va_P D vwCl ([(oa, .inl (K 1, 1, .inr (.inl fo)))] ++ ([(ob, .inl (K 4, 1, .inr (.inr (.inr (.inl fd)))))] ++ (WX K ad q q1 q2 g r r2 v i9))) H := hP
    have hD : va_D A ([(oa, .inl (K 1, 1, .inr (.inl fo)))] ++ ([(ob, .inl (K 4, 1, .inr (.inr (.inr (.inl fd)))))] ++ (WX K ad q q1 q2 g r r2 v i9))) := hD
    obtain ⟨hk, rfl⟩ := exc1 hexc
    refine vx_catch (own := RL) (name := eIA) (E := eIA) hown [] ⟨0, 9, 12, 15⟩ [] hxt (fun z h => absurd h List.not_mem_nil) (by decide) (by decide) (hts _ k_cl_L_15) (dc_use rfl hCL.1.2.1) hce hcv hcl ?_
    refine lv_astore_n (lv' := [(3, .ref q9), (0, .ref (ad 0)), (1, .int x), (2, .ref oa)]) hx hb dL_select_12 rfl hl (by decide) rfl (fun ls hl => ?_)
    refine lv_iconst (v := nI 1) hx hb dL_select_13 (by decide) ?_
    exact W.iret (v := nI 1) hx hb hr (fun t9 ht9 hW => ⟨⟨nI 1, (v, i9, fo, fd), rfl, ⟨by rw [hk], by rw [hk]; decide, hI, hJ9, fun h9 => absurd (hk.symm.trans h9) (by decide), fun _ => rfl⟩, by rw [ht9]; exact hP, va_K.moved hW.alike hK, hD⟩, hS.F ht9⟩) hS.2.2 dL_select_14
  obtain ⟨v9, i9⟩ := u9
  obtain ⟨hP1, hK1, hD1⟩ := hB
  rw [ht9] at hP1
  obtain ⟨hP, hD⟩ := bJ2e hP hD hk1 hFc hP1 hD1
  have hP : va_P D vwCl ([(oa, .inl (K 1, 1, .inr (.inl fo)))] ++ ([(ob, .inl (K 4, 1, .inr (.inr (.inr (.inl fd)))))] ++ (WX K ad q q1 q2 g r r2 v9 i9))) H := hP
  have hD : va_D A ([(oa, .inl (K 1, 1, .inr (.inl fo)))] ++ ([(ob, .inl (K 4, 1, .inr (.inr (.inr (.inl fd)))))] ++ (WX K ad q q1 q2 g r r2 v9 i9))) := hD
  refine lv_i2l (v := rz.toInt64) hx hb dL_select_7 rfl ?_
  refine n_last hx hb hK hP hD hS 0 1 rfl rfl (i := 0) (n := 1) (by omega) (by decide) dL_select_8 (fun H locs hP hD hS => ?_)
  have hP : va_P D vwCl ([(oa, .inl (K 1, 1, .inr (.inl (vp_updL fo 0 rz.toInt64))))] ++ ([(ob, .inl (K 4, 1, .inr (.inr (.inr (.inl fd)))))] ++ (WX K ad q q1 q2 g r r2 v9 i9))) H := hP
  have hD : va_D A ([(oa, .inl (K 1, 1, .inr (.inl (vp_updL fo 0 rz.toInt64))))] ++ ([(ob, .inl (K 4, 1, .inr (.inr (.inr (.inl fd)))))] ++ (WX K ad q q1 q2 g r r2 v9 i9))) := hD
  refine lv_goto (tgt := 15) hx hb dL_select_9 (by decide) ?_
  refine lv_iconst (v := nI 0) hx hb dL_select_15 (by decide) ?_
  have hrs : rs_select v.1 x = _ := hw.2.2.2
  exact W.iret (v := nI 0) hx hb hr (fun t9 ht9 hW => ⟨⟨nI 0, (v9, i9, vp_updL fo 0 rz.toInt64, fd), rfl, ⟨by rw [hrs], by rw [hrs]; exact Nat.zero_le 3, hw.2.1, hw.2.2.1, fun _ => ⟨(by rw [hrs]; exact (congrArg Int64.toInt (if_pos rfl)).trans (Int32.toInt_toInt64 rz)), hw.1⟩, by rw [hrs]; exact fun h9 => absurd rfl h9⟩, by rw [ht9]; exact hP, va_K.moved hW.alike hK, hD⟩, hS.F ht9⟩) hS.2.2 dL_select_16
set_option maxHeartbeats 4000000 in
set_option maxRecDepth 100000 in
theorem c_L_speed (l : Launch) (hlf : l.stackTraces = false) (D : va_G) (K : Nat → ClassId) (oa ob : Nat) (fo : Nat → Int64) (fd : Nat → UInt64) (ad q q1 q2 g r r2 : Nat → Nat) (v : CV) (i : CI) (x y : Int32) (sz : Nat) (hI : IV v) (hJ : II v.1 i) : Met l yL_speed (.codeWith yL_speed cL_speed 5 (some .int) [(0, 9, 12, 13), (0, 9, 16, 15), (0, 9, 20, 17)] :: TB) ({ frames := 8, cells := 1, slots := 6, locals := 172 } : Room) (va_Pc [.ref (ad 0), .int x, .int y, .ref oa] (cPL D K (HW K oa ob fo fd ad q q1 q2 g r r2 v i) sz)) (va_Qi (fun (z : Int32) (u : LS9) => z = nI (rs_speed v.1 x y).1 ∧ (rs_speed v.1 x y).1 ≤ 3 ∧ IV u.1 ∧ II u.1.1 u.2.1 ∧ ((rs_speed v.1 x y).1 = 0 → (u.2.2.1 0).toInt = (rs_speed v.1 x y).2 ∧ u.1 = v) ∧ (¬ (rs_speed v.1 x y).1 = 0 → u.1 = v)) (fun (u : LS9) t => cB5 D K (va_A (HW K oa ob fo fd ad q q1 q2 g r r2 v i) sz) (HW K oa ob u.2.2.1 u.2.2.2 ad q q1 q2 g r r2 u.1 u.2.1) t) (va_A (HW K oa ob fo fd ad q q1 q2 g r r2 v i) sz)) 1 6 (va_A (HW K oa ob fo fd ad q q1 q2 g r r2 v i) sz) := by
  refine Met.ofWH (cc := cL_speed) (maxL := 5) (ret := (some .int)) (hh := [(0, 9, 12, 13), (0, 9, 16, 15), (0, 9, 20, 17)]) (by decide) rfl ?_
  intro p e s m args below meth c s₁ B hml hv
  obtain ⟨rfl, ⟨hsz, hP, hK, hD0⟩, hTX, hCL⟩ := hv
  have hx := B.exec
  have hb := B.bytes
  have hr := B.returns
  have hts := hts_tl (atoms_spec (ws := (.codeWith yL_speed cL_speed 5 (some .int) [(0, 9, 12, 13), (0, 9, 16, 15), (0, 9, 20, 17)] :: TB)) B.pre)
  have hxt := vx_table (x := yL_speed) B (atoms_spec (ws := (.codeWith yL_speed cL_speed 5 (some .int) [(0, 9, 12, 13), (0, 9, 16, 15), (0, 9, 20, 17)] :: TB)) B.pre _ List.mem_cons_self)
  have hown : s.vm.findClass RL = some m.cls := findClass_of_methodNamed B.named
  have hlocks := B.notSynchronized
  subst hsz
  have hD := hD0.self (sz := s.heap.size)
  generalize hAe : (va_A (HW K oa ob fo fd ad q q1 q2 g r r2 v i) s.heap.size) = A at hD hTX ⊢
  have hA : ∀ q : Nat, s.heap.size ≤ q → A q := fun q h => by rw [← hAe]; exact Or.inr h
  have hS : va_S A s.heap s.heap [] := va_S.rf
  clear hAe hD0
  have hK4 := hK.sub (tys' := TY K) [0, 1, 2, 3] rfl
  have hP : va_P D vwCl ([(oa, .inl (K 1, 1, .inr (.inl fo)))] ++ ([(ob, .inl (K 4, 1, .inr (.inr (.inr (.inl fd)))))] ++ (WX K ad q q1 q2 g r r2 v i))) s.heap := hP
  have hD : va_D A ([(oa, .inl (K 1, 1, .inr (.inl fo)))] ++ ([(ob, .inl (K 4, 1, .inr (.inr (.inr (.inl fd)))))] ++ (WX K ad q q1 q2 g r r2 v i))) := hD
  have hl := lv_entry ([.ref (ad 0), .int x, .int y, .ref oa]) (n := 5) (Nat.le_of_ble_eq_true rfl)
  rw [lg_entry_eq]
  generalize (lg_sl ([.ref (ad 0), .int x, .int y, .ref oa]) ++ List.replicate (5 - (lg_sl ([.ref (ad 0), .int x, .int y, .ref oa])).length) Slot.unset).toArray = ls at hl ⊢
  have hl : lv_has ls 5 [(0, .ref (ad 0)), (1, .int x), (2, .int y), (3, .ref oa)] := hl
  refine lv_aload_n hx hb dL_speed_0 rfl (lv_at hl 3 rfl) ?_
  refine lv_iconst (v := nI 0) hx hb dL_speed_1 (by decide) ?_
  refine lv_aload_n hx hb dL_speed_2 rfl (lv_at hl 0 rfl) ?_
  refine lv_iload_n hx hb dL_speed_3 rfl (lv_at hl 1 rfl) ?_
  refine lv_iload_n hx hb dL_speed_4 rfl (lv_at hl 2 rfl) ?_
  have hPc := bP2e hP
  have hDc := bD2e hD
  have hFc := bF2e hD hS hA
  refine vx_calll (vx_runV (As := [.int x, .int y]) (rest := [.int (nI 0), .ref oa]) ⟨hx, hb, hml, hown, hts⟩ (c_X6_speed l hlf D K ad q q1 q2 g r r2 v i x y s.heap.size hI hJ) (cwV 2 hts (TB_V k_m_L_43 k_im_X6_speed k_se_X6_speed k_in_X6 k_co_X6_speed (fun _ h => h)) rfl rfl rfl (by decide +kernel) ⟨Nat.le_of_ble_eq_true rfl, Nat.le_of_ble_eq_true rfl⟩) ⟨cPT_blind, va_recv hK4 hPc (ci := 6) (q0 := 0) rfl rfl, cPT_of hPc hK4 hDc hTX hS hFc⟩ rfl rfl hl.1 rfl (lv_room (Nat.le_of_ble_eq_true rfl)) dL_speed_5 ⟨Nat.le_of_ble_eq_true rfl, Nat.le_of_ble_eq_true rfl⟩) hS (fun q _ h => hFc q h) hFc (fun q _ h => hFc q h) (fun E ce q9 u9 t9 H locs ht9 hal hpx hB hz1 hk1 hS hce hcv hcl => ?_) (fun rz u9 t9 H locs ht9 hal hw hB hz1 hk1 hS => ?_)
  · obtain ⟨v9, i9⟩ := u9
    obtain ⟨hv9, hJ9⟩ := hpx
    have hv9 : v9 = v := hv9
    obtain ⟨hexc, hP1, hK1, hD1⟩ := hB
    rw [ht9] at hP1
    obtain ⟨hP, hD⟩ := bJ2e hP hD hk1 hFc hP1 hD1
    have hJ9 : II v9.1 i9 := hJ9
    dsimp only at hP hD
    rw [hv9] at hP hD hJ9
    have hP : va_P D vwCl ([(oa, .inl (K 1, 1, .inr (.inl fo)))] ++ ([(ob, .inl (K 4, 1, .inr (.inr (.inr (.inl fd)))))] ++ (WX K ad q q1 q2 g r r2 v i9))) H := hP
    have hD : va_D A ([(oa, .inl (K 1, 1, .inr (.inl fo)))] ++ ([(ob, .inl (K 4, 1, .inr (.inr (.inr (.inl fd)))))] ++ (WX K ad q q1 q2 g r r2 v i9))) := hD
    rcases exc3 hexc with ⟨hk, rfl⟩ | ⟨hk, rfl⟩ | ⟨hk, rfl⟩
    · refine vx_catch (own := RL) (name := eIO) (E := eIO) hown [] ⟨0, 9, 12, 13⟩ [⟨0, 9, 16, 15⟩, ⟨0, 9, 20, 17⟩] hxt (fun z h => absurd h List.not_mem_nil) (by decide) (by decide) (hts _ k_cl_L_13) (dc_use rfl hCL.1.1) hce hcv hcl ?_
      refine lv_astore (lv' := [(4, .ref q9), (0, .ref (ad 0)), (1, .int x), (2, .int y), (3, .ref oa)]) hx hb dL_speed_12 hl (by decide) rfl (fun ls hl => ?_)
      refine lv_iconst (v := nI 1) hx hb dL_speed_14 (by decide) ?_
      exact W.iret (v := nI 1) hx hb hr (fun t9 ht9 hW => ⟨⟨nI 1, (v, i9, fo, fd), rfl, ⟨by rw [hk], by rw [hk]; decide, hI, hJ9, fun h9 => absurd (hk.symm.trans h9) (by decide), fun _ => rfl⟩, by rw [ht9]; exact hP, va_K.moved hW.alike hK, hD⟩, hS.F ht9⟩) hS.2.2 dL_speed_15
    · refine vx_catch (own := RL) (name := eIA) (E := eIA) hown [⟨0, 9, 12, 13⟩] ⟨0, 9, 16, 15⟩ [⟨0, 9, 20, 17⟩] hxt (List.forall_mem_cons.mpr ⟨Or.inr ⟨by decide, eIO, hts _ k_cl_L_13, hCL.2.1⟩, (fun z h => absurd h List.not_mem_nil)⟩) (by decide) (by decide) (hts _ k_cl_L_15) (dc_use rfl hCL.1.2.1) hce hcv hcl ?_
      refine lv_astore (lv' := [(4, .ref q9), (0, .ref (ad 0)), (1, .int x), (2, .int y), (3, .ref oa)]) hx hb dL_speed_16 hl (by decide) rfl (fun ls hl => ?_)
      refine lv_iconst (v := nI 2) hx hb dL_speed_18 (by decide) ?_
      exact W.iret (v := nI 2) hx hb hr (fun t9 ht9 hW => ⟨⟨nI 2, (v, i9, fo, fd), rfl, ⟨by rw [hk], by rw [hk]; decide, hI, hJ9, fun h9 => absurd (hk.symm.trans h9) (by decide), fun _ => rfl⟩, by rw [ht9]; exact hP, va_K.moved hW.alike hK, hD⟩, hS.F ht9⟩) hS.2.2 dL_speed_19
    · refine vx_catch (own := RL) (name := eIS) (E := eIS) hown [⟨0, 9, 12, 13⟩, ⟨0, 9, 16, 15⟩] ⟨0, 9, 20, 17⟩ [] hxt (List.forall_mem_cons.mpr ⟨Or.inr ⟨by decide, eIO, hts _ k_cl_L_13, hCL.2.2.1⟩, (List.forall_mem_cons.mpr ⟨Or.inr ⟨by decide, eIA, hts _ k_cl_L_15, hCL.2.2.2⟩, (fun z h => absurd h List.not_mem_nil)⟩)⟩) (by decide) (by decide) (hts _ k_cl_L_17) (dc_use rfl hCL.1.2.2) hce hcv hcl ?_
      refine lv_astore (lv' := [(4, .ref q9), (0, .ref (ad 0)), (1, .int x), (2, .int y), (3, .ref oa)]) hx hb dL_speed_20 hl (by decide) rfl (fun ls hl => ?_)
      refine lv_iconst (v := nI 3) hx hb dL_speed_22 (by decide) ?_
      exact W.iret (v := nI 3) hx hb hr (fun t9 ht9 hW => ⟨⟨nI 3, (v, i9, fo, fd), rfl, ⟨by rw [hk], by rw [hk]; decide, hI, hJ9, fun h9 => absurd (hk.symm.trans h9) (by decide), fun _ => rfl⟩, by rw [ht9]; exact hP, va_K.moved hW.alike hK, hD⟩, hS.F ht9⟩) hS.2.2 dL_speed_23
  obtain ⟨v9, i9⟩ := u9
  obtain ⟨hP1, hK1, hD1⟩ := hB
  rw [ht9] at hP1
  obtain ⟨hP, hD⟩ := bJ2e hP hD hk1 hFc hP1 hD1
  have hP : va_P D vwCl ([(oa, .inl (K 1, 1, .inr (.inl fo)))] ++ ([(ob, .inl (K 4, 1, .inr (.inr (.inr (.inl fd)))))] ++ (WX K ad q q1 q2 g r r2 v9 i9))) H := hP
  have hD : va_D A ([(oa, .inl (K 1, 1, .inr (.inl fo)))] ++ ([(ob, .inl (K 4, 1, .inr (.inr (.inr (.inl fd)))))] ++ (WX K ad q q1 q2 g r r2 v9 i9))) := hD
  refine n_last hx hb hK hP hD hS 0 1 rfl rfl (i := 0) (n := 1) (by omega) (by decide) dL_speed_8 (fun H locs hP hD hS => ?_)
  have hP : va_P D vwCl ([(oa, .inl (K 1, 1, .inr (.inl (vp_updL fo 0 rz))))] ++ ([(ob, .inl (K 4, 1, .inr (.inr (.inr (.inl fd)))))] ++ (WX K ad q q1 q2 g r r2 v9 i9))) H := hP
  have hD : va_D A ([(oa, .inl (K 1, 1, .inr (.inl (vp_updL fo 0 rz))))] ++ ([(ob, .inl (K 4, 1, .inr (.inr (.inr (.inl fd)))))] ++ (WX K ad q q1 q2 g r r2 v9 i9))) := hD
  refine lv_goto (tgt := 24) hx hb dL_speed_9 (by decide) ?_
  refine lv_iconst (v := nI 0) hx hb dL_speed_24 (by decide) ?_
  have hrs : rs_speed v.1 x y = _ := hw.2.2
  exact W.iret (v := nI 0) hx hb hr (fun t9 ht9 hW => ⟨⟨nI 0, (v9, i9, vp_updL fo 0 rz, fd), rfl, ⟨by rw [hrs], by rw [hrs]; exact Nat.zero_le 3, (by rw [show v9 = v from hw.1]; exact hI), hw.2.1, fun _ => ⟨(by rw [hrs]; exact congrArg Int64.toInt (show vp_updL fo 0 rz 0 = rz from if_pos rfl)), hw.1⟩, by rw [hrs]; exact fun h9 => absurd rfl h9⟩, by rw [ht9]; exact hP, va_K.moved hW.alike hK, hD⟩, hS.F ht9⟩) hS.2.2 dL_speed_25
set_option maxHeartbeats 4000000 in
set_option maxRecDepth 100000 in
theorem c_L_ratio (l : Launch) (hlf : l.stackTraces = false) (D : va_G) (K : Nat → ClassId) (oa ob : Nat) (fo : Nat → Int64) (fd : Nat → UInt64) (ad q q1 q2 g r r2 : Nat → Nat) (v : CV) (i : CI) (y : Int32) (sz : Nat) (hI : IV v) (hJ : II v.1 i) : Met l yL_ratio (.codeWith yL_ratio cL_ratio 4 (some .int) [(0, 8, 11, 15), (0, 8, 14, 17)] :: TB) ({ frames := 8, cells := 1, slots := 6, locals := 171 } : Room) (va_Pc [.ref (ad 0), .int y, .ref oa] (cPL D K (HW K oa ob fo fd ad q q1 q2 g r r2 v i) sz)) (va_Qi (fun (z : Int32) (u : LS9) => z = nI (rs_ratio v.1 y).1 ∧ (rs_ratio v.1 y).1 ≤ 3 ∧ IV u.1 ∧ II u.1.1 u.2.1 ∧ ((rs_ratio v.1 y).1 = 0 → (u.2.2.1 0).toInt = (rs_ratio v.1 y).2 ∧ u.1 = v) ∧ (¬ (rs_ratio v.1 y).1 = 0 → u.1 = v)) (fun (u : LS9) t => cB5 D K (va_A (HW K oa ob fo fd ad q q1 q2 g r r2 v i) sz) (HW K oa ob u.2.2.1 u.2.2.2 ad q q1 q2 g r r2 u.1 u.2.1) t) (va_A (HW K oa ob fo fd ad q q1 q2 g r r2 v i) sz)) 1 6 (va_A (HW K oa ob fo fd ad q q1 q2 g r r2 v i) sz) := by
  refine Met.ofWH (cc := cL_ratio) (maxL := 4) (ret := (some .int)) (hh := [(0, 8, 11, 15), (0, 8, 14, 17)]) (by decide) rfl ?_
  intro p e s m args below meth c s₁ B hml hv
  obtain ⟨rfl, ⟨hsz, hP, hK, hD0⟩, hTX, hCL⟩ := hv
  have hx := B.exec
  have hb := B.bytes
  have hr := B.returns
  have hts := hts_tl (atoms_spec (ws := (.codeWith yL_ratio cL_ratio 4 (some .int) [(0, 8, 11, 15), (0, 8, 14, 17)] :: TB)) B.pre)
  have hxt := vx_table (x := yL_ratio) B (atoms_spec (ws := (.codeWith yL_ratio cL_ratio 4 (some .int) [(0, 8, 11, 15), (0, 8, 14, 17)] :: TB)) B.pre _ List.mem_cons_self)
  have hown : s.vm.findClass RL = some m.cls := findClass_of_methodNamed B.named
  have hlocks := B.notSynchronized
  subst hsz
  have hD := hD0.self (sz := s.heap.size)
  generalize hAe : (va_A (HW K oa ob fo fd ad q q1 q2 g r r2 v i) s.heap.size) = A at hD hTX ⊢
  have hA : ∀ q : Nat, s.heap.size ≤ q → A q := fun q h => by rw [← hAe]; exact Or.inr h
  have hS : va_S A s.heap s.heap [] := va_S.rf
  clear hAe hD0
  have hK4 := hK.sub (tys' := TY K) [0, 1, 2, 3] rfl
  have hP : va_P D vwCl ([(oa, .inl (K 1, 1, .inr (.inl fo)))] ++ ([(ob, .inl (K 4, 1, .inr (.inr (.inr (.inl fd)))))] ++ (WX K ad q q1 q2 g r r2 v i))) s.heap := hP
  have hD : va_D A ([(oa, .inl (K 1, 1, .inr (.inl fo)))] ++ ([(ob, .inl (K 4, 1, .inr (.inr (.inr (.inl fd)))))] ++ (WX K ad q q1 q2 g r r2 v i))) := hD
  have hl := lv_entry ([.ref (ad 0), .int y, .ref oa]) (n := 4) (Nat.le_of_ble_eq_true rfl)
  rw [lg_entry_eq]
  generalize (lg_sl ([.ref (ad 0), .int y, .ref oa]) ++ List.replicate (4 - (lg_sl ([.ref (ad 0), .int y, .ref oa])).length) Slot.unset).toArray = ls at hl ⊢
  have hl : lv_has ls 4 [(0, .ref (ad 0)), (1, .int y), (2, .ref oa)] := hl
  refine lv_aload_n hx hb dL_ratio_0 rfl (lv_at hl 2 rfl) ?_
  refine lv_iconst (v := nI 0) hx hb dL_ratio_1 (by decide) ?_
  refine lv_aload_n hx hb dL_ratio_2 rfl (lv_at hl 0 rfl) ?_
  refine lv_iload_n hx hb dL_ratio_3 rfl (lv_at hl 1 rfl) ?_
  have hPc := bP2e hP
  have hDc := bD2e hD
  have hFc := bF2e hD hS hA
  refine vx_calll (vx_runV (As := [.int y]) (rest := [.int (nI 0), .ref oa]) ⟨hx, hb, hml, hown, hts⟩ (c_X6_ratio l hlf D K ad q q1 q2 g r r2 v i y s.heap.size hI hJ) (cwV 1 hts (TB_V k_m_L_47 k_im_X6_ratio k_se_X6_ratio k_in_X6 k_co_X6_ratio (fun _ h => h)) rfl rfl rfl (by decide +kernel) ⟨Nat.le_of_ble_eq_true rfl, Nat.le_of_ble_eq_true rfl⟩) ⟨cPT_blind, va_recv hK4 hPc (ci := 6) (q0 := 0) rfl rfl, cPT_of hPc hK4 hDc hTX hS hFc⟩ rfl rfl hl.1 rfl (lv_room (Nat.le_of_ble_eq_true rfl)) dL_ratio_4 ⟨Nat.le_of_ble_eq_true rfl, Nat.le_of_ble_eq_true rfl⟩) hS (fun q _ h => hFc q h) hFc (fun q _ h => hFc q h) (fun E ce q9 u9 t9 H locs ht9 hal hpx hB hz1 hk1 hS hce hcv hcl => ?_) (fun rz u9 t9 H locs ht9 hal hw hB hz1 hk1 hS => ?_)
  · obtain ⟨v9, i9⟩ := u9
    obtain ⟨hv9, hJ9⟩ := hpx
    have hv9 : v9 = v := hv9
    obtain ⟨hexc, hP1, hK1, hD1⟩ := hB
    rw [ht9] at hP1
    obtain ⟨hP, hD⟩ := bJ2e hP hD hk1 hFc hP1 hD1
    have hJ9 : II v9.1 i9 := hJ9
    dsimp only at hP hD
    rw [hv9] at hP hD hJ9
    have hP : va_P D vwCl ([(oa, .inl (K 1, 1, .inr (.inl fo)))] ++ ([(ob, .inl (K 4, 1, .inr (.inr (.inr (.inl fd)))))] ++ (WX K ad q q1 q2 g r r2 v i9))) H := hP
    have hD : va_D A ([(oa, .inl (K 1, 1, .inr (.inl fo)))] ++ ([(ob, .inl (K 4, 1, .inr (.inr (.inr (.inl fd)))))] ++ (WX K ad q q1 q2 g r r2 v i9))) := hD
    rcases exc2 hexc with ⟨hk, rfl⟩ | ⟨hk, rfl⟩
    · refine vx_catch (own := RL) (name := eIA) (E := eIA) hown [] ⟨0, 8, 11, 15⟩ [⟨0, 8, 14, 17⟩] hxt (fun z h => absurd h List.not_mem_nil) (by decide) (by decide) (hts _ k_cl_L_15) (dc_use rfl hCL.1.2.1) hce hcv hcl ?_
      refine lv_astore_n (lv' := [(3, .ref q9), (0, .ref (ad 0)), (1, .int y), (2, .ref oa)]) hx hb dL_ratio_11 rfl hl (by decide) rfl (fun ls hl => ?_)
      refine lv_iconst (v := nI 1) hx hb dL_ratio_12 (by decide) ?_
      exact W.iret (v := nI 1) hx hb hr (fun t9 ht9 hW => ⟨⟨nI 1, (v, i9, fo, fd), rfl, ⟨by rw [hk], by rw [hk]; decide, hI, hJ9, fun h9 => absurd (hk.symm.trans h9) (by decide), fun _ => rfl⟩, by rw [ht9]; exact hP, va_K.moved hW.alike hK, hD⟩, hS.F ht9⟩) hS.2.2 dL_ratio_13
    · refine vx_catch (own := RL) (name := eIS) (E := eIS) hown [⟨0, 8, 11, 15⟩] ⟨0, 8, 14, 17⟩ [] hxt (List.forall_mem_cons.mpr ⟨Or.inr ⟨by decide, eIA, hts _ k_cl_L_15, hCL.2.2.2⟩, (fun z h => absurd h List.not_mem_nil)⟩) (by decide) (by decide) (hts _ k_cl_L_17) (dc_use rfl hCL.1.2.2) hce hcv hcl ?_
      refine lv_astore_n (lv' := [(3, .ref q9), (0, .ref (ad 0)), (1, .int y), (2, .ref oa)]) hx hb dL_ratio_14 rfl hl (by decide) rfl (fun ls hl => ?_)
      refine lv_iconst (v := nI 2) hx hb dL_ratio_15 (by decide) ?_
      exact W.iret (v := nI 2) hx hb hr (fun t9 ht9 hW => ⟨⟨nI 2, (v, i9, fo, fd), rfl, ⟨by rw [hk], by rw [hk]; decide, hI, hJ9, fun h9 => absurd (hk.symm.trans h9) (by decide), fun _ => rfl⟩, by rw [ht9]; exact hP, va_K.moved hW.alike hK, hD⟩, hS.F ht9⟩) hS.2.2 dL_ratio_16
  obtain ⟨v9, i9⟩ := u9
  obtain ⟨hP1, hK1, hD1⟩ := hB
  rw [ht9] at hP1
  obtain ⟨hP, hD⟩ := bJ2e hP hD hk1 hFc hP1 hD1
  have hP : va_P D vwCl ([(oa, .inl (K 1, 1, .inr (.inl fo)))] ++ ([(ob, .inl (K 4, 1, .inr (.inr (.inr (.inl fd)))))] ++ (WX K ad q q1 q2 g r r2 v9 i9))) H := hP
  have hD : va_D A ([(oa, .inl (K 1, 1, .inr (.inl fo)))] ++ ([(ob, .inl (K 4, 1, .inr (.inr (.inr (.inl fd)))))] ++ (WX K ad q q1 q2 g r r2 v9 i9))) := hD
  refine n_last hx hb hK hP hD hS 0 1 rfl rfl (i := 0) (n := 1) (by omega) (by decide) dL_ratio_7 (fun H locs hP hD hS => ?_)
  have hP : va_P D vwCl ([(oa, .inl (K 1, 1, .inr (.inl (vp_updL fo 0 rz))))] ++ ([(ob, .inl (K 4, 1, .inr (.inr (.inr (.inl fd)))))] ++ (WX K ad q q1 q2 g r r2 v9 i9))) H := hP
  have hD : va_D A ([(oa, .inl (K 1, 1, .inr (.inl (vp_updL fo 0 rz))))] ++ ([(ob, .inl (K 4, 1, .inr (.inr (.inr (.inl fd)))))] ++ (WX K ad q q1 q2 g r r2 v9 i9))) := hD
  refine lv_goto (tgt := 17) hx hb dL_ratio_8 (by decide) ?_
  refine lv_iconst (v := nI 0) hx hb dL_ratio_17 (by decide) ?_
  have hrs : rs_ratio v.1 y = _ := hw.2.2
  exact W.iret (v := nI 0) hx hb hr (fun t9 ht9 hW => ⟨⟨nI 0, (v9, i9, vp_updL fo 0 rz, fd), rfl, ⟨by rw [hrs], by rw [hrs]; exact Nat.zero_le 3, (by rw [show v9 = v from hw.1]; exact hI), hw.2.1, fun _ => ⟨(by rw [hrs]; exact congrArg Int64.toInt (show vp_updL fo 0 rz 0 = rz from if_pos rfl)), hw.1⟩, by rw [hrs]; exact fun h9 => absurd rfl h9⟩, by rw [ht9]; exact hP, va_K.moved hW.alike hK, hD⟩, hS.F ht9⟩) hS.2.2 dL_ratio_18
set_option maxHeartbeats 4000000 in
set_option maxRecDepth 100000 in
theorem c_L_ratioAsFloat (l : Launch) (hlf : l.stackTraces = false) (D : va_G) (K : Nat → ClassId) (oa ob : Nat) (fo : Nat → Int64) (fd : Nat → UInt64) (ad q q1 q2 g r r2 : Nat → Nat) (v : CV) (i : CI)  (sz : Nat) (hI : IV v) (hJ : II v.1 i) : Met l yL_ratioAsFloat (.codeWith yL_ratioAsFloat cL_ratioAsFloat 3 (some .int) [(0, 8, 11, 17)] :: TB) ({ frames := 8, cells := 1, slots := 6, locals := 170 } : Room) (va_Pc [.ref (ad 0), .ref ob] (cPL D K (HW K oa ob fo fd ad q q1 q2 g r r2 v i) sz)) (va_Qi (fun (z : Int32) (u : LS9) => z = nI (rs_raf v.1).1 ∧ (rs_raf v.1).1 ≤ 3 ∧ IV u.1 ∧ II u.1.1 u.2.1 ∧ ((rs_raf v.1).1 = 0 → (vf_n32 (rs_raf v.1).2 ∧ u.2.2.2 0 = FP.f2d (rs_raf v.1).2) ∧ u.1 = v) ∧ (¬ (rs_raf v.1).1 = 0 → u.1 = v)) (fun (u : LS9) t => cB5 D K (va_A (HW K oa ob fo fd ad q q1 q2 g r r2 v i) sz) (HW K oa ob u.2.2.1 u.2.2.2 ad q q1 q2 g r r2 u.1 u.2.1) t) (va_A (HW K oa ob fo fd ad q q1 q2 g r r2 v i) sz)) 1 6 (va_A (HW K oa ob fo fd ad q q1 q2 g r r2 v i) sz) := by
  refine Met.ofWH (cc := cL_ratioAsFloat) (maxL := 3) (ret := (some .int)) (hh := [(0, 8, 11, 17)]) (by decide) rfl ?_
  intro p e s m args below meth c s₁ B hml hv
  obtain ⟨rfl, ⟨hsz, hP, hK, hD0⟩, hTX, hCL⟩ := hv
  have hx := B.exec
  have hb := B.bytes
  have hr := B.returns
  have hts := hts_tl (atoms_spec (ws := (.codeWith yL_ratioAsFloat cL_ratioAsFloat 3 (some .int) [(0, 8, 11, 17)] :: TB)) B.pre)
  have hxt := vx_table (x := yL_ratioAsFloat) B (atoms_spec (ws := (.codeWith yL_ratioAsFloat cL_ratioAsFloat 3 (some .int) [(0, 8, 11, 17)] :: TB)) B.pre _ List.mem_cons_self)
  have hown : s.vm.findClass RL = some m.cls := findClass_of_methodNamed B.named
  have hlocks := B.notSynchronized
  subst hsz
  have hD := hD0.self (sz := s.heap.size)
  generalize hAe : (va_A (HW K oa ob fo fd ad q q1 q2 g r r2 v i) s.heap.size) = A at hD hTX ⊢
  have hA : ∀ q : Nat, s.heap.size ≤ q → A q := fun q h => by rw [← hAe]; exact Or.inr h
  have hS : va_S A s.heap s.heap [] := va_S.rf
  clear hAe hD0
  have hK4 := hK.sub (tys' := TY K) [0, 1, 2, 3] rfl
  have hP : va_P D vwCl ([(oa, .inl (K 1, 1, .inr (.inl fo)))] ++ ([(ob, .inl (K 4, 1, .inr (.inr (.inr (.inl fd)))))] ++ (WX K ad q q1 q2 g r r2 v i))) s.heap := hP
  have hD : va_D A ([(oa, .inl (K 1, 1, .inr (.inl fo)))] ++ ([(ob, .inl (K 4, 1, .inr (.inr (.inr (.inl fd)))))] ++ (WX K ad q q1 q2 g r r2 v i))) := hD
  have hl := lv_entry ([.ref (ad 0), .ref ob]) (n := 3) (Nat.le_of_ble_eq_true rfl)
  rw [lg_entry_eq]
  generalize (lg_sl ([.ref (ad 0), .ref ob]) ++ List.replicate (3 - (lg_sl ([.ref (ad 0), .ref ob])).length) Slot.unset).toArray = ls at hl ⊢
  have hl : lv_has ls 3 [(0, .ref (ad 0)), (1, .ref ob)] := hl
  refine lv_aload_n hx hb dL_ratioAsFloat_0 rfl (lv_at hl 1 rfl) ?_
  refine lv_iconst (v := nI 0) hx hb dL_ratioAsFloat_1 (by decide) ?_
  refine lv_aload_n hx hb dL_ratioAsFloat_2 rfl (lv_at hl 0 rfl) ?_
  have hPc := bP2e hP
  have hDc := bD2e hD
  have hFc := bF2e hD hS hA
  refine vx_callf (vx_runV (As := []) (rest := [.int (nI 0), .ref ob]) ⟨hx, hb, hml, hown, hts⟩ (c_X6_ratioAsFloat l hlf D K ad q q1 q2 g r r2 v i  s.heap.size hI hJ) (cwV 0 hts (TB_V k_m_L_51 k_im_X6_ratioAsFloat k_se_X6_ratioAsFloat k_in_X6 k_co_X6_ratioAsFloat (fun _ h => h)) rfl rfl rfl (by decide +kernel) ⟨Nat.le_of_ble_eq_true rfl, Nat.le_of_ble_eq_true rfl⟩) ⟨cPT_blind, va_recv hK4 hPc (ci := 6) (q0 := 0) rfl rfl, cPT_of hPc hK4 hDc hTX hS hFc⟩ rfl rfl hl.1 rfl (lv_room (Nat.le_of_ble_eq_true rfl)) dL_ratioAsFloat_3 ⟨Nat.le_of_ble_eq_true rfl, Nat.le_of_ble_eq_true rfl⟩) hS (fun q _ h => hFc q h) hFc (fun q _ h => hFc q h) (fun E ce q9 u9 t9 H locs ht9 hal hpx hB hz1 hk1 hS hce hcv hcl => ?_) (fun rz u9 t9 H locs ht9 hal hw hB hz1 hk1 hS => ?_)
  · obtain ⟨v9, i9⟩ := u9
    obtain ⟨hv9, hJ9⟩ := hpx
    have hv9 : v9 = v := hv9
    obtain ⟨hexc, hP1, hK1, hD1⟩ := hB
    rw [ht9] at hP1
    obtain ⟨hP, hD⟩ := bJ2e hP hD hk1 hFc hP1 hD1
    have hJ9 : II v9.1 i9 := hJ9
    dsimp only at hP hD
    rw [hv9] at hP hD hJ9
    have hP : va_P D vwCl ([(oa, .inl (K 1, 1, .inr (.inl fo)))] ++ ([(ob, .inl (K 4, 1, .inr (.inr (.inr (.inl fd)))))] ++ (WX K ad q q1 q2 g r r2 v i9))) H := hP
    have hD : va_D A ([(oa, .inl (K 1, 1, .inr (.inl fo)))] ++ ([(ob, .inl (K 4, 1, .inr (.inr (.inr (.inl fd)))))] ++ (WX K ad q q1 q2 g r r2 v i9))) := hD
    obtain ⟨hk, rfl⟩ := exc1 hexc
    refine vx_catch (own := RL) (name := eIS) (E := eIS) hown [] ⟨0, 8, 11, 17⟩ [] hxt (fun z h => absurd h List.not_mem_nil) (by decide) (by decide) (hts _ k_cl_L_17) (dc_use rfl hCL.1.2.2) hce hcv hcl ?_
    refine lv_astore_n (lv' := [(2, .ref q9), (0, .ref (ad 0)), (1, .ref ob)]) hx hb dL_ratioAsFloat_11 rfl hl (by decide) rfl (fun ls hl => ?_)
    refine lv_iconst (v := nI 1) hx hb dL_ratioAsFloat_12 (by decide) ?_
    exact W.iret (v := nI 1) hx hb hr (fun t9 ht9 hW => ⟨⟨nI 1, (v, i9, fo, fd), rfl, ⟨by rw [hk], by rw [hk]; decide, hI, hJ9, fun h9 => absurd (hk.symm.trans h9) (by decide), fun _ => rfl⟩, by rw [ht9]; exact hP, va_K.moved hW.alike hK, hD⟩, hS.F ht9⟩) hS.2.2 dL_ratioAsFloat_13
  obtain ⟨v9, i9⟩ := u9
  obtain ⟨hP1, hK1, hD1⟩ := hB
  rw [ht9] at hP1
  obtain ⟨hP, hD⟩ := bJ2e hP hD hk1 hFc hP1 hD1
  have hP : va_P D vwCl ([(oa, .inl (K 1, 1, .inr (.inl fo)))] ++ ([(ob, .inl (K 4, 1, .inr (.inr (.inr (.inl fd)))))] ++ (WX K ad q q1 q2 g r r2 v9 i9))) H := hP
  have hD : va_D A ([(oa, .inl (K 1, 1, .inr (.inl fo)))] ++ ([(ob, .inl (K 4, 1, .inr (.inr (.inr (.inl fd)))))] ++ (WX K ad q q1 q2 g r r2 v9 i9))) := hD
  refine lv_f2d hx hb dL_ratioAsFloat_6 (f2d_n64 hw.2.2.1) ?_
  refine n_dast hx hb hK hP hD hS 1 4 rfl rfl (i := 0) (n := 1) (by decide) (by decide) dL_ratioAsFloat_7 (fun H locs hP hD hS => ?_)
  have hP : va_P D vwCl ([(oa, .inl (K 1, 1, .inr (.inl fo)))] ++ ([(ob, .inl (K 4, 1, .inr (.inr (.inr (.inl (vf_upd fd 0 (FP.f2d rz)))))))] ++ (WX K ad q q1 q2 g r r2 v9 i9))) H := hP
  have hD : va_D A ([(oa, .inl (K 1, 1, .inr (.inl fo)))] ++ ([(ob, .inl (K 4, 1, .inr (.inr (.inr (.inl (vf_upd fd 0 (FP.f2d rz)))))))] ++ (WX K ad q q1 q2 g r r2 v9 i9))) := hD
  refine lv_goto (tgt := 14) hx hb dL_ratioAsFloat_8 (by decide) ?_
  refine lv_iconst (v := nI 0) hx hb dL_ratioAsFloat_14 (by decide) ?_
  have hrs : rs_raf v.1 = _ := hw.2.2.2
  exact W.iret (v := nI 0) hx hb hr (fun t9 ht9 hW => ⟨⟨nI 0, (v9, i9, fo, vf_upd fd 0 (FP.f2d rz)), rfl, ⟨by rw [hrs], by rw [hrs]; exact Nat.zero_le 3, (by rw [show v9 = v from hw.1]; exact hI), hw.2.1, fun _ => ⟨⟨by rw [hrs]; exact hw.2.2.1, by rw [hrs]; exact (show vf_upd fd 0 (FP.f2d rz) 0 = FP.f2d rz from if_pos rfl)⟩, hw.1⟩, by rw [hrs]; exact fun h9 => absurd rfl h9⟩, by rw [ht9]; exact hP, va_K.moved hW.alike hK, hD⟩, hS.F ht9⟩) hS.2.2 dL_ratioAsFloat_15
set_option maxHeartbeats 4000000 in
set_option maxRecDepth 100000 in
theorem c_L_outputTorque (l : Launch) (hlf : l.stackTraces = false) (D : va_G) (K : Nat → ClassId) (oa ob : Nat) (fo : Nat → Int64) (fd : Nat → UInt64) (ad q q1 q2 g r r2 : Nat → Nat) (v : CV) (i : CI) (y : Int32) (sz : Nat) (hI : IV v) (hJ : II v.1 i) : Met l yL_outputTorque (.codeWith yL_outputTorque cL_outputTorque 4 (some .int) [(0, 8, 11, 15), (0, 8, 14, 17)] :: TB) ({ frames := 8, cells := 1, slots := 6, locals := 171 } : Room) (va_Pc [.ref (ad 0), .int y, .ref oa] (cPL D K (HW K oa ob fo fd ad q q1 q2 g r r2 v i) sz)) (va_Qi (fun (z : Int32) (u : LS9) => z = nI (rs_outputTorque v.1 y).1 ∧ (rs_outputTorque v.1 y).1 ≤ 3 ∧ IV u.1 ∧ II u.1.1 u.2.1 ∧ ((rs_outputTorque v.1 y).1 = 0 → (u.2.2.1 0).toInt = (rs_outputTorque v.1 y).2 ∧ u.1 = v) ∧ (¬ (rs_outputTorque v.1 y).1 = 0 → u.1 = v)) (fun (u : LS9) t => cB5 D K (va_A (HW K oa ob fo fd ad q q1 q2 g r r2 v i) sz) (HW K oa ob u.2.2.1 u.2.2.2 ad q q1 q2 g r r2 u.1 u.2.1) t) (va_A (HW K oa ob fo fd ad q q1 q2 g r r2 v i) sz)) 1 6 (va_A (HW K oa ob fo fd ad q q1 q2 g r r2 v i) sz) := by
  refine Met.ofWH (cc := cL_outputTorque) (maxL := 4) (ret := (some .int)) (hh := [(0, 8, 11, 15), (0, 8, 14, 17)]) (by decide) rfl ?_
  intro p e s m args below meth c s₁ B hml hv
  obtain ⟨rfl, ⟨hsz, hP, hK, hD0⟩, hTX, hCL⟩ := hv
  have hx := B.exec
  have hb := B.bytes
  have hr := B.returns
  have hts := hts_tl (atoms_spec (ws := (.codeWith yL_outputTorque cL_outputTorque 4 (some .int) [(0, 8, 11, 15), (0, 8, 14, 17)] :: TB)) B.pre)
  have hxt := vx_table (x := yL_outputTorque) B (atoms_spec (ws := (.codeWith yL_outputTorque cL_outputTorque 4 (some .int) [(0, 8, 11, 15), (0, 8, 14, 17)] :: TB)) B.pre _ List.mem_cons_self)
  have hown : s.vm.findClass RL = some m.cls := findClass_of_methodNamed B.named
  have hlocks := B.notSynchronized
  subst hsz
  have hD := hD0.self (sz := s.heap.size)
  generalize hAe : (va_A (HW K oa ob fo fd ad q q1 q2 g r r2 v i) s.heap.size) = A at hD hTX ⊢
  have hA : ∀ q : Nat, s.heap.size ≤ q → A q := fun q h => by rw [← hAe]; exact Or.inr h
  have hS : va_S A s.heap s.heap [] := va_S.rf
  clear hAe hD0
  have hK4 := hK.sub (tys' := TY K) [0, 1, 2, 3] rfl
  have hP : va_P D vwCl ([(oa, .inl (K 1, 1, .inr (.inl fo)))] ++ ([(ob, .inl (K 4, 1, .inr (.inr (.inr (.inl fd)))))] ++ (WX K ad q q1 q2 g r r2 v i))) s.heap := hP
  have hD : va_D A ([(oa, .inl (K 1, 1, .inr (.inl fo)))] ++ ([(ob, .inl (K 4, 1, .inr (.inr (.inr (.inl fd)))))] ++ (WX K ad q q1 q2 g r r2 v i))) := hD
  have hl := lv_entry ([.ref (ad 0), .int y, .ref oa]) (n := 4) (Nat.le_of_ble_eq_true rfl)
  rw [lg_entry_eq]
  generalize (lg_sl ([.ref (ad 0), .int y, .ref oa]) ++ List.replicate (4 - (lg_sl ([.ref (ad 0), .int y, .ref oa])).length) Slot.unset).toArray = ls at hl ⊢
  have hl : lv_has ls 4 [(0, .ref (ad 0)), (1, .int y), (2, .ref oa)] := hl
  refine lv_aload_n hx hb dL_outputTorque_0 rfl (lv_at hl 2 rfl) ?_
  refine lv_iconst (v := nI 0) hx hb dL_outputTorque_1 (by decide) ?_
  refine lv_aload_n hx hb dL_outputTorque_2 rfl (lv_at hl 0 rfl) ?_
  refine lv_iload_n hx hb dL_outputTorque_3 rfl (lv_at hl 1 rfl) ?_
  have hPc := bP2e hP
  have hDc := bD2e hD
  have hFc := bF2e hD hS hA
  refine vx_calll (vx_runV (As := [.int y]) (rest := [.int (nI 0), .ref oa]) ⟨hx, hb, hml, hown, hts⟩ (c_X6_outputTorque l hlf D K ad q q1 q2 g r r2 v i y s.heap.size hI hJ) (cwV 1 hts (TB_V k_m_L_55 k_im_X6_outputTorque k_se_X6_outputTorque k_in_X6 k_co_X6_outputTorque (fun _ h => h)) rfl rfl rfl (by decide +kernel) ⟨Nat.le_of_ble_eq_true rfl, Nat.le_of_ble_eq_true rfl⟩) ⟨cPT_blind, va_recv hK4 hPc (ci := 6) (q0 := 0) rfl rfl, cPT_of hPc hK4 hDc hTX hS hFc⟩ rfl rfl hl.1 rfl (lv_room (Nat.le_of_ble_eq_true rfl)) dL_outputTorque_4 ⟨Nat.le_of_ble_eq_true rfl, Nat.le_of_ble_eq_true rfl⟩) hS (fun q _ h => hFc q h) hFc (fun q _ h => hFc q h) (fun E ce q9 u9 t9 H locs ht9 hal hpx hB hz1 hk1 hS hce hcv hcl => ?_) (fun rz u9 t9 H locs ht9 hal hw hB hz1 hk1 hS => ?_)
  · obtain ⟨v9, i9⟩ := u9
    obtain ⟨hv9, hJ9⟩ := hpx
    have hv9 : v9 = v := hv9
    obtain ⟨hexc, hP1, hK1, hD1⟩ := hB
    rw [ht9] at hP1
    obtain ⟨hP, hD⟩ := bJ2e hP hD hk1 hFc hP1 hD1
    have hJ9 : II v9.1 i9 := hJ9
    dsimp only at hP hD
    rw [hv9] at hP hD hJ9
    have hP : va_P D vwCl ([(oa, .inl (K 1, 1, .inr (.inl fo)))] ++ ([(ob, .inl (K 4, 1, .inr (.inr (.inr (.inl fd)))))] ++ (WX K ad q q1 q2 g r r2 v i9))) H := hP
    have hD : va_D A ([(oa, .inl (K 1, 1, .inr (.inl fo)))] ++ ([(ob, .inl (K 4, 1, .inr (.inr (.inr (.inl fd)))))] ++ (WX K ad q q1 q2 g r r2 v i9))) := hD
    rcases exc2 hexc with ⟨hk, rfl⟩ | ⟨hk, rfl⟩
    · refine vx_catch (own := RL) (name := eIA) (E := eIA) hown [] ⟨0, 8, 11, 15⟩ [⟨0, 8, 14, 17⟩] hxt (fun z h => absurd h List.not_mem_nil) (by decide) (by decide) (hts _ k_cl_L_15) (dc_use rfl hCL.1.2.1) hce hcv hcl ?_
      refine lv_astore_n (lv' := [(3, .ref q9), (0, .ref (ad 0)), (1, .int y), (2, .ref oa)]) hx hb dL_outputTorque_11 rfl hl (by decide) rfl (fun ls hl => ?_)
      refine lv_iconst (v := nI 1) hx hb dL_outputTorque_12 (by decide) ?_
      exact W.iret (v := nI 1) hx hb hr (fun t9 ht9 hW => ⟨⟨nI 1, (v, i9, fo, fd), rfl, ⟨by rw [hk], by rw [hk]; decide, hI, hJ9, fun h9 => absurd (hk.symm.trans h9) (by decide), fun _ => rfl⟩, by rw [ht9]; exact hP, va_K.moved hW.alike hK, hD⟩, hS.F ht9⟩) hS.2.2 dL_outputTorque_13
    · refine vx_catch (own := RL) (name := eIS) (E := eIS) hown [⟨0, 8, 11, 15⟩] ⟨0, 8, 14, 17⟩ [] hxt (List.forall_mem_cons.mpr ⟨Or.inr ⟨by decide, eIA, hts _ k_cl_L_15, hCL.2.2.2⟩, (fun z h => absurd h List.not_mem_nil)⟩) (by decide) (by decide) (hts _ k_cl_L_17) (dc_use rfl hCL.1.2.2) hce hcv hcl ?_
      refine lv_astore_n (lv' := [(3, .ref q9), (0, .ref (ad 0)), (1, .int y), (2, .ref oa)]) hx hb dL_outputTorque_14 rfl hl (by decide) rfl (fun ls hl => ?_)
      refine lv_iconst (v := nI 2) hx hb dL_outputTorque_15 (by decide) ?_
      exact W.iret (v := nI 2) hx hb hr (fun t9 ht9 hW => ⟨⟨nI 2, (v, i9, fo, fd), rfl, ⟨by rw [hk], by rw [hk]; decide, hI, hJ9, fun h9 => absurd (hk.symm.trans h9) (by decide), fun _ => rfl⟩, by rw [ht9]; exact hP, va_K.moved hW.alike hK, hD⟩, hS.F ht9⟩) hS.2.2 dL_outputTorque_16
  obtain ⟨v9, i9⟩ := u9
  obtain ⟨hP1, hK1, hD1⟩ := hB
  rw [ht9] at hP1
  obtain ⟨hP, hD⟩ := bJ2e hP hD hk1 hFc hP1 hD1
  have hP : va_P D vwCl ([(oa, .inl (K 1, 1, .inr (.inl fo)))] ++ ([(ob, .inl (K 4, 1, .inr (.inr (.inr (.inl fd)))))] ++ (WX K ad q q1 q2 g r r2 v9 i9))) H := hP
  have hD : va_D A ([(oa, .inl (K 1, 1, .inr (.inl fo)))] ++ ([(ob, .inl (K 4, 1, .inr (.inr (.inr (.inl fd)))))] ++ (WX K ad q q1 q2 g r r2 v9 i9))) := hD
  refine n_last hx hb hK hP hD hS 0 1 rfl rfl (i := 0) (n := 1) (by omega) (by decide) dL_outputTorque_7 (fun H locs hP hD hS => ?_)
  have hP : va_P D vwCl ([(oa, .inl (K 1, 1, .inr (.inl (vp_updL fo 0 rz))))] ++ ([(ob, .inl (K 4, 1, .inr (.inr (.inr (.inl fd)))))] ++ (WX K ad q q1 q2 g r r2 v9 i9))) H := hP
  have hD : va_D A ([(oa, .inl (K 1, 1, .inr (.inl (vp_updL fo 0 rz))))] ++ ([(ob, .inl (K 4, 1, .inr (.inr (.inr (.inl fd)))))] ++ (WX K ad q q1 q2 g r r2 v9 i9))) := hD
  refine lv_goto (tgt := 17) hx hb dL_outputTorque_8 (by decide) ?_
  refine lv_iconst (v := nI 0) hx hb dL_outputTorque_17 (by decide) ?_
  have hrs : rs_outputTorque v.1 y = _ := hw.2.2
  exact W.iret (v := nI 0) hx hb hr (fun t9 ht9 hW => ⟨⟨nI 0, (v9, i9, vp_updL fo 0 rz, fd), rfl, ⟨by rw [hrs], by rw [hrs]; exact Nat.zero_le 3, (by rw [show v9 = v from hw.1]; exact hI), hw.2.1, fun _ => ⟨(by rw [hrs]; exact congrArg Int64.toInt (show vp_updL fo 0 rz 0 = rz from if_pos rfl)), hw.1⟩, by rw [hrs]; exact fun h9 => absurd rfl h9⟩, by rw [ht9]; exact hP, va_K.moved hW.alike hK, hD⟩, hS.F ht9⟩) hS.2.2 dL_outputTorque_18
set_option maxHeartbeats 4000000 in
set_option maxRecDepth 100000 in
theorem c_L_torque (l : Launch) (hlf : l.stackTraces = false) (D : va_G) (K : Nat → ClassId) (oa ob : Nat) (fo : Nat → Int64) (fd : Nat → UInt64) (ad q q1 q2 g r r2 : Nat → Nat) (v : CV) (i : CI) (x y : Int32) (sz : Nat) (hI : IV v) (hJ : II v.1 i) : Met l yL_torque (.codeWith yL_torque cL_torque 5 (some .int) [(0, 9, 12, 13), (0, 9, 16, 15), (0, 9, 20, 17)] :: TB) ({ frames := 8, cells := 1, slots := 6, locals := 172 } : Room) (va_Pc [.ref (ad 0), .int x, .int y, .ref oa] (cPL D K (HW K oa ob fo fd ad q q1 q2 g r r2 v i) sz)) (va_Qi (fun (z : Int32) (u : LS9) => z = nI (rs_torque v.1 x y).1 ∧ (rs_torque v.1 x y).1 ≤ 3 ∧ IV u.1 ∧ II u.1.1 u.2.1 ∧ ((rs_torque v.1 x y).1 = 0 → (u.2.2.1 0).toInt = (rs_torque v.1 x y).2 ∧ u.1 = v) ∧ (¬ (rs_torque v.1 x y).1 = 0 → u.1 = v)) (fun (u : LS9) t => cB5 D K (va_A (HW K oa ob fo fd ad q q1 q2 g r r2 v i) sz) (HW K oa ob u.2.2.1 u.2.2.2 ad q q1 q2 g r r2 u.1 u.2.1) t) (va_A (HW K oa ob fo fd ad q q1 q2 g r r2 v i) sz)) 1 6 (va_A (HW K oa ob fo fd ad q q1 q2 g r r2 v i) sz) := by
  refine Met.ofWH (cc := cL_torque) (maxL := 5) (ret := (some .int)) (hh := [(0, 9, 12, 13), (0, 9, 16, 15), (0, 9, 20, 17)]) (by decide) rfl ?_
  intro p e s m args below meth c s₁ B hml hv
  obtain ⟨rfl, ⟨hsz, hP, hK, hD0⟩, hTX, hCL⟩ := hv
  have hx := B.exec
  have hb := B.bytes
  have hr := B.returns
  have hts := hts_tl (atoms_spec (ws := (.codeWith yL_torque cL_torque 5 (some .int) [(0, 9, 12, 13), (0, 9, 16, 15), (0, 9, 20, 17)] :: TB)) B.pre)
  have hxt := vx_table (x := yL_torque) B (atoms_spec (ws := (.codeWith yL_torque cL_torque 5 (some .int) [(0, 9, 12, 13), (0, 9, 16, 15), (0, 9, 20, 17)] :: TB)) B.pre _ List.mem_cons_self)
  have hown : s.vm.findClass RL = some m.cls := findClass_of_methodNamed B.named
  have hlocks := B.notSynchronized
  subst hsz
  have hD := hD0.self (sz := s.heap.size)
  generalize hAe : (va_A (HW K oa ob fo fd ad q q1 q2 g r r2 v i) s.heap.size) = A at hD hTX ⊢
  have hA : ∀ q : Nat, s.heap.size ≤ q → A q := fun q h => by rw [← hAe]; exact Or.inr h
  have hS : va_S A s.heap s.heap [] := va_S.rf
  clear hAe hD0
  have hK4 := hK.sub (tys' := TY K) [0, 1, 2, 3] rfl
  have hP : va_P D vwCl ([(oa, .inl (K 1, 1, .inr (.inl fo)))] ++ ([(ob, .inl (K 4, 1, .inr (.inr (.inr (.inl fd)))))] ++ (WX K ad q q1 q2 g r r2 v i))) s.heap := hP
  have hD : va_D A ([(oa, .inl (K 1, 1, .inr (.inl fo)))] ++ ([(ob, .inl (K 4, 1, .inr (.inr (.inr (.inl fd)))))] ++ (WX K ad q q1 q2 g r r2 v i))) := hD
  have hl := lv_entry ([.ref (ad 0), .int x, .int y, .ref oa]) (n := 5) (Nat.le_of_ble_eq_true rfl)
  rw [lg_entry_eq]
  generalize (lg_sl ([.ref (ad 0), .int x, .int y, .ref oa]) ++ List.replicate (5 - (lg_sl ([.ref (ad 0), .int x, .int y, .ref oa])).length) Slot.unset).toArray = ls at hl ⊢
  have hl : lv_has ls 5 [(0, .ref (ad 0)), (1, .int x), (2, .int y), (3, .ref oa)] := hl
  refine lv_aload_n hx hb dL_torque_0 rfl (lv_at hl 3 rfl) ?_
  refine lv_iconst (v := nI 0) hx hb dL_torque_1 (by decide) ?_
  refine lv_aload_n hx hb dL_torque_2 rfl (lv_at hl 0 rfl) ?_
  refine lv_iload_n hx hb dL_torque_3 rfl (lv_at hl 1 rfl) ?_
  refine lv_iload_n hx hb dL_torque_4 rfl (lv_at hl 2 rfl) ?_
  have hPc := bP2e hP
  have hDc := bD2e hD
  have hFc := bF2e hD hS hA
  refine vx_calll (vx_runV (As := [.int x, .int y]) (rest := [.int (nI 0), .ref oa]) ⟨hx, hb, hml, hown, hts⟩ (c_X6_torque l hlf D K ad q q1 q2 g r r2 v i x y s.heap.size hI hJ) (cwV 2 hts (TB_V k_m_L_58 k_im_X6_torque k_se_X6_torque k_in_X6 k_co_X6_torque (fun _ h => h)) rfl rfl rfl (by decide +kernel) ⟨Nat.le_of_ble_eq_true rfl, Nat.le_of_ble_eq_true rfl⟩) ⟨cPT_blind, va_recv hK4 hPc (ci := 6) (q0 := 0) rfl rfl, cPT_of hPc hK4 hDc hTX hS hFc⟩ rfl rfl hl.1 rfl (lv_room (Nat.le_of_ble_eq_true rfl)) dL_torque_5 ⟨Nat.le_of_ble_eq_true rfl, Nat.le_of_ble_eq_true rfl⟩) hS (fun q _ h => hFc q h) hFc (fun q _ h => hFc q h) (fun E ce q9 u9 t9 H locs ht9 hal hpx hB hz1 hk1 hS hce hcv hcl => ?_) (fun rz u9 t9 H locs ht9 hal hw hB hz1 hk1 hS => ?_)
  · obtain ⟨v9, i9⟩ := u9
    obtain ⟨hv9, hJ9⟩ := hpx
    have hv9 : v9 = v := hv9
    obtain ⟨hexc, hP1, hK1, hD1⟩ := hB
    rw [ht9] at hP1
    obtain ⟨hP, hD⟩ := bJ2e hP hD hk1 hFc hP1 hD1
    have hJ9 : II v9.1 i9 := hJ9
    dsimp only at hP hD
    rw [hv9] at hP hD hJ9
    have hP : va_P D vwCl ([(oa, .inl (K 1, 1, .inr (.inl fo)))] ++ ([(ob, .inl (K 4, 1, .inr (.inr (.inr (.inl fd)))))] ++ (WX K ad q q1 q2 g r r2 v i9))) H := hP
    have hD : va_D A ([(oa, .inl (K 1, 1, .inr (.inl fo)))] ++ ([(ob, .inl (K 4, 1, .inr (.inr (.inr (.inl fd)))))] ++ (WX K ad q q1 q2 g r r2 v i9))) := hD
    rcases exc3 hexc with ⟨hk, rfl⟩ | ⟨hk, rfl⟩ | ⟨hk, rfl⟩
    · refine vx_catch (own := RL) (name := eIO) (E := eIO) hown [] ⟨0, 9, 12, 13⟩ [⟨0, 9, 16, 15⟩, ⟨0, 9, 20, 17⟩] hxt (fun z h => absurd h List.not_mem_nil) (by decide) (by decide) (hts _ k_cl_L_13) (dc_use rfl hCL.1.1) hce hcv hcl ?_
      refine lv_astore (lv' := [(4, .ref q9), (0, .ref (ad 0)), (1, .int x), (2, .int y), (3, .ref oa)]) hx hb dL_torque_12 hl (by decide) rfl (fun ls hl => ?_)
      refine lv_iconst (v := nI 1) hx hb dL_torque_14 (by decide) ?_
      exact W.iret (v := nI 1) hx hb hr (fun t9 ht9 hW => ⟨⟨nI 1, (v, i9, fo, fd), rfl, ⟨by rw [hk], by rw [hk]; decide, hI, hJ9, fun h9 => absurd (hk.symm.trans h9) (by decide), fun _ => rfl⟩, by rw [ht9]; exact hP, va_K.moved hW.alike hK, hD⟩, hS.F ht9⟩) hS.2.2 dL_torque_15
    · refine vx_catch (own := RL) (name := eIA) (E := eIA) hown [⟨0, 9, 12, 13⟩] ⟨0, 9, 16, 15⟩ [⟨0, 9, 20, 17⟩] hxt (List.forall_mem_cons.mpr ⟨Or.inr ⟨by decide, eIO, hts _ k_cl_L_13, hCL.2.1⟩, (fun z h => absurd h List.not_mem_nil)⟩) (by decide) (by decide) (hts _ k_cl_L_15) (dc_use rfl hCL.1.2.1) hce hcv hcl ?_
      refine lv_astore (lv' := [(4, .ref q9), (0, .ref (ad 0)), (1, .int x), (2, .int y), (3, .ref oa)]) hx hb dL_torque_16 hl (by decide) rfl (fun ls hl => ?_)
      refine lv_iconst (v := nI 2) hx hb dL_torque_18 (by decide) ?_
      exact W.iret (v := nI 2) hx hb hr (fun t9 ht9 hW => ⟨⟨nI 2, (v, i9, fo, fd), rfl, ⟨by rw [hk], by rw [hk]; decide, hI, hJ9, fun h9 => absurd (hk.symm.trans h9) (by decide), fun _ => rfl⟩, by rw [ht9]; exact hP, va_K.moved hW.alike hK, hD⟩, hS.F ht9⟩) hS.2.2 dL_torque_19
    · refine vx_catch (own := RL) (name := eIS) (E := eIS) hown [⟨0, 9, 12, 13⟩, ⟨0, 9, 16, 15⟩] ⟨0, 9, 20, 17⟩ [] hxt (List.forall_mem_cons.mpr ⟨Or.inr ⟨by decide, eIO, hts _ k_cl_L_13, hCL.2.2.1⟩, (List.forall_mem_cons.mpr ⟨Or.inr ⟨by decide, eIA, hts _ k_cl_L_15, hCL.2.2.2⟩, (fun z h => absurd h List.not_mem_nil)⟩)⟩) (by decide) (by decide) (hts _ k_cl_L_17) (dc_use rfl hCL.1.2.2) hce hcv hcl ?_
      refine lv_astore (lv' := [(4, .ref q9), (0, .ref (ad 0)), (1, .int x), (2, .int y), (3, .ref oa)]) hx hb dL_torque_20 hl (by decide) rfl (fun ls hl => ?_)
      refine lv_iconst (v := nI 3) hx hb dL_torque_22 (by decide) ?_
      exact W.iret (v := nI 3) hx hb hr (fun t9 ht9 hW => ⟨⟨nI 3, (v, i9, fo, fd), rfl, ⟨by rw [hk], by rw [hk]; decide, hI, hJ9, fun h9 => absurd (hk.symm.trans h9) (by decide), fun _ => rfl⟩, by rw [ht9]; exact hP, va_K.moved hW.alike hK, hD⟩, hS.F ht9⟩) hS.2.2 dL_torque_23
  obtain ⟨v9, i9⟩ := u9
  obtain ⟨hP1, hK1, hD1⟩ := hB
  rw [ht9] at hP1
  obtain ⟨hP, hD⟩ := bJ2e hP hD hk1 hFc hP1 hD1
  have hP : va_P D vwCl ([(oa, .inl (K 1, 1, .inr (.inl fo)))] ++ ([(ob, .inl (K 4, 1, .inr (.inr (.inr (.inl fd)))))] ++ (WX K ad q q1 q2 g r r2 v9 i9))) H := hP
  have hD : va_D A ([(oa, .inl (K 1, 1, .inr (.inl fo)))] ++ ([(ob, .inl (K 4, 1, .inr (.inr (.inr (.inl fd)))))] ++ (WX K ad q q1 q2 g r r2 v9 i9))) := hD
  refine n_last hx hb hK hP hD hS 0 1 rfl rfl (i := 0) (n := 1) (by omega) (by decide) dL_torque_8 (fun H locs hP hD hS => ?_)
  have hP : va_P D vwCl ([(oa, .inl (K 1, 1, .inr (.inl (vp_updL fo 0 rz))))] ++ ([(ob, .inl (K 4, 1, .inr (.inr (.inr (.inl fd)))))] ++ (WX K ad q q1 q2 g r r2 v9 i9))) H := hP
  have hD : va_D A ([(oa, .inl (K 1, 1, .inr (.inl (vp_updL fo 0 rz))))] ++ ([(ob, .inl (K 4, 1, .inr (.inr (.inr (.inl fd)))))] ++ (WX K ad q q1 q2 g r r2 v9 i9))) := hD
  refine lv_goto (tgt := 24) hx hb dL_torque_9 (by decide) ?_
  refine lv_iconst (v := nI 0) hx hb dL_torque_24 (by decide) ?_
  have hrs : rs_torque v.1 x y = _ := hw.2.2
  exact W.iret (v := nI 0) hx hb hr (fun t9 ht9 hW => ⟨⟨nI 0, (v9, i9, vp_updL fo 0 rz, fd), rfl, ⟨by rw [hrs], by rw [hrs]; exact Nat.zero_le 3, (by rw [show v9 = v from hw.1]; exact hI), hw.2.1, fun _ => ⟨(by rw [hrs]; exact congrArg Int64.toInt (show vp_updL fo 0 rz 0 = rz from if_pos rfl)), hw.1⟩, by rw [hrs]; exact fun h9 => absurd rfl h9⟩, by rw [ht9]; exact hP, va_K.moved hW.alike hK, hD⟩, hS.F ht9⟩) hS.2.2 dL_torque_25
set_option maxHeartbeats 4000000 in
set_option maxRecDepth 100000 in
theorem c_L_slipping (l : Launch) (hlf : l.stackTraces = false) (D : va_G) (K : Nat → ClassId) (oa ob : Nat) (fo : Nat → Int64) (fd : Nat → UInt64) (ad q q1 q2 g r r2 : Nat → Nat) (v : CV) (i : CI) (x : Int32) (sz : Nat) (hI : IV v) (hJ : II v.1 i) : Met l yL_slipping (.codeWith yL_slipping cL_slipping 4 (some .int) [(0, 9, 12, 15)] :: TB) ({ frames := 8, cells := 1, slots := 6, locals := 173 } : Room) (va_Pc [.ref (ad 0), .int x, .ref oa] (cPL D K (HW K oa ob fo fd ad q q1 q2 g r r2 v i) sz)) (va_Qi (fun (z : Int32) (u : LS9) => z = nI (rs_slipping v.1 x).1 ∧ (rs_slipping v.1 x).1 ≤ 3 ∧ IV u.1 ∧ II u.1.1 u.2.1 ∧ ((rs_slipping v.1 x).1 = 0 → (u.2.2.1 0).toInt = (rs_slipping v.1 x).2 ∧ u.1 = v) ∧ (¬ (rs_slipping v.1 x).1 = 0 → u.1 = v)) (fun (u : LS9) t => cB5 D K (va_A (HW K oa ob fo fd ad q q1 q2 g r r2 v i) sz) (HW K oa ob u.2.2.1 u.2.2.2 ad q q1 q2 g r r2 u.1 u.2.1) t) (va_A (HW K oa ob fo fd ad q q1 q2 g r r2 v i) sz)) 1 6 (va_A (HW K oa ob fo fd ad q q1 q2 g r r2 v i) sz) := by
  refine Met.ofWH (cc := cL_slipping) (maxL := 4) (ret := (some .int)) (hh := [(0, 9, 12, 15)]) (by decide) rfl ?_
  intro p e s m args below meth c s₁ B hml hv
  obtain ⟨rfl, ⟨hsz, hP, hK, hD0⟩, hTX, hCL⟩ := hv
  have hx := B.exec
  have hb := B.bytes
  have hr := B.returns
  have hts := hts_tl (atoms_spec (ws := (.codeWith yL_slipping cL_slipping 4 (some .int) [(0, 9, 12, 15)] :: TB)) B.pre)
  have hxt := vx_table (x := yL_slipping) B (atoms_spec (ws := (.codeWith yL_slipping cL_slipping 4 (some .int) [(0, 9, 12, 15)] :: TB)) B.pre _ List.mem_cons_self)
  have hown : s.vm.findClass RL = some m.cls := findClass_of_methodNamed B.named
  have hlocks := B.notSynchronized
  subst hsz
  have hD := hD0.self (sz := s.heap.size)
  generalize hAe : (va_A (HW K oa ob fo fd ad q q1 q2 g r r2 v i) s.heap.size) = A at hD hTX ⊢
  have hA : ∀ q : Nat, s.heap.size ≤ q → A q := fun q h => by rw [← hAe]; exact Or.inr h
  have hS : va_S A s.heap s.heap [] := va_S.rf
  clear hAe hD0
  have hK4 := hK.sub (tys' := TY K) [0, 1, 2, 3] rfl
  have hP : va_P D vwCl ([(oa, .inl (K 1, 1, .inr (.inl fo)))] ++ ([(ob, .inl (K 4, 1, .inr (.inr (.inr (.inl fd)))))] ++ (WX K ad q q1 q2 g r r2 v i))) s.heap := hP
  have hD : va_D A ([(oa, .inl (K 1, 1, .inr (.inl fo)))] ++ ([(ob, .inl (K 4, 1, .inr (.inr (.inr (.inl fd)))))] ++ (WX K ad q q1 q2 g r r2 v i))) := hD
  have hl := lv_entry ([.ref (ad 0), .int x, .ref oa]) (n := 4) (Nat.le_of_ble_eq_true rfl)
  rw [lg_entry_eq]
  generalize (lg_sl ([.ref (ad 0), .int x, .ref oa]) ++ List.replicate (4 - (lg_sl ([.ref (ad 0), .int x, .ref oa])).length) Slot.unset).toArray = ls at hl ⊢
  have hl : lv_has ls 4 [(0, .ref (ad 0)), (1, .int x), (2, .ref oa)] := hl
  refine lv_aload_n hx hb dL_slipping_0 rfl (lv_at hl 2 rfl) ?_
  refine lv_iconst (v := nI 0) hx hb dL_slipping_1 (by decide) ?_
  refine lv_aload_n hx hb dL_slipping_2 rfl (lv_at hl 0 rfl) ?_
  refine lv_iload_n hx hb dL_slipping_3 rfl (lv_at hl 1 rfl) ?_
  have hPc := bP2e hP
  have hDc := bD2e hD
  have hFc := bF2e hD hS hA
  refine vx_calli (vx_runV (As := [.int x]) (rest := [.int (nI 0), .ref oa]) ⟨hx, hb, hml, hown, hts⟩ (c_X6_slipping l hlf D K ad q q1 q2 g r r2 v i x s.heap.size hI hJ) (cwV 1 hts (TB_V k_m_L_61 k_im_X6_slipping k_se_X6_slipping k_in_X6 k_co_X6_slipping (fun _ h => h)) rfl rfl rfl (by decide +kernel) ⟨Nat.le_of_ble_eq_true rfl, Nat.le_of_ble_eq_true rfl⟩) ⟨cPT_blind, va_recv hK4 hPc (ci := 6) (q0 := 0) rfl rfl, cPT_of hPc hK4 hDc hTX hS hFc⟩ rfl rfl hl.1 rfl (lv_room (Nat.le_of_ble_eq_true rfl)) dL_slipping_4 ⟨Nat.le_of_ble_eq_true rfl, Nat.le_of_ble_eq_true rfl⟩) hS (fun q _ h => hFc q h) hFc (fun q _ h => hFc q h) (fun E ce q9 u9 t9 H locs ht9 hal hpx hB hz1 hk1 hS hce hcv hcl => ?_) (fun rz u9 t9 H locs ht9 hal hw hB hz1 hk1 hS => ?_)
  · obtain ⟨v9, i9⟩ := u9
    obtain ⟨hv9, hJ9⟩ := hpx
    have hv9 : v9 = v := hv9
    obtain ⟨hexc, hP1, hK1, hD1⟩ := hB
    rw [ht9] at hP1
    obtain ⟨hP, hD⟩ := bJ2e hP hD hk1 hFc hP1 hD1
    have hJ9 : II v9.1 i9 := hJ9
    dsimp only at hP hD
    rw [hv9] at hP hD hJ9
    have hP : va_P D vwCl ([(oa, .inl (K 1, 1, .inr (.inl fo)))] ++ ([(ob, .inl (K 4, 1, .inr (.inr (.inr (.inl fd)))))] ++ (WX K ad q q1 q2 g r r2 v i9))) H := hP
    have hD : va_D A ([(oa, .inl (K 1, 1, .inr (.inl fo)))] ++ ([(ob, .inl (K 4, 1, .inr (.inr (.inr (.inl fd)))))] ++ (WX K ad q q1 q2 g r r2 v i9))) := hD
    obtain ⟨hk, rfl⟩ := exc1 hexc
    refine vx_catch (own := RL) (name := eIA) (E := eIA) hown [] ⟨0, 9, 12, 15⟩ [] hxt (fun z h => absurd h List.not_mem_nil) (by decide) (by decide) (hts _ k_cl_L_15) (dc_use rfl hCL.1.2.1) hce hcv hcl ?_
    refine lv_astore_n (lv' := [(3, .ref q9), (0, .ref (ad 0)), (1, .int x), (2, .ref oa)]) hx hb dL_slipping_12 rfl hl (by decide) rfl (fun ls hl => ?_)
    refine lv_iconst (v := nI 1) hx hb dL_slipping_13 (by decide) ?_
    exact W.iret (v := nI 1) hx hb hr (fun t9 ht9 hW => ⟨⟨nI 1, (v, i9, fo, fd), rfl, ⟨by rw [hk], by rw [hk]; decide, hI, hJ9, fun h9 => absurd (hk.symm.trans h9) (by decide), fun _ => rfl⟩, by rw [ht9]; exact hP, va_K.moved hW.alike hK, hD⟩, hS.F ht9⟩) hS.2.2 dL_slipping_14
  obtain ⟨v9, i9⟩ := u9
  obtain ⟨hP1, hK1, hD1⟩ := hB
  rw [ht9] at hP1
  obtain ⟨hP, hD⟩ := bJ2e hP hD hk1 hFc hP1 hD1
  have hP : va_P D vwCl ([(oa, .inl (K 1, 1, .inr (.inl fo)))] ++ ([(ob, .inl (K 4, 1, .inr (.inr (.inr (.inl fd)))))] ++ (WX K ad q q1 q2 g r r2 v9 i9))) H := hP
  have hD : va_D A ([(oa, .inl (K 1, 1, .inr (.inl fo)))] ++ ([(ob, .inl (K 4, 1, .inr (.inr (.inr (.inl fd)))))] ++ (WX K ad q q1 q2 g r r2 v9 i9))) := hD
  refine lv_i2l (v := rz.toInt64) hx hb dL_slipping_7 rfl ?_
  refine n_last hx hb hK hP hD hS 0 1 rfl rfl (i := 0) (n := 1) (by omega) (by decide) dL_slipping_8 (fun H locs hP hD hS => ?_)
  have hP : va_P D vwCl ([(oa, .inl (K 1, 1, .inr (.inl (vp_updL fo 0 rz.toInt64))))] ++ ([(ob, .inl (K 4, 1, .inr (.inr (.inr (.inl fd)))))] ++ (WX K ad q q1 q2 g r r2 v9 i9))) H := hP
  have hD : va_D A ([(oa, .inl (K 1, 1, .inr (.inl (vp_updL fo 0 rz.toInt64))))] ++ ([(ob, .inl (K 4, 1, .inr (.inr (.inr (.inl fd)))))] ++ (WX K ad q q1 q2 g r r2 v9 i9))) := hD
  refine lv_goto (tgt := 15) hx hb dL_slipping_9 (by decide) ?_
  refine lv_iconst (v := nI 0) hx hb dL_slipping_15 (by decide) ?_
  have hrs : rs_slipping v.1 x = _ := hw.2.2
  exact W.iret (v := nI 0) hx hb hr (fun t9 ht9 hW => ⟨⟨nI 0, (v9, i9, vp_updL fo 0 rz.toInt64, fd), rfl, ⟨by rw [hrs], by rw [hrs]; exact Nat.zero_le 3, (by rw [show v9 = v from hw.1]; exact hI), hw.2.1, fun _ => ⟨(by rw [hrs]; exact (congrArg Int64.toInt (if_pos rfl)).trans (Int32.toInt_toInt64 rz)), hw.1⟩, by rw [hrs]; exact fun h9 => absurd rfl h9⟩, by rw [ht9]; exact hP, va_K.moved hW.alike hK, hD⟩, hS.F ht9⟩) hS.2.2 dL_slipping_16
set_option maxHeartbeats 4000000 in
set_option maxRecDepth 100000 in
theorem c_L_greatestTorque (l : Launch) (hlf : l.stackTraces = false) (D : va_G) (K : Nat → ClassId) (oa ob : Nat) (fo : Nat → Int64) (fd : Nat → UInt64) (ad q q1 q2 g r r2 : Nat → Nat) (v : CV) (i : CI)  (sz : Nat) (hI : IV v) (hJ : II v.1 i) : Met l yL_greatestTorque (.codeWith yL_greatestTorque cL_greatestTorque 3 (some .int) [(0, 8, 11, 17)] :: TB) ({ frames := 8, cells := 1, slots := 6, locals := 172 } : Room) (va_Pc [.ref (ad 0), .ref oa] (cPL D K (HW K oa ob fo fd ad q q1 q2 g r r2 v i) sz)) (va_Qi (fun (z : Int32) (u : LS9) => z = nI (rs_greatest v.1).1 ∧ (rs_greatest v.1).1 ≤ 3 ∧ IV u.1 ∧ II u.1.1 u.2.1 ∧ ((rs_greatest v.1).1 = 0 → (u.2.2.1 0).toInt = (rs_greatest v.1).2 ∧ u.1 = v) ∧ (¬ (rs_greatest v.1).1 = 0 → u.1 = v)) (fun (u : LS9) t => cB5 D K (va_A (HW K oa ob fo fd ad q q1 q2 g r r2 v i) sz) (HW K oa ob u.2.2.1 u.2.2.2 ad q q1 q2 g r r2 u.1 u.2.1) t) (va_A (HW K oa ob fo fd ad q q1 q2 g r r2 v i) sz)) 1 6 (va_A (HW K oa ob fo fd ad q q1 q2 g r r2 v i) sz) := by
  refine Met.ofWH (cc := cL_greatestTorque) (maxL := 3) (ret := (some .int)) (hh := [(0, 8, 11, 17)]) (by decide) rfl ?_
  intro p e s m args below meth c s₁ B hml hv
  obtain ⟨rfl, ⟨hsz, hP, hK, hD0⟩, hTX, hCL⟩ := hv
  have hx := B.exec
  have hb := B.bytes
  have hr := B.returns
  have hts := hts_tl (atoms_spec (ws := (.codeWith yL_greatestTorque cL_greatestTorque 3 (some .int) [(0, 8, 11, 17)] :: TB)) B.pre)
  have hxt := vx_table (x := yL_greatestTorque) B (atoms_spec (ws := (.codeWith yL_greatestTorque cL_greatestTorque 3 (some .int) [(0, 8, 11, 17)] :: TB)) B.pre _ List.mem_cons_self)
  have hown : s.vm.findClass RL = some m.cls := findClass_of_methodNamed B.named
  have hlocks := B.notSynchronized
  subst hsz
  have hD := hD0.self (sz := s.heap.size)
  generalize hAe : (va_A (HW K oa ob fo fd ad q q1 q2 g r r2 v i) s.heap.size) = A at hD hTX ⊢
  have hA : ∀ q : Nat, s.heap.size ≤ q → A q := fun q h => by rw [← hAe]; exact Or.inr h
  have hS : va_S A s.heap s.heap [] := va_S.rf
  clear hAe hD0
  have hK4 := hK.sub (tys' := TY K) [0, 1, 2, 3] rfl
  have hP : va_P D vwCl ([(oa, .inl (K 1, 1, .inr (.inl fo)))] ++ ([(ob, .inl (K 4, 1, .inr (.inr (.inr (.inl fd)))))] ++ (WX K ad q q1 q2 g r r2 v i))) s.heap := hP
  have hD : va_D A ([(oa, .inl (K 1, 1, .inr (.inl fo)))] ++ ([(ob, .inl (K 4, 1, .inr (.inr (.inr (.inl fd)))))] ++ (WX K ad q q1 q2 g r r2 v i))) := hD
  have hl := lv_entry ([.ref (ad 0), .ref oa]) (n := 3) (Nat.le_of_ble_eq_true rfl)
  rw [lg_entry_eq]
  generalize (lg_sl ([.ref (ad 0), .ref oa]) ++ List.replicate (3 - (lg_sl ([.ref (ad 0), .ref oa])).length) Slot.unset).toArray = ls at hl ⊢
  have hl : lv_has ls 3 [(0, .ref (ad 0)), (1, .ref oa)] := hl
  refine lv_aload_n hx hb dL_greatestTorque_0 rfl (lv_at hl 1 rfl) ?_
  refine lv_iconst (v := nI 0) hx hb dL_greatestTorque_1 (by decide) ?_
  refine lv_aload_n hx hb dL_greatestTorque_2 rfl (lv_at hl 0 rfl) ?_
  have hPc := bP2e hP
  have hDc := bD2e hD
  have hFc := bF2e hD hS hA
  refine vx_calli (vx_runV (As := []) (rest := [.int (nI 0), .ref oa]) ⟨hx, hb, hml, hown, hts⟩ (c_X6_greatestTorque l hlf D K ad q q1 q2 g r r2 v i  s.heap.size hI hJ) (cwV 0 hts (TB_V k_m_L_64 k_im_X6_greatestTorque k_se_X6_greatestTorque k_in_X6 k_co_X6_greatestTorque (fun _ h => h)) rfl rfl rfl (by decide +kernel) ⟨Nat.le_of_ble_eq_true rfl, Nat.le_of_ble_eq_true rfl⟩) ⟨cPT_blind, va_recv hK4 hPc (ci := 6) (q0 := 0) rfl rfl, cPT_of hPc hK4 hDc hTX hS hFc⟩ rfl rfl hl.1 rfl (lv_room (Nat.le_of_ble_eq_true rfl)) dL_greatestTorque_3 ⟨Nat.le_of_ble_eq_true rfl, Nat.le_of_ble_eq_true rfl⟩) hS (fun q _ h => hFc q h) hFc (fun q _ h => hFc q h) (fun E ce q9 u9 t9 H locs ht9 hal hpx hB hz1 hk1 hS hce hcv hcl => ?_) (fun rz u9 t9 H locs ht9 hal hw hB hz1 hk1 hS => ?_)
  · obtain ⟨v9, i9⟩ := u9
    obtain ⟨hv9, hJ9⟩ := hpx
    have hv9 : v9 = v := hv9
    obtain ⟨hexc, hP1, hK1, hD1⟩ := hB
    rw [ht9] at hP1
    obtain ⟨hP, hD⟩ := bJ2e hP hD hk1 hFc hP1 hD1
    have hJ9 : II v9.1 i9 := hJ9
    dsimp only at hP hD
    rw [hv9] at hP hD hJ9
    have hP : va_P D vwCl ([(oa, .inl (K 1, 1, .inr (.inl fo)))] ++ ([(ob, .inl (K 4, 1, .inr (.inr (.inr (.inl fd)))))] ++ (WX K ad q q1 q2 g r r2 v i9))) H := hP
    have hD : va_D A ([(oa, .inl (K 1, 1, .inr (.inl fo)))] ++ ([(ob, .inl (K 4, 1, .inr (.inr (.inr (.inl fd)))))] ++ (WX K ad q q1 q2 g r r2 v i9))) := hD
    obtain ⟨hk, rfl⟩ := exc1 hexc
    refine vx_catch (own := RL) (name := eIS) (E := eIS) hown [] ⟨0, 8, 11, 17⟩ [] hxt (fun z h => absurd h List.not_mem_nil) (by decide) (by decide) (hts _ k_cl_L_17) (dc_use rfl hCL.1.2.2) hce hcv hcl ?_
    refine lv_astore_n (lv' := [(2, .ref q9), (0, .ref (ad 0)), (1, .ref oa)]) hx hb dL_greatestTorque_11 rfl hl (by decide) rfl (fun ls hl => ?_)
    refine lv_iconst (v := nI 1) hx hb dL_greatestTorque_12 (by decide) ?_
    exact W.iret (v := nI 1) hx hb hr (fun t9 ht9 hW => ⟨⟨nI 1, (v, i9, fo, fd), rfl, ⟨by rw [hk], by rw [hk]; decide, hI, hJ9, fun h9 => absurd (hk.symm.trans h9) (by decide), fun _ => rfl⟩, by rw [ht9]; exact hP, va_K.moved hW.alike hK, hD⟩, hS.F ht9⟩) hS.2.2 dL_greatestTorque_13
  obtain ⟨v9, i9⟩ := u9
  obtain ⟨hP1, hK1, hD1⟩ := hB
  rw [ht9] at hP1
  obtain ⟨hP, hD⟩ := bJ2e hP hD hk1 hFc hP1 hD1
  have hP : va_P D vwCl ([(oa, .inl (K 1, 1, .inr (.inl fo)))] ++ ([(ob, .inl (K 4, 1, .inr (.inr (.inr (.inl fd)))))] ++ (WX K ad q q1 q2 g r r2 v9 i9))) H := hP
  have hD : va_D A ([(oa, .inl (K 1, 1, .inr (.inl fo)))] ++ ([(ob, .inl (K 4, 1, .inr (.inr (.inr (.inl fd)))))] ++ (WX K ad q q1 q2 g r r2 v9 i9))) := hD
  refine lv_i2l (v := rz.toInt64) hx hb dL_greatestTorque_6 rfl ?_
  refine n_last hx hb hK hP hD hS 0 1 rfl rfl (i := 0) (n := 1) (by omega) (by decide) dL_greatestTorque_7 (fun H locs hP hD hS => ?_)
  have hP : va_P D vwCl ([(oa, .inl (K 1, 1, .inr (.inl (vp_updL fo 0 rz.toInt64))))] ++ ([(ob, .inl (K 4, 1, .inr (.inr (.inr (.inl fd)))))] ++ (WX K ad q q1 q2 g r r2 v9 i9))) H := hP
  have hD : va_D A ([(oa, .inl (K 1, 1, .inr (.inl (vp_updL fo 0 rz.toInt64))))] ++ ([(ob, .inl (K 4, 1, .inr (.inr (.inr (.inl fd)))))] ++ (WX K ad q q1 q2 g r r2 v9 i9))) := hD
  refine lv_goto (tgt := 14) hx hb dL_greatestTorque_8 (by decide) ?_
  refine lv_iconst (v := nI 0) hx hb dL_greatestTorque_14 (by decide) ?_
  have hrs : rs_greatest v.1 = _ := hw.2.2
  exact W.iret (v := nI 0) hx hb hr (fun t9 ht9 hW => ⟨⟨nI 0, (v9, i9, vp_updL fo 0 rz.toInt64, fd), rfl, ⟨by rw [hrs], by rw [hrs]; exact Nat.zero_le 3, (by rw [show v9 = v from hw.1]; exact hI), hw.2.1, fun _ => ⟨(by rw [hrs]; exact (congrArg Int64.toInt (if_pos rfl)).trans (Int32.toInt_toInt64 rz)), hw.1⟩, by rw [hrs]; exact fun h9 => absurd rfl h9⟩, by rw [ht9]; exact hP, va_K.moved hW.alike hK, hD⟩, hS.F ht9⟩) hS.2.2 dL_greatestTorque_15
set_option maxHeartbeats 4000000 in
set_option maxRecDepth 100000 in
theorem c_L_gear (l : Launch) (hlf : l.stackTraces = false) (D : va_G) (K : Nat → ClassId) (oa ob : Nat) (fo : Nat → Int64) (fd : Nat → UInt64) (ad q q1 q2 g r r2 : Nat → Nat) (v : CV) (i : CI) (x : Int32) (sz : Nat) (hI : IV v) (hJ : II v.1 i) : Met l yL_gear (.codeWith yL_gear cL_gear 4 (some .int) [(0, 9, 12, 13)] :: TB) ({ frames := 8, cells := 1, slots := 6, locals := 171 } : Room) (va_Pc [.ref (ad 0), .int x, .ref oa] (cPL D K (HW K oa ob fo fd ad q q1 q2 g r r2 v i) sz)) (va_Qi (fun (z : Int32) (u : LS9) => z = nI (rs_gear v.1 x).1 ∧ (rs_gear v.1 x).1 ≤ 3 ∧ IV u.1 ∧ II u.1.1 u.2.1 ∧ ((rs_gear v.1 x).1 = 0 → (u.2.2.1 0).toInt = (rs_gear v.1 x).2 ∧ u.1 = v) ∧ (¬ (rs_gear v.1 x).1 = 0 → u.1 = v)) (fun (u : LS9) t => cB5 D K (va_A (HW K oa ob fo fd ad q q1 q2 g r r2 v i) sz) (HW K oa ob u.2.2.1 u.2.2.2 ad q q1 q2 g r r2 u.1 u.2.1) t) (va_A (HW K oa ob fo fd ad q q1 q2 g r r2 v i) sz)) 1 6 (va_A (HW K oa ob fo fd ad q q1 q2 g r r2 v i) sz) := by
  refine Met.ofWH (cc := cL_gear) (maxL := 4) (ret := (some .int)) (hh := [(0, 9, 12, 13)]) (by decide) rfl ?_
  intro p e s m args below meth c s₁ B hml hv
  obtain ⟨rfl, ⟨hsz, hP, hK, hD0⟩, hTX, hCL⟩ := hv
  have hx := B.exec
  have hb := B.bytes
  have hr := B.returns
  have hts := hts_tl (atoms_spec (ws := (.codeWith yL_gear cL_gear 4 (some .int) [(0, 9, 12, 13)] :: TB)) B.pre)
  have hxt := vx_table (x := yL_gear) B (atoms_spec (ws := (.codeWith yL_gear cL_gear 4 (some .int) [(0, 9, 12, 13)] :: TB)) B.pre _ List.mem_cons_self)
  have hown : s.vm.findClass RL = some m.cls := findClass_of_methodNamed B.named
  have hlocks := B.notSynchronized
  subst hsz
  have hD := hD0.self (sz := s.heap.size)
  generalize hAe : (va_A (HW K oa ob fo fd ad q q1 q2 g r r2 v i) s.heap.size) = A at hD hTX ⊢
  have hA : ∀ q : Nat, s.heap.size ≤ q → A q := fun q h => by rw [← hAe]; exact Or.inr h
  have hS : va_S A s.heap s.heap [] := va_S.rf
  clear hAe hD0
  have hK4 := hK.sub (tys' := TY K) [0, 1, 2, 3] rfl
  have hP : va_P D vwCl ([(oa, .inl (K 1, 1, .inr (.inl fo)))] ++ ([(ob, .inl (K 4, 1, .inr (.inr (.inr (.inl fd)))))] ++ (WX K ad q q1 q2 g r r2 v i))) s.heap := hP
  have hD : va_D A ([(oa, .inl (K 1, 1, .inr (.inl fo)))] ++ ([(ob, .inl (K 4, 1, .inr (.inr (.inr (.inl fd)))))] ++ (WX K ad q q1 q2 g r r2 v i))) := hD
  have hl := lv_entry ([.ref (ad 0), .int x, .ref oa]) (n := 4) (Nat.le_of_ble_eq_true rfl)
  rw [lg_entry_eq]
  generalize (lg_sl ([.ref (ad 0), .int x, .ref oa]) ++ List.replicate (4 - (lg_sl ([.ref (ad 0), .int x, .ref oa])).length) Slot.unset).toArray = ls at hl ⊢
  have hl : lv_has ls 4 [(0, .ref (ad 0)), (1, .int x), (2, .ref oa)] := hl
  refine lv_aload_n hx hb dL_gear_0 rfl (lv_at hl 2 rfl) ?_
  refine lv_iconst (v := nI 0) hx hb dL_gear_1 (by decide) ?_
  refine lv_aload_n hx hb dL_gear_2 rfl (lv_at hl 0 rfl) ?_
  refine lv_iload_n hx hb dL_gear_3 rfl (lv_at hl 1 rfl) ?_
  have hPc := bP2e hP
  have hDc := bD2e hD
  have hFc := bF2e hD hS hA
  refine vx_calli (vx_runV (As := [.int x]) (rest := [.int (nI 0), .ref oa]) ⟨hx, hb, hml, hown, hts⟩ (c_X6_gear l hlf D K ad q q1 q2 g r r2 v i x s.heap.size hI hJ) (cwV 1 hts (TB_V k_m_L_68 k_im_X6_gear k_se_X6_gear k_in_X6 k_co_X6_gear (fun _ h => h)) rfl rfl rfl (by decide +kernel) ⟨Nat.le_of_ble_eq_true rfl, Nat.le_of_ble_eq_true rfl⟩) ⟨cPT_blind, va_recv hK4 hPc (ci := 6) (q0 := 0) rfl rfl, cPT_of hPc hK4 hDc hTX hS hFc⟩ rfl rfl hl.1 rfl (lv_room (Nat.le_of_ble_eq_true rfl)) dL_gear_4 ⟨Nat.le_of_ble_eq_true rfl, Nat.le_of_ble_eq_true rfl⟩) hS (fun q _ h => hFc q h) hFc (fun q _ h => hFc q h) (fun E ce q9 u9 t9 H locs ht9 hal hpx hB hz1 hk1 hS hce hcv hcl => ?_) (fun rz u9 t9 H locs ht9 hal hw hB hz1 hk1 hS => ?_)
  · obtain ⟨v9, i9⟩ := u9
    obtain ⟨hv9, hJ9⟩ := hpx
    have hv9 : v9 = v := hv9
    obtain ⟨hexc, hP1, hK1, hD1⟩ := hB
    rw [ht9] at hP1
    obtain ⟨hP, hD⟩ := bJ2e hP hD hk1 hFc hP1 hD1
    have hJ9 : II v9.1 i9 := hJ9
    dsimp only at hP hD
    rw [hv9] at hP hD hJ9
    have hP : va_P D vwCl ([(oa, .inl (K 1, 1, .inr (.inl fo)))] ++ ([(ob, .inl (K 4, 1, .inr (.inr (.inr (.inl fd)))))] ++ (WX K ad q q1 q2 g r r2 v i9))) H := hP
    have hD : va_D A ([(oa, .inl (K 1, 1, .inr (.inl fo)))] ++ ([(ob, .inl (K 4, 1, .inr (.inr (.inr (.inl fd)))))] ++ (WX K ad q q1 q2 g r r2 v i9))) := hD
    obtain ⟨hk, rfl⟩ := exc1 hexc
    refine vx_catch (own := RL) (name := eIO) (E := eIO) hown [] ⟨0, 9, 12, 13⟩ [] hxt (fun z h => absurd h List.not_mem_nil) (by decide) (by decide) (hts _ k_cl_L_13) (dc_use rfl hCL.1.1) hce hcv hcl ?_
    refine lv_astore_n (lv' := [(3, .ref q9), (0, .ref (ad 0)), (1, .int x), (2, .ref oa)]) hx hb dL_gear_12 rfl hl (by decide) rfl (fun ls hl => ?_)
    refine lv_iconst (v := nI 1) hx hb dL_gear_13 (by decide) ?_
    exact W.iret (v := nI 1) hx hb hr (fun t9 ht9 hW => ⟨⟨nI 1, (v, i9, fo, fd), rfl, ⟨by rw [hk], by rw [hk]; decide, hI, hJ9, fun h9 => absurd (hk.symm.trans h9) (by decide), fun _ => rfl⟩, by rw [ht9]; exact hP, va_K.moved hW.alike hK, hD⟩, hS.F ht9⟩) hS.2.2 dL_gear_14
  obtain ⟨v9, i9⟩ := u9
  obtain ⟨hP1, hK1, hD1⟩ := hB
  rw [ht9] at hP1
  obtain ⟨hP, hD⟩ := bJ2e hP hD hk1 hFc hP1 hD1
  have hP : va_P D vwCl ([(oa, .inl (K 1, 1, .inr (.inl fo)))] ++ ([(ob, .inl (K 4, 1, .inr (.inr (.inr (.inl fd)))))] ++ (WX K ad q q1 q2 g r r2 v9 i9))) H := hP
  have hD : va_D A ([(oa, .inl (K 1, 1, .inr (.inl fo)))] ++ ([(ob, .inl (K 4, 1, .inr (.inr (.inr (.inl fd)))))] ++ (WX K ad q q1 q2 g r r2 v9 i9))) := hD
  refine lv_i2l (v := rz.toInt64) hx hb dL_gear_7 rfl ?_
  refine n_last hx hb hK hP hD hS 0 1 rfl rfl (i := 0) (n := 1) (by omega) (by decide) dL_gear_8 (fun H locs hP hD hS => ?_)
  have hP : va_P D vwCl ([(oa, .inl (K 1, 1, .inr (.inl (vp_updL fo 0 rz.toInt64))))] ++ ([(ob, .inl (K 4, 1, .inr (.inr (.inr (.inl fd)))))] ++ (WX K ad q q1 q2 g r r2 v9 i9))) H := hP
  have hD : va_D A ([(oa, .inl (K 1, 1, .inr (.inl (vp_updL fo 0 rz.toInt64))))] ++ ([(ob, .inl (K 4, 1, .inr (.inr (.inr (.inl fd)))))] ++ (WX K ad q q1 q2 g r r2 v9 i9))) := hD
  refine lv_goto (tgt := 15) hx hb dL_gear_9 (by decide) ?_
  refine lv_iconst (v := nI 0) hx hb dL_gear_15 (by decide) ?_
  have hrs : rs_gear v.1 x = _ := hw.2.2
  exact W.iret (v := nI 0) hx hb hr (fun t9 ht9 hW => ⟨⟨nI 0, (v9, i9, vp_updL fo 0 rz.toInt64, fd), rfl, ⟨by rw [hrs], by rw [hrs]; exact Nat.zero_le 3, (by rw [show v9 = v from hw.1]; exact hI), hw.2.1, fun _ => ⟨(by rw [hrs]; exact (congrArg Int64.toInt (if_pos rfl)).trans (Int32.toInt_toInt64 rz)), hw.1⟩, by rw [hrs]; exact fun h9 => absurd rfl h9⟩, by rw [ht9]; exact hP, va_K.moved hW.alike hK, hD⟩, hS.F ht9⟩) hS.2.2 dL_gear_16
set_option maxHeartbeats 4000000 in
set_option maxRecDepth 100000 in
theorem c_L_indexOf (l : Launch) (hlf : l.stackTraces = false) (D : va_G) (K : Nat → ClassId) (oa ob : Nat) (fo : Nat → Int64) (fd : Nat → UInt64) (ad q q1 q2 g r r2 : Nat → Nat) (v : CV) (i : CI) (x : Int32) (sz : Nat) (hI : IV v) (hJ : II v.1 i) : Met l yL_indexOf (.codeWith yL_indexOf cL_indexOf 4 (some .int) [(0, 9, 12, 15)] :: TB) ({ frames := 8, cells := 1, slots := 6, locals := 171 } : Room) (va_Pc [.ref (ad 0), .int x, .ref oa] (cPL D K (HW K oa ob fo fd ad q q1 q2 g r r2 v i) sz)) (va_Qi (fun (z : Int32) (u : LS9) => z = nI (rs_indexOf v.1 x).1 ∧ (rs_indexOf v.1 x).1 ≤ 3 ∧ IV u.1 ∧ II u.1.1 u.2.1 ∧ ((rs_indexOf v.1 x).1 = 0 → (u.2.2.1 0).toInt = (rs_indexOf v.1 x).2 ∧ u.1 = v) ∧ (¬ (rs_indexOf v.1 x).1 = 0 → u.1 = v)) (fun (u : LS9) t => cB5 D K (va_A (HW K oa ob fo fd ad q q1 q2 g r r2 v i) sz) (HW K oa ob u.2.2.1 u.2.2.2 ad q q1 q2 g r r2 u.1 u.2.1) t) (va_A (HW K oa ob fo fd ad q q1 q2 g r r2 v i) sz)) 1 6 (va_A (HW K oa ob fo fd ad q q1 q2 g r r2 v i) sz) := by
  refine Met.ofWH (cc := cL_indexOf) (maxL := 4) (ret := (some .int)) (hh := [(0, 9, 12, 15)]) (by decide) rfl ?_
  intro p e s m args below meth c s₁ B hml hv
  obtain ⟨rfl, ⟨hsz, hP, hK, hD0⟩, hTX, hCL⟩ := hv
  have hx := B.exec
  have hb := B.bytes
  have hr := B.returns
  have hts := hts_tl (atoms_spec (ws := (.codeWith yL_indexOf cL_indexOf 4 (some .int) [(0, 9, 12, 15)] :: TB)) B.pre)
  have hxt := vx_table (x := yL_indexOf) B (atoms_spec (ws := (.codeWith yL_indexOf cL_indexOf 4 (some .int) [(0, 9, 12, 15)] :: TB)) B.pre _ List.mem_cons_self)
  have hown : s.vm.findClass RL = some m.cls := findClass_of_methodNamed B.named
  have hlocks := B.notSynchronized
  subst hsz
  have hD := hD0.self (sz := s.heap.size)
  generalize hAe : (va_A (HW K oa ob fo fd ad q q1 q2 g r r2 v i) s.heap.size) = A at hD hTX ⊢
  have hA : ∀ q : Nat, s.heap.size ≤ q → A q := fun q h => by rw [← hAe]; exact Or.inr h
  have hS : va_S A s.heap s.heap [] := va_S.rf
  clear hAe hD0
  have hK4 := hK.sub (tys' := TY K) [0, 1, 2, 3] rfl
  have hP : va_P D vwCl ([(oa, .inl (K 1, 1, .inr (.inl fo)))] ++ ([(ob, .inl (K 4, 1, .inr (.inr (.inr (.inl fd)))))] ++ (WX K ad q q1 q2 g r r2 v i))) s.heap := hP
  have hD : va_D A ([(oa, .inl (K 1, 1, .inr (.inl fo)))] ++ ([(ob, .inl (K 4, 1, .inr (.inr (.inr (.inl fd)))))] ++ (WX K ad q q1 q2 g r r2 v i))) := hD
  have hl := lv_entry ([.ref (ad 0), .int x, .ref oa]) (n := 4) (Nat.le_of_ble_eq_true rfl)
  rw [lg_entry_eq]
  generalize (lg_sl ([.ref (ad 0), .int x, .ref oa]) ++ List.replicate (4 - (lg_sl ([.ref (ad 0), .int x, .ref oa])).length) Slot.unset).toArray = ls at hl ⊢
  have hl : lv_has ls 4 [(0, .ref (ad 0)), (1, .int x), (2, .ref oa)] := hl
  refine lv_aload_n hx hb dL_indexOf_0 rfl (lv_at hl 2 rfl) ?_
  refine lv_iconst (v := nI 0) hx hb dL_indexOf_1 (by decide) ?_
  refine lv_aload_n hx hb dL_indexOf_2 rfl (lv_at hl 0 rfl) ?_
  refine lv_iload_n hx hb dL_indexOf_3 rfl (lv_at hl 1 rfl) ?_
  have hPc := bP2e hP
  have hDc := bD2e hD
  have hFc := bF2e hD hS hA
  refine vx_calli (vx_runV (As := [.int x]) (rest := [.int (nI 0), .ref oa]) ⟨hx, hb, hml, hown, hts⟩ (c_X6_indexOf l hlf D K ad q q1 q2 g r r2 v i x s.heap.size hI hJ) (cwV 1 hts (TB_V k_m_L_71 k_im_X6_indexOf k_se_X6_indexOf k_in_X6 k_co_X6_indexOf (fun _ h => h)) rfl rfl rfl (by decide +kernel) ⟨Nat.le_of_ble_eq_true rfl, Nat.le_of_ble_eq_true rfl⟩) ⟨cPT_blind, va_recv hK4 hPc (ci := 6) (q0 := 0) rfl rfl, cPT_of hPc hK4 hDc hTX hS hFc⟩ rfl rfl hl.1 rfl (lv_room (Nat.le_of_ble_eq_true rfl)) dL_indexOf_4 ⟨Nat.le_of_ble_eq_true rfl, Nat.le_of_ble_eq_true rfl⟩) hS (fun q _ h => hFc q h) hFc (fun q _ h => hFc q h) (fun E ce q9 u9 t9 H locs ht9 hal hpx hB hz1 hk1 hS hce hcv hcl => ?_) (fun rz u9 t9 H locs ht9 hal hw hB hz1 hk1 hS => ?_)
  · obtain ⟨v9, i9⟩ := u9
    obtain ⟨hv9, hJ9⟩ := hpx
    have hv9 : v9 = v := hv9
    obtain ⟨hexc, hP1, hK1, hD1⟩ := hB
    rw [ht9] at hP1
    obtain ⟨hP, hD⟩ := bJ2e hP hD hk1 hFc hP1 hD1
    have hJ9 : II v9.1 i9 := hJ9
    dsimp only at hP hD
    rw [hv9] at hP hD hJ9
    have hP : va_P D vwCl ([(oa, .inl (K 1, 1, .inr (.inl fo)))] ++ ([(ob, .inl (K 4, 1, .inr (.inr (.inr (.inl fd)))))] ++ (WX K ad q q1 q2 g r r2 v i9))) H := hP
    have hD : va_D A ([(oa, .inl (K 1, 1, .inr (.inl fo)))] ++ ([(ob, .inl (K 4, 1, .inr (.inr (.inr (.inl fd)))))] ++ (WX K ad q q1 q2 g r r2 v i9))) := hD
    obtain ⟨hk, rfl⟩ := exc1 hexc
    refine vx_catch (own := RL) (name := eIA) (E := eIA) hown [] ⟨0, 9, 12, 15⟩ [] hxt (fun z h => absurd h List.not_mem_nil) (by decide) (by decide) (hts _ k_cl_L_15) (dc_use rfl hCL.1.2.1) hce hcv hcl ?_
    refine lv_astore_n (lv' := [(3, .ref q9), (0, .ref (ad 0)), (1, .int x), (2, .ref oa)]) hx hb dL_indexOf_12 rfl hl (by decide) rfl (fun ls hl => ?_)
    refine lv_iconst (v := nI 1) hx hb dL_indexOf_13 (by decide) ?_
    exact W.iret (v := nI 1) hx hb hr (fun t9 ht9 hW => ⟨⟨nI 1, (v, i9, fo, fd), rfl, ⟨by rw [hk], by rw [hk]; decide, hI, hJ9, fun h9 => absurd (hk.symm.trans h9) (by decide), fun _ => rfl⟩, by rw [ht9]; exact hP, va_K.moved hW.alike hK, hD⟩, hS.F ht9⟩) hS.2.2 dL_indexOf_14
  obtain ⟨v9, i9⟩ := u9
  obtain ⟨hP1, hK1, hD1⟩ := hB
  rw [ht9] at hP1
  obtain ⟨hP, hD⟩ := bJ2e hP hD hk1 hFc hP1 hD1
  have hP : va_P D vwCl ([(oa, .inl (K 1, 1, .inr (.inl fo)))] ++ ([(ob, .inl (K 4, 1, .inr (.inr (.inr (.inl fd)))))] ++ (WX K ad q q1 q2 g r r2 v9 i9))) H := hP
  have hD : va_D A ([(oa, .inl (K 1, 1, .inr (.inl fo)))] ++ ([(ob, .inl (K 4, 1, .inr (.inr (.inr (.inl fd)))))] ++ (WX K ad q q1 q2 g r r2 v9 i9))) := hD
  refine lv_i2l (v := rz.toInt64) hx hb dL_indexOf_7 rfl ?_
  refine n_last hx hb hK hP hD hS 0 1 rfl rfl (i := 0) (n := 1) (by omega) (by decide) dL_indexOf_8 (fun H locs hP hD hS => ?_)
  have hP : va_P D vwCl ([(oa, .inl (K 1, 1, .inr (.inl (vp_updL fo 0 rz.toInt64))))] ++ ([(ob, .inl (K 4, 1, .inr (.inr (.inr (.inl fd)))))] ++ (WX K ad q q1 q2 g r r2 v9 i9))) H := hP
  have hD : va_D A ([(oa, .inl (K 1, 1, .inr (.inl (vp_updL fo 0 rz.toInt64))))] ++ ([(ob, .inl (K 4, 1, .inr (.inr (.inr (.inl fd)))))] ++ (WX K ad q q1 q2 g r r2 v9 i9))) := hD
  refine lv_goto (tgt := 15) hx hb dL_indexOf_9 (by decide) ?_
  refine lv_iconst (v := nI 0) hx hb dL_indexOf_15 (by decide) ?_
  have hrs : rs_indexOf v.1 x = _ := hw.2.2
  exact W.iret (v := nI 0) hx hb hr (fun t9 ht9 hW => ⟨⟨nI 0, (v9, i9, vp_updL fo 0 rz.toInt64, fd), rfl, ⟨by rw [hrs], by rw [hrs]; exact Nat.zero_le 3, (by rw [show v9 = v from hw.1]; exact hI), hw.2.1, fun _ => ⟨(by rw [hrs]; exact (congrArg Int64.toInt (if_pos rfl)).trans (Int32.toInt_toInt64 rz)), hw.1⟩, by rw [hrs]; exact fun h9 => absurd rfl h9⟩, by rw [ht9]; exact hP, va_K.moved hW.alike hK, hD⟩, hS.F ht9⟩) hS.2.2 dL_indexOf_16
set_option maxHeartbeats 4000000 in
set_option maxRecDepth 100000 in
theorem c_L_gearRatio (l : Launch) (hlf : l.stackTraces = false) (D : va_G) (K : Nat → ClassId) (oa ob : Nat) (fo : Nat → Int64) (fd : Nat → UInt64) (ad q q1 q2 g r r2 : Nat → Nat) (v : CV) (i : CI) (x y : Int32) (sz : Nat) (hI : IV v) (hJ : II v.1 i) : Met l yL_gearRatio (.codeWith yL_gearRatio cL_gearRatio 5 (some .int) [(0, 9, 12, 13), (0, 9, 16, 15)] :: TB) ({ frames := 8, cells := 1, slots := 6, locals := 172 } : Room) (va_Pc [.ref (ad 0), .int x, .int y, .ref oa] (cPL D K (HW K oa ob fo fd ad q q1 q2 g r r2 v i) sz)) (va_Qi (fun (z : Int32) (u : LS9) => z = nI (rs_gearRatio v.1 x y).1 ∧ (rs_gearRatio v.1 x y).1 ≤ 3 ∧ IV u.1 ∧ II u.1.1 u.2.1 ∧ ((rs_gearRatio v.1 x y).1 = 0 → (u.2.2.1 0).toInt = (rs_gearRatio v.1 x y).2 ∧ u.1 = v) ∧ (¬ (rs_gearRatio v.1 x y).1 = 0 → u.1 = v)) (fun (u : LS9) t => cB5 D K (va_A (HW K oa ob fo fd ad q q1 q2 g r r2 v i) sz) (HW K oa ob u.2.2.1 u.2.2.2 ad q q1 q2 g r r2 u.1 u.2.1) t) (va_A (HW K oa ob fo fd ad q q1 q2 g r r2 v i) sz)) 1 6 (va_A (HW K oa ob fo fd ad q q1 q2 g r r2 v i) sz) := by
  refine Met.ofWH (cc := cL_gearRatio) (maxL := 5) (ret := (some .int)) (hh := [(0, 9, 12, 13), (0, 9, 16, 15)]) (by decide) rfl ?_
  intro p e s m args below meth c s₁ B hml hv
  obtain ⟨rfl, ⟨hsz, hP, hK, hD0⟩, hTX, hCL⟩ := hv
  have hx := B.exec
  have hb := B.bytes
  have hr := B.returns
  have hts := hts_tl (atoms_spec (ws := (.codeWith yL_gearRatio cL_gearRatio 5 (some .int) [(0, 9, 12, 13), (0, 9, 16, 15)] :: TB)) B.pre)
  have hxt := vx_table (x := yL_gearRatio) B (atoms_spec (ws := (.codeWith yL_gearRatio cL_gearRatio 5 (some .int) [(0, 9, 12, 13), (0, 9, 16, 15)] :: TB)) B.pre _ List.mem_cons_self)
  have hown : s.vm.findClass RL = some m.cls := findClass_of_methodNamed B.named
  have hlocks := B.notSynchronized
  subst hsz
  have hD := hD0.self (sz := s.heap.size)
  generalize hAe : (va_A (HW K oa ob fo fd ad q q1 q2 g r r2 v i) s.heap.size) = A at hD hTX ⊢
  have hA : ∀ q : Nat, s.heap.size ≤ q → A q := fun q h => by rw [← hAe]; exact Or.inr h
  have hS : va_S A s.heap s.heap [] := va_S.rf
  clear hAe hD0
  have hK4 := hK.sub (tys' := TY K) [0, 1, 2, 3] rfl
  have hP : va_P D vwCl ([(oa, .inl (K 1, 1, .inr (.inl fo)))] ++ ([(ob, .inl (K 4, 1, .inr (.inr (.inr (.inl fd)))))] ++ (WX K ad q q1 q2 g r r2 v i))) s.heap := hP
  have hD : va_D A ([(oa, .inl (K 1, 1, .inr (.inl fo)))] ++ ([(ob, .inl (K 4, 1, .inr (.inr (.inr (.inl fd)))))] ++ (WX K ad q q1 q2 g r r2 v i))) := hD
  have hl := lv_entry ([.ref (ad 0), .int x, .int y, .ref oa]) (n := 5) (Nat.le_of_ble_eq_true rfl)
  rw [lg_entry_eq]
  generalize (lg_sl ([.ref (ad 0), .int x, .int y, .ref oa]) ++ List.replicate (5 - (lg_sl ([.ref (ad 0), .int x, .int y, .ref oa])).length) Slot.unset).toArray = ls at hl ⊢
  have hl : lv_has ls 5 [(0, .ref (ad 0)), (1, .int x), (2, .int y), (3, .ref oa)] := hl
  refine lv_aload_n hx hb dL_gearRatio_0 rfl (lv_at hl 3 rfl) ?_
  refine lv_iconst (v := nI 0) hx hb dL_gearRatio_1 (by decide) ?_
  refine lv_aload_n hx hb dL_gearRatio_2 rfl (lv_at hl 0 rfl) ?_
  refine lv_iload_n hx hb dL_gearRatio_3 rfl (lv_at hl 1 rfl) ?_
  refine lv_iload_n hx hb dL_gearRatio_4 rfl (lv_at hl 2 rfl) ?_
  have hPc := bP2e hP
  have hDc := bD2e hD
  have hFc := bF2e hD hS hA
  refine vx_calll (vx_runV (As := [.int x, .int y]) (rest := [.int (nI 0), .ref oa]) ⟨hx, hb, hml, hown, hts⟩ (c_X6_gearRatio l hlf D K ad q q1 q2 g r r2 v i x y s.heap.size hI hJ) (cwV 2 hts (TB_V k_m_L_74 k_im_X6_gearRatio k_se_X6_gearRatio k_in_X6 k_co_X6_gearRatio (fun _ h => h)) rfl rfl rfl (by decide +kernel) ⟨Nat.le_of_ble_eq_true rfl, Nat.le_of_ble_eq_true rfl⟩) ⟨cPT_blind, va_recv hK4 hPc (ci := 6) (q0 := 0) rfl rfl, cPT_of hPc hK4 hDc hTX hS hFc⟩ rfl rfl hl.1 rfl (lv_room (Nat.le_of_ble_eq_true rfl)) dL_gearRatio_5 ⟨Nat.le_of_ble_eq_true rfl, Nat.le_of_ble_eq_true rfl⟩) hS (fun q _ h => hFc q h) hFc (fun q _ h => hFc q h) (fun E ce q9 u9 t9 H locs ht9 hal hpx hB hz1 hk1 hS hce hcv hcl => ?_) (fun rz u9 t9 H locs ht9 hal hw hB hz1 hk1 hS => ?_)
  · obtain ⟨v9, i9⟩ := u9
    obtain ⟨hv9, hJ9⟩ := hpx
    have hv9 : v9 = v := hv9
    obtain ⟨hexc, hP1, hK1, hD1⟩ := hB
    rw [ht9] at hP1
    obtain ⟨hP, hD⟩ := bJ2e hP hD hk1 hFc hP1 hD1
    have hJ9 : II v9.1 i9 := hJ9
    dsimp only at hP hD
    rw [hv9] at hP hD hJ9
    have hP : va_P D vwCl ([(oa, .inl (K 1, 1, .inr (.inl fo)))] ++ ([(ob, .inl (K 4, 1, .inr (.inr (.inr (.inl fd)))))] ++ (WX K ad q q1 q2 g r r2 v i9))) H := hP
    have hD : va_D A ([(oa, .inl (K 1, 1, .inr (.inl fo)))] ++ ([(ob, .inl (K 4, 1, .inr (.inr (.inr (.inl fd)))))] ++ (WX K ad q q1 q2 g r r2 v i9))) := hD
    rcases exc2 hexc with ⟨hk, rfl⟩ | ⟨hk, rfl⟩
    · refine vx_catch (own := RL) (name := eIO) (E := eIO) hown [] ⟨0, 9, 12, 13⟩ [⟨0, 9, 16, 15⟩] hxt (fun z h => absurd h List.not_mem_nil) (by decide) (by decide) (hts _ k_cl_L_13) (dc_use rfl hCL.1.1) hce hcv hcl ?_
      refine lv_astore (lv' := [(4, .ref q9), (0, .ref (ad 0)), (1, .int x), (2, .int y), (3, .ref oa)]) hx hb dL_gearRatio_12 hl (by decide) rfl (fun ls hl => ?_)
      refine lv_iconst (v := nI 1) hx hb dL_gearRatio_14 (by decide) ?_
      exact W.iret (v := nI 1) hx hb hr (fun t9 ht9 hW => ⟨⟨nI 1, (v, i9, fo, fd), rfl, ⟨by rw [hk], by rw [hk]; decide, hI, hJ9, fun h9 => absurd (hk.symm.trans h9) (by decide), fun _ => rfl⟩, by rw [ht9]; exact hP, va_K.moved hW.alike hK, hD⟩, hS.F ht9⟩) hS.2.2 dL_gearRatio_15
    · refine vx_catch (own := RL) (name := eIA) (E := eIA) hown [⟨0, 9, 12, 13⟩] ⟨0, 9, 16, 15⟩ [] hxt (List.forall_mem_cons.mpr ⟨Or.inr ⟨by decide, eIO, hts _ k_cl_L_13, hCL.2.1⟩, (fun z h => absurd h List.not_mem_nil)⟩) (by decide) (by decide) (hts _ k_cl_L_15) (dc_use rfl hCL.1.2.1) hce hcv hcl ?_
      refine lv_astore (lv' := [(4, .ref q9), (0, .ref (ad 0)), (1, .int x), (2, .int y), (3, .ref oa)]) hx hb dL_gearRatio_16 hl (by decide) rfl (fun ls hl => ?_)
      refine lv_iconst (v := nI 2) hx hb dL_gearRatio_18 (by decide) ?_
      exact W.iret (v := nI 2) hx hb hr (fun t9 ht9 hW => ⟨⟨nI 2, (v, i9, fo, fd), rfl, ⟨by rw [hk], by rw [hk]; decide, hI, hJ9, fun h9 => absurd (hk.symm.trans h9) (by decide), fun _ => rfl⟩, by rw [ht9]; exact hP, va_K.moved hW.alike hK, hD⟩, hS.F ht9⟩) hS.2.2 dL_gearRatio_19
  obtain ⟨v9, i9⟩ := u9
  obtain ⟨hP1, hK1, hD1⟩ := hB
  rw [ht9] at hP1
  obtain ⟨hP, hD⟩ := bJ2e hP hD hk1 hFc hP1 hD1
  have hP : va_P D vwCl ([(oa, .inl (K 1, 1, .inr (.inl fo)))] ++ ([(ob, .inl (K 4, 1, .inr (.inr (.inr (.inl fd)))))] ++ (WX K ad q q1 q2 g r r2 v9 i9))) H := hP
  have hD : va_D A ([(oa, .inl (K 1, 1, .inr (.inl fo)))] ++ ([(ob, .inl (K 4, 1, .inr (.inr (.inr (.inl fd)))))] ++ (WX K ad q q1 q2 g r r2 v9 i9))) := hD
  refine n_last hx hb hK hP hD hS 0 1 rfl rfl (i := 0) (n := 1) (by omega) (by decide) dL_gearRatio_8 (fun H locs hP hD hS => ?_)
  have hP : va_P D vwCl ([(oa, .inl (K 1, 1, .inr (.inl (vp_updL fo 0 rz))))] ++ ([(ob, .inl (K 4, 1, .inr (.inr (.inr (.inl fd)))))] ++ (WX K ad q q1 q2 g r r2 v9 i9))) H := hP
  have hD : va_D A ([(oa, .inl (K 1, 1, .inr (.inl (vp_updL fo 0 rz))))] ++ ([(ob, .inl (K 4, 1, .inr (.inr (.inr (.inl fd)))))] ++ (WX K ad q q1 q2 g r r2 v9 i9))) := hD
  refine lv_goto (tgt := 20) hx hb dL_gearRatio_9 (by decide) ?_
  refine lv_iconst (v := nI 0) hx hb dL_gearRatio_20 (by decide) ?_
  have hrs : rs_gearRatio v.1 x y = _ := hw.2.2
  exact W.iret (v := nI 0) hx hb hr (fun t9 ht9 hW => ⟨⟨nI 0, (v9, i9, vp_updL fo 0 rz, fd), rfl, ⟨by rw [hrs], by rw [hrs]; exact Nat.zero_le 3, (by rw [show v9 = v from hw.1]; exact hI), hw.2.1, fun _ => ⟨(by rw [hrs]; exact congrArg Int64.toInt (show vp_updL fo 0 rz 0 = rz from if_pos rfl)), hw.1⟩, by rw [hrs]; exact fun h9 => absurd rfl h9⟩, by rw [ht9]; exact hP, va_K.moved hW.alike hK, hD⟩, hS.F ht9⟩) hS.2.2 dL_gearRatio_21
set_option maxHeartbeats 4000000 in
set_option maxRecDepth 100000 in
theorem c_L_step (l : Launch) (hlf : l.stackTraces = false) (D : va_G) (K : Nat → ClassId) (oa ob : Nat) (fo : Nat → Int64) (fd : Nat → UInt64) (ad q q1 q2 g r r2 : Nat → Nat) (v : CV) (i : CI) (x : Int32) (sz : Nat) (hI : IV v) (hJ : II v.1 i) : Met l yL_step (.codeWith yL_step cL_step 4 (some .int) [(0, 9, 12, 13)] :: TB) ({ frames := 8, cells := 1, slots := 6, locals := 172 } : Room) (va_Pc [.ref (ad 0), .int x, .ref ob] (cPL D K (HW K oa ob fo fd ad q q1 q2 g r r2 v i) sz)) (va_Qi (fun (z : Int32) (u : LS9) => z = nI (rs_step v.1 x).1 ∧ (rs_step v.1 x).1 ≤ 3 ∧ IV u.1 ∧ II u.1.1 u.2.1 ∧ ((rs_step v.1 x).1 = 0 → (vf_n32 (rs_step v.1 x).2 ∧ u.2.2.2 0 = FP.f2d (rs_step v.1 x).2) ∧ u.1 = v) ∧ (¬ (rs_step v.1 x).1 = 0 → u.1 = v)) (fun (u : LS9) t => cB5 D K (va_A (HW K oa ob fo fd ad q q1 q2 g r r2 v i) sz) (HW K oa ob u.2.2.1 u.2.2.2 ad q q1 q2 g r r2 u.1 u.2.1) t) (va_A (HW K oa ob fo fd ad q q1 q2 g r r2 v i) sz)) 1 6 (va_A (HW K oa ob fo fd ad q q1 q2 g r r2 v i) sz) := by
  refine Met.ofWH (cc := cL_step) (maxL := 4) (ret := (some .int)) (hh := [(0, 9, 12, 13)]) (by decide) rfl ?_
  intro p e s m args below meth c s₁ B hml hv
  obtain ⟨rfl, ⟨hsz, hP, hK, hD0⟩, hTX, hCL⟩ := hv
  have hx := B.exec
  have hb := B.bytes
  have hr := B.returns
  have hts := hts_tl (atoms_spec (ws := (.codeWith yL_step cL_step 4 (some .int) [(0, 9, 12, 13)] :: TB)) B.pre)
  have hxt := vx_table (x := yL_step) B (atoms_spec (ws := (.codeWith yL_step cL_step 4 (some .int) [(0, 9, 12, 13)] :: TB)) B.pre _ List.mem_cons_self)
  have hown : s.vm.findClass RL = some m.cls := findClass_of_methodNamed B.named
  have hlocks := B.notSynchronized
  subst hsz
  have hD := hD0.self (sz := s.heap.size)
  generalize hAe : (va_A (HW K oa ob fo fd ad q q1 q2 g r r2 v i) s.heap.size) = A at hD hTX ⊢
  have hA : ∀ q : Nat, s.heap.size ≤ q → A q := fun q h => by rw [← hAe]; exact Or.inr h
  have hS : va_S A s.heap s.heap [] := va_S.rf
  clear hAe hD0
  have hK4 := hK.sub (tys' := TY K) [0, 1, 2, 3] rfl
  have hP : va_P D vwCl ([(oa, .inl (K 1, 1, .inr (.inl fo)))] ++ ([(ob, .inl (K 4, 1, .inr (.inr (.inr (.inl fd)))))] ++ (WX K ad q q1 q2 g r r2 v i))) s.heap := hP
  have hD : va_D A ([(oa, .inl (K 1, 1, .inr (.inl fo)))] ++ ([(ob, .inl (K 4, 1, .inr (.inr (.inr (.inl fd)))))] ++ (WX K ad q q1 q2 g r r2 v i))) := hD
  have hl := lv_entry ([.ref (ad 0), .int x, .ref ob]) (n := 4) (Nat.le_of_ble_eq_true rfl)
  rw [lg_entry_eq]
  generalize (lg_sl ([.ref (ad 0), .int x, .ref ob]) ++ List.replicate (4 - (lg_sl ([.ref (ad 0), .int x, .ref ob])).length) Slot.unset).toArray = ls at hl ⊢
  have hl : lv_has ls 4 [(0, .ref (ad 0)), (1, .int x), (2, .ref ob)] := hl
  refine lv_aload_n hx hb dL_step_0 rfl (lv_at hl 2 rfl) ?_
  refine lv_iconst (v := nI 0) hx hb dL_step_1 (by decide) ?_
  refine lv_aload_n hx hb dL_step_2 rfl (lv_at hl 0 rfl) ?_
  refine lv_iload_n hx hb dL_step_3 rfl (lv_at hl 1 rfl) ?_
  have hPc := bP2e hP
  have hDc := bD2e hD
  have hFc := bF2e hD hS hA
  refine vx_callf (vx_runV (As := [.int x]) (rest := [.int (nI 0), .ref ob]) ⟨hx, hb, hml, hown, hts⟩ (c_X6_step l hlf D K ad q q1 q2 g r r2 v i x s.heap.size hI hJ) (cwV 1 hts (TB_V k_m_L_77 k_im_X6_step k_se_X6_step k_in_X6 k_co_X6_step (fun _ h => h)) rfl rfl rfl (by decide +kernel) ⟨Nat.le_of_ble_eq_true rfl, Nat.le_of_ble_eq_true rfl⟩) ⟨cPT_blind, va_recv hK4 hPc (ci := 6) (q0 := 0) rfl rfl, cPT_of hPc hK4 hDc hTX hS hFc⟩ rfl rfl hl.1 rfl (lv_room (Nat.le_of_ble_eq_true rfl)) dL_step_4 ⟨Nat.le_of_ble_eq_true rfl, Nat.le_of_ble_eq_true rfl⟩) hS (fun q _ h => hFc q h) hFc (fun q _ h => hFc q h) (fun E ce q9 u9 t9 H locs ht9 hal hpx hB hz1 hk1 hS hce hcv hcl => ?_) (fun rz u9 t9 H locs ht9 hal hw hB hz1 hk1 hS => ?_)
  · obtain ⟨v9, i9⟩ := u9
    obtain ⟨hv9, hJ9⟩ := hpx
    have hv9 : v9 = v := hv9
    obtain ⟨hexc, hP1, hK1, hD1⟩ := hB
    rw [ht9] at hP1
    obtain ⟨hP, hD⟩ := bJ2e hP hD hk1 hFc hP1 hD1
    have hJ9 : II v9.1 i9 := hJ9
    dsimp only at hP hD
    rw [hv9] at hP hD hJ9
    have hP : va_P D vwCl ([(oa, .inl (K 1, 1, .inr (.inl fo)))] ++ ([(ob, .inl (K 4, 1, .inr (.inr (.inr (.inl fd)))))] ++ (WX K ad q q1 q2 g r r2 v i9))) H := hP
    have hD : va_D A ([(oa, .inl (K 1, 1, .inr (.inl fo)))] ++ ([(ob, .inl (K 4, 1, .inr (.inr (.inr (.inl fd)))))] ++ (WX K ad q q1 q2 g r r2 v i9))) := hD
    obtain ⟨hk, rfl⟩ := exc1 hexc
    refine vx_catch (own := RL) (name := eIO) (E := eIO) hown [] ⟨0, 9, 12, 13⟩ [] hxt (fun z h => absurd h List.not_mem_nil) (by decide) (by decide) (hts _ k_cl_L_13) (dc_use rfl hCL.1.1) hce hcv hcl ?_
    refine lv_astore_n (lv' := [(3, .ref q9), (0, .ref (ad 0)), (1, .int x), (2, .ref ob)]) hx hb dL_step_12 rfl hl (by decide) rfl (fun ls hl => ?_)
    refine lv_iconst (v := nI 1) hx hb dL_step_13 (by decide) ?_
    exact W.iret (v := nI 1) hx hb hr (fun t9 ht9 hW => ⟨⟨nI 1, (v, i9, fo, fd), rfl, ⟨by rw [hk], by rw [hk]; decide, hI, hJ9, fun h9 => absurd (hk.symm.trans h9) (by decide), fun _ => rfl⟩, by rw [ht9]; exact hP, va_K.moved hW.alike hK, hD⟩, hS.F ht9⟩) hS.2.2 dL_step_14
  obtain ⟨v9, i9⟩ := u9
  obtain ⟨hP1, hK1, hD1⟩ := hB
  rw [ht9] at hP1
  obtain ⟨hP, hD⟩ := bJ2e hP hD hk1 hFc hP1 hD1
  have hP : va_P D vwCl ([(oa, .inl (K 1, 1, .inr (.inl fo)))] ++ ([(ob, .inl (K 4, 1, .inr (.inr (.inr (.inl fd)))))] ++ (WX K ad q q1 q2 g r r2 v9 i9))) H := hP
  have hD : va_D A ([(oa, .inl (K 1, 1, .inr (.inl fo)))] ++ ([(ob, .inl (K 4, 1, .inr (.inr (.inr (.inl fd)))))] ++ (WX K ad q q1 q2 g r r2 v9 i9))) := hD
  refine lv_f2d hx hb dL_step_7 (f2d_n64 hw.2.2.1) ?_
  refine n_dast hx hb hK hP hD hS 1 4 rfl rfl (i := 0) (n := 1) (by decide) (by decide) dL_step_8 (fun H locs hP hD hS => ?_)
  have hP : va_P D vwCl ([(oa, .inl (K 1, 1, .inr (.inl fo)))] ++ ([(ob, .inl (K 4, 1, .inr (.inr (.inr (.inl (vf_upd fd 0 (FP.f2d rz)))))))] ++ (WX K ad q q1 q2 g r r2 v9 i9))) H := hP
  have hD : va_D A ([(oa, .inl (K 1, 1, .inr (.inl fo)))] ++ ([(ob, .inl (K 4, 1, .inr (.inr (.inr (.inl (vf_upd fd 0 (FP.f2d rz)))))))] ++ (WX K ad q q1 q2 g r r2 v9 i9))) := hD
  refine lv_goto (tgt := 15) hx hb dL_step_9 (by decide) ?_
  refine lv_iconst (v := nI 0) hx hb dL_step_15 (by decide) ?_
  have hrs : rs_step v.1 x = _ := hw.2.2.2
  exact W.iret (v := nI 0) hx hb hr (fun t9 ht9 hW => ⟨⟨nI 0, (v9, i9, fo, vf_upd fd 0 (FP.f2d rz)), rfl, ⟨by rw [hrs], by rw [hrs]; exact Nat.zero_le 3, (by rw [show v9 = v from hw.1]; exact hI), hw.2.1, fun _ => ⟨⟨by rw [hrs]; exact hw.2.2.1, by rw [hrs]; exact (show vf_upd fd 0 (FP.f2d rz) 0 = FP.f2d rz from if_pos rfl)⟩, hw.1⟩, by rw [hrs]; exact fun h9 => absurd rfl h9⟩, by rw [ht9]; exact hP, va_K.moved hW.alike hK, hD⟩, hS.F ht9⟩) hS.2.2 dL_step_16
set_option maxHeartbeats 4000000 in
set_option maxRecDepth 100000 in
theorem c_L_fewestShifts (l : Launch) (hlf : l.stackTraces = false) (D : va_G) (K : Nat → ClassId) (oa ob : Nat) (fo : Nat → Int64) (fd : Nat → UInt64) (ad q q1 q2 g r r2 : Nat → Nat) (v : CV) (i : CI) (x y : Int32) (sz : Nat) (hI : IV v) (hJ : II v.1 i) : Met l yL_fewestShifts (.codeWith yL_fewestShifts cL_fewestShifts 5 (some .int) [(0, 10, 13, 13)] :: TB) ({ frames := 8, cells := 1, slots := 6, locals := 172 } : Room) (va_Pc [.ref (ad 0), .int x, .int y, .ref oa] (cPL D K (HW K oa ob fo fd ad q q1 q2 g r r2 v i) sz)) (va_Qi (fun (z : Int32) (u : LS9) => z = nI (rs_fewest v.1 x y).1 ∧ (rs_fewest v.1 x y).1 ≤ 3 ∧ IV u.1 ∧ II u.1.1 u.2.1 ∧ ((rs_fewest v.1 x y).1 = 0 → (u.2.2.1 0).toInt = (rs_fewest v.1 x y).2 ∧ u.1 = v) ∧ (¬ (rs_fewest v.1 x y).1 = 0 → u.1 = v)) (fun (u : LS9) t => cB5 D K (va_A (HW K oa ob fo fd ad q q1 q2 g r r2 v i) sz) (HW K oa ob u.2.2.1 u.2.2.2 ad q q1 q2 g r r2 u.1 u.2.1) t) (va_A (HW K oa ob fo fd ad q q1 q2 g r r2 v i) sz)) 1 6 (va_A (HW K oa ob fo fd ad q q1 q2 g r r2 v i) sz) := by
  refine Met.ofWH (cc := cL_fewestShifts) (maxL := 5) (ret := (some .int)) (hh := [(0, 10, 13, 13)]) (by decide) rfl ?_
  intro p e s m args below meth c s₁ B hml hv
  obtain ⟨rfl, ⟨hsz, hP, hK, hD0⟩, hTX, hCL⟩ := hv
  have hx := B.exec
  have hb := B.bytes
  have hr := B.returns
  have hts := hts_tl (atoms_spec (ws := (.codeWith yL_fewestShifts cL_fewestShifts 5 (some .int) [(0, 10, 13, 13)] :: TB)) B.pre)
  have hxt := vx_table (x := yL_fewestShifts) B (atoms_spec (ws := (.codeWith yL_fewestShifts cL_fewestShifts 5 (some .int) [(0, 10, 13, 13)] :: TB)) B.pre _ List.mem_cons_self)
  have hown : s.vm.findClass RL = some m.cls := findClass_of_methodNamed B.named
  have hlocks := B.notSynchronized
  subst hsz
  have hD := hD0.self (sz := s.heap.size)
  generalize hAe : (va_A (HW K oa ob fo fd ad q q1 q2 g r r2 v i) s.heap.size) = A at hD hTX ⊢
  have hA : ∀ q : Nat, s.heap.size ≤ q → A q := fun q h => by rw [← hAe]; exact Or.inr h
  have hS : va_S A s.heap s.heap [] := va_S.rf
  clear hAe hD0
  have hK4 := hK.sub (tys' := TY K) [0, 1, 2, 3] rfl
  have hP : va_P D vwCl ([(oa, .inl (K 1, 1, .inr (.inl fo)))] ++ ([(ob, .inl (K 4, 1, .inr (.inr (.inr (.inl fd)))))] ++ (WX K ad q q1 q2 g r r2 v i))) s.heap := hP
  have hD : va_D A ([(oa, .inl (K 1, 1, .inr (.inl fo)))] ++ ([(ob, .inl (K 4, 1, .inr (.inr (.inr (.inl fd)))))] ++ (WX K ad q q1 q2 g r r2 v i))) := hD
  have hl := lv_entry ([.ref (ad 0), .int x, .int y, .ref oa]) (n := 5) (Nat.le_of_ble_eq_true rfl)
  rw [lg_entry_eq]
  generalize (lg_sl ([.ref (ad 0), .int x, .int y, .ref oa]) ++ List.replicate (5 - (lg_sl ([.ref (ad 0), .int x, .int y, .ref oa])).length) Slot.unset).toArray = ls at hl ⊢
  have hl : lv_has ls 5 [(0, .ref (ad 0)), (1, .int x), (2, .int y), (3, .ref oa)] := hl
  refine lv_aload_n hx hb dL_fewestShifts_0 rfl (lv_at hl 3 rfl) ?_
  refine lv_iconst (v := nI 0) hx hb dL_fewestShifts_1 (by decide) ?_
  refine lv_aload_n hx hb dL_fewestShifts_2 rfl (lv_at hl 0 rfl) ?_
  refine lv_iload_n hx hb dL_fewestShifts_3 rfl (lv_at hl 1 rfl) ?_
  refine lv_iload_n hx hb dL_fewestShifts_4 rfl (lv_at hl 2 rfl) ?_
  have hPc := bP2e hP
  have hDc := bD2e hD
  have hFc := bF2e hD hS hA
  refine vx_calli (vx_runV (As := [.int x, .int y]) (rest := [.int (nI 0), .ref oa]) ⟨hx, hb, hml, hown, hts⟩ (c_X6_fewestShifts l hlf D K ad q q1 q2 g r r2 v i x y s.heap.size hI hJ) (cwV 2 hts (TB_V k_m_L_81 k_im_X6_fewestShifts k_se_X6_fewestShifts k_in_X6 k_co_X6_fewestShifts (fun _ h => h)) rfl rfl rfl (by decide +kernel) ⟨Nat.le_of_ble_eq_true rfl, Nat.le_of_ble_eq_true rfl⟩) ⟨cPT_blind, va_recv hK4 hPc (ci := 6) (q0 := 0) rfl rfl, cPT_of hPc hK4 hDc hTX hS hFc⟩ rfl rfl hl.1 rfl (lv_room (Nat.le_of_ble_eq_true rfl)) dL_fewestShifts_5 ⟨Nat.le_of_ble_eq_true rfl, Nat.le_of_ble_eq_true rfl⟩) hS (fun q _ h => hFc q h) hFc (fun q _ h => hFc q h) (fun E ce q9 u9 t9 H locs ht9 hal hpx hB hz1 hk1 hS hce hcv hcl => ?_) (fun rz u9 t9 H locs ht9 hal hw hB hz1 hk1 hS => ?_)
  · obtain ⟨v9, i9⟩ := u9
    obtain ⟨hv9, hJ9⟩ := hpx
    have hv9 : v9 = v := hv9
    obtain ⟨hexc, hP1, hK1, hD1⟩ := hB
    rw [ht9] at hP1
    obtain ⟨hP, hD⟩ := bJ2e hP hD hk1 hFc hP1 hD1
    have hJ9 : II v9.1 i9 := hJ9
    dsimp only at hP hD
    rw [hv9] at hP hD hJ9
    have hP : va_P D vwCl ([(oa, .inl (K 1, 1, .inr (.inl fo)))] ++ ([(ob, .inl (K 4, 1, .inr (.inr (.inr (.inl fd)))))] ++ (WX K ad q q1 q2 g r r2 v i9))) H := hP
    have hD : va_D A ([(oa, .inl (K 1, 1, .inr (.inl fo)))] ++ ([(ob, .inl (K 4, 1, .inr (.inr (.inr (.inl fd)))))] ++ (WX K ad q q1 q2 g r r2 v i9))) := hD
    obtain ⟨hk, rfl⟩ := exc1 hexc
    refine vx_catch (own := RL) (name := eIO) (E := eIO) hown [] ⟨0, 10, 13, 13⟩ [] hxt (fun z h => absurd h List.not_mem_nil) (by decide) (by decide) (hts _ k_cl_L_13) (dc_use rfl hCL.1.1) hce hcv hcl ?_
    refine lv_astore (lv' := [(4, .ref q9), (0, .ref (ad 0)), (1, .int x), (2, .int y), (3, .ref oa)]) hx hb dL_fewestShifts_13 hl (by decide) rfl (fun ls hl => ?_)
    refine lv_iconst (v := nI 1) hx hb dL_fewestShifts_15 (by decide) ?_
    exact W.iret (v := nI 1) hx hb hr (fun t9 ht9 hW => ⟨⟨nI 1, (v, i9, fo, fd), rfl, ⟨by rw [hk], by rw [hk]; decide, hI, hJ9, fun h9 => absurd (hk.symm.trans h9) (by decide), fun _ => rfl⟩, by rw [ht9]; exact hP, va_K.moved hW.alike hK, hD⟩, hS.F ht9⟩) hS.2.2 dL_fewestShifts_16
  obtain ⟨v9, i9⟩ := u9
  obtain ⟨hP1, hK1, hD1⟩ := hB
  rw [ht9] at hP1
  obtain ⟨hP, hD⟩ := bJ2e hP hD hk1 hFc hP1 hD1
  have hP : va_P D vwCl ([(oa, .inl (K 1, 1, .inr (.inl fo)))] ++ ([(ob, .inl (K 4, 1, .inr (.inr (.inr (.inl fd)))))] ++ (WX K ad q q1 q2 g r r2 v9 i9))) H := hP
  have hD : va_D A ([(oa, .inl (K 1, 1, .inr (.inl fo)))] ++ ([(ob, .inl (K 4, 1, .inr (.inr (.inr (.inl fd)))))] ++ (WX K ad q q1 q2 g r r2 v9 i9))) := hD
  refine lv_i2l (v := rz.toInt64) hx hb dL_fewestShifts_8 rfl ?_
  refine n_last hx hb hK hP hD hS 0 1 rfl rfl (i := 0) (n := 1) (by omega) (by decide) dL_fewestShifts_9 (fun H locs hP hD hS => ?_)
  have hP : va_P D vwCl ([(oa, .inl (K 1, 1, .inr (.inl (vp_updL fo 0 rz.toInt64))))] ++ ([(ob, .inl (K 4, 1, .inr (.inr (.inr (.inl fd)))))] ++ (WX K ad q q1 q2 g r r2 v9 i9))) H := hP
  have hD : va_D A ([(oa, .inl (K 1, 1, .inr (.inl (vp_updL fo 0 rz.toInt64))))] ++ ([(ob, .inl (K 4, 1, .inr (.inr (.inr (.inl fd)))))] ++ (WX K ad q q1 q2 g r r2 v9 i9))) := hD
  refine lv_goto (tgt := 17) hx hb dL_fewestShifts_10 (by decide) ?_
  refine lv_iconst (v := nI 0) hx hb dL_fewestShifts_17 (by decide) ?_
  have hrs : rs_fewest v.1 x y = _ := hw.2.2
  exact W.iret (v := nI 0) hx hb hr (fun t9 ht9 hW => ⟨⟨nI 0, (v9, i9, vp_updL fo 0 rz.toInt64, fd), rfl, ⟨by rw [hrs], by rw [hrs]; exact Nat.zero_le 3, (by rw [show v9 = v from hw.1]; exact hI), hw.2.1, fun _ => ⟨(by rw [hrs]; exact (congrArg Int64.toInt (if_pos rfl)).trans (Int32.toInt_toInt64 rz)), hw.1⟩, by rw [hrs]; exact fun h9 => absurd rfl h9⟩, by rw [ht9]; exact hP, va_K.moved hW.alike hK, hD⟩, hS.F ht9⟩) hS.2.2 dL_fewestShifts_18
set_option maxHeartbeats 4000000 in
set_option maxRecDepth 100000 in
theorem c_L_shift (l : Launch) (hlf : l.stackTraces = false) (D : va_G) (K : Nat → ClassId) (oa ob : Nat) (fo : Nat → Int64) (fd : Nat → UInt64) (ad q q1 q2 g r r2 : Nat → Nat) (v : CV) (i : CI) (x y y3 : Int32) (sz : Nat) (hI : IV v) (hJ : II v.1 i) : Met l yL_shift (.codeWith yL_shift cL_shift 6 (some .int) [(0, 12, 15, 13)] :: TB) ({ frames := 8, cells := 1, slots := 6, locals := 173 } : Room) (va_Pc [.ref (ad 0), .int x, .int y, .int y3, .ref oa] (cPL D K (HW K oa ob fo fd ad q q1 q2 g r r2 v i) sz)) (va_Qi (fun (z : Int32) (u : LS9) => z = nI (rs_shift v.1 x y y3).1 ∧ (rs_shift v.1 x y y3).1 ≤ 3 ∧ IV u.1 ∧ II u.1.1 u.2.1 ∧ ((rs_shift v.1 x y y3).1 = 0 → (u.2.2.1 0).toInt = (rs_shift v.1 x y y3).2 ∧ u.1 = v) ∧ (¬ (rs_shift v.1 x y y3).1 = 0 → u.1 = v)) (fun (u : LS9) t => cB5 D K (va_A (HW K oa ob fo fd ad q q1 q2 g r r2 v i) sz) (HW K oa ob u.2.2.1 u.2.2.2 ad q q1 q2 g r r2 u.1 u.2.1) t) (va_A (HW K oa ob fo fd ad q q1 q2 g r r2 v i) sz)) 1 6 (va_A (HW K oa ob fo fd ad q q1 q2 g r r2 v i) sz) := by
  refine Met.ofWH (cc := cL_shift) (maxL := 6) (ret := (some .int)) (hh := [(0, 12, 15, 13)]) (by decide) rfl ?_
  intro p e s m args below meth c s₁ B hml hv
  obtain ⟨rfl, ⟨hsz, hP, hK, hD0⟩, hTX, hCL⟩ := hv
  have hx := B.exec
  have hb := B.bytes
  have hr := B.returns
  have hts := hts_tl (atoms_spec (ws := (.codeWith yL_shift cL_shift 6 (some .int) [(0, 12, 15, 13)] :: TB)) B.pre)
  have hxt := vx_table (x := yL_shift) B (atoms_spec (ws := (.codeWith yL_shift cL_shift 6 (some .int) [(0, 12, 15, 13)] :: TB)) B.pre _ List.mem_cons_self)
  have hown : s.vm.findClass RL = some m.cls := findClass_of_methodNamed B.named
  have hlocks := B.notSynchronized
  subst hsz
  have hD := hD0.self (sz := s.heap.size)
  generalize hAe : (va_A (HW K oa ob fo fd ad q q1 q2 g r r2 v i) s.heap.size) = A at hD hTX ⊢
  have hA : ∀ q : Nat, s.heap.size ≤ q → A q := fun q h => by rw [← hAe]; exact Or.inr h
  have hS : va_S A s.heap s.heap [] := va_S.rf
  clear hAe hD0
  have hK4 := hK.sub (tys' := TY K) [0, 1, 2, 3] rfl
  have hP : va_P D vwCl ([(oa, .inl (K 1, 1, .inr (.inl fo)))] ++ ([(ob, .inl (K 4, 1, .inr (.inr (.inr (.inl fd)))))] ++ (WX K ad q q1 q2 g r r2 v i))) s.heap := hP
  have hD : va_D A ([(oa, .inl (K 1, 1, .inr (.inl fo)))] ++ ([(ob, .inl (K 4, 1, .inr (.inr (.inr (.inl fd)))))] ++ (WX K ad q q1 q2 g r r2 v i))) := hD
  have hl := lv_entry ([.ref (ad 0), .int x, .int y, .int y3, .ref oa]) (n := 6) (Nat.le_of_ble_eq_true rfl)
  rw [lg_entry_eq]
  generalize (lg_sl ([.ref (ad 0), .int x, .int y, .int y3, .ref oa]) ++ List.replicate (6 - (lg_sl ([.ref (ad 0), .int x, .int y, .int y3, .ref oa])).length) Slot.unset).toArray = ls at hl ⊢
  have hl : lv_has ls 6 [(0, .ref (ad 0)), (1, .int x), (2, .int y), (3, .int y3), (4, .ref oa)] := hl
  refine lv_aload hx hb dL_shift_0 (lv_at hl 4 rfl) ?_
  refine lv_iconst (v := nI 0) hx hb dL_shift_2 (by decide) ?_
  refine lv_aload_n hx hb dL_shift_3 rfl (lv_at hl 0 rfl) ?_
  refine lv_iload_n hx hb dL_shift_4 rfl (lv_at hl 1 rfl) ?_
  refine lv_iload_n hx hb dL_shift_5 rfl (lv_at hl 2 rfl) ?_
  refine lv_iload_n hx hb dL_shift_6 rfl (lv_at hl 3 rfl) ?_
  have hPc := bP2e hP
  have hDc := bD2e hD
  have hFc := bF2e hD hS hA
  refine vx_calli (vx_runV (As := [.int x, .int y, .int y3]) (rest := [.int (nI 0), .ref oa]) ⟨hx, hb, hml, hown, hts⟩ (c_X6_shift l hlf D K ad q q1 q2 g r r2 v i x y y3 s.heap.size hI hJ) (cwV 3 hts (TB_V k_m_L_84 k_im_X6_shift k_se_X6_shift k_in_X6 k_co_X6_shift (fun _ h => h)) rfl rfl rfl (by decide +kernel) ⟨Nat.le_of_ble_eq_true rfl, Nat.le_of_ble_eq_true rfl⟩) ⟨cPT_blind, va_recv hK4 hPc (ci := 6) (q0 := 0) rfl rfl, cPT_of hPc hK4 hDc hTX hS hFc⟩ rfl rfl hl.1 rfl (lv_room (Nat.le_of_ble_eq_true rfl)) dL_shift_7 ⟨Nat.le_of_ble_eq_true rfl, Nat.le_of_ble_eq_true rfl⟩) hS (fun q _ h => hFc q h) hFc (fun q _ h => hFc q h) (fun E ce q9 u9 t9 H locs ht9 hal hpx hB hz1 hk1 hS hce hcv hcl => ?_) (fun rz u9 t9 H locs ht9 hal hw hB hz1 hk1 hS => ?_)
  · obtain ⟨v9, i9⟩ := u9
    obtain ⟨hv9, hJ9⟩ := hpx
    have hv9 : v9 = v := hv9
    obtain ⟨hexc, hP1, hK1, hD1⟩ := hB
    rw [ht9] at hP1
    obtain ⟨hP, hD⟩ := bJ2e hP hD hk1 hFc hP1 hD1
    have hJ9 : II v9.1 i9 := hJ9
    dsimp only at hP hD
    rw [hv9] at hP hD hJ9
    have hP : va_P D vwCl ([(oa, .inl (K 1, 1, .inr (.inl fo)))] ++ ([(ob, .inl (K 4, 1, .inr (.inr (.inr (.inl fd)))))] ++ (WX K ad q q1 q2 g r r2 v i9))) H := hP
    have hD : va_D A ([(oa, .inl (K 1, 1, .inr (.inl fo)))] ++ ([(ob, .inl (K 4, 1, .inr (.inr (.inr (.inl fd)))))] ++ (WX K ad q q1 q2 g r r2 v i9))) := hD
    obtain ⟨hk, rfl⟩ := exc1 hexc
    refine vx_catch (own := RL) (name := eIO) (E := eIO) hown [] ⟨0, 12, 15, 13⟩ [] hxt (fun z h => absurd h List.not_mem_nil) (by decide) (by decide) (hts _ k_cl_L_13) (dc_use rfl hCL.1.1) hce hcv hcl ?_
    refine lv_astore (lv' := [(5, .ref q9), (0, .ref (ad 0)), (1, .int x), (2, .int y), (3, .int y3), (4, .ref oa)]) hx hb dL_shift_15 hl (by decide) rfl (fun ls hl => ?_)
    refine lv_iconst (v := nI 1) hx hb dL_shift_17 (by decide) ?_
    exact W.iret (v := nI 1) hx hb hr (fun t9 ht9 hW => ⟨⟨nI 1, (v, i9, fo, fd), rfl, ⟨by rw [hk], by rw [hk]; decide, hI, hJ9, fun h9 => absurd (hk.symm.trans h9) (by decide), fun _ => rfl⟩, by rw [ht9]; exact hP, va_K.moved hW.alike hK, hD⟩, hS.F ht9⟩) hS.2.2 dL_shift_18
  obtain ⟨v9, i9⟩ := u9
  obtain ⟨hP1, hK1, hD1⟩ := hB
  rw [ht9] at hP1
  obtain ⟨hP, hD⟩ := bJ2e hP hD hk1 hFc hP1 hD1
  have hP : va_P D vwCl ([(oa, .inl (K 1, 1, .inr (.inl fo)))] ++ ([(ob, .inl (K 4, 1, .inr (.inr (.inr (.inl fd)))))] ++ (WX K ad q q1 q2 g r r2 v9 i9))) H := hP
  have hD : va_D A ([(oa, .inl (K 1, 1, .inr (.inl fo)))] ++ ([(ob, .inl (K 4, 1, .inr (.inr (.inr (.inl fd)))))] ++ (WX K ad q q1 q2 g r r2 v9 i9))) := hD
  refine lv_i2l (v := rz.toInt64) hx hb dL_shift_10 rfl ?_
  refine n_last hx hb hK hP hD hS 0 1 rfl rfl (i := 0) (n := 1) (by omega) (by decide) dL_shift_11 (fun H locs hP hD hS => ?_)
  have hP : va_P D vwCl ([(oa, .inl (K 1, 1, .inr (.inl (vp_updL fo 0 rz.toInt64))))] ++ ([(ob, .inl (K 4, 1, .inr (.inr (.inr (.inl fd)))))] ++ (WX K ad q q1 q2 g r r2 v9 i9))) H := hP
  have hD : va_D A ([(oa, .inl (K 1, 1, .inr (.inl (vp_updL fo 0 rz.toInt64))))] ++ ([(ob, .inl (K 4, 1, .inr (.inr (.inr (.inl fd)))))] ++ (WX K ad q q1 q2 g r r2 v9 i9))) := hD
  refine lv_goto (tgt := 19) hx hb dL_shift_12 (by decide) ?_
  refine lv_iconst (v := nI 0) hx hb dL_shift_19 (by decide) ?_
  have hrs : rs_shift v.1 x y y3 = _ := hw.2.2
  exact W.iret (v := nI 0) hx hb hr (fun t9 ht9 hW => ⟨⟨nI 0, (v9, i9, vp_updL fo 0 rz.toInt64, fd), rfl, ⟨by rw [hrs], by rw [hrs]; exact Nat.zero_le 3, (by rw [show v9 = v from hw.1]; exact hI), hw.2.1, fun _ => ⟨(by rw [hrs]; exact (congrArg Int64.toInt (if_pos rfl)).trans (Int32.toInt_toInt64 rz)), hw.1⟩, by rw [hrs]; exact fun h9 => absurd rfl h9⟩, by rw [ht9]; exact hP, va_K.moved hW.alike hK, hD⟩, hS.F ht9⟩) hS.2.2 dL_shift_20
set_option maxHeartbeats 4000000 in
set_option maxRecDepth 100000 in
theorem c_L_save (l : Launch) (hlf : l.stackTraces = false) (D : va_G) (K : Nat → ClassId) (oa ob : Nat) (fo : Nat → Int64) (fd : Nat → UInt64) (ad q q1 q2 g r r2 : Nat → Nat) (v : CV) (i : CI) (x : Int32) (sz : Nat) (hI : IV v) (hJ : II v.1 i) : Met l yL_save (.codeWith yL_save cL_save 3 (some .int) [(0, 5, 8, 15)] :: TB) ({ frames := 8, cells := 1, slots := 6, locals := 171 } : Room) (va_Pc [.ref (ad 0), .int x] (cPL D K (HW K oa ob fo fd ad q q1 q2 g r r2 v i) sz)) (va_Qi (fun (z : Int32) (u : LS9) => z = nI (rs_save x).1 ∧ (rs_save x).1 ≤ 3 ∧ IV u.1 ∧ II u.1.1 u.2.1 ∧ ((rs_save x).1 = 0 → True ∧ SAV v x u.1) ∧ (¬ (rs_save x).1 = 0 → u.1 = v)) (fun (u : LS9) t => cB5 D K (va_A (HW K oa ob fo fd ad q q1 q2 g r r2 v i) sz) (HW K oa ob u.2.2.1 u.2.2.2 ad q q1 q2 g r r2 u.1 u.2.1) t) (va_A (HW K oa ob fo fd ad q q1 q2 g r r2 v i) sz)) 1 6 (va_A (HW K oa ob fo fd ad q q1 q2 g r r2 v i) sz) := by
  refine Met.ofWH (cc := cL_save) (maxL := 3) (ret := (some .int)) (hh := [(0, 5, 8, 15)]) (by decide) rfl ?_
  intro p e s m args below meth c s₁ B hml hv
  obtain ⟨rfl, ⟨hsz, hP, hK, hD0⟩, hTX, hCL⟩ := hv
  have hx := B.exec
  have hb := B.bytes
  have hr := B.returns
  have hts := hts_tl (atoms_spec (ws := (.codeWith yL_save cL_save 3 (some .int) [(0, 5, 8, 15)] :: TB)) B.pre)
  have hxt := vx_table (x := yL_save) B (atoms_spec (ws := (.codeWith yL_save cL_save 3 (some .int) [(0, 5, 8, 15)] :: TB)) B.pre _ List.mem_cons_self)
  have hown : s.vm.findClass RL = some m.cls := findClass_of_methodNamed B.named
  have hlocks := B.notSynchronized
  subst hsz
  have hD := hD0.self (sz := s.heap.size)
  generalize hAe : (va_A (HW K oa ob fo fd ad q q1 q2 g r r2 v i) s.heap.size) = A at hD hTX ⊢
  have hA : ∀ q : Nat, s.heap.size ≤ q → A q := fun q h => by rw [← hAe]; exact Or.inr h
  have hS : va_S A s.heap s.heap [] := va_S.rf
  clear hAe hD0
  have hK4 := hK.sub (tys' := TY K) [0, 1, 2, 3] rfl
  have hP : va_P D vwCl ([(oa, .inl (K 1, 1, .inr (.inl fo)))] ++ ([(ob, .inl (K 4, 1, .inr (.inr (.inr (.inl fd)))))] ++ (WX K ad q q1 q2 g r r2 v i))) s.heap := hP
  have hD : va_D A ([(oa, .inl (K 1, 1, .inr (.inl fo)))] ++ ([(ob, .inl (K 4, 1, .inr (.inr (.inr (.inl fd)))))] ++ (WX K ad q q1 q2 g r r2 v i))) := hD
  have hl := lv_entry ([.ref (ad 0), .int x]) (n := 3) (Nat.le_of_ble_eq_true rfl)
  rw [lg_entry_eq]
  generalize (lg_sl ([.ref (ad 0), .int x]) ++ List.replicate (3 - (lg_sl ([.ref (ad 0), .int x])).length) Slot.unset).toArray = ls at hl ⊢
  have hl : lv_has ls 3 [(0, .ref (ad 0)), (1, .int x)] := hl
  refine lv_aload_n hx hb dL_save_0 rfl (lv_at hl 0 rfl) ?_
  refine lv_iload_n hx hb dL_save_1 rfl (lv_at hl 1 rfl) ?_
  have hPc := bP2e hP
  have hDc := bD2e hD
  have hFc := bF2e hD hS hA
  refine vx_callv (vx_runV (As := [.int x]) (rest := []) ⟨hx, hb, hml, hown, hts⟩ (c_X6_save l hlf D K ad q q1 q2 g r r2 v i x s.heap.size hI hJ) (cwV 1 hts (TB_V k_m_L_88 k_im_X6_save k_se_X6_save k_in_X6 k_co_X6_save (fun _ h => h)) rfl rfl rfl (by decide +kernel) ⟨Nat.le_of_ble_eq_true rfl, Nat.le_of_ble_eq_true rfl⟩) ⟨cPT_blind, va_recv hK4 hPc (ci := 6) (q0 := 0) rfl rfl, cPT_of hPc hK4 hDc hTX hS hFc⟩ rfl rfl hl.1 rfl (lv_room (Nat.le_of_ble_eq_true rfl)) dL_save_2 ⟨Nat.le_of_ble_eq_true rfl, Nat.le_of_ble_eq_true rfl⟩) hS (fun q _ h => hFc q h) hFc (fun q _ h => hFc q h) (fun E ce q9 u9 t9 H locs ht9 hal hpx hB hz1 hk1 hS hce hcv hcl => ?_) (fun u9 t9 H locs ht9 hal hw hB hz1 hk1 hS => ?_)
  · obtain ⟨v9, i9⟩ := u9
    obtain ⟨hv9, hJ9⟩ := hpx
    have hv9 : v9 = v := hv9
    obtain ⟨hexc, hP1, hK1, hD1⟩ := hB
    rw [ht9] at hP1
    obtain ⟨hP, hD⟩ := bJ2e hP hD hk1 hFc hP1 hD1
    have hJ9 : II v9.1 i9 := hJ9
    dsimp only at hP hD
    rw [hv9] at hP hD hJ9
    have hP : va_P D vwCl ([(oa, .inl (K 1, 1, .inr (.inl fo)))] ++ ([(ob, .inl (K 4, 1, .inr (.inr (.inr (.inl fd)))))] ++ (WX K ad q q1 q2 g r r2 v i9))) H := hP
    have hD : va_D A ([(oa, .inl (K 1, 1, .inr (.inl fo)))] ++ ([(ob, .inl (K 4, 1, .inr (.inr (.inr (.inl fd)))))] ++ (WX K ad q q1 q2 g r r2 v i9))) := hD
    obtain ⟨hk, rfl⟩ := exc1 hexc
    refine vx_catch (own := RL) (name := eIA) (E := eIA) hown [] ⟨0, 5, 8, 15⟩ [] hxt (fun z h => absurd h List.not_mem_nil) (by decide) (by decide) (hts _ k_cl_L_15) (dc_use rfl hCL.1.2.1) hce hcv hcl ?_
    refine lv_astore_n (lv' := [(2, .ref q9), (0, .ref (ad 0)), (1, .int x)]) hx hb dL_save_8 rfl hl (by decide) rfl (fun ls hl => ?_)
    refine lv_iconst (v := nI 1) hx hb dL_save_9 (by decide) ?_
    exact W.iret (v := nI 1) hx hb hr (fun t9 ht9 hW => ⟨⟨nI 1, (v, i9, fo, fd), rfl, ⟨by rw [hk], by rw [hk]; decide, hI, hJ9, fun h9 => absurd (hk.symm.trans h9) (by decide), fun _ => rfl⟩, by rw [ht9]; exact hP, va_K.moved hW.alike hK, hD⟩, hS.F ht9⟩) hS.2.2 dL_save_10
  obtain ⟨v9, i9⟩ := u9
  obtain ⟨hP1, hK1, hD1⟩ := hB
  rw [ht9] at hP1
  obtain ⟨hP, hD⟩ := bJ2e hP hD hk1 hFc hP1 hD1
  have hP : va_P D vwCl ([(oa, .inl (K 1, 1, .inr (.inl fo)))] ++ ([(ob, .inl (K 4, 1, .inr (.inr (.inr (.inl fd)))))] ++ (WX K ad q q1 q2 g r r2 v9 i9))) H := hP
  have hD : va_D A ([(oa, .inl (K 1, 1, .inr (.inl fo)))] ++ ([(ob, .inl (K 4, 1, .inr (.inr (.inr (.inl fd)))))] ++ (WX K ad q q1 q2 g r r2 v9 i9))) := hD
  refine lv_goto (tgt := 11) hx hb dL_save_5 (by decide) ?_
  refine lv_iconst (v := nI 0) hx hb dL_save_11 (by decide) ?_
  have hrs : rs_save x = _ := hw.2.2.2
  exact W.iret (v := nI 0) hx hb hr (fun t9 ht9 hW => ⟨⟨nI 0, (v9, i9, fo, fd), rfl, ⟨by rw [hrs], by rw [hrs]; exact Nat.zero_le 3, hw.2.1, hw.2.2.1, fun _ => ⟨trivial, hw.1⟩, by rw [hrs]; exact fun h9 => absurd rfl h9⟩, by rw [ht9]; exact hP, va_K.moved hW.alike hK, hD⟩, hS.F ht9⟩) hS.2.2 dL_save_12
set_option maxHeartbeats 4000000 in
set_option maxRecDepth 100000 in
theorem c_L_restore (l : Launch) (hlf : l.stackTraces = false) (D : va_G) (K : Nat → ClassId) (oa ob : Nat) (fo : Nat → Int64) (fd : Nat → UInt64) (ad q q1 q2 g r r2 : Nat → Nat) (v : CV) (i : CI) (x : Int32) (sz : Nat) (hI : IV v) (hJ : II v.1 i) : Met l yL_restore (.codeWith yL_restore cL_restore 3 (some .int) [(0, 5, 8, 15), (0, 5, 11, 17)] :: TB) ({ frames := 8, cells := 1, slots := 6, locals := 171 } : Room) (va_Pc [.ref (ad 0), .int x] (cPL D K (HW K oa ob fo fd ad q q1 q2 g r r2 v i) sz)) (va_Qi (fun (z : Int32) (u : LS9) => z = nI (rs_restore v x).1 ∧ (rs_restore v x).1 ≤ 3 ∧ IV u.1 ∧ II u.1.1 u.2.1 ∧ ((rs_restore v x).1 = 0 → True ∧ RES v x u.1) ∧ (¬ (rs_restore v x).1 = 0 → u.1 = v)) (fun (u : LS9) t => cB5 D K (va_A (HW K oa ob fo fd ad q q1 q2 g r r2 v i) sz) (HW K oa ob u.2.2.1 u.2.2.2 ad q q1 q2 g r r2 u.1 u.2.1) t) (va_A (HW K oa ob fo fd ad q q1 q2 g r r2 v i) sz)) 1 6 (va_A (HW K oa ob fo fd ad q q1 q2 g r r2 v i) sz) := by
  refine Met.ofWH (cc := cL_restore) (maxL := 3) (ret := (some .int)) (hh := [(0, 5, 8, 15), (0, 5, 11, 17)]) (by decide) rfl ?_
  intro p e s m args below meth c s₁ B hml hv
  obtain ⟨rfl, ⟨hsz, hP, hK, hD0⟩, hTX, hCL⟩ := hv
  have hx := B.exec
  have hb := B.bytes
  have hr := B.returns
  have hts := hts_tl (atoms_spec (ws := (.codeWith yL_restore cL_restore 3 (some .int) [(0, 5, 8, 15), (0, 5, 11, 17)] :: TB)) B.pre)
  have hxt := vx_table (x := yL_restore) B (atoms_spec (ws := (.codeWith yL_restore cL_restore 3 (some .int) [(0, 5, 8, 15), (0, 5, 11, 17)] :: TB)) B.pre _ List.mem_cons_self)
  have hown : s.vm.findClass RL = some m.cls := findClass_of_methodNamed B.named
  have hlocks := B.notSynchronized
  subst hsz
  have hD := hD0.self (sz := s.heap.size)
  generalize hAe : (va_A (HW K oa ob fo fd ad q q1 q2 g r r2 v i) s.heap.size) = A at hD hTX ⊢
  have hA : ∀ q : Nat, s.heap.size ≤ q → A q := fun q h => by rw [← hAe]; exact Or.inr h
  have hS : va_S A s.heap s.heap [] := va_S.rf
  clear hAe hD0
  have hK4 := hK.sub (tys' := TY K) [0, 1, 2, 3] rfl
  have hP : va_P D vwCl ([(oa, .inl (K 1, 1, .inr (.inl fo)))] ++ ([(ob, .inl (K 4, 1, .inr (.inr (.inr (.inl fd)))))] ++ (WX K ad q q1 q2 g r r2 v i))) s.heap := hP
  have hD : va_D A ([(oa, .inl (K 1, 1, .inr (.inl fo)))] ++ ([(ob, .inl (K 4, 1, .inr (.inr (.inr (.inl fd)))))] ++ (WX K ad q q1 q2 g r r2 v i))) := hD
  have hl := lv_entry ([.ref (ad 0), .int x]) (n := 3) (Nat.le_of_ble_eq_true rfl)
  rw [lg_entry_eq]
  generalize (lg_sl ([.ref (ad 0), .int x]) ++ List.replicate (3 - (lg_sl ([.ref (ad 0), .int x])).length) Slot.unset).toArray = ls at hl ⊢
  have hl : lv_has ls 3 [(0, .ref (ad 0)), (1, .int x)] := hl
  refine lv_aload_n hx hb dL_restore_0 rfl (lv_at hl 0 rfl) ?_
  refine lv_iload_n hx hb dL_restore_1 rfl (lv_at hl 1 rfl) ?_
  have hPc := bP2e hP
  have hDc := bD2e hD
  have hFc := bF2e hD hS hA
  refine vx_callv (vx_runV (As := [.int x]) (rest := []) ⟨hx, hb, hml, hown, hts⟩ (c_X6_restore l hlf D K ad q q1 q2 g r r2 v i x s.heap.size hI hJ) (cwV 1 hts (TB_V k_m_L_92 k_im_X6_restore k_se_X6_restore k_in_X6 k_co_X6_restore (fun _ h => h)) rfl rfl rfl (by decide +kernel) ⟨Nat.le_of_ble_eq_true rfl, Nat.le_of_ble_eq_true rfl⟩) ⟨cPT_blind, va_recv hK4 hPc (ci := 6) (q0 := 0) rfl rfl, cPT_of hPc hK4 hDc hTX hS hFc⟩ rfl rfl hl.1 rfl (lv_room (Nat.le_of_ble_eq_true rfl)) dL_restore_2 ⟨Nat.le_of_ble_eq_true rfl, Nat.le_of_ble_eq_true rfl⟩) hS (fun q _ h => hFc q h) hFc (fun q _ h => hFc q h) (fun E ce q9 u9 t9 H locs ht9 hal hpx hB hz1 hk1 hS hce hcv hcl => ?_) (fun u9 t9 H locs ht9 hal hw hB hz1 hk1 hS => ?_)
  · obtain ⟨v9, i9⟩ := u9
    obtain ⟨hv9, hJ9⟩ := hpx
    have hv9 : v9 = v := hv9
    obtain ⟨hexc, hP1, hK1, hD1⟩ := hB
    rw [ht9] at hP1
    obtain ⟨hP, hD⟩ := bJ2e hP hD hk1 hFc hP1 hD1
    have hJ9 : II v9.1 i9 := hJ9
    dsimp only at hP hD
    rw [hv9] at hP hD hJ9
    have hP : va_P D vwCl ([(oa, .inl (K 1, 1, .inr (.inl fo)))] ++ ([(ob, .inl (K 4, 1, .inr (.inr (.inr (.inl fd)))))] ++ (WX K ad q q1 q2 g r r2 v i9))) H := hP
    have hD : va_D A ([(oa, .inl (K 1, 1, .inr (.inl fo)))] ++ ([(ob, .inl (K 4, 1, .inr (.inr (.inr (.inl fd)))))] ++ (WX K ad q q1 q2 g r r2 v i9))) := hD
    rcases exc2 hexc with ⟨hk, rfl⟩ | ⟨hk, rfl⟩
    · refine vx_catch (own := RL) (name := eIA) (E := eIA) hown [] ⟨0, 5, 8, 15⟩ [⟨0, 5, 11, 17⟩] hxt (fun z h => absurd h List.not_mem_nil) (by decide) (by decide) (hts _ k_cl_L_15) (dc_use rfl hCL.1.2.1) hce hcv hcl ?_
      refine lv_astore_n (lv' := [(2, .ref q9), (0, .ref (ad 0)), (1, .int x)]) hx hb dL_restore_8 rfl hl (by decide) rfl (fun ls hl => ?_)
      refine lv_iconst (v := nI 1) hx hb dL_restore_9 (by decide) ?_
      exact W.iret (v := nI 1) hx hb hr (fun t9 ht9 hW => ⟨⟨nI 1, (v, i9, fo, fd), rfl, ⟨by rw [hk], by rw [hk]; decide, hI, hJ9, fun h9 => absurd (hk.symm.trans h9) (by decide), fun _ => rfl⟩, by rw [ht9]; exact hP, va_K.moved hW.alike hK, hD⟩, hS.F ht9⟩) hS.2.2 dL_restore_10
    · refine vx_catch (own := RL) (name := eIS) (E := eIS) hown [⟨0, 5, 8, 15⟩] ⟨0, 5, 11, 17⟩ [] hxt (List.forall_mem_cons.mpr ⟨Or.inr ⟨by decide, eIA, hts _ k_cl_L_15, hCL.2.2.2⟩, (fun z h => absurd h List.not_mem_nil)⟩) (by decide) (by decide) (hts _ k_cl_L_17) (dc_use rfl hCL.1.2.2) hce hcv hcl ?_
      refine lv_astore_n (lv' := [(2, .ref q9), (0, .ref (ad 0)), (1, .int x)]) hx hb dL_restore_11 rfl hl (by decide) rfl (fun ls hl => ?_)
      refine lv_iconst (v := nI 2) hx hb dL_restore_12 (by decide) ?_
      exact W.iret (v := nI 2) hx hb hr (fun t9 ht9 hW => ⟨⟨nI 2, (v, i9, fo, fd), rfl, ⟨by rw [hk], by rw [hk]; decide, hI, hJ9, fun h9 => absurd (hk.symm.trans h9) (by decide), fun _ => rfl⟩, by rw [ht9]; exact hP, va_K.moved hW.alike hK, hD⟩, hS.F ht9⟩) hS.2.2 dL_restore_13
  obtain ⟨v9, i9⟩ := u9
  obtain ⟨hP1, hK1, hD1⟩ := hB
  rw [ht9] at hP1
  obtain ⟨hP, hD⟩ := bJ2e hP hD hk1 hFc hP1 hD1
  have hP : va_P D vwCl ([(oa, .inl (K 1, 1, .inr (.inl fo)))] ++ ([(ob, .inl (K 4, 1, .inr (.inr (.inr (.inl fd)))))] ++ (WX K ad q q1 q2 g r r2 v9 i9))) H := hP
  have hD : va_D A ([(oa, .inl (K 1, 1, .inr (.inl fo)))] ++ ([(ob, .inl (K 4, 1, .inr (.inr (.inr (.inl fd)))))] ++ (WX K ad q q1 q2 g r r2 v9 i9))) := hD
  refine lv_goto (tgt := 14) hx hb dL_restore_5 (by decide) ?_
  refine lv_iconst (v := nI 0) hx hb dL_restore_14 (by decide) ?_
  have hrs : rs_restore v x = _ := hw.2.2.2
  exact W.iret (v := nI 0) hx hb hr (fun t9 ht9 hW => ⟨⟨nI 0, (v9, i9, fo, fd), rfl, ⟨by rw [hrs], by rw [hrs]; exact Nat.zero_le 3, hw.2.1, hw.2.2.1, fun _ => ⟨trivial, hw.1⟩, by rw [hrs]; exact fun h9 => absurd rfl h9⟩, by rw [ht9]; exact hP, va_K.moved hW.alike hK, hD⟩, hS.F ht9⟩) hS.2.2 dL_restore_15
