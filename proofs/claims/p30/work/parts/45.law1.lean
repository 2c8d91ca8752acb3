/-! the law: its pure helpers, what its methods need -/
theorem exc1 {a E : String} {k : Nat} (h : exc [a] k E) : k = 1 ∧ E = a := by
  obtain ⟨h1, h2⟩ := h
  have h3 := (List.getElem?_eq_some_iff.mp h2).1
  have hk : k = 1 := by simp at h3; omega
  subst hk
  exact ⟨rfl, (Option.some.inj h2).symm⟩
theorem exc2 {a b E : String} {k : Nat} (h : exc [a, b] k E) : (k = 1 ∧ E = a) ∨ (k = 2 ∧ E = b) := by
  obtain ⟨h1, h2⟩ := h
  have h3 := (List.getElem?_eq_some_iff.mp h2).1
  have hk : k = 1 ∨ k = 2 := by simp at h3; omega
  rcases hk with hk | hk <;> subst hk
  · exact Or.inl ⟨rfl, (Option.some.inj h2).symm⟩
  · exact Or.inr ⟨rfl, (Option.some.inj h2).symm⟩
theorem exc3 {a b c E : String} {k : Nat} (h : exc [a, b, c] k E) : (k = 1 ∧ E = a) ∨ (k = 2 ∧ E = b) ∨ (k = 3 ∧ E = c) := by
  obtain ⟨h1, h2⟩ := h
  have h3 := (List.getElem?_eq_some_iff.mp h2).1
  have hk : k = 1 ∨ k = 2 ∨ k = 3 := by simp at h3; omega
  rcases hk with hk | hk | hk <;> subst hk
  · exact Or.inl ⟨rfl, (Option.some.inj h2).symm⟩
  · exact Or.inr (Or.inl ⟨rfl, (Option.some.inj h2).symm⟩)
  · exact Or.inr (Or.inr ⟨rfl, (Option.some.inj h2).symm⟩)
theorem Met.ofWH {l : Launch} {y : MethodName} {ws ws' : List Cond} {rm : Room} {Pc : Array Value → State → Prop} {Qc : Array Value → State → Outcome → State → Prop} {mc ms : Nat} {free : Addr → Prop} {cc : ByteArray} {maxL : Nat} {ret : Option FieldType} {hh : List (Nat × Nat × Nat × Nat)}
    (hy : plainName y.cls = true) (hw : ws = Cond.codeWith y cc maxL ret hh :: ws')
    (body : ∀ p e s m args below meth c s₁, BodyLoose p l y (headSpec ws rm) cc maxL ret e s m args below meth c s₁ → c.maxLocals = maxL → Pc args s →
      W p l e (headSpec ws rm).room s m args below meth c s.heap [] 0 0 (MQ below Qc args s mc ms free) (entryFrame m args maxL)) : Met l y ws rm Pc Qc mc ms free := by
  refine MetFree.of_bodyS (code := cc) (maxLocals := maxL) (ret := ret) hy ?_ ?_
  · intro args s m h hn
    obtain ⟨m9, meth, c, hn9, h1, h2, h3, h4, -, h5, h6, -⟩ := Cond.codeWith_spec (atoms_spec (ws := ws) h _ (by rw [hw]; exact List.mem_cons_self))
    cases hn.symm.trans hn9
    exact ⟨meth, c, h1, h2, h3, h4, h5, h6⟩
  · intro p e s m args below meth c s₁ B hml hP _
    have hh0 : s₁.heap = s.heap := by rw [B.state]; rfl
    obtain ⟨t, a1, o, b1, b2, b3⟩ := body p e s m args below meth c s₁ B hml hP s₁ hh0 (Stand.of_body B)
    exact ⟨t, o, a1, b1, b2, b3⟩
theorem TB_SW {own : String} {idx : Nat} {y : MethodName} {b : ByteArray} {n : Nat} {r : Option FieldType} {hh : List (Nat × Nat × Nat × Nat)} (h1 : Cond.methodLink own idx y ∈ TB) (h2 : Cond.static y ∈ TB) (h4 : Cond.initialized y.cls ∈ TB) (hc : Cond.codeWith y b n r hh ∈ TB) {Ts : List Cond} (h : ∀ w ∈ TB, w ∈ Ts) : GoodIn Ts (va_wsS own idx y (.codeWith y b n r hh :: TB)) := fun w hw => by
  have g : ∀ {z : Cond}, z ∈ TB → z ∈ Ts ∧ ((z.onTables && z.keeps) = true ∨ ∃ ty, z = .arrayClass ty) := fun hz => ⟨h _ hz, good_of_word (TB_good hz)⟩
  rcases List.mem_append.mp hw with q | q
  · rcases List.mem_cons.mp q with rfl | q
    · exact g h1
    rcases List.mem_cons.mp q with rfl | q
    · exact g h2
    rcases List.mem_cons.mp q with rfl | q
    · exact g h4
    exact absurd q List.not_mem_nil
  · rcases List.mem_cons.mp q with rfl | q
    · exact g hc
    · exact g q
theorem n_sld {p : Program} {l : Launch} {e : Env} {R : Room} {s : State} {m : MethodId} {args : Array Value} {below : List Frame} {meth : Method} {c : Code} {H H0 : Heap} {locs : List Loc} {cells slots : Nat} {Q : State → Prop} {pc : Nat} {ls : Array Slot} {rest : List Value} {cc : ByteArray} {A : Nat → Prop} (hx : p.tables.exec = Jvm.exec) (hb : c.code = cc) {b L : Nat} {xs : Nat → Int32} (hX : va_X b L xs s H0) (hbl : b < H0.size) (hbA : ¬ A b) (hS : va_S A H0 H locs) {i : Nat} (hi : i < L) (hn : L < 2 ^ 31) (hdg : decode cc pc = .ok (.iaload, 1))
    (kk : W p l e R s m args below meth c H locs cells slots Q (F0 m (pc + 1) ls (.int (xs i) :: rest))) : W p l e R s m args below meth c H locs cells slots Q (F0 m pc ls (.int (nI i) :: .ref b :: rest)) :=
  va_sld hx hb hX hbl hbA hS (vp_in_nI hi hn) hdg (by rw [nI_clamp (Nat.lt_trans hi hn)]; exact kk)
/-- what the catching needs beside the words -/
def CL (U : State) : Prop := va_Nw (.castable eIO eIO) U ∧ va_Nw (.castable eIA eIA) U ∧ va_Nw (.castable eIS eIS) U
theorem CL_warm {s U : State} (hW : s.WarmedH U.vm) (h : CL s) : CL U := ⟨dc_warm rfl hW h.1, dc_warm rfl hW h.2.1, dc_warm rfl hW h.2.2⟩
theorem CL_same {s U : State} (e : s.vm = U.vm) (h : CL s) : CL U := ⟨dc_same rfl e h.1, dc_same rfl e h.2.1, dc_same rfl e h.2.2⟩
abbrev cPM (D : va_G) (K : Nat → ClassId) (ws : va_W) (sz : Nat) : State → Prop := fun U => (U.heap.size = sz ∧ va_P D vwCl ws U.heap ∧ va_K D vwCl (TY K) U ∧ va_D (fun _ => True) ws) ∧ TX (va_A ws sz) U.heap U ∧ CL U
theorem cPM_blind {D : va_G} {K : Nat → ClassId} {ws : va_W} {sz : Nat} {as : List Value} : FrameBlind (va_Pc as (cPM D K ws sz)) := fun a U g mk q => by
  obtain ⟨q0, ⟨q1, qP, qK, qD⟩, qX, qC⟩ := q
  exact ⟨q0, ⟨q1, qP, va_K.moved (u := U) (U := U.calling g mk a) (Vm.Alike.refl U.vm) qK, qD⟩, TX_same (s := U) (U := U.calling g mk a) rfl qX, CL_same (s := U) (U := U.calling g mk a) rfl qC⟩
theorem cPM_of {D : va_G} {K : Nat → ClassId} {ws : va_W} {s : State} {H : Heap} {A : Nat → Prop} {as : List Value} {locs : List Loc} (hP : va_P D vwCl ws H) (hK : va_K D vwCl (TY K) s) (hD : va_D A ws) (hX : TX A s.heap s) (hC : CL s) (hS : va_S A s.heap H locs) (hF : ∀ q, va_A ws H.size q → A q) : ∀ U : State, U.heap = H → s.WarmedH U.vm → va_Pc as (cPM D K ws H.size) as.toArray U := fun U hU hW => ⟨rfl, ⟨by rw [hU], by rw [hU]; exact hP, va_K.moved hW.alike hK, hD.weaken (fun _ _ _ _ => trivial)⟩, by rw [hU]; exact TX_warm hW hS.2.1 hF hX, CL_warm hW hC⟩
abbrev cXs (b L : Nat) (xs : Nat → Int32) : State → Prop := fun U => va_X b L xs U U.heap ∧ b < U.heap.size
theorem cXs_blind {b L : Nat} {xs : Nat → Int32} {as : List Value} : FrameBlind (va_Pc as (cXs b L xs)) := fun a U g mk q => ⟨q.1, va_X.moved (u := U) (U := U.calling g mk a) (Vm.Alike.refl U.vm) q.2.1, q.2.2⟩
theorem cXs_of {b L : Nat} {xs : Nat → Int32} {s : State} {H : Heap} {A : Nat → Prop} {as : List Value} {locs : List Loc} (hX : va_X b L xs s s.heap) (hbl : b < s.heap.size) (hbA : ¬ A b) (hS : va_S A s.heap H locs) : ∀ U : State, U.heap = H → s.WarmedH U.vm → va_Pc as (cXs b L xs) as.toArray U := fun U hU hW => ⟨rfl, va_X.moved hW.alike (by rw [hU]; exact hX.kept (hS.2.1 b hbl hbA)), by rw [hU]; exact Nat.lt_of_lt_of_le hbl hS.1⟩
theorem pcn_step : ∀ l, l < 64 → l ≠ 0 → (nI l &&& nI (l - 1)) = nI (l &&& (l - 1)) ∧ l &&& (l - 1) < l ∧ pcn (l &&& (l - 1)) + 1 = pcn l := by decide +kernel
set_option maxHeartbeats 4000000 in
set_option maxRecDepth 100000 in
theorem c_L_cell (l : Launch) (b L k : Nat) (xs : Nat → Int32) (hk9 : k < 2147483648) (hL9 : L < 2147483648) : Met l yL_cell (.code yL_cell cL_cell 2 (some .int) :: TB) ({ frames := 0, cells := 0, slots := 0, locals := 0 } : Room) (va_Pc [.ref b, .int (nI k)] (cXs b L xs)) (va_Qi (fun (_ : Int32) (_ : Unit) => True) (fun _ _ => True) (fun _ => False)) 0 0 (fun _ => False) := by
  refine Met.ofW (cc := cL_cell) (maxL := 2) (ret := (some .int)) (by decide) rfl ?_
  intro p e s m args below meth c s₁ B hml hv
  obtain ⟨rfl, hX, hbl⟩ := hv
  have hx := B.exec
  have hb := B.bytes
  have hr := B.returns
  have hts := hts_tl (atoms_spec (ws := (.code yL_cell cL_cell 2 (some .int) :: TB)) B.pre)
  have hown : s.vm.findClass RL = some m.cls := findClass_of_methodNamed B.named
  have hlocks := B.notSynchronized
  have hA : ∀ q : Nat, q < s.heap.size → (fun _ : Nat => False) q → False := fun _ _ h => h
  have hS : va_S (fun _ => False) s.heap s.heap [] := va_S.rf
  have hl := lv_entry ([.ref b, .int (nI k)]) (n := 2) (Nat.le_of_ble_eq_true rfl)
  rw [lg_entry_eq]
  generalize (lg_sl ([.ref b, .int (nI k)]) ++ List.replicate (2 - (lg_sl ([.ref b, .int (nI k)])).length) Slot.unset).toArray = ls at hl ⊢
  have hl : lv_has ls 2 [(0, .ref b), (1, .int (nI k))] := hl
  refine lv_iload_n hx hb dL_cell_0 rfl (lv_at hl 1 rfl) ?_
  refine lv_aload_n hx hb dL_cell_1 rfl (lv_at hl 0 rfl) ?_
  refine va_slen hx hb hX hbl (A := fun _ => False) (fun h => h) hS dL_cell_2 ?_
  refine t_i (show Int32.ofNat L = nI L from rfl) ?_
  refine b_icmp_ge hx hb (nI_toIntI (by omega)) (nI_toIntI (by omega)) dL_cell_3 (tgt := 12) (by decide) (fun c3 => ?_) (fun c3 => ?_)
  · refine lv_ldc hx hb hown (hts _ k_kc_L_7) dL_cell_12 ?_
    refine lv_iload_n hx hb dL_cell_14 rfl (lv_at hl 1 rfl) ?_
    refine lv_sipush (v := nI 1409) hx hb dL_cell_15 (by decide) ?_
    refine lv_iadd hx hb dL_cell_18 ?_
    refine t_i (nI_add _ _) ?_
    refine lv_imul hx hb dL_cell_19 ?_
    exact W.iret (v := 1540483477 * (nI (k + 1409))) hx hb hr (fun t9 ht9 hW => ⟨⟨1540483477 * (nI (k + 1409)), (), rfl, trivial, trivial⟩, hS.F ht9⟩) hS.2.2 dL_cell_20
  refine lv_aload_n hx hb dL_cell_6 rfl (lv_at hl 0 rfl) ?_
  refine lv_iload_n hx hb dL_cell_7 rfl (lv_at hl 1 rfl) ?_
  refine n_sld hx hb hX hbl (A := fun _ => False) (fun h => h) hS (i := k) (by omega) (by omega) dL_cell_8 ?_
  refine lv_goto (tgt := 20) hx hb dL_cell_9 (by decide) ?_
  exact W.iret (v := xs k) hx hb hr (fun t9 ht9 hW => ⟨⟨xs k, (), rfl, trivial, trivial⟩, hS.F ht9⟩) hS.2.2 dL_cell_20
set_option maxHeartbeats 4000000 in
set_option maxRecDepth 100000 in
theorem c_L_up (l : Launch) (v : Int32) (mm : Nat) (hm1 : 1 ≤ mm) (hm2 : mm < 2147483648) : Met l yL_up (.code yL_up cL_up 2 (some .int) :: TB) ({ frames := 0, cells := 0, slots := 0, locals := 0 } : Room) (va_Pc [.int v, .int (nI mm)] (fun _ => True)) (va_Qi (fun (z : Int32) (_ : Unit) => ∃ k, k < mm ∧ z = nI k) (fun _ _ => True) (fun _ => False)) 0 0 (fun _ => False) := by
  refine Met.ofW (cc := cL_up) (maxL := 2) (ret := (some .int)) (by decide) rfl ?_
  intro p e s m args below meth c s₁ B hml hv
  obtain ⟨rfl, -⟩ := hv
  have hx := B.exec
  have hb := B.bytes
  have hr := B.returns
  have hts := hts_tl (atoms_spec (ws := (.code yL_up cL_up 2 (some .int) :: TB)) B.pre)
  have hown : s.vm.findClass RL = some m.cls := findClass_of_methodNamed B.named
  have hlocks := B.notSynchronized
  have hA : ∀ q : Nat, q < s.heap.size → (fun _ : Nat => False) q → False := fun _ _ h => h
  have hS : va_S (fun _ => False) s.heap s.heap [] := va_S.rf
  have hl := lv_entry ([.int v, .int (nI mm)]) (n := 2) (Nat.le_of_ble_eq_true rfl)
  rw [lg_entry_eq]
  generalize (lg_sl ([.int v, .int (nI mm)]) ++ List.replicate (2 - (lg_sl ([.int v, .int (nI mm)])).length) Slot.unset).toArray = ls at hl ⊢
  have hl : lv_has ls 2 [(0, .int v), (1, .int (nI mm))] := hl
  refine lv_iload_n hx hb dL_up_0 rfl (lv_at hl 0 rfl) ?_
  refine lv_ldc hx hb hown (hts _ k_kc_L_8) dL_up_1 ?_
  refine lv_iand hx hb dL_up_3 ?_
  obtain ⟨a, ha, hea⟩ := pk_andE v (m := 2147483647) 31 (by decide)
  refine t_i hea ?_
  refine lv_iload_n hx hb dL_up_4 rfl (lv_at hl 1 rfl) ?_
  refine lv_irem hx hb dL_up_5 (nI_ne0 (by omega) (by omega)) ?_
  refine t_i (pk_rem (by omega) (by omega) (by omega)) ?_
  exact W.iret (v := nI (a % mm)) hx hb hr (fun t9 ht9 hW => ⟨⟨nI (a % mm), (), rfl, ⟨_, Nat.mod_lt _ (by omega), rfl⟩, trivial⟩, hS.F ht9⟩) hS.2.2 dL_up_6
set_option maxHeartbeats 4000000 in
set_option maxRecDepth 100000 in
theorem c_L_common (l : Launch) (x y : Nat) (hx9 : x < 9223372036854775808) (hy9 : y < 9223372036854775808) : Met l yL_common (.code yL_common cL_common 10 (some .long) :: TB) ({ frames := 0, cells := 0, slots := 0, locals := 0 } : Room) (va_Pc [.long (lN x), .long (lN y)] (fun _ => True)) (va_Ql (fun (q : Int64) (_ : Unit) => q = lN (Nat.gcd x y)) (fun _ _ => True) (fun _ => False)) 0 0 (fun _ => False) := by
  refine Met.ofW (cc := cL_common) (maxL := 10) (ret := (some .long)) (by decide) rfl ?_
  intro p e s m args below meth c s₁ B hml hv
  obtain ⟨rfl, -⟩ := hv
  have hx := B.exec
  have hb := B.bytes
  have hr := B.returns
  have hts := hts_tl (atoms_spec (ws := (.code yL_common cL_common 10 (some .long) :: TB)) B.pre)
  have hown : s.vm.findClass RL = some m.cls := findClass_of_methodNamed B.named
  have hlocks := B.notSynchronized
  have hA : ∀ q : Nat, q < s.heap.size → (fun _ : Nat => False) q → False := fun _ _ h => h
  have hS : va_S (fun _ => False) s.heap s.heap [] := va_S.rf
  have hl := lv_entry ([.long (lN x), .long (lN y)]) (n := 10) (Nat.le_of_ble_eq_true rfl)
  rw [lg_entry_eq]
  generalize (lg_sl ([.long (lN x), .long (lN y)]) ++ List.replicate (10 - (lg_sl ([.long (lN x), .long (lN y)])).length) Slot.unset).toArray = ls at hl ⊢
  have hl : lv_has ls 10 [(0, .long (lN x)), (2, .long (lN y))] := hl
  refine lv_lload_n hx hb dL_common_0 rfl (lv_at hl 0 rfl) ?_
  refine lv_lstore (lv' := [(4, .long (lN x)), (0, .long (lN x)), (2, .long (lN y))]) hx hb dL_common_1 hl (by decide) rfl (fun ls hl => ?_)
  refine lv_lload_n hx hb dL_common_3 rfl (lv_at hl 2 rfl) ?_
  refine lv_lstore (lv' := [(6, .long (lN y)), (4, .long (lN x)), (0, .long (lN x)), (2, .long (lN y))]) hx hb dL_common_4 hl (by decide) rfl (fun ls hl => ?_)
  have L6 : ∀ (fuel : Nat) (X : Nat) (Y : Nat) (ls : Array Slot), Y < fuel → (X < 9223372036854775808) → (Y < 9223372036854775808) → (Nat.gcd X Y = Nat.gcd x y) → lv_has ls 10 [(4, .long (lN X)), (6, .long (lN Y))] → W p l e ({ frames := 0, cells := 0, slots := 0, locals := 0 } : Room) s m [.long (lN x), .long (lN y)].toArray below meth c s.heap [] 0 0 (MQ below (va_Ql (fun (q : Int64) (_ : Unit) => q = lN (Nat.gcd x y)) (fun _ _ => True) (fun _ => False)) [.long (lN x), .long (lN y)].toArray s 0 0 (fun _ => False)) (F0 m 6 ls []) := by
    intro fuel
    induction fuel with
    | zero =>
      intro X Y ls hfu
      exact absurd hfu (Nat.not_lt_zero _)
    | succ fuel ih6 =>
      intro X Y ls hfu hX hY hg hl
      refine lv_lload hx hb dL_common_6 (lv_at hl 1 rfl) ?_
      refine lv_lconst (v := 0) hx hb dL_common_8 (by decide) ?_
      refine b_lcmp_eq hx hb rfl (show (0 : Int64).toInt = 0 by decide) dL_common_9 dL_common_10 (tgt := 31) (by decide) (fun c9 => ?_) (fun c9 => ?_)
      · refine lv_lload hx hb dL_common_31 (lv_at hl 0 rfl) ?_
        have hY0 : Y = 0 := by
          have c9 : (lN Y).toInt = 0 := c9
          rw [lN_toI hY] at c9; omega
        exact W.lret (v := lN X) hx hb hr (fun t9 ht9 hW => ⟨⟨lN X, (), rfl, by rw [← hg, hY0]; exact congrArg lN (Nat.gcd_zero_right X).symm, trivial⟩, hS.F ht9⟩) hS.2.2 dL_common_33
      refine lv_lload hx hb dL_common_13 (lv_at hl 0 rfl) ?_
      refine lv_lload hx hb dL_common_15 (lv_at hl 1 rfl) ?_
      refine lv_lrem hx hb dL_common_17 (fun q => c9 (by rw [q]; decide)) ?_
      have hYp : 0 < Y := by
        rcases Nat.eq_zero_or_pos Y with q | q
        · exact absurd (by rw [q]; decide) c9
        · exact q
      have hm := Nat.mod_lt X hYp
      refine t_l (pk_lRem hX hYp hY) ?_
      refine lv_lstore (lv' := [(8, .long (lN (X % Y))), (4, .long (lN X)), (6, .long (lN Y))]) hx hb dL_common_18 hl (by decide) rfl (fun ls hl => ?_)
      refine lv_lload hx hb dL_common_20 (lv_at hl 2 rfl) ?_
      refine lv_lstore (lv' := [(4, .long (lN Y)), (8, .long (lN (X % Y))), (6, .long (lN Y))]) hx hb dL_common_22 hl (by decide) rfl (fun ls hl => ?_)
      refine lv_lload hx hb dL_common_24 (lv_at hl 1 rfl) ?_
      refine lv_lstore (lv' := [(6, .long (lN (X % Y))), (4, .long (lN Y)), (8, .long (lN (X % Y)))]) hx hb dL_common_26 hl (by decide) rfl (fun ls hl => ?_)
      refine lv_goto (tgt := 6) hx hb dL_common_28 (by decide) ?_
      exact ih6 Y (X % Y) _ (by omega) hY (by omega) ((gcd_step X Y).trans hg) (lv_sub hl [1, 0] rfl)
  exact L6 _ x y _ (Nat.lt_succ_self _) hx9 hy9 rfl (lv_sub hl [1, 0] rfl)
set_option maxHeartbeats 4000000 in
set_option maxRecDepth 100000 in
theorem c_L_ones (l : Launch) (x : Nat) (hx9 : x < 64) : Met l yL_ones (.code yL_ones cL_ones 3 (some .int) :: TB) ({ frames := 0, cells := 0, slots := 0, locals := 0 } : Room) (va_Pc [.int (nI x)] (fun _ => True)) (va_Qi (fun (z : Int32) (_ : Unit) => z = nI (pcn x)) (fun _ _ => True) (fun _ => False)) 0 0 (fun _ => False) := by
  refine Met.ofW (cc := cL_ones) (maxL := 3) (ret := (some .int)) (by decide) rfl ?_
  intro p e s m args below meth c s₁ B hml hv
  obtain ⟨rfl, -⟩ := hv
  have hx := B.exec
  have hb := B.bytes
  have hr := B.returns
  have hts := hts_tl (atoms_spec (ws := (.code yL_ones cL_ones 3 (some .int) :: TB)) B.pre)
  have hown : s.vm.findClass RL = some m.cls := findClass_of_methodNamed B.named
  have hlocks := B.notSynchronized
  have hA : ∀ q : Nat, q < s.heap.size → (fun _ : Nat => False) q → False := fun _ _ h => h
  have hS : va_S (fun _ => False) s.heap s.heap [] := va_S.rf
  have hl := lv_entry ([.int (nI x)]) (n := 3) (Nat.le_of_ble_eq_true rfl)
  rw [lg_entry_eq]
  generalize (lg_sl ([.int (nI x)]) ++ List.replicate (3 - (lg_sl ([.int (nI x)])).length) Slot.unset).toArray = ls at hl ⊢
  have hl : lv_has ls 3 [(0, .int (nI x))] := hl
  refine lv_iconst (v := nI 0) hx hb dL_ones_0 (by decide) ?_
  refine lv_istore_n (lv' := [(1, .int (nI 0)), (0, .int (nI x))]) hx hb dL_ones_1 rfl hl (by decide) rfl (fun ls hl => ?_)
  refine lv_iload_n hx hb dL_ones_2 rfl (lv_at hl 1 rfl) ?_
  refine lv_istore_n (lv' := [(2, .int (nI x)), (1, .int (nI 0)), (0, .int (nI x))]) hx hb dL_ones_3 rfl hl (by decide) rfl (fun ls hl => ?_)
  have L4 : ∀ (fuel : Nat) (n : Nat) (y : Nat) (ls : Array Slot), y < fuel → (y < 64) → (n + pcn y = pcn x) → lv_has ls 3 [(1, .int (nI n)), (2, .int (nI y))] → W p l e ({ frames := 0, cells := 0, slots := 0, locals := 0 } : Room) s m [.int (nI x)].toArray below meth c s.heap [] 0 0 (MQ below (va_Qi (fun (z : Int32) (_ : Unit) => z = nI (pcn x)) (fun _ _ => True) (fun _ => False)) [.int (nI x)].toArray s 0 0 (fun _ => False)) (F0 m 4 ls []) := by
    intro fuel
    induction fuel with
    | zero =>
      intro n y ls hfu
      exact absurd hfu (Nat.not_lt_zero _)
    | succ fuel ih4 =>
      intro n y ls hfu hy hn hl
      refine lv_iload_n hx hb dL_ones_4 rfl (lv_at hl 1 rfl) ?_
      refine b_if_eq hx hb (nI_toIntI (by omega)) dL_ones_5 (tgt := 20) (by decide) (fun c5 => ?_) (fun c5 => ?_)
      · refine lv_iload_n hx hb dL_ones_20 rfl (lv_at hl 0 rfl) ?_
        exact W.iret (v := nI n) hx hb hr (fun t9 ht9 hW => ⟨⟨nI n, (), rfl, by rw [← hn, show y = 0 by omega]; rfl, trivial⟩, hS.F ht9⟩) hS.2.2 dL_ones_21
      refine lv_iinc (v := nI (n + 1)) (lv' := [(1, .int (nI (n + 1))), (2, .int (nI y))]) hx hb dL_ones_8 hl (k := 0) rfl (nI_add n 1) (by decide) rfl (fun ls hl => ?_)
      refine lv_iload_n hx hb dL_ones_11 rfl (lv_at hl 1 rfl) ?_
      refine lv_iload_n hx hb dL_ones_12 rfl (lv_at hl 1 rfl) ?_
      refine lv_iconst (v := nI 1) hx hb dL_ones_13 (by decide) ?_
      refine lv_isub hx hb dL_ones_14 ?_
      refine t_i (pk_sub (by omega)) ?_
      refine lv_iand hx hb dL_ones_15 ?_
      obtain ⟨k1, k2, k3⟩ := pcn_step y hy (by omega)
      refine t_i k1 ?_
      refine lv_istore_n (lv' := [(2, .int (nI (y &&& (y - 1)))), (1, .int (nI (n + 1)))]) hx hb dL_ones_16 rfl hl (by decide) rfl (fun ls hl => ?_)
      refine lv_goto (tgt := 4) hx hb dL_ones_17 (by decide) ?_
      exact ih4 (n + 1) (y &&& (y - 1)) _ (by omega) (by omega) (by omega) (lv_sub hl [1, 0] rfl)
  exact L4 _ 0 x _ (Nat.lt_succ_self _) hx9 (Nat.zero_add _) (lv_sub hl [1, 0] rfl)
