/-! the law: what its loop keeps -/
theorem TB_SW {own : String} {idx : Nat} {y : MethodName} {b : ByteArray} {n : Nat} {r : Option FieldType} {hh : List (Nat × Nat × Nat × Nat)} (h1 : Cond.methodLink own idx y ∈ TB) (h2 : Cond.static y ∈ TB) (h4 : Cond.initialized y.cls ∈ TB) (hc : Cond.codeWith y b n r hh ∈ TB) {Ts : List Cond} (h : ∀ w ∈ TB, w ∈ Ts) : GoodIn Ts (va_wsS own idx y (.codeWith y b n r hh :: TB)) := fun w hw => by
  have g : ∀ {z : Cond}, z ∈ TB → z ∈ Ts ∧ ((z.onTables && z.keeps) = true ∨ ∃ ty, z = .arrayClass ty) := fun hz => ⟨h _ hz, good_of_word (TB_good hz)⟩
  rcases List.mem_append.mp hw with q | q
  · rcases List.mem_cons.mp q with rfl | q
    · exact g h1
    rcases List.mem_cons.mp q with rfl | q
    · exact g h2
    rcases List.mem_cons.mp q with rfl | q
    · exact g h4
    exact absurd q List.not_mem_nil
  · rcases List.mem_cons.mp q with rfl | q
    · exact g hc
    · exact g q
theorem n_sld {p : Program} {l : Launch} {e : Env} {R : Room} {s : State} {m : MethodId} {args : Array Value} {below : List Frame} {meth : Method} {c : Code} {H H0 : Heap} {locs : List Loc} {cells slots : Nat} {Q : State → Prop} {pc : Nat} {ls : Array Slot} {rest : List Value} {cc : ByteArray} {A : Nat → Prop} (hx : p.tables.exec = Jvm.exec) (hb : c.code = cc) {b L : Nat} {xs : Nat → Int32} (hX : va_X b L xs s H0) (hbl : b < H0.size) (hbA : ¬ A b) (hS : va_S A H0 H locs) {i : Nat} (hi : i < L) (hn : L < 2 ^ 31) (hdg : decode cc pc = .ok (.iaload, 1))
    (kk : W p l e R s m args below meth c H locs cells slots Q (F0 m (pc + 1) ls (.int (xs i) :: rest))) : W p l e R s m args below meth c H locs cells slots Q (F0 m pc ls (.int (nI i) :: .ref b :: rest)) :=
  va_sld hx hb hX hbl hbA hS (vp_in_nI hi hn) hdg (by rw [nI_clamp (Nat.lt_trans hi hn)]; exact kk)
/-- behind a case of the law: the next round -/
def LNX (p : Program) (l : Launch) (e : Env) (s : State) (m : MethodId) (below : List Frame) (meth : Method) (c : Code) (b : Nat) (D : va_G) (K : Nat → ClassId) (A : Nat → Prop) (ad q q1 q2 g r r2 mm : Nat → Nat) (oa ob k : Nat) : Prop := ∀ (v : CV) (i : CI) (w0 : MS) (fo : Nat → Int64) (fd : Nat → UInt64) (H : Heap) (locs : List Loc) (ls : Array Slot), IV v → II v.1 i → RM v w0 → va_P D vwCl (([(oa, .inl (K 1, 1, .inr (.inl fo)))] ++ ([(ob, .inl (K 4, 1, .inr (.inr (.inr (.inl fd)))))] ++ (WX K ad q q1 q2 g r r2 v i))) ++ (WMu K mm w0)) H → va_D A (([(oa, .inl (K 1, 1, .inr (.inl fo)))] ++ ([(ob, .inl (K 4, 1, .inr (.inr (.inr (.inl fd)))))] ++ (WX K ad q q1 q2 g r r2 v i))) ++ (WMu K mm w0)) → va_S A s.heap H locs → lv_has ls 9 [(5, .int (nI (6 * k))), (0, .ref b), (1, .ref (ad 0)), (2, .ref (mm 0)), (3, .ref oa), (4, .ref ob)] → W p l e room_1 s m #[Value.ref b] below meth c H locs (100 + k + 1) (2000 + 6 * k + 6) (lw_Z below #[Value.ref b] s) (F0 m 1641 ls [])
theorem eng01 (d : Nat → Nat → Int32) (x : Int32) : ((rs_engage d x).2 = 0 ∨ (rs_engage d x).2 = 1) ∧ ((rs_release d x).2 = 0 ∨ (rs_release d x).2 = 1) := by
  unfold rs_engage rs_release cI
  constructor
  · split
    · exact Or.inl rfl
    · split
      · exact Or.inl rfl
      · exact Or.inr rfl
  · split
    · exact Or.inl rfl
    · split
      · exact Or.inl rfl
      · exact Or.inr rfl
set_option maxHeartbeats 4000000 in
set_option maxRecDepth 100000 in
theorem law_case_0 {p : Program} {l : Launch} {e : Env} {s : State} {m : MethodId} {below : List Frame} {meth : Method} {c : Code} {b L : Nat} {xs : Nat → Int32} {D : va_G} {K : Nat → ClassId} {A : Nat → Prop} (hlf : l.stackTraces = false) (hx : p.tables.exec = Jvm.exec) (hb : c.code = cL_law) (hml : c.maxLocals = 9) (hown : s.vm.findClass RL = some m.cls) (hts : ∀ w ∈ TB, w.before #[Value.ref b] s = true) (hX : va_X b L xs s s.heap) (hbl : b < s.heap.size) (hbA : ¬ A b) (hA : ∀ q, s.heap.size ≤ q → A q) (hK : va_K D vwCl (TY5 K) s) (hTX : TX A s.heap s) (hCL : CL s) (hL : L ≤ 3072) {ad q q1 q2 g r r2 mm : Nat → Nat} {oa ob k : Nat} {v : CV} {i : CI} {w0 : MS} {fo : Nat → Int64} {fd : Nat → UInt64} {H : Heap} {locs : List Loc} {ls : Array Slot} (hk : 6 * k + 6 ≤ L) (hI : IV v) (hJ : II v.1 i) (hR : RM v w0) (hP : va_P D vwCl (([(oa, .inl (K 1, 1, .inr (.inl fo)))] ++ ([(ob, .inl (K 4, 1, .inr (.inr (.inr (.inl fd)))))] ++ (WX K ad q q1 q2 g r r2 v i))) ++ (WMu K mm w0)) H) (hD : va_D A (([(oa, .inl (K 1, 1, .inr (.inl fo)))] ++ ([(ob, .inl (K 4, 1, .inr (.inr (.inr (.inl fd)))))] ++ (WX K ad q q1 q2 g r r2 v i))) ++ (WMu K mm w0))) (hS : va_S A s.heap H locs) (hl : lv_has ls 9 [(5, .int (nI (6 * k))), (0, .ref b), (1, .ref (ad 0)), (2, .ref (mm 0)), (3, .ref oa), (4, .ref ob)]) (N : LNX p l e s m below meth c b D K A ad q q1 q2 g r r2 mm oa ob k) : W p l e room_1 s m #[Value.ref b] below meth c H locs (100 + k) (2000 + 6 * k) (lw_Z below #[Value.ref b] s) (F0 m 168 ls []) := by
  have hK4 := hK.sub (tys' := TY K) [0, 1, 2, 3] rfl
  refine lv_aload_n hx hb dL_law_168 rfl (lv_at hl 2 rfl) ?_
  refine lv_aload_n hx hb dL_law_169 rfl (lv_at hl 1 rfl) ?_
  refine lv_iload hx hb dL_law_170 (lv_at hl 0 rfl) ?_
  refine lv_iconst (v := nI 1) hx hb dL_law_172 (by decide) ?_
  refine lv_iadd hx hb dL_law_173 ?_
  refine t_i (nI_add _ _) ?_
  refine n_sld hx hb hX hbl hbA hS (i := 6 * k + 1) (by omega) (by omega) dL_law_174 ?_
  refine lv_aload_n hx hb dL_law_175 rfl (lv_at hl 1 rfl) ?_
  refine lv_iload hx hb dL_law_176 (lv_at hl 0 rfl) ?_
  refine lv_iconst (v := nI 2) hx hb dL_law_178 (by decide) ?_
  refine lv_iadd hx hb dL_law_179 ?_
  refine t_i (nI_add _ _) ?_
  refine n_sld hx hb hX hbl hbA hS (i := 6 * k + 2) (by omega) (by omega) dL_law_180 ?_
  refine lv_aload_n hx hb dL_law_181 rfl (lv_at hl 1 rfl) ?_
  refine lv_iload hx hb dL_law_182 (lv_at hl 0 rfl) ?_
  refine lv_iconst (v := nI 3) hx hb dL_law_184 (by decide) ?_
  refine lv_iadd hx hb dL_law_185 ?_
  refine t_i (nI_add _ _) ?_
  refine n_sld hx hb hX hbl hbA hS (i := 6 * k + 3) (by omega) (by omega) dL_law_186 ?_
  refine lv_aload_n hx hb dL_law_187 rfl (lv_at hl 1 rfl) ?_
  refine lv_iload hx hb dL_law_188 (lv_at hl 0 rfl) ?_
  refine lv_iconst (v := nI 4) hx hb dL_law_190 (by decide) ?_
  refine lv_iadd hx hb dL_law_191 ?_
  refine t_i (nI_add _ _) ?_
  refine n_sld hx hb hX hbl hbA hS (i := 6 * k + 4) (by omega) (by omega) dL_law_192 ?_
  refine lv_aload_n hx hb dL_law_193 rfl (lv_at hl 1 rfl) ?_
  refine lv_iload hx hb dL_law_194 (lv_at hl 0 rfl) ?_
  refine lv_iconst (v := nI 5) hx hb dL_law_196 (by decide) ?_
  refine lv_iadd hx hb dL_law_197 ?_
  refine t_i (nI_add _ _) ?_
  refine n_sld hx hb hX hbl hbA hS (i := 6 * k + 5) (by omega) (by omega) dL_law_198 ?_
  refine lv_aload_n hx hb dL_law_199 rfl (lv_at hl 4 rfl) ?_
  have hPc := bP0 hP
  have hDc := bD0 hD
  have hFc := bF0 hD hS hA
  refine va_calli (vx_runSW (As := [.ref (ad 0), .int (xs (6 * k + 1)), .int (xs (6 * k + 2)), .int (xs (6 * k + 3)), .int (xs (6 * k + 4)), .int (xs (6 * k + 5)), .ref oa]) (rest := []) ⟨hx, hb, hml, hown, hts⟩ (c_L_addSet l hlf D K oa ob fo fd ad q q1 q2 g r r2 v i (xs (6 * k + 1)) (xs (6 * k + 2)) (xs (6 * k + 3)) (xs (6 * k + 4)) (xs (6 * k + 5)) H.size hI hJ) (vx_cwSW 7 hts (TB_SW k_m_L_99 k_st_L_addSet k_in_L k_co_L_addSet (fun _ h => h)) rfl rfl rfl (by decide +kernel) ⟨Nat.le_of_ble_eq_true rfl, Nat.le_of_ble_eq_true rfl⟩) ⟨cPL_blind, cPL_of hPc hK hDc hTX hCL hS hFc⟩ rfl rfl hl.1 rfl (lv_room (Nat.le_of_ble_eq_true rfl)) dL_law_200 ⟨(show 100 + k + 1 ≤ 601024 by omega), (show 2000 + 6 * k + 6 ≤ 7293034 by omega)⟩) hS (fun q _ h => hFc q h) hFc (fun kz u9 t9 H locs ht9 hvm hw hB hz1 hk1 hS => ?_)
  obtain ⟨v1, i1, fo1, fd1⟩ := u9
  obtain ⟨hP1, hK1, hD1⟩ := hB
  rw [ht9] at hP1
  obtain ⟨hP, hD⟩ := bJ0 hP hD hk1 hFc hP1 hD1
  have hP : va_P D vwCl (([(oa, .inl (K 1, 1, .inr (.inl fo1)))] ++ ([(ob, .inl (K 4, 1, .inr (.inr (.inr (.inl fd1)))))] ++ (WX K ad q q1 q2 g r r2 v1 i1))) ++ (WMu K mm w0)) H := hP
  have hD : va_D A (([(oa, .inl (K 1, 1, .inr (.inl fo1)))] ++ ([(ob, .inl (K 4, 1, .inr (.inr (.inr (.inl fd1)))))] ++ (WX K ad q q1 q2 g r r2 v1 i1))) ++ (WMu K mm w0)) := hD
  obtain ⟨hkz, hr3, hI1, hJ1, hh0, hh1⟩ := hw
  dsimp only at hI1 hJ1 hh0 hh1
  refine t_i (show kz = nI (rs_addSet v.1 (xs (6 * k + 1)) (xs (6 * k + 2)) (xs (6 * k + 3)) (xs (6 * k + 4)) (xs (6 * k + 5))).1 from hkz) ?_
  refine lv_istore (lv' := [(6, .int (nI ((rs_addSet v.1 (xs (6 * k + 1)) (xs (6 * k + 2)) (xs (6 * k + 3)) (xs (6 * k + 4)) (xs (6 * k + 5))).1))), (5, .int (nI (6 * k))), (0, .ref b), (1, .ref (ad 0)), (2, .ref (mm 0)), (3, .ref oa), (4, .ref ob)]) hx hb dL_law_203 hl (by decide) rfl (fun ls hl => ?_)
  refine lv_aload_n hx hb dL_law_205 rfl (lv_at hl 4 rfl) ?_
  refine lv_aload_n hx hb dL_law_206 rfl (lv_at hl 2 rfl) ?_
  refine lv_iload hx hb dL_law_207 (lv_at hl 1 rfl) ?_
  refine lv_iconst (v := nI 1) hx hb dL_law_209 (by decide) ?_
  refine lv_iadd hx hb dL_law_210 ?_
  refine t_i (nI_add _ _) ?_
  refine n_sld hx hb hX hbl hbA hS (i := 6 * k + 1) (by omega) (by omega) dL_law_211 ?_
  refine lv_aload_n hx hb dL_law_212 rfl (lv_at hl 2 rfl) ?_
  refine lv_iload hx hb dL_law_213 (lv_at hl 1 rfl) ?_
  refine lv_iconst (v := nI 2) hx hb dL_law_215 (by decide) ?_
  refine lv_iadd hx hb dL_law_216 ?_
  refine t_i (nI_add _ _) ?_
  refine n_sld hx hb hX hbl hbA hS (i := 6 * k + 2) (by omega) (by omega) dL_law_217 ?_
  refine lv_aload_n hx hb dL_law_218 rfl (lv_at hl 2 rfl) ?_
  refine lv_iload hx hb dL_law_219 (lv_at hl 1 rfl) ?_
  refine lv_iconst (v := nI 3) hx hb dL_law_221 (by decide) ?_
  refine lv_iadd hx hb dL_law_222 ?_
  refine t_i (nI_add _ _) ?_
  refine n_sld hx hb hX hbl hbA hS (i := 6 * k + 3) (by omega) (by omega) dL_law_223 ?_
  refine lv_aload_n hx hb dL_law_224 rfl (lv_at hl 2 rfl) ?_
  refine lv_iload hx hb dL_law_225 (lv_at hl 1 rfl) ?_
  refine lv_iconst (v := nI 4) hx hb dL_law_227 (by decide) ?_
  refine lv_iadd hx hb dL_law_228 ?_
  refine t_i (nI_add _ _) ?_
  refine n_sld hx hb hX hbl hbA hS (i := 6 * k + 4) (by omega) (by omega) dL_law_229 ?_
  refine lv_aload_n hx hb dL_law_230 rfl (lv_at hl 2 rfl) ?_
  refine lv_iload hx hb dL_law_231 (lv_at hl 1 rfl) ?_
  refine lv_iconst (v := nI 5) hx hb dL_law_233 (by decide) ?_
  refine lv_iadd hx hb dL_law_234 ?_
  refine t_i (nI_add _ _) ?_
  refine n_sld hx hb hX hbl hbA hS (i := 6 * k + 5) (by omega) (by omega) dL_law_235 ?_
  have hPc := bP1e hP
  have hDc := bD1e hD
  have hFc := bF1e hD hS hA
  refine va_calli (va_runV (As := [.int (xs (6 * k + 1)), .int (xs (6 * k + 2)), .int (xs (6 * k + 3)), .int (xs (6 * k + 4)), .int (xs (6 * k + 5))]) (rest := []) ⟨hx, hb, hml, hown, hts⟩ (c_X7_addSet l D K mm v w0 (xs (6 * k + 1)) (xs (6 * k + 2)) (xs (6 * k + 3)) (xs (6 * k + 4)) (xs (6 * k + 5)) H.size hI hR) (cwV 5 hts (TB_V k_m_L_104 k_im_X7_addSet k_se_X7_addSet k_in_X7 k_co_X7_addSet (fun _ h => h)) rfl rfl rfl (by decide +kernel) ⟨Nat.le_of_ble_eq_true rfl, Nat.le_of_ble_eq_true rfl⟩) ⟨cP_blind, va_recv hK4 hPc (ci := 7) (q0 := 0) rfl rfl, cP_of hPc hK4 hDc⟩ rfl rfl hl.1 rfl (lv_room (Nat.le_of_ble_eq_true rfl)) dL_law_236 ⟨(show 100 + k + 1 + 0 ≤ 601024 by omega), (show 2000 + 6 * k + 6 + 0 ≤ 7293034 by omega)⟩) hS (fun q _ h => hFc q h) hFc (fun mz u t9 H locs ht9 hvm hw hB hz1 hk1 hS => ?_)
  obtain ⟨hP1, hK1, hD1⟩ := hB
  rw [ht9] at hP1
  obtain ⟨hP, hD⟩ := bJ1e hP hD hk1 hFc hP1 hD1
  have hP : va_P D vwCl (([(oa, .inl (K 1, 1, .inr (.inl fo1)))] ++ ([(ob, .inl (K 4, 1, .inr (.inr (.inr (.inl fd1)))))] ++ (WX K ad q q1 q2 g r r2 v1 i1))) ++ (WMu K mm u)) H := hP
  have hD : va_D A (([(oa, .inl (K 1, 1, .inr (.inl fo1)))] ++ ([(ob, .inl (K 4, 1, .inr (.inr (.inr (.inl fd1)))))] ++ (WX K ad q q1 q2 g r r2 v1 i1))) ++ (WMu K mm u)) := hD
  obtain ⟨hth, hw0, hw1⟩ := hw
  have hR1 : RM v1 u := by
    by_cases h9 : (rs_addSet v.1 (xs (6 * k + 1)) (xs (6 * k + 2)) (xs (6 * k + 3)) (xs (6 * k + 4)) (xs (6 * k + 5))).1 = 0
    · rw [(hh0 h9).2]; exact (hw0 h9).2
    · rw [hh1 h9]; exact hw1 h9
  have hzz : (rs_addSet v.1 (xs (6 * k + 1)) (xs (6 * k + 2)) (xs (6 * k + 3)) (xs (6 * k + 4)) (xs (6 * k + 5))).1 = 0 → mz.toInt = (rs_addSet v.1 (xs (6 * k + 1)) (xs (6 * k + 2)) (xs (6 * k + 3)) (xs (6 * k + 4)) (xs (6 * k + 5))).2 := fun h9 => (hw0 h9).1
  refine lv_istore (lv' := [(7, .int mz), (6, .int (nI ((rs_addSet v.1 (xs (6 * k + 1)) (xs (6 * k + 2)) (xs (6 * k + 3)) (xs (6 * k + 4)) (xs (6 * k + 5))).1))), (5, .int (nI (6 * k))), (0, .ref b), (1, .ref (ad 0)), (2, .ref (mm 0)), (3, .ref oa), (4, .ref ob)]) hx hb dL_law_239 hl (by decide) rfl (fun ls hl => ?_)
  refine lv_aload_n hx hb dL_law_241 rfl (lv_at hl 5 rfl) ?_
  have hPc := bP1e hP
  have hDc := bD1e hD
  refine va_calli (va_runV (As := []) (rest := []) ⟨hx, hb, hml, hown, hts⟩ (c_X7_thrown l D K mm u.1 u.2.1 u.2.2.1 u.2.2.2.1 u.2.2.2.2.1 u.2.2.2.2.2.1 u.2.2.2.2.2.2.1 u.2.2.2.2.2.2.2.1 u.2.2.2.2.2.2.2.2.1 u.2.2.2.2.2.2.2.2.2.1 u.2.2.2.2.2.2.2.2.2.2.1 u.2.2.2.2.2.2.2.2.2.2.2.1 u.2.2.2.2.2.2.2.2.2.2.2.2.1 u.2.2.2.2.2.2.2.2.2.2.2.2.2.1 u.2.2.2.2.2.2.2.2.2.2.2.2.2.2.1 u.2.2.2.2.2.2.2.2.2.2.2.2.2.2.2.1 u.2.2.2.2.2.2.2.2.2.2.2.2.2.2.2.2 H.size) (cwV 0 hts (TB_V k_m_L_105 k_im_X7_thrown k_se_X7_thrown k_in_X7 k_co_X7_thrown (fun _ h => h)) rfl rfl rfl (by decide +kernel) ⟨Nat.le_of_ble_eq_true rfl, Nat.le_of_ble_eq_true rfl⟩) ⟨cP_blind, va_recv hK4 hPc (ci := 7) (q0 := 0) rfl rfl, cP_of hPc hK4 hDc⟩ rfl rfl hl.1 rfl (lv_room (Nat.le_of_ble_eq_true rfl)) dL_law_242 ⟨(show 100 + k + 1 + 0 + 0 ≤ 601024 by omega), (show 2000 + 6 * k + 6 + 0 + 0 ≤ 7293034 by omega)⟩) hS (fun q _ h => absurd h id) (fun q h => absurd h id) (fun tz u9 t9 H locs ht9 hvm hw hB hz1 hk1 hS => ?_)
  have hP := P_same hP hk1
  have hth2 : tz = nI (rs_addSet v.1 (xs (6 * k + 1)) (xs (6 * k + 2)) (xs (6 * k + 3)) (xs (6 * k + 4)) (xs (6 * k + 5))).1 := hw.trans hth
  refine t_i hth2 ?_
  refine lv_iload hx hb dL_law_245 (lv_at hl 1 rfl) ?_
  refine b_icmp_eq hx hb (nI_toIntI (by omega)) (nI_toIntI (by omega)) dL_law_247 (tgt := 252) (by decide) (fun c247 => ?_) (fun c247 => absurd c247 (fun q9 => q9 rfl))
  refine lv_iload hx hb dL_law_252 (lv_at hl 1 rfl) ?_
  refine b_if_ne hx hb (nI_toIntI (by omega)) dL_law_254 (tgt := 269) (by decide) (fun c254 => ?_) (fun c254 => ?_)
  · refine lv_goto (tgt := 1641) hx hb dL_law_269 (by decide) ?_
    exact N v1 i1 u fo1 fd1 _ _ _ hI1 hJ1 hR1 hP hD hS (lv_sub hl [2, 3, 4, 5, 6, 7] rfl)
  have h9 : (rs_addSet v.1 (xs (6 * k + 1)) (xs (6 * k + 2)) (xs (6 * k + 3)) (xs (6 * k + 4)) (xs (6 * k + 5))).1 = 0 := by omega
  refine lv_aload_n hx hb dL_law_257 rfl (lv_at hl 6 rfl) ?_
  refine lv_iconst (v := nI 0) hx hb dL_law_258 (by decide) ?_
  refine n_lald hx hb hK hP 0 1 rfl rfl (i := 0) (n := 1) (by decide) (by decide) dL_law_259 ?_
  refine lv_iload hx hb dL_law_260 (lv_at hl 0 rfl) ?_
  refine lv_i2l (v := mz.toInt64) hx hb dL_law_262 rfl ?_
  refine b_lcmp_eq hx hb rfl rfl dL_law_263 dL_law_264 (tgt := 269) (by decide) (fun c263 => ?_) (fun c263 => absurd c263 (fun q9 => q9 (by rw [(hh0 h9).1]; exact ((Int32.toInt_toInt64 mz).trans (hzz h9)).symm)))
  refine lv_goto (tgt := 1641) hx hb dL_law_269 (by decide) ?_
  exact N v1 i1 u fo1 fd1 _ _ _ hI1 hJ1 hR1 hP hD hS (lv_sub hl [2, 3, 4, 5, 6, 7] rfl)
