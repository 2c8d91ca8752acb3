/-! the law: its loop -/
theorem and31 (x : Int32) : ∃ t : Nat, t < 32 ∧ x &&& nI 31 = nI t := by
  refine ⟨(x.toBitVec &&& 31#32).toNat, ?_, ?_⟩
  · have h : (x.toBitVec &&& 31#32).toNat ≤ 31 := by rw [BitVec.toNat_and]; exact Nat.and_le_right
    omega
  · apply Int32.toBitVec_inj.mp
    show x.toBitVec &&& 31#32 = BitVec.ofNat 32 (x.toBitVec &&& 31#32).toNat
    exact (BitVec.ofNat_toNat 32 _).symm ▸ (BitVec.setWidth_eq _).symm
theorem sub6 {L : Nat} (h : L ≤ 3072) : (nI L - nI 6).toInt = (L : Int) - 6 := by
  rw [Int32.toInt_sub, nI_toIntI (by omega), nI_toIntI (by decide)]
  exact Int.bmod_eq_of_le (by omega) (by omega)
theorem law_end {p : Program} {l : Launch} {e : Env} {s : State} {m : MethodId} {below : List Frame} {meth : Method} {c : Code} {b L : Nat} {xs : Nat → Int32} {D : va_G} {K : Nat → ClassId} {A : Nat → Prop} (hlf : l.stackTraces = false) (hx : p.tables.exec = Jvm.exec) (hb : c.code = cL_law) (hml : c.maxLocals = 9) (hown : s.vm.findClass RL = some m.cls) (hts : ∀ w ∈ TB, w.before #[Value.ref b] s = true) (hX : va_X b L xs s s.heap) (hbl : b < s.heap.size) (hbA : ¬ A b) (hA : ∀ q, s.heap.size ≤ q → A q) (hK : va_K D vwCl (TY5 K) s) (hTX : TX A s.heap s) (hCL : CL s) (hL : L ≤ 3072) (hr : meth.sig.returnType = ret) (hlocks : meth.locks = false) (hAs : ∀ q, A q → s.heap.size ≤ q) {H : Heap} {locs : List Loc} {ls : Array Slot} {cells slots : Nat} (h1 : cells ≤ 601024) (h2 : slots ≤ 7293034) (hS : va_S A s.heap H locs) : W p l e room_1 s m #[Value.ref b] below meth c H locs cells slots (lw_Z below #[Value.ref b] s) (F0 m 1647 ls []) := by
  refine va_forget (fun q hq => hAs _ (hS.2.2 q hq)) ?_
  refine W.widen (k := 601024) (n := 7293034) h1 h2 ?_
  refine lv_iconst (v := 1) hx hb dL_law_1647 (by decide) ?_
  exact W.base (lw_ret (d0 := s.drawn) (Drawn.sameBut.refl s.drawn lw_cs) hx hb hr hlocks dL_law_1648)
set_option maxHeartbeats 4000000 in
set_option maxRecDepth 100000 in
theorem law_loop {p : Program} {l : Launch} {e : Env} {s : State} {m : MethodId} {below : List Frame} {meth : Method} {c : Code} {b L : Nat} {xs : Nat → Int32} {D : va_G} {K : Nat → ClassId} {A : Nat → Prop} (hlf : l.stackTraces = false) (hx : p.tables.exec = Jvm.exec) (hb : c.code = cL_law) (hml : c.maxLocals = 9) (hown : s.vm.findClass RL = some m.cls) (hts : ∀ w ∈ TB, w.before #[Value.ref b] s = true) (hX : va_X b L xs s s.heap) (hbl : b < s.heap.size) (hbA : ¬ A b) (hA : ∀ q, s.heap.size ≤ q → A q) (hK : va_K D vwCl (TY5 K) s) (hTX : TX A s.heap s) (hCL : CL s) (hL : L ≤ 3072) (hr : meth.sig.returnType = ret) (hlocks : meth.locks = false) (hAs : ∀ q, A q → s.heap.size ≤ q) {ad q q1 q2 g r r2 mm : Nat → Nat} {oa ob : Nat} : ∀ (fuel k : Nat), L - 6 * k < fuel → 6 * k ≤ L → ∀ (v : CV) (i : CI) (w0 : MS) (fo : Nat → Int64) (fd : Nat → UInt64) (H : Heap) (locs : List Loc) (ls : Array Slot), IV v → II v.1 i → RM v w0 → va_P D vwCl (([(oa, .inl (K 1, 1, .inr (.inl fo)))] ++ ([(ob, .inl (K 4, 1, .inr (.inr (.inr (.inl fd)))))] ++ (WX K ad q q1 q2 g r r2 v i))) ++ (WMu K mm w0)) H → va_D A (([(oa, .inl (K 1, 1, .inr (.inl fo)))] ++ ([(ob, .inl (K 4, 1, .inr (.inr (.inr (.inl fd)))))] ++ (WX K ad q q1 q2 g r r2 v i))) ++ (WMu K mm w0)) → va_S A s.heap H locs → lv_has ls 9 [(5, .int (nI (6 * k))), (0, .ref b), (1, .ref (ad 0)), (2, .ref (mm 0)), (3, .ref oa), (4, .ref ob)] → W p l e room_1 s m #[Value.ref b] below meth c H locs (100 + k) (2000 + 6 * k) (lw_Z below #[Value.ref b] s) (F0 m 28 ls []) := by
  intro fuel
  induction fuel with
  | zero => intro k hfu; exact absurd hfu (Nat.not_lt_zero _)
  | succ fuel ih =>
    intro k hfu hk0 v i w0 fo fd H locs ls hI hJ hR hP hD hS hl
    refine lv_iload hx hb dL_law_28 (lv_at hl 0 rfl) ?_
    refine lv_aload_n hx hb dL_law_30 rfl (lv_at hl 1 rfl) ?_
    refine va_slen hx hb hX hbl hbA hS dL_law_31 ?_
    refine t_i (show Int32.ofNat L = nI L from rfl) ?_
    refine lv_bipush (v := nI 6) hx hb dL_law_32 (by decide) ?_
    refine lv_isub hx hb dL_law_34 ?_
    refine b_icmp_gt hx hb (nI_toIntI (by omega)) rfl dL_law_35 (tgt := 1647) (by decide) (fun c35 => ?_) (fun c35 => ?_)
    · exact law_end hlf hx hb hml hown hts hX hbl hbA hA hK hTX hCL hL hr hlocks hAs (by omega) (by omega) hS
    have hL6 := sub6 hL
    have hk2 : 6 * k + 6 ≤ L := by omega
    refine lv_aload_n hx hb dL_law_38 rfl (lv_at hl 1 rfl) ?_
    refine lv_iload hx hb dL_law_39 (lv_at hl 0 rfl) ?_
    refine n_sld hx hb hX hbl hbA hS (i := 6 * k) (by omega) (by omega) dL_law_41 ?_
    refine lv_bipush (v := nI 31) hx hb dL_law_42 (by decide) ?_
    refine lv_iand hx hb dL_law_44 ?_
    obtain ⟨t, ht, hxt⟩ := and31 (xs (6 * k))
    refine t_i hxt ?_
    have hl2 : lv_has ls 9 [(5, .int (nI (6 * k))), (0, .ref b), (1, .ref (ad 0)), (2, .ref (mm 0)), (3, .ref oa), (4, .ref ob)] := lv_sub hl [0, 1, 2, 3, 4, 5] rfl
    have N : LNX p l e s m below meth c b D K A ad q q1 q2 g r r2 mm oa ob k := fun v i w0 fo fd H locs ls hI hJ hR hP hD hS hl => by
      refine lv_iinc (v := nI (6 * k + 6)) (lv' := [(5, .int (nI (6 * k + 6))), (0, .ref b), (1, .ref (ad 0)), (2, .ref (mm 0)), (3, .ref oa), (4, .ref ob)]) hx hb dL_law_1641 hl (k := 0) rfl (nI_add (6 * k) 6) (by decide) rfl (fun ls hl => ?_)
      refine lv_goto (tgt := 28) hx hb dL_law_1644 (by decide) ?_
      refine W.widen (k := 100 + (k + 1)) (n := 2000 + 6 * (k + 1)) (by omega) (by omega) ?_
      exact ih (k + 1) (by omega) (by omega) v i w0 fo fd H locs _ hI hJ hR hP hD hS hl
    have htt : t = 0 ∨ t = 1 ∨ t = 2 ∨ t = 3 ∨ t = 4 ∨ t = 5 ∨ t = 6 ∨ t = 7 ∨ t = 8 ∨ t = 9 ∨ t = 10 ∨ t = 11 ∨ t = 12 ∨ t = 13 ∨ t = 14 ∨ t = 15 ∨ t = 16 ∨ t = 17 ∨ t = 18 ∨ t = 19 ∨ t = 20 ∨ t = 21 ∨ t = 22 ∨ t = 23 ∨ t = 24 ∨ t = 25 ∨ t = 26 ∨ 27 ≤ t := by omega
    rcases htt with rfl | rfl | rfl | rfl | rfl | rfl | rfl | rfl | rfl | rfl | rfl | rfl | rfl | rfl | rfl | rfl | rfl | rfl | rfl | rfl | rfl | rfl | rfl | rfl | rfl | rfl | rfl | htt
    · refine lv_tableIn (off := 123) (tgt := 168) hx hb dL_law_45 (by decide) (by decide) rfl (by decide) ?_
      exact law_case_0 hlf hx hb hml hown hts hX hbl hbA hA hK hTX hCL hL hk2 hI hJ hR hP hD hS hl2 N
    · refine lv_tableIn (off := 227) (tgt := 272) hx hb dL_law_45 (by decide) (by decide) rfl (by decide) ?_
      exact law_case_1 hlf hx hb hml hown hts hX hbl hbA hA hK hTX hCL hL hk2 hI hJ hR hP hD hS hl2 N
    · refine lv_tableIn (off := 283) (tgt := 328) hx hb dL_law_45 (by decide) (by decide) rfl (by decide) ?_
      exact law_case_2 hlf hx hb hml hown hts hX hbl hbA hA hK hTX hCL hL hk2 hI hJ hR hP hD hS hl2 N
    · refine lv_tableIn (off := 351) (tgt := 396) hx hb dL_law_45 (by decide) (by decide) rfl (by decide) ?_
      exact law_case_3 hlf hx hb hml hown hts hX hbl hbA hA hK hTX hCL hL hk2 hI hJ hR hP hD hS hl2 N
    · refine lv_tableIn (off := 419) (tgt := 464) hx hb dL_law_45 (by decide) (by decide) rfl (by decide) ?_
      exact law_case_4 hlf hx hb hml hown hts hX hbl hbA hA hK hTX hCL hL hk2 hI hJ hR hP hD hS hl2 N
    · refine lv_tableIn (off := 475) (tgt := 520) hx hb dL_law_45 (by decide) (by decide) rfl (by decide) ?_
      exact law_case_5 hlf hx hb hml hown hts hX hbl hbA hA hK hTX hCL hL hk2 hI hJ hR hP hD hS hl2 N
    · refine lv_tableIn (off := 538) (tgt := 583) hx hb dL_law_45 (by decide) (by decide) rfl (by decide) ?_
      exact law_case_6 hlf hx hb hml hown hts hX hbl hbA hA hK hTX hCL hL hk2 hI hJ hR hP hD hS hl2 N
    · refine lv_tableIn (off := 601) (tgt := 646) hx hb dL_law_45 (by decide) (by decide) rfl (by decide) ?_
      exact law_case_7 hlf hx hb hml hown hts hX hbl hbA hA hK hTX hCL hL hk2 hI hJ hR hP hD hS hl2 N
    · refine lv_tableIn (off := 657) (tgt := 702) hx hb dL_law_45 (by decide) (by decide) rfl (by decide) ?_
      exact law_case_8 hlf hx hb hml hown hts hX hbl hbA hA hK hTX hCL hL hk2 hI hJ hR hP hD hS hl2 N
    · refine lv_tableIn (off := 670) (tgt := 715) hx hb dL_law_45 (by decide) (by decide) rfl (by decide) ?_
      exact law_case_9 hlf hx hb hml hown hts hX hbl hbA hA hK hTX hCL hL hk2 hI hJ hR hP hD hS hl2 N
    · refine lv_tableIn (off := 683) (tgt := 728) hx hb dL_law_45 (by decide) (by decide) rfl (by decide) ?_
      exact law_case_10 hlf hx hb hml hown hts hX hbl hbA hA hK hTX hCL hL hk2 hI hJ hR hP hD hS hl2 N
    · refine lv_tableIn (off := 696) (tgt := 741) hx hb dL_law_45 (by decide) (by decide) rfl (by decide) ?_
      exact law_case_11 hlf hx hb hml hown hts hX hbl hbA hA hK hTX hCL hL hk2 hI hJ hR hP hD hS hl2 N
    · refine lv_tableIn (off := 709) (tgt := 754) hx hb dL_law_45 (by decide) (by decide) rfl (by decide) ?_
      exact law_case_12 hlf hx hb hml hown hts hX hbl hbA hA hK hTX hCL hL hk2 hI hJ hR hP hD hS hl2 N
    · refine lv_tableIn (off := 776) (tgt := 821) hx hb dL_law_45 (by decide) (by decide) rfl (by decide) ?_
      exact law_case_13 hlf hx hb hml hown hts hX hbl hbA hA hK hTX hCL hL hk2 hI hJ hR hP hD hS hl2 N
    · refine lv_tableIn (off := 831) (tgt := 876) hx hb dL_law_45 (by decide) (by decide) rfl (by decide) ?_
      exact law_case_14 hlf hx hb hml hown hts hX hbl hbA hA hK hTX hCL hL hk2 hI hJ hR hP hD hS hl2 N
    · refine lv_tableIn (off := 897) (tgt := 942) hx hb dL_law_45 (by decide) (by decide) rfl (by decide) ?_
      exact law_case_15 hlf hx hb hml hown hts hX hbl hbA hA hK hTX hCL hL hk2 hI hJ hR hP hD hS hl2 N
    · refine lv_tableIn (off := 952) (tgt := 997) hx hb dL_law_45 (by decide) (by decide) rfl (by decide) ?_
      exact law_case_16 hlf hx hb hml hown hts hX hbl hbA hA hK hTX hCL hL hk2 hI hJ hR hP hD hS hl2 N
    · refine lv_tableIn (off := 1019) (tgt := 1064) hx hb dL_law_45 (by decide) (by decide) rfl (by decide) ?_
      exact law_case_17 hlf hx hb hml hown hts hX hbl hbA hA hK hTX hCL hL hk2 hI hJ hR hP hD hS hl2 N
    · refine lv_tableIn (off := 1075) (tgt := 1120) hx hb dL_law_45 (by decide) (by decide) rfl (by decide) ?_
      exact law_case_18 hlf hx hb hml hown hts hX hbl hbA hA hK hTX hCL hL hk2 hI hJ hR hP hD hS hl2 N
    · refine lv_tableIn (off := 1119) (tgt := 1164) hx hb dL_law_45 (by decide) (by decide) rfl (by decide) ?_
      exact law_case_19 hlf hx hb hml hown hts hX hbl hbA hA hK hTX hCL hL hk2 hI hJ hR hP hD hS hl2 N
    · refine lv_tableIn (off := 1175) (tgt := 1220) hx hb dL_law_45 (by decide) (by decide) rfl (by decide) ?_
      exact law_case_20 hlf hx hb hml hown hts hX hbl hbA hA hK hTX hCL hL hk2 hI hJ hR hP hD hS hl2 N
    · refine lv_tableIn (off := 1231) (tgt := 1276) hx hb dL_law_45 (by decide) (by decide) rfl (by decide) ?_
      exact law_case_21 hlf hx hb hml hown hts hX hbl hbA hA hK hTX hCL hL hk2 hI hJ hR hP hD hS hl2 N
    · refine lv_tableIn (off := 1298) (tgt := 1343) hx hb dL_law_45 (by decide) (by decide) rfl (by decide) ?_
      exact law_case_22 hlf hx hb hml hown hts hX hbl hbA hA hK hTX hCL hL hk2 hI hJ hR hP hD hS hl2 N
    · refine lv_tableIn (off := 1376) (tgt := 1421) hx hb dL_law_45 (by decide) (by decide) rfl (by decide) ?_
      exact law_case_23 hlf hx hb hml hown hts hX hbl hbA hA hK hTX hCL hL hk2 hI hJ hR hP hD hS hl2 N
    · refine lv_tableIn (off := 1444) (tgt := 1489) hx hb dL_law_45 (by decide) (by decide) rfl (by decide) ?_
      exact law_case_24 hlf hx hb hml hown hts hX hbl hbA hA hK hTX hCL hL hk2 hI hJ hR hP hD hS hl2 N
    · refine lv_tableIn (off := 1524) (tgt := 1569) hx hb dL_law_45 (by decide) (by decide) rfl (by decide) ?_
      exact law_case_25 hlf hx hb hml hown hts hX hbl hbA hA hK hTX hCL hL hk2 hI hJ hR hP hD hS hl2 N
    · refine lv_tableIn (off := 1560) (tgt := 1605) hx hb dL_law_45 (by decide) (by decide) rfl (by decide) ?_
      exact law_case_26 hlf hx hb hml hown hts hX hbl hbA hA hK hTX hCL hL hk2 hI hJ hR hP hD hS hl2 N
    · refine lv_tableOut (tgt := 1641) hx hb dL_law_45 (Or.inr (by rw [nI_toIntI (by omega)]; omega)) (by decide) ?_
      exact W.widen (k := 100 + k + 1) (n := 2000 + 6 * k + 6) (by omega) (by omega) (N v i w0 fo fd _ _ _ hI hJ hR hP hD hS hl2)
