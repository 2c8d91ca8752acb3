/-! what the start gives -/
section ST
variable {args : Array Value} {s : State}
theorem dc_of {w : Cond} (h : isDC w = true) (h2 : w.before args s = true) : va_Nw w s := by
  cases w <;> first | exact va_Nw.of rfl h2 | exact absurd h Bool.false_ne_true
def wStr : List Cond := xStr.map (fun p => Cond.stringRef RX6 p.1 p.2)
theorem wStr_in : ∀ w ∈ wStr, w ∈ lw_tbl := by decide +kernel
theorem str_R {own tx : String} {k : Nat} (h : (Cond.stringRef own k tx).before args s = true) : ∃ a, vk_R own k tx a s := by
  have h1 : (Cond.stringRef own k tx).before #[] s = true := by
    simp only [Cond.before, Cond.holds, Cond.value] at h ⊢
    exact h
  have hcur : ∃ cur, s.vm.findClass own = some cur := by
    have h2 := h1
    simp only [Cond.before, Cond.holds, Cond.value] at h2
    cases hc : s.vm.findClass own with
    | none => simp [hc] at h2
    | some cur => exact ⟨cur, rfl⟩
  obtain ⟨cur, hcur⟩ := hcur
  obtain ⟨k9, cf, i, a, -, -, -, -, -, he⟩ := Cond.stringRef_spec hcur h1
  exact ⟨a, h1, he⟩
theorem lw_mem {w : Cond} {i : Nat} (h : lw_tbl[i]? = some w) : w ∈ lw_tbl := List.mem_of_getElem? h
theorem lw_TX {A : Nat → Prop} (hts : ∀ w ∈ lw_tbl, w.before args s = true) (hg : (Jvm.Cond.and given_1 narrow_1).before args s = true) (hA : ∀ a : Nat, a < s.heap.size → ¬ A a) : TX A s.heap s := by
  have hs := flat_of_before _ hg
  refine ⟨⟨fun w hw => ?_, fun w hw => ?_, fun w hw => ?_⟩, fun p hp => ?_, ?_, ?_⟩
  · exact dc_of (List.all_eq_true.mp xB54_dc w hw) (hts w (exL54_in w (List.mem_filter.mp hw).1))
  · exact dc_of (List.all_eq_true.mp xB61_dc w hw) (hts w (exL61_in w (List.mem_filter.mp hw).1))
  · exact dc_of (List.all_eq_true.mp xB74_dc w hw) (hts w (exL74_in w (List.mem_filter.mp hw).1))
  · exact str_R (hts _ (wStr_in _ (List.mem_map.mpr ⟨p, hp, rfl⟩)))
  · exact vx_Zqof (hts _ (by decide +kernel)) (hts _ (by decide +kernel)) (hs _ (by decide +kernel)) hA
  · exact vx_Zqof (hts _ (by decide +kernel)) (hts _ (by decide +kernel)) (hs _ (by decide +kernel)) hA
theorem ao_of {t : FieldType} (h : (Cond.arrayOver t).before args s = true) : (Cond.arrayOver t).before #[] s = true := by
  simp only [Cond.before, Cond.holds, Cond.value] at h ⊢
  exact h
theorem lw_CX (hts : ∀ w ∈ lw_tbl, w.before args s = true) : CX s :=
  ⟨ao_of (hts _ (by decide +kernel)), va_Nw.of rfl (hts _ (by decide +kernel)), va_Nw.of rfl (hts _ (by decide +kernel)), va_Nw.of rfl (hts _ (by decide +kernel)), va_Nw.of rfl (hts _ (by decide +kernel)), va_Nw.of rfl (hts _ (by decide +kernel)), va_Nw.of rfl (hts _ (by decide +kernel)), va_Nw.of rfl (hts _ (by decide +kernel))⟩
theorem lw_CL (hts : ∀ w ∈ lw_tbl, w.before args s = true) : CL s := ⟨va_Nw.of rfl (hts _ (by decide +kernel)), va_Nw.of rfl (hts _ (by decide +kernel)), va_Nw.of rfl (hts _ (by decide +kernel))⟩
theorem arr_K {ty : FieldType} (h : (Cond.arrayClass ty).before args s = true) : ∃ cA, ArrOfT s cA ty ∧ s.vm.findClass ("[" ++ ty.toString) = some cA := by
  obtain ⟨cA, kA, comp, h1, h2, h3⟩ := Cond.arrayClass_spec h
  exact ⟨cA, fun n z => ⟨fun k h => (by cases h), kA, h2, comp, h3⟩, h1⟩
theorem arr_KA {ty : FieldType} (h : (Cond.arrayOver (.array ty)).before args s = true) : ∃ cA, ArrOfT s cA (.array ty) ∧ s.vm.findClass ("[" ++ (FieldType.array ty).toString) = some cA := by
  obtain ⟨comp, cA, kA, h0, h2, h3, h1⟩ := Cond.arrayOver_specA h
  exact ⟨cA, fun n z => ⟨fun k h => (by cases h), kA, h2, comp, h3⟩, h1⟩
theorem lw_K (hts : ∀ w ∈ lw_tbl, w.before args s = true) : ∃ (D : va_G) (K : Nat → ClassId), va_K D vwCl (TY K) s := by
  have htb : ∀ w ∈ TB, w.before args s = true := fun w hw => hts w (List.mem_filter.mp hw).1
  obtain ⟨c0, i0, g0⟩ := u_known (C := RX0) (T := TX0) (N := 11) (n := 11) htb iX0 (htb _ k_il_X0)
  obtain ⟨c1, i1, g1⟩ := u_known (C := RX1) (T := TX1) (N := 4) (n := 4) htb iX1 (htb _ k_il_X1)
  obtain ⟨c2, i2, g2⟩ := u_known (C := RX2) (T := TX2) (N := 7) (n := 7) htb iX2 (htb _ k_il_X2)
  obtain ⟨c3, i3, g3⟩ := u_known (C := RX3) (T := TX3) (N := 2) (n := 2) htb iX3 (htb _ k_il_X3)
  obtain ⟨c4, i4, g4⟩ := u_known (C := RX4) (T := TX4) (N := 1) (n := 1) htb iX4 (htb _ k_il_X4)
  obtain ⟨c5, i5, g5⟩ := u_known (C := RX5) (T := TX5) (N := 1) (n := 1) htb iX5 (htb _ k_il_X5)
  obtain ⟨c6, i6, g6⟩ := u_known (C := RX6) (T := TX6) (N := 9) (n := 9) htb iX6 (htb _ k_il_X6)
  obtain ⟨a0, p0, n0⟩ := arr_K (htb _ k_ac__int)
  obtain ⟨a1, p1, n1⟩ := arr_K (htb _ k_ac__long)
  obtain ⟨a2, p2, n2⟩ := arr_K (htb _ k_ac__boolean)
  obtain ⟨a3, p3, n3⟩ := arr_KA (ty := .long) (hts _ (by decide +kernel))
  refine ⟨(fun k => match k with | 0 => c0 | 1 => c1 | 2 => c2 | 3 => c3 | 4 => c4 | 5 => c5 | _ => c6, fun k => match k with | 0 => i0 | 1 => i1 | 2 => i2 | 3 => i3 | 4 => i4 | 5 => i5 | _ => i6), fun k => match k with | 0 => a0 | 1 => a1 | 2 => a2 | _ => a3, ?_, ?_⟩
  · intro k q hq
    match k, hq with
    | 0, hq => cases hq; exact g0
    | 1, hq => cases hq; exact g1
    | 2, hq => cases hq; exact g2
    | 3, hq => cases hq; exact g3
    | 4, hq => cases hq; exact g4
    | 5, hq => cases hq; exact g5
    | 6, hq => cases hq; exact g6
    | k + 7, hq => simp at hq
  · intro k q hq
    match k, hq with
    | 0, hq => cases hq; exact ⟨p0, n0⟩
    | 1, hq => cases hq; exact ⟨p1, n1⟩
    | 2, hq => cases hq; exact ⟨p2, n2⟩
    | 3, hq => cases hq; exact ⟨p3, n3⟩
    | k + 4, hq => simp at hq
end ST
