/-! an elimination exists; each of its rows is a combination of the first ones -/
section PE
theorem dt_ind (x : Nat → Int) (i : Nat) : ∀ n, dt (fun k => if k = i then 1 else 0) x n = if i < n then x i else 0
  | 0 => by simp [dt]
  | n + 1 => by
    show dt (fun k => if k = i then 1 else 0) x n + (if n = i then 1 else 0) * x n = _
    rw [dt_ind x i n]
    by_cases h : n = i
    · subst h
      rw [if_neg (Nat.lt_irrefl _), if_pos rfl, if_pos (Nat.lt_succ_self _)]
      omega
    · rw [if_neg h]
      by_cases h2 : i < n
      · rw [if_pos h2, if_pos (by omega)]; omega
      · rw [if_neg h2, if_neg (by omega)]; omega
/-- a multiple of w is a combination of the first n rows of M0 -/
def RC (M0 : Nat → Nat → Int) (n : Nat) (w : Nat → Int) : Prop := ∃ (y : Nat → Int) (D : Int), D ≠ 0 ∧ ∀ j, D * w j = dt y (fun i => M0 i j) n
theorem RC_row (M0 : Nat → Nat → Int) {n i : Nat} (h : i < n) : RC M0 n (M0 i) := ⟨fun k => if k = i then 1 else 0, 1, by decide, fun j => by
  have := dt_ind (fun i => M0 i j) i n
  rw [if_pos h] at this
  rw [this]
  omega⟩
theorem RC_elim {M0 : Nat → Nat → Int} {n t : Nat} {v w u : Nat → Int} (hv : RC M0 n v) (hw : RC M0 n w) (h : Elim v w u t) : RC M0 n u := by
  obtain ⟨y, D, hD, e⟩ := hv
  obtain ⟨z, F, hF, f⟩ := hw
  obtain ⟨g, hg, hj, -⟩ := h
  refine ⟨fun i => y i * (F * w t) - z i * (D * v t), g * (D * F), Int.mul_ne_zero (by omega) (Int.mul_ne_zero hD hF), fun j => ?_⟩
  have h1 := dt_lin (fun i => M0 i j) (g := 1) (c := F * w t) (d := D * v t) (u := fun i => y i * (F * w t) - z i * (D * v t)) (v := y) (w := z) (fun i => by rw [Int.one_mul]) n
  rw [Int.one_mul] at h1
  rw [h1, ← e j, ← f j]
  have h2 := hj j
  have h3 : g * (D * F) * u j = D * F * (g * u j) := by grind
  rw [h3, h2]
  grind
theorem Elim_ex {v w : Nat → Int} (t : Nat) (hv : ∀ j, 11 ≤ j → v j = 0) (hw : ∀ j, 11 ≤ j → w j = 0) : ∃ u, Elim v w u t ∧ ∀ j, 11 ≤ j → u j = 0 := by
  let z : Nat → Int := fun j => v j * w t - w j * v t
  have hz : ∀ j, 11 ≤ j → z j = 0 := fun j hj => by
    show v j * w t - w j * v t = 0
    rw [hv j hj, hw j hj]
    simp
  by_cases hg : gU z 11 = 0
  · exact ⟨z, ⟨1, by decide, fun j => by rw [Int.one_mul], by rw [hg]; exact Nat.zero_le _⟩, hz⟩
  · have hd : ∀ j, ((gU z 11 : Nat) : Int) ∣ z j := fun j => by
      by_cases hj : j < 11
      · exact Int.ofNat_dvd_left.mpr (gU_dvd hj)
      · rw [hz j (by omega)]; exact Int.dvd_zero _
    refine ⟨fun j => z j / ((gU z 11 : Nat) : Int), ⟨((gU z 11 : Nat) : Int), by omega, fun j => ?_, ?_⟩, fun j hj => ?_⟩
    · exact Int.mul_ediv_cancel' (hd j)
    · have h1 := gU_mul ((gU z 11 : Nat) : Int) (fun j => z j / ((gU z 11 : Nat) : Int)) 11
      have h2 : gU (fun j => ((gU z 11 : Nat) : Int) * (z j / ((gU z 11 : Nat) : Int))) 11 = gU z 11 := gU_congr (fun j _ => Int.mul_ediv_cancel' (hd j))
      rw [h2, Int.natAbs_natCast] at h1
      have h3 : gU z 11 * gU (fun j => z j / ((gU z 11 : Nat) : Int)) 11 = gU z 11 * 1 := by omega
      have := Nat.eq_of_mul_eq_mul_left (by omega) h3
      omega
    · show z j / _ = 0
      rw [hz j hj]
      exact Int.zero_ediv _
theorem Stage_ex {V : Nat → Nat → Int} (r t n : Nat) (hz : ∀ i j, 11 ≤ j → V i j = 0) : ∃ V', Stage V V' r t n ∧ ∀ i j, 11 ≤ j → V' i j = 0 := by
  have hex : ∀ k, ∃ u, Elim (V k) (V r) u t ∧ ∀ j, 11 ≤ j → u j = 0 := fun k => Elim_ex t (hz k) (hz r)
  refine ⟨fun k => if k = r then V r else if V k t = 0 then V k else Classical.choose (hex k), ⟨if_pos rfl, fun k _ hk => ?_⟩, fun i j hj => ?_⟩
  · by_cases h0 : V k t = 0
    · exact Or.inl ⟨h0, by show (if k = r then V r else if V k t = 0 then V k else _) = V k; rw [if_neg hk, if_pos h0]⟩
    · refine Or.inr ?_
      show Elim (V k) (V r) (if k = r then V r else if V k t = 0 then V k else Classical.choose (hex k)) t
      rw [if_neg hk, if_neg h0]
      exact (Classical.choose_spec (hex k)).1
  · show (if i = r then V r else if V i t = 0 then V i else Classical.choose (hex i)) j = 0
    split
    · exact hz r j hj
    · split
      · exact hz i j hj
      · exact (Classical.choose_spec (hex i)).2 j hj
theorem fin_ex {M0 : Nat → Nat → Int} (n : Nat) (hz : ∀ i j, 11 ≤ j → M0 i j = 0) : ∀ t, t ≤ 10 → ∃ (V : Nat → Nat → Int) (ps : List (Nat × Nat)), EInv M0 V n ps ∧ (∀ i j, 11 ≤ j → V i j = 0) ∧ (∀ i, i < n → (∀ q ∈ ps, q.1 ≠ i) → ∀ j, j < t → V i j = 0) ∧ ∀ i, i < n → RC M0 n (V i)
  | 0, _ => ⟨M0, [], EInv_start M0 n, hz, fun _ _ _ j hj => absurd hj (Nat.not_lt_zero _), fun i hi => RC_row M0 hi⟩
  | t + 1, ht => by
    obtain ⟨V, ps, hE, hc, hf, hR⟩ := fin_ex n hz t (by omega)
    by_cases hex : ∃ r, r < n ∧ (∀ q ∈ ps, q.1 ≠ r) ∧ V r t ≠ 0
    · obtain ⟨r, hr, hfr, hne⟩ := hex
      obtain ⟨V', hs, hc'⟩ := Stage_ex (V := V) r t n hc
      refine ⟨V', (r, t) :: ps, EInv_stage hE hr hfr (by omega) hne hs, hc', fun i hi hfi j hj => ?_, fun i hi => ?_⟩
      · have hir : i ≠ r := fun z => hfi (r, t) List.mem_cons_self z.symm
        have hfi2 : ∀ q ∈ ps, q.1 ≠ i := fun q hq => hfi q (List.mem_cons_of_mem _ hq)
        rcases hs.2 i hi hir with z | ⟨g, hg, hj2, -⟩
        · rw [z.2]
          by_cases e : j = t
          · subst e; exact z.1
          · exact hf i hi hfi2 j (by omega)
        · have h1 := hj2 j
          have h0 : g * V' i j = 0 := by
            rw [h1]
            by_cases e : j = t
            · subst e; grind
            · rw [hf i hi hfi2 j (by omega), hf r hr hfr j (by omega)]; simp
          rcases Int.mul_eq_zero.mp h0 with q | q
          · omega
          · exact q
      · by_cases hir : i = r
        · subst hir; rw [hs.1]; exact hR i hi
        · rcases hs.2 i hi hir with z | z
          · rw [z.2]; exact hR i hi
          · exact RC_elim (hR i hi) (hR r hr) z
    · refine ⟨V, ps, hE, hc, fun i hi hfi j hj => ?_, hR⟩
      by_cases e : j = t
      · subst e
        exact Classical.byContradiction fun z => hex ⟨i, hi, hfi, z⟩
      · exact hf i hi hfi j (by omega)
theorem fin_all {M0 : Nat → Nat → Int} (n : Nat) (hz : ∀ i j, 11 ≤ j → M0 i j = 0) : ∃ (V : Nat → Nat → Int) (ps : List (Nat × Nat)), EInv M0 V n ps ∧ Fin V n ps ∧ ∀ i, i < n → RC M0 n (V i) := by
  obtain ⟨V, ps, a, -, b, c⟩ := fin_ex n hz 10 (Nat.le_refl _)
  exact ⟨V, ps, a, b, c⟩
/-! minors of a diagonal with one column changed -/
theorem diag_col {V : Nat → Nat → Int} {q : Nat × Nat} : ∀ (ps : List (Nat × Nat)), q ∈ ps → ps.Nodup → (∀ p ∈ ps, V p.1 p.2 ≠ 0) → (∀ p ∈ ps, ∀ p' ∈ ps, p ≠ p' → V p'.1 p.2 = 0) → ∃ Z : Int, Z ≠ 0 ∧ ∀ k, mn (ps.map (fun p => if p = q then k else p.2)) (ps.map (fun p => V p.1)) = Z * V q.1 k
  | [], h, _, _, _ => absurd h List.not_mem_nil
  | p :: ps, h, hn, hne, hz => by
    obtain ⟨hn1, hn2⟩ := List.nodup_cons.mp hn
    have hpw : ps.Pairwise (fun a b => V b.1 a.2 = 0) := List.Pairwise.imp_of_mem (fun {a b} ha hb hab => hz a (List.mem_cons_of_mem _ ha) b (List.mem_cons_of_mem _ hb) hab) hn2
    by_cases e : p = q
    · subst e
      refine ⟨mn (ps.map Prod.snd) (ps.map (fun p => V p.1)), mn_diag ps (fun p' hp' => hne p' (List.mem_cons_of_mem _ hp')) hpw, fun k => ?_⟩
      rw [List.map_cons, List.map_cons, if_pos rfl]
      have e1 : ps.map (fun p' => if p' = p then k else p'.2) = ps.map Prod.snd := List.map_congr_left (fun p' hp' => if_neg (fun z => hn1 (by rw [← z]; exact hp')))
      rw [e1, mn_front k _ _ (fun j hj => by
        obtain ⟨p', hp', rfl⟩ := List.mem_map.mp hj
        exact hz p' (List.mem_cons_of_mem _ hp') p List.mem_cons_self (fun z => hn1 (by rw [← z]; exact hp')))]
    · have hq : q ∈ ps := (List.mem_cons.mp h).resolve_left (fun z => e z.symm)
      obtain ⟨Z, hZ, hk⟩ := diag_col ps hq hn2 (fun p' hp' => hne p' (List.mem_cons_of_mem _ hp')) (fun a ha b hb => hz a (List.mem_cons_of_mem _ ha) b (List.mem_cons_of_mem _ hb))
      refine ⟨V p.1 p.2 * Z, Int.mul_ne_zero (hne p List.mem_cons_self) hZ, fun k => ?_⟩
      rw [List.map_cons, List.map_cons, if_neg e, mn_cons]
      have h1 : mx (fun t z => t p.2 * mn (ps.map (fun p' => if p' = q then k else p'.2)) (V p.1 :: z)) (ps.map (fun p' => V p'.1)) = 0 := mx_zero _ _ (fun t z hz9 => by
        obtain ⟨b, hb, rfl⟩ := List.mem_map.mp (hz9.subset List.mem_cons_self)
        rw [hz p List.mem_cons_self b (List.mem_cons_of_mem _ hb) (fun z => hn1 (by rw [z]; exact hb))]
        simp)
      rw [h1, hk k]
      grind
/-- minors within a bound -/
def MT (T : Nat) (M0 : Nat → Nat → Int) (n : Nat) : Prop := ∀ (rs cs : List Nat), rs.Nodup → (∀ r ∈ rs, r < n) → cs.Nodup → (∀ c ∈ cs, c < 11) → (mn cs (rs.map M0)).natAbs ≤ T
theorem ein_cols {M0 V : Nat → Nat → Int} {n : Nat} {ps : List (Nat × Nat)} (h : EInv M0 V n ps) : (ps.map Prod.snd).Nodup := by
  have hp1 : ps.Pairwise (fun a b => a.1 ≠ b.1) := List.pairwise_map.mp h.2.1
  refine List.pairwise_map.mpr (List.Pairwise.imp_of_mem (fun {a b} ha hb hab => ?_) hp1)
  intro z
  have e1 := (h.2.2.1 a ha).2 b.1 (h.1 b hb).1 (fun z => hab z.symm)
  rw [z] at e1
  exact (h.2.2.1 b hb).1 e1
/-- one denominator for all unknowns that have a pivot -/
theorem com_den {M0 V : Nat → Nat → Int} {n T : Nat} {ps : List (Nat × Nat)} (h : EInv M0 V n ps) (hB : MT T M0 n) : ∃ D : Int, D ≠ 0 ∧ D.natAbs ≤ T ∧ ∀ q ∈ ps, ∃ N : Int, N.natAbs ≤ T ∧ D * V q.1 10 = N * V q.1 q.2 := by
  have hnc := ein_cols h
  obtain ⟨h1, h2, h3, h4, -, -⟩ := id h
  have hnd : ps.Nodup := (List.pairwise_map.mp h2).imp (fun hab e => hab (by rw [e]))
  have hz : ∀ p ∈ ps, ∀ p' ∈ ps, p ≠ p' → V p'.1 p.2 = 0 := fun p hp p' hp' hne => (h3 p hp).2 p'.1 (h1 p' hp').1 (fun z => by
    have hpw := List.pairwise_map.mp h2
    have := List.Pairwise.forall_of_forall_of_flip (R := fun a b : Nat × Nat => a.1 = b.1 → a = b) (l := ps) (fun _ _ _ => rfl) (hpw.imp (fun hab q => absurd q hab)) (hpw.imp (fun hab q => absurd q.symm hab)) hp hp' z.symm
    exact hne this)
  obtain ⟨al, be, ha, hb, hk⟩ := h4 (ps.map Prod.fst) h2 (fun i hi => by
    obtain ⟨q, hq, rfl⟩ := List.mem_map.mp hi
    exact (h1 q hq).1) (fun q hq => List.mem_map.mpr ⟨q, hq, rfl⟩)
  have hlt : ∀ r ∈ ps.map Prod.fst, r < n := fun i hi => by
    obtain ⟨q, hq, rfl⟩ := List.mem_map.mp hi
    exact (h1 q hq).1
  have hpw : ps.Pairwise (fun a b => V b.1 a.2 = 0) := fin_pw h
  have hdg := mn_diag (V := V) ps (fun q hq => (h3 q hq).1) hpw
  have hmm : (ps.map Prod.fst).map V = ps.map (fun q => V q.1) := by rw [List.map_map]; rfl
  have hD0 := hk (ps.map Prod.snd)
  rw [hmm] at hD0
  refine ⟨mn (ps.map Prod.snd) ((ps.map Prod.fst).map M0), fun z => ?_, hB _ _ h2 hlt hnc (fun c hc => by
    obtain ⟨q, hq, rfl⟩ := List.mem_map.mp hc
    have := (h1 q hq).2
    omega), fun q hq => ?_⟩
  · rw [z] at hD0
    exact Int.mul_ne_zero ha hdg (by rw [hD0]; simp)
  · obtain ⟨Z, hZ, hZk⟩ := diag_col (V := V) (q := q) ps hq hnd (fun p hp => (h3 p hp).1) hz
    have e1 : ps.map (fun p => if p = q then q.2 else p.2) = ps.map Prod.snd := List.map_congr_left (fun p _ => by
      by_cases z : p = q
      · rw [if_pos z, z]
      · rw [if_neg z])
    have k1 := hZk q.2
    have k2 := hZk 10
    rw [e1] at k1
    refine ⟨mn (ps.map (fun p => if p = q then 10 else p.2)) ((ps.map Prod.fst).map M0), hB _ _ h2 hlt ?_ (fun c hc => ?_), ?_⟩
    · refine List.pairwise_map.mpr (List.Pairwise.imp_of_mem (fun {a b} ha hb hab => ?_) (List.pairwise_map.mp hnc |>.and hnd))
      have l1 := (h1 a ha).2
      have l2 := (h1 b hb).2
      obtain ⟨hab1, hab2⟩ := hab
      by_cases za : a = q
      · rw [if_pos za]
        by_cases zb : b = q
        · exact absurd (za.trans zb.symm) hab2
        · rw [if_neg zb]; omega
      · rw [if_neg za]
        by_cases zb : b = q
        · rw [if_pos zb]; omega
        · rw [if_neg zb]; exact hab1
    · obtain ⟨p, hp, rfl⟩ := List.mem_map.mp hc
      have := (h1 p hp).2
      split <;> omega
    · have k3 := hk (ps.map (fun p => if p = q then 10 else p.2))
      rw [hmm, k2] at k3
      rw [k1] at hD0
      have e3 : be * (mn (ps.map Prod.snd) ((ps.map Prod.fst).map M0) * V q.1 10) = be * (mn (ps.map (fun p => if p = q then 10 else p.2)) ((ps.map Prod.fst).map M0) * V q.1 q.2) := by
        generalize mn (ps.map Prod.snd) ((ps.map Prod.fst).map M0) = X at *
        generalize mn (ps.map (fun p => if p = q then 10 else p.2)) ((ps.map Prod.fst).map M0) = Y at *
        have a1 : be * (X * V q.1 10) = (be * X) * V q.1 10 := by rw [Int.mul_assoc]
        have a2 : be * (Y * V q.1 q.2) = (be * Y) * V q.1 q.2 := by rw [Int.mul_assoc]
        rw [a1, a2, ← hD0, ← k3]
        grind
      exact Int.eq_of_mul_eq_mul_left hb e3
end PE
