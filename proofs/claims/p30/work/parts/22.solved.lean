/-! equations that are solved -/
section SO
theorem EInv_congr {M0 M1 V : Nat → Nat → Int} {n : Nat} {ps : List (Nat × Nat)} (h : ∀ i, i < n → M0 i = M1 i) (hE : EInv M0 V n ps) : EInv M1 V n ps := by
  obtain ⟨h1, h2, h3, h4, h5, h6⟩ := hE
  refine ⟨h1, h2, h3, fun rs a b c => ?_, fun i hi => ?_, fun x => (h6 x).trans ⟨fun z i hi => by rw [← h i hi]; exact z i hi, fun z i hi => by rw [h i hi]; exact z i hi⟩⟩
  · obtain ⟨al, be, ha, hb, hk⟩ := h4 rs a b c
    refine ⟨al, be, ha, hb, fun cs => ?_⟩
    rw [hk cs, List.map_congr_left (fun i hi => h i (b i hi))]
  · rw [← h i hi]; exact h5 i hi
theorem MB_congr {M0 M1 : Nat → Nat → Int} {n : Nat} (h : ∀ i, i < n → M0 i = M1 i) (hB : MB M0 n) : MB M1 n := fun rs cs a b c e => by
  rw [← List.map_congr_left (fun i hi => h i (b i hi))]
  exact hB rs cs a b c e
theorem bI_one {P : Prop} : bI P = nI 1 ↔ P := by
  constructor
  · intro h
    refine Classical.byContradiction fun q => ?_
    rw [← bI_f q] at h
    exact absurd h (by decide)
  · exact fun h => (bI_t h).symm
/-- an Equations that holds the solved equations of M0 -/
def SolvedE (M0 : Nat → Nat → Int) (M : Nat → Nat → Int64) (pv : Nat → Int32) (sv : Int32) : Prop := ∃ ps, EInv M0 (tI M) 10 ps ∧ FinTo (tI M) 10 ps 10 ∧ PvOK ps pv 10 ∧ (∀ i j, i < 10 → j < 11 → (tI M i j).natAbs ≤ BB) ∧ sv = bI (∀ i, i < 10 → (∀ q ∈ ps, q.1 ≠ i) → tI M i 10 = 0)
theorem SolvedE.of {M0 : Nat → Nat → Int} {M M1 : Nat → Nat → Int64} {pv : Nat → Int32} {sv : Int32} (h : ∀ i, i < 10 → tI M i = M0 i) (hB : MB M0 10) (h0 : ∀ i j, (M0 i j).natAbs ≤ BB) (hr : ∃ ps, EInv (tI M) (tI M1) 10 ps ∧ FinTo (tI M1) 10 ps 10 ∧ PvOK ps pv 10 ∧ sv = bI (∀ i, i < 10 → (∀ q ∈ ps, q.1 ≠ i) → tI M1 i 10 = 0)) : SolvedE M0 M1 pv sv := by
  obtain ⟨ps, a, b, c, e⟩ := hr
  have a2 := EInv_congr h a
  exact ⟨ps, a2, b, c, EInv_bound a2 hB (fun i j _ _ => h0 i j), e⟩
variable {M0 : Nat → Nat → Int} {M : Nat → Nat → Int64} {pv : Nat → Int32} {sv : Int32}
theorem SolvedE.solv (h : SolvedE M0 M pv sv) : sv = nI 1 ↔ Solv (HS M0 10) := by
  obtain ⟨ps, a, b, c, e, f⟩ := h
  rw [f, bI_one]
  exact (fin_solv a b).symm
theorem SolvedE.sv01 (h : SolvedE M0 M pv sv) : sv = nI 0 ∨ sv = nI 1 := by
  obtain ⟨ps, a, b, c, e, f⟩ := h
  rw [f]
  exact bI_01 _
theorem SolvedE.pvk (h : SolvedE M0 M pv sv) {t : Nat} (ht : t < 10) : pv t = -1 ∨ ∃ k, k < 10 ∧ pv t = nI k := by
  obtain ⟨ps, a, b, c, e, f⟩ := h
  rcases c t ht with ⟨k, hk, e1, -⟩ | ⟨e1, -⟩
  · exact Or.inr ⟨k, hk, e1⟩
  · exact Or.inl e1
theorem SolvedE.det (h : SolvedE M0 M pv sv) {t : Nat} (ht : t < 10) : (sv = nI 1 ∧ ∃ k, k < 10 ∧ pv t = nI k ∧ ∀ o, o < 10 → ¬ o = t → (M k o).toInt = 0) ↔ (Solv (HS M0 10) ∧ DetS (HS M0 10) t) := by
  have hs := h.solv
  obtain ⟨ps, a, b, c, e, f⟩ := h
  constructor
  · rintro ⟨h1, k, hk, hp, hz⟩
    refine ⟨hs.mp h1, ?_⟩
    rcases c t ht with ⟨k2, hk2, e1, hm⟩ | ⟨e1, -⟩
    · rw [hp] at e1
      have : k = k2 := (nI_eq (by omega) (by omega)).mp e1
      subst this
      exact fin_det a hm (fun o ho hne => by rw [tI_at (by omega)]; exact hz o ho hne)
    · rw [hp] at e1
      exact absurd e1.symm (m1_ne (by omega))
  · rintro ⟨h1, h2⟩
    refine ⟨hs.mpr h1, ?_⟩
    obtain ⟨r, hr, hz⟩ := fin_undet a b ht h2
    rcases c t ht with ⟨k2, hk2, e1, hm⟩ | ⟨e1, hno⟩
    · have : k2 = r := Classical.byContradiction fun q => (a.2.2.1 _ hm).1 ((a.2.2.1 _ hr).2 k2 hk2 q)
      subst this
      exact ⟨k2, hk2, e1, fun o ho hne => by have := hz o ho hne; rw [tI_at (by omega)] at this; exact this⟩
    · exact absurd rfl (hno _ hr)
theorem ediv_le {z : Int} {g : Nat} (h : (g : Int) ∣ z) : (z / (g : Int)).natAbs ≤ z.natAbs := ediv_abs h
theorem Lnum_le (c p : Int) : (Lnum c p).natAbs ≤ c.natAbs := by
  have hd : ((Nat.gcd p.natAbs c.natAbs : Nat) : Int) ∣ c := dvd_natAbs (Nat.gcd_dvd_right _ _)
  unfold Lnum
  split
  · rw [Int.natAbs_neg]; exact ediv_abs hd
  · exact ediv_abs hd
theorem Lden_le (c p : Int) : (Lden c p).natAbs ≤ p.natAbs := by
  have hd : ((Nat.gcd p.natAbs c.natAbs : Nat) : Int) ∣ p := dvd_natAbs (Nat.gcd_dvd_left _ _)
  unfold Lden
  split
  · rw [Int.natAbs_neg]; exact ediv_abs hd
  · exact ediv_abs hd
theorem SolvedE.val (h : SolvedE M0 M pv sv) {t : Nat} (ht : t < 10) (h1 : Solv (HS M0 10)) (h2 : DetS (HS M0 10) t) : ∃ k, k < 10 ∧ pv t = nI k ∧ (M k t).toInt ≠ 0 ∧ (M k t).toInt.natAbs ≤ BB ∧ (M k 10).toInt.natAbs ≤ BB ∧ Lnum (M k 10).toInt (M k t).toInt = vN (HS M0 10) t ∧ Lden (M k 10).toInt (M k t).toInt = vD (HS M0 10) t := by
  obtain ⟨-, k, hk, hp, hz⟩ := (h.det ht).mpr ⟨h1, h2⟩
  obtain ⟨ps, a, b, c, e, f⟩ := h
  rcases c t ht with ⟨k2, hk2, e1, hm⟩ | ⟨e1, -⟩
  · rw [hp] at e1
    have : k = k2 := (nI_eq (by omega) (by omega)).mp e1
    subst this
    have hne := (a.2.2.1 _ hm).1
    have hb1 := e k t hk (by omega)
    have hb2 := e k 10 hk (by decide)
    rw [tI_at (by omega)] at hb1 hb2
    have hne2 : (M k t).toInt ≠ 0 := by rw [← tI_at (M := M) (show t < 11 by omega)]; exact hne
    have hv := vN_of h1 (LT_of (c := (M k 10).toInt) (p := (M k t).toInt) hne2 (fun x hx => by
      have := fin_val a hk ht (fun o ho hne => by rw [tI_at (by omega)]; exact hz o ho hne) hx
      rw [tI_at (by omega), tI_at (by decide)] at this
      exact this))
    exact ⟨k, hk, hp, hne2, hb1, hb2, hv.1.symm, hv.2.symm⟩
  · rw [hp] at e1
    exact absurd e1.symm (m1_ne (by omega))
theorem SolvedE.bound (h : SolvedE M0 M pv sv) {t : Nat} (ht : t < 10) (h1 : Solv (HS M0 10)) (h2 : DetS (HS M0 10) t) : (vN (HS M0 10) t).natAbs ≤ BB ∧ 0 < vD (HS M0 10) t ∧ (vD (HS M0 10) t).natAbs ≤ BB ∧ Nat.gcd (vN (HS M0 10) t).natAbs (vD (HS M0 10) t).natAbs = 1 := by
  obtain ⟨k, -, -, hne, b1, b2, e1, e2⟩ := h.val ht h1 h2
  have a1 := Lnum_le (M k 10).toInt (M k t).toInt
  have a2 := Lden_le (M k 10).toInt (M k t).toInt
  obtain ⟨f1, f2, -⟩ := Lfrac (c := (M k 10).toInt) hne
  rw [e1] at a1 f2
  rw [e2] at a2 f1 f2
  exact ⟨by omega, f1, by omega, f2⟩
/-- the state: 0 driving, 1 stopped, 2 neutral, 3 blocked -/
noncomputable def stC (S : (Nat → Int) → Prop) : Nat := @ite _ (Solv S) (Classical.propDecidable _) (@ite _ (DetS S 1) (Classical.propDecidable _) (if vN S 1 = 0 then 1 else 0) 2) 3
theorem stC_3 {S : (Nat → Int) → Prop} (h : ¬ Solv S) : stC S = 3 := by unfold stC; rw [if_neg h]
theorem stC_2 {S : (Nat → Int) → Prop} (h : Solv S) (h2 : ¬ DetS S 1) : stC S = 2 := by unfold stC; rw [if_pos h, if_neg h2]
theorem stC_1 {S : (Nat → Int) → Prop} (h : Solv S) (h2 : DetS S 1) (h3 : vN S 1 = 0) : stC S = 1 := by unfold stC; rw [if_pos h, if_pos h2, if_pos h3]
theorem stC_0 {S : (Nat → Int) → Prop} (h : Solv S) (h2 : DetS S 1) (h3 : ¬ vN S 1 = 0) : stC S = 0 := by unfold stC; rw [if_pos h, if_pos h2, if_neg h3]
theorem stC_le (S : (Nat → Int) → Prop) : stC S ≤ 3 := by
  by_cases h : Solv S
  · by_cases h2 : DetS S 1
    · by_cases h3 : vN S 1 = 0
      · rw [stC_1 h h2 h3]; decide
      · rw [stC_0 h h2 h3]; decide
    · rw [stC_2 h h2]; decide
  · rw [stC_3 h]; decide
theorem stC_drive {S : (Nat → Int) → Prop} : stC S = 0 ↔ Solv S ∧ DetS S 1 ∧ ¬ vN S 1 = 0 := by
  constructor
  · intro h
    refine ⟨Classical.byContradiction fun q => by rw [stC_3 q] at h; exact absurd h (by decide), ?_⟩
    have h1 : Solv S := Classical.byContradiction fun q => by rw [stC_3 q] at h; exact absurd h (by decide)
    have h2 : DetS S 1 := Classical.byContradiction fun q => by rw [stC_2 h1 q] at h; exact absurd h (by decide)
    exact ⟨h2, fun q => by rw [stC_1 h1 h2 q] at h; exact absurd h (by decide)⟩
  · rintro ⟨h1, h2, h3⟩
    exact stC_0 h1 h2 h3
/-- the ratio's parts -/
noncomputable def rtN (S : (Nat → Int) → Prop) : Int := if vN S 1 < 0 then -(vD S 1) else vD S 1
noncomputable def rtD (S : (Nat → Int) → Prop) : Int := ((vN S 1).natAbs : Int)
/-! the matrices that the class lays -/
theorem spM_eq {d : Nat → Nat → Int32} {n m : Nat} (hn : n ≤ 3) (hm : m ≤ 6) (h0 : d 8 0 = nI n) (h1 : d 8 1 = nI m) (g : Nat) {i : Nat} (hi : i < 10) (j : Nat) : spM d g i j = (if i = 0 ∧ j = 0 then 1 else 0) + (if i = 0 ∧ j = 10 then 1 else 0) + sS d n i j + eS d g m i j := by
  unfold spM sS eS
  rw [dn_of h0 (by omega), dn_of h1 (by omega)]
  by_cases q0 : i = 0
  · subst q0
    rw [if_pos rfl, if_neg (show ¬ (1 ≤ 0 ∧ 0 < 1 + n) by omega), if_neg (show ¬ (4 ≤ 0 ∧ _) from fun z => absurd z.1 (by omega))]
    by_cases q1 : j = 0
    · subst q1; simp
    · by_cases q2 : j = 10
      · subst q2; simp
      · simp [q1, q2]
  · rw [if_neg q0, if_neg (show ¬ (i = 0 ∧ j = 0) from fun z => q0 z.1), if_neg (show ¬ (i = 0 ∧ j = 10) from fun z => q0 z.1)]
    by_cases q1 : i < 4
    · rw [if_pos q1, if_neg (show ¬ (4 ≤ i ∧ _) from fun z => absurd z.1 (by omega))]
      by_cases q2 : i - 1 < n
      · rw [if_pos q2, if_pos (show 1 ≤ i ∧ i < 1 + n by omega)]; omega
      · rw [if_neg q2, if_neg (show ¬ (1 ≤ i ∧ i < 1 + n) by omega)]; omega
    · rw [if_neg q1, if_neg (show ¬ (1 ≤ i ∧ i < 1 + n) by omega)]
      by_cases q2 : i - 4 < m ∧ g.testBit (i - 4) = true
      · rw [if_pos q2, if_pos (show 4 ≤ i ∧ i < 4 + m ∧ g.testBit (i - 4) = true from ⟨by omega, by omega, q2.2⟩)]; omega
      · rw [if_neg q2, if_neg (show ¬ (4 ≤ i ∧ i < 4 + m ∧ g.testBit (i - 4) = true) from fun z => q2 ⟨by omega, z.2.2⟩)]; omega
theorem tqM_eq {d : Nat → Nat → Int32} {n m : Nat} (hn : n ≤ 3) (hm : m ≤ 6) (h0 : d 8 0 = nI n) (h1 : d 8 1 = nI m) (hs : ∀ k, k < n → SetV d k) (he : ∀ k, k < m → ElV d k) (g i j : Nat) : tqM d g i j = (if i = 0 ∧ j = 10 then -1 else 0) + (if i = 1 ∧ j = 0 then 1 else 0) + sS d n j i + eS d g m j i := by
  unfold tqM sS eS
  rw [dn_of h0 (by omega), dn_of h1 (by omega)]
  by_cases q6 : 6 ≤ i
  · rw [if_pos q6, if_neg (show ¬ (i = 0 ∧ j = 10) by omega), if_neg (show ¬ (i = 1 ∧ j = 0) by omega)]
    have a1 : (if 1 ≤ j ∧ j < 1 + n then setc d (j - 1) i else 0) = 0 := by
      split
      · next z => exact setc_lt (hs _ (by omega)) q6
      · rfl
    have a2 : (if 4 ≤ j ∧ j < 4 + m ∧ g.testBit (j - 4) = true then elc d (j - 4) i else 0) = 0 := by
      split
      · next z => exact elc_lt (he _ (by omega)) q6
      · rfl
    rw [a1, a2]; rfl
  rw [if_neg q6]
  by_cases q1 : j = 10
  · subst q1
    rw [if_pos rfl, if_neg (show ¬ (1 ≤ 10 ∧ 10 < 1 + n) by omega), if_neg (show ¬ (4 ≤ 10 ∧ 10 < 4 + m ∧ _) from fun z => absurd z.2.1 (by omega))]
    simp
  · rw [if_neg q1, if_neg (show ¬ (i = 0 ∧ j = 10) from fun z => q1 z.2)]
    by_cases q2 : j = 0
    · subst q2
      rw [if_pos rfl, if_neg (show ¬ (1 ≤ 0 ∧ 0 < 1 + n) by omega), if_neg (show ¬ (4 ≤ 0 ∧ _) from fun z => absurd z.1 (by omega))]
      simp
    · rw [if_neg q2, if_neg (show ¬ (i = 1 ∧ j = 0) from fun z => q2 z.2)]
      by_cases q3 : j < 4
      · rw [if_pos q3, if_neg (show ¬ (4 ≤ j ∧ _) from fun z => absurd z.1 (by omega))]
        by_cases q4 : j - 1 < n
        · rw [if_pos q4, if_pos (show 1 ≤ j ∧ j < 1 + n by omega)]; omega
        · rw [if_neg q4, if_neg (show ¬ (1 ≤ j ∧ j < 1 + n) by omega)]; omega
      · rw [if_neg q3, if_neg (show ¬ (1 ≤ j ∧ j < 1 + n) by omega)]
        by_cases q4 : j < 10 ∧ j - 4 < m ∧ g.testBit (j - 4) = true
        · rw [if_pos q4, if_pos (show 4 ≤ j ∧ j < 4 + m ∧ g.testBit (j - 4) = true from ⟨by omega, by omega, q4.2.2⟩)]; omega
        · rw [if_neg q4, if_neg (show ¬ (4 ≤ j ∧ j < 4 + m ∧ g.testBit (j - 4) = true) from fun z => q4 ⟨by omega, by omega, z.2.2⟩)]; omega
/-- a matrix that was cleared -/
theorem tI_zero {M : Nat → Nat → Int64} (h : ∀ i j, i < 10 → j < 11 → M i j = 0) {i : Nat} (hi : i < 10) (j : Nat) : tI M i j = 0 := by
  by_cases q : j < 11
  · rw [tI_at q, h i j hi q]; decide
  · exact tI_out q
end SO
