/-! the model's matrices against the class's -/
/-- the model's row of numbers that holds a design -/
def AtD (ta : Nat → Int32) (d : Nat → Nat → Int32) : Prop := (∀ k j, k < 3 → j < 5 → ta (5 * k + j) = d j k) ∧ (∀ e, e < 6 → ta (15 + e) = d 5 e ∧ ta (21 + e) = d 6 e ∧ ta (27 + e) = d 7 e) ∧ ta 33 = d 8 0 ∧ ta 34 = d 8 1 ∧ ta 35 = d 8 2
/-- the speeds' rows as the model lays them, k sets and e elements of them -/
def mS (d : Nat → Nat → Int32) (n k e g i j : Nat) : Int := if i = 0 then (if j = 0 then 1 else if j = 10 then 1 else 0) else if i < 1 + n then (if i - 1 < k then setc d (i - 1) j else 0) else if i - 1 - n < e ∧ g.testBit (i - 1 - n) = true then elc d (i - 1 - n) j else 0
def phi (n i : Nat) : Nat := if i < 1 + n then i else i + 3 - n
theorem phi_lt {n m i : Nat} (hn : n ≤ 3) (hm : m ≤ 6) (hi : i < 1 + n + m) : phi n i < 10 := by unfold phi; split <;> omega
theorem phi_inj {n i j : Nat} (hn : n ≤ 3) (h : phi n i = phi n j) : i = j := by unfold phi at h; split at h <;> split at h <;> omega
theorem mS_phi {d : Nat → Nat → Int32} {n m g i : Nat} (hn : n ≤ 3) (h0 : dn d 8 0 = n) (h1 : dn d 8 1 = m) : mS d n n m g i = spM d g (phi n i) := by
  funext j
  unfold mS spM phi
  rw [h0, h1]
  by_cases z : i = 0
  · subst z
    rw [if_pos rfl, if_pos (show 0 < 1 + n by omega), if_pos rfl]
  · rw [if_neg z]
    by_cases z2 : i < 1 + n
    · rw [if_pos z2, if_pos z2, if_neg z, if_pos (show i < 4 by omega)]
    · rw [if_neg z2, if_neg z2, if_neg (show ¬ i + 3 - n = 0 by omega), if_neg (show ¬ i + 3 - n < 4 by omega), show i + 3 - n - 4 = i - 1 - n by omega]
theorem mS_MB {d : Nat → Nat → Int32} {n m g : Nat} {M0 : Nat → Nat → Int} (hn : n ≤ 3) (hm : m ≤ 6) (h0 : dn d 8 0 = n) (h1 : dn d 8 1 = m) (hM : ∀ i, i < 1 + n + m → M0 i = mS d n n m g i) (hB : MB (spM d g) 10) : MB M0 (1 + n + m) := fun rs cs a b c e => by
  have h9 := hB (rs.map (phi n)) cs (List.pairwise_map.mpr (a.imp (fun {x y} q z => q (phi_inj hn z)))) (fun r hr => by
    obtain ⟨k, hk, rfl⟩ := List.mem_map.mp hr
    exact phi_lt hn hm (b k hk)) c e
  rw [List.map_map] at h9
  have e9 : rs.map M0 = rs.map (spM d g ∘ phi n) := List.map_congr_left (fun i hi => by
    rw [hM i (b i hi), mS_phi hn h0 h1]; rfl)
  rw [e9]
  exact h9
theorem dt_zero {v x : Nat → Int} : ∀ {n : Nat}, (∀ j, j < n → v j = 0) → dt v x n = 0
  | 0, _ => rfl
  | n + 1, h => by
    have ih := dt_zero (v := v) (x := x) (n := n) (fun j hj => h j (by omega))
    show dt v x n + v n * x n = 0
    rw [ih, h n (Nat.lt_succ_self n)]
    simp
theorem mS_HS {d : Nat → Nat → Int32} {n m g : Nat} {M0 : Nat → Nat → Int} (hn : n ≤ 3) (hm : m ≤ 6) (h0 : dn d 8 0 = n) (h1 : dn d 8 1 = m) (hM : ∀ i, i < 1 + n + m → M0 i = mS d n n m g i) : HS M0 (1 + n + m) = SP d g := funext fun x => propext ⟨fun h i hi => by
  by_cases z : i < 1 + n
  · have h9 := h i (by omega)
    rw [hM i (by omega), mS_phi hn h0 h1] at h9
    have e : phi n i = i := if_pos z
    rw [e] at h9
    exact h9
  · by_cases z2 : 4 ≤ i ∧ i - 4 < m
    · have h9 := h (i + n - 3) (by omega)
      rw [hM _ (by omega), mS_phi hn h0 h1] at h9
      have e : phi n (i + n - 3) = i := by unfold phi; rw [if_neg (by omega)]; omega
      rw [e] at h9
      exact h9
    · apply dt_zero
      intro j _
      unfold spM
      rw [h0, h1, if_neg (show ¬ i = 0 by omega)]
      by_cases z3 : i < 4
      · rw [if_pos z3, if_neg (by omega)]
      · rw [if_neg z3, if_neg (by omega)], fun h i hi => by
  rw [hM i hi, mS_phi hn h0 h1]
  exact h _ (phi_lt hn hm hi)⟩
theorem setc_out {d : Nat → Nat → Int32} {k j : Nat} (h : SetV d k) (hj : 6 ≤ j) : setc d k j = 0 := by
  obtain ⟨a, b, c, s, r, h1, -, -, e1, e2, e3, -, -⟩ := h
  unfold setc
  rw [dn_of e1 (by omega), dn_of e2 (by omega), dn_of e3 (by omega), if_neg (by omega), if_neg (by omega), if_neg (by omega)]
  rfl
theorem elc_out {d : Nat → Nat → Int32} {k j : Nat} (h : ElV d k) (hj : 6 ≤ j) : elc d k j = 0 := by
  obtain ⟨a, c, h1, e1, h2, -, -, -⟩ := h
  unfold elc
  rw [dn_of e1 (by omega), if_neg (by omega)]
  rcases h2 with e | ⟨b, hb, -, e⟩
  · rw [if_neg (fun z => by rw [e] at z; exact absurd z.1 (by decide))]; rfl
  · rw [dn_of e (by omega), if_neg (by omega)]; rfl
theorem mS_out {d : Nat → Nat → Int32} {n m g i j : Nat} (hs : ∀ k, k < n → SetV d k) (he : ∀ e, e < m → ElV d e) (h1 : 6 ≤ j) (h2 : j < 10) : mS d n n m g i j = 0 := by
  unfold mS
  by_cases z : i = 0
  · rw [if_pos z, if_neg (by omega), if_neg (by omega)]
  · rw [if_neg z]
    by_cases z2 : i < 1 + n
    · rw [if_pos z2, if_pos (by omega)]
      exact setc_out (hs _ (by omega)) h1
    · rw [if_neg z2]
      by_cases z3 : i - 1 - n < m ∧ g.testBit (i - 1 - n) = true
      · rw [if_pos z3]; exact elc_out (he _ z3.1) h1
      · rw [if_neg z3]
