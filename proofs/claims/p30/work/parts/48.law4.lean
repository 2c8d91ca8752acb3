/-! the law: powers -/
section PO
/-- an engaged element that slips with t -/
def slj (d : Nat → Nat → Int32) (t : Int) (k : Nat) : Prop := k < dn d 8 1 ∧ (dn d 8 2).testBit k = true ∧ (hold (TQ d (dn d 8 2)) k (dn d 7 k) : Int) < t
theorem slp_bit (d : Nat → Nat → Int32) (t : Int) : ∀ n j, (slp d t n).testBit j = true ↔ j < n ∧ slj d t j
  | 0, j => by
    show Nat.testBit 0 j = true ↔ _
    rw [Nat.zero_testBit]
    exact ⟨fun h => absurd h Bool.false_ne_true, fun h => absurd h.1 (Nat.not_lt_zero _)⟩
  | n + 1, j => by
    have ih := slp_bit d t n j
    by_cases q : slj d t n
    · rw [show slp d t (n + 1) = slp d t n ||| 2 ^ n from cI_t q, Nat.testBit_or, Bool.or_eq_true, ih]
      by_cases z : j = n
      · subst z
        exact ⟨fun _ => ⟨Nat.lt_succ_self _, q⟩, fun _ => Or.inr Nat.testBit_two_pow_self⟩
      · rw [Nat.testBit_two_pow_of_ne (fun y => z y.symm)]
        exact ⟨fun h => h.elim (fun y => ⟨by omega, y.2⟩) (fun y => absurd y Bool.false_ne_true), fun h => Or.inl ⟨by omega, h.2⟩⟩
    · rw [show slp d t (n + 1) = slp d t n from cI_f q, ih]
      exact ⟨fun h => ⟨by omega, h.2⟩, fun h => ⟨by
        by_cases z : j = n
        · subst z; exact absurd h.2 q
        · omega, h.2⟩⟩
theorem slp_no {d : Nat → Nat → Int32} {t : Int} : ∀ n, (∀ j, j < n → ¬ slj d t j) → slp d t n = 0
  | 0, _ => rfl
  | n + 1, h => by
    rw [show slp d t (n + 1) = slp d t n from cI_f (h n (Nat.lt_succ_self n))]
    exact slp_no n (fun j hj => h j (by omega))
def eng (d : Nat → Nat → Int32) (k : Nat) : Prop := k < dn d 8 1 ∧ (dn d 8 2).testBit k = true
theorem grt_min (d : Nat → Nat → Int32) : ∀ n, (∀ j, j < n → eng d j → grt d n ≤ hold (TQ d (dn d 8 2)) j (dn d 7 j)) ∧ (grt d n = 10000 ∨ ∃ j, j < n ∧ eng d j ∧ hold (TQ d (dn d 8 2)) j (dn d 7 j) = grt d n)
  | 0 => ⟨fun j h => absurd h (Nat.not_lt_zero _), Or.inl rfl⟩
  | n + 1 => by
    obtain ⟨h1, h2⟩ := grt_min d n
    by_cases q : eng d n
    · have e : grt d (n + 1) = Nat.min (grt d n) (hold (TQ d (dn d 8 2)) n (dn d 7 n)) := cI_t q
      have e2 : Nat.min (grt d n) (hold (TQ d (dn d 8 2)) n (dn d 7 n)) = min (grt d n) (hold (TQ d (dn d 8 2)) n (dn d 7 n)) := rfl
      rw [e, e2]
      refine ⟨fun j hj he => ?_, ?_⟩
      · by_cases z : j = n
        · subst z; omega
        · have := h1 j (by omega) he; omega
      · by_cases z : grt d n ≤ hold (TQ d (dn d 8 2)) n (dn d 7 n)
        · rcases h2 with y | ⟨j, hj, he, y⟩
          · left; omega
          · right; exact ⟨j, by omega, he, by omega⟩
        · right; exact ⟨n, Nat.lt_succ_self n, q, by omega⟩
    · rw [show grt d (n + 1) = grt d n from cI_f q]
      refine ⟨fun j hj he => ?_, ?_⟩
      · by_cases z : j = n
        · subst z; exact absurd he q
        · exact h1 j (by omega) he
      · rcases h2 with y | ⟨j, hj, he, y⟩
        · exact Or.inl y
        · exact Or.inr ⟨j, by omega, he, y⟩
theorem slip_at {d : Nat → Nat → Int32} {x : Nat} (hm : dn d 8 1 ≤ 6) (h1 : 1 ≤ x) (h2 : x ≤ 10000) : ∃ s, rs_slipping d (nI x) = (0, ((s : Nat) : Int)) ∧ s < 64 ∧ (s ≠ 0 ↔ grt d 6 < x) ∧ ∀ k, ¬ (dn d 8 2).testBit k = true → ¬ s.testBit k = true := by
  have hx : (nI x).toInt = (x : Int) := nI_toIntI (by omega)
  refine ⟨slp d (x : Int) 6, ?_, slp_lt d (x : Int) 6, ?_, fun k hk z => hk ((slp_bit d (x : Int) 6 k).mp z).2.2.1⟩
  · unfold rs_slipping
    rw [cI_f (by omega), hx]
  · obtain ⟨g1, g2⟩ := grt_min d 6
    constructor
    · intro hne
      refine Classical.byContradiction fun q => hne (slp_no 6 (fun j hj hs => ?_))
      have := g1 j hj ⟨hs.1, hs.2.1⟩
      have := hs.2.2
      omega
    · intro hlt hz
      rcases g2 with y | ⟨j, hj, he, y⟩
      · omega
      · have h3 := (slp_bit d (x : Int) 6 j).mpr ⟨hj, he.1, he.2, by omega⟩
        rw [hz, Nat.zero_testBit] at h3
        exact Bool.false_ne_true h3
theorem w_bit : ∀ t, t < 64 → ∀ e, e < 6 → (nI t >>> (nI e &&& 31)) &&& nI 1 = nI (t.testBit e).toNat := by decide +kernel
theorem w_bit1 {t e : Nat} (ht : t < 64) (he : e < 6) (h : t.testBit e = true) : (nI t >>> (nI e &&& 31)) &&& nI 1 = nI 1 := (w_bit t ht e he).trans (by rw [h]; rfl)
theorem w_bit0 {t e : Nat} (ht : t < 64) (he : e < 6) (h : ¬ t.testBit e = true) : (nI t >>> (nI e &&& 31)) &&& nI 1 = nI 0 := (w_bit t ht e he).trans (by rw [Bool.eq_false_iff.mpr h]; rfl)
/-! whole numbers as longs -/
theorem lN_of (n : Nat) : lN n = Int64.ofInt (n : Int) := (Int64.ofInt_eq_ofNat).symm
theorem l_neg (z : Int) : -(Int64.ofInt (-z)) = Int64.ofInt z := by rw [Int64.ofInt_neg]; exact Int64.neg_neg
theorem l_add (a b : Int) : Int64.ofInt a + Int64.ofInt b = Int64.ofInt (a + b) := (Int64.ofInt_add a b).symm
theorem l_addN (a : Int) (b : Nat) : Int64.ofInt a + lN b = Int64.ofInt (a + (b : Int)) := by rw [lN_of, l_add]
theorem l_mulN (a : Int) (b : Nat) : Int64.ofInt a * lN b = Int64.ofInt (a * (b : Int)) := by rw [lN_of]; exact (Int64.ofInt_mul a b).symm
theorem l_mulNN (a b : Nat) : lN a * lN b = lN (a * b) := by rw [lN_of, lN_of, lN_of, ← Int64.ofInt_mul, Int.natCast_mul]
/-! the sums that the law keeps -/
/-- 1: element j is an engaged brake, its torque is determined -/
noncomputable def prT (d : Nat → Nat → Int32) (j : Nat) : Int := cI (eng d j ∧ dtT d j ∧ d 6 j = -1) 1 0
def SI (d : Nat → Nat → Int32) (X : Nat → Int) (dd U : Int) (Lw k : Nat) : Prop := dd * U = (Lw : Int) * (dd - X 0 - dt (prT d) (fun j => X (4 + j)) k)
theorem SI_no {d : Nat → Nat → Int32} {X : Nat → Int} {dd U : Int} {Lw k : Nat} (h : SI d X dd U Lw k) (hp : ¬ (eng d k ∧ dtT d k ∧ d 6 k = -1)) : SI d X dd U Lw (k + 1) := by
  unfold SI at *
  have e : dt (prT d) (fun j => X (4 + j)) (k + 1) = dt (prT d) (fun j => X (4 + j)) k + prT d k * X (4 + k) := rfl
  have e2 : prT d k = 0 := cI_f hp
  rw [e, e2, h]
  simp
theorem SI_yes {d : Nat → Nat → Int32} {X : Nat → Int} {dd U N : Int} {Lw l9 k : Nat} (h : SI d X dd U Lw k) (hp : eng d k ∧ dtT d k ∧ d 6 k = -1) (hL : 0 < Lw) (hx : (l9 : Int) * X (4 + k) = -(N * dd)) : SI d X dd (U * ((l9 / Nat.gcd Lw l9 : Nat) : Int) + N * ((Lw / Nat.gcd Lw l9 : Nat) : Int)) (Lw / Nat.gcd Lw l9 * l9) (k + 1) := by
  unfold SI at *
  have e : dt (prT d) (fun j => X (4 + j)) (k + 1) = dt (prT d) (fun j => X (4 + j)) k + prT d k * X (4 + k) := rfl
  have e2 : prT d k = 1 := cI_t hp
  rw [e, e2]
  have hg : 0 < Nat.gcd Lw l9 := Nat.gcd_pos_of_pos_left _ hL
  obtain ⟨a, ha⟩ := Nat.gcd_dvd_left Lw l9
  obtain ⟨b, hb⟩ := Nat.gcd_dvd_right Lw l9
  generalize Nat.gcd Lw l9 = G at *
  have e3 : Lw / G = a := by rw [ha, Nat.mul_div_cancel_left _ hg]
  have e4 : l9 / G = b := by rw [hb, Nat.mul_div_cancel_left _ hg]
  rw [e3, e4]
  have c1 : (Lw : Int) = (G : Int) * (a : Int) := by rw [ha, Int.natCast_mul]
  have c2 : (l9 : Int) = (G : Int) * (b : Int) := by rw [hb, Int.natCast_mul]
  rw [c1] at h
  rw [Int.natCast_mul, c2]
  rw [c2] at hx
  generalize dt (prT d) (fun j => X (4 + j)) k = S at *
  generalize X (4 + k) = x at *
  have h5 : dd * (U * (b : Int) + N * (a : Int)) = (b : Int) * (dd * U) + (a : Int) * (N * dd) := by grind
  have h6 : N * dd = -((G : Int) * (b : Int) * x) := by omega
  rw [h5, h, h6]
  grind
/-- the new denominator -/
theorem lw_new {D : Int} {Lw l9 : Nat} (hD : D ≠ 0) (hDB : D.natAbs ≤ BB) (hL : 0 < Lw) (hl : 0 < l9) (h1 : (Lw : Int) ∣ D) (h2 : (l9 : Int) ∣ D) : 0 < Lw / Nat.gcd Lw l9 * l9 ∧ ((Lw / Nat.gcd Lw l9 * l9 : Nat) : Int) ∣ D ∧ Lw / Nat.gcd Lw l9 * l9 ≤ BB := by
  have hg : 0 < Nat.gcd Lw l9 := Nat.gcd_pos_of_pos_left _ hL
  have e : Lw / Nat.gcd Lw l9 * l9 = Nat.lcm Lw l9 := by
    unfold Nat.lcm
    obtain ⟨a, ha⟩ := Nat.gcd_dvd_left Lw l9
    have e3 : Lw / Nat.gcd Lw l9 = a := by
      conv => lhs; lhs; rw [ha]
      exact Nat.mul_div_cancel_left _ hg
    rw [e3]
    have e4 : Lw * l9 = Nat.gcd Lw l9 * (a * l9) := by
      conv => lhs; lhs; rw [ha]
      exact Nat.mul_assoc _ _ _
    rw [e4, Nat.mul_div_cancel_left _ hg]
  rw [e]
  have h3 : Nat.lcm Lw l9 ∣ D.natAbs := Nat.lcm_dvd (Int.ofNat_dvd_left.mp h1) (Int.ofNat_dvd_left.mp h2)
  refine ⟨Nat.lcm_pos hL hl, Int.ofNat_dvd_left.mpr h3, Nat.le_trans (Nat.le_of_dvd (Int.natAbs_pos.mpr hD) h3) hDB⟩
theorem lw_le {D : Int} {Lw : Nat} (hD : D ≠ 0) (hDB : D.natAbs ≤ BB) (h1 : (Lw : Int) ∣ D) : Lw ≤ 351232000 := Nat.le_trans (Nat.le_of_dvd (Int.natAbs_pos.mpr hD) (Int.ofNat_dvd_left.mp h1)) hDB
/-- all that powers needs of the torques -/
theorem pow_facts {d : Nat → Nat → Int32} (h : DV d) (hd : stM d (dn d 8 2) = 0) : ∃ (X : Nat → Int) (dd D N0 : Int) (L0 : Nat), TQ d (dn d 8 2) X ∧ X 10 = dd ∧ dd ≠ 0 ∧ D ≠ 0 ∧ D.natAbs ≤ BB ∧ (rs_outputTorque d (nI 0) = (0, N0) ∧ rs_outputTorque d (nI 1) = (0, (L0 : Int)) ∧ rs_ratio d (nI 0) = (0, -N0) ∧ rs_ratio d (nI 1) = (0, (L0 : Int))) ∧ 0 < L0 ∧ (L0 : Int) ∣ D ∧ SI d X dd (N0 + (L0 : Int)) L0 0 ∧ (∀ k, dtT d k → k < 6 → ∃ (N : Int) (l9 : Nat), vN (TQ d (dn d 8 2)) (4 + k) = N ∧ vD (TQ d (dn d 8 2)) (4 + k) = (l9 : Int) ∧ 0 < l9 ∧ (l9 : Int) ∣ D ∧ (l9 : Int) * X (4 + k) = -(N * dd)) := by
  obtain ⟨hS, hDt, hN, hDn⟩ := drive_torque h hd
  obtain ⟨X, hX, h10⟩ := id hS
  obtain ⟨D, hD, hDB, hv⟩ := vals (tq_zero d (dn d 8 2)) (MT_tqM h (dn d 8 2) 10) hS
  obtain ⟨w1, w2, w3⟩ := hv 0 (by decide) hDt
  have w3p : 0 < vD (TQ d (dn d 8 2)) 0 := w3.1
  have hL0 : vD (TQ d (dn d 8 2)) 0 = ((vD (TQ d (dn d 8 2)) 0).toNat : Int) := by omega
  refine ⟨X, X 10, D, vN (TQ d (dn d 8 2)) 0, (vD (TQ d (dn d 8 2)) 0).toNat, hX, rfl, h10, hD, hDB, ⟨?_, ?_, ?_, ?_⟩, by omega, by rw [← hL0]; exact w1, ?_, fun k hk h6 => ?_⟩
  · unfold rs_outputTorque
    rw [cI_f (fun z => z (prt_at (by decide))), cI_f (fun z => z ⟨hS, hDt⟩)]
    rfl
  · unfold rs_outputTorque
    rw [cI_f (fun z => z (prt_at (by decide))), cI_f (fun z => z ⟨hS, hDt⟩), ← hL0]
    rfl
  · unfold rs_ratio
    rw [cI_f (fun z => z (prt_at (by decide))), cI_f (fun z => z hd), hN, Int.neg_neg]
    rfl
  · unfold rs_ratio
    rw [cI_f (fun z => z (prt_at (by decide))), cI_f (fun z => z hd), ← hL0, hDn]
    rfl
  · unfold SI
    rw [← hL0]
    have h1 := w3.2.2 X hX
    show X 10 * (vN (TQ d (dn d 8 2)) 0 + vD (TQ d (dn d 8 2)) 0) = vD (TQ d (dn d 8 2)) 0 * (X 10 - X 0 - 0)
    grind
  · obtain ⟨u1, u2, u3⟩ := hv (4 + k) (by omega) hk.2
    have u3p : 0 < vD (TQ d (dn d 8 2)) (4 + k) := u3.1
    have hl9 : vD (TQ d (dn d 8 2)) (4 + k) = ((vD (TQ d (dn d 8 2)) (4 + k)).toNat : Int) := by omega
    refine ⟨_, (vD (TQ d (dn d 8 2)) (4 + k)).toNat, rfl, hl9, by omega, by rw [← hl9]; exact u1, ?_⟩
    rw [← hl9]
    exact u3.2.2 X hX
/-- where all are determined, the sum is 0 -/
theorem pow_end {d : Nat → Nat → Int32} (h : DV d) {X : Nat → Int} {dd U : Int} {Lw : Nat} (hX : TQ d (dn d 8 2) X) (h10 : X 10 = dd) (hdd : dd ≠ 0) (hS : SI d X dd U Lw (dn d 8 1)) (hall : ∀ j, j < dn d 8 1 → (dn d 8 2).testBit j = true → dtT d j) : U = 0 := by
  have hm := DV_m h
  have h1 := torque_sum h hX
  have h2 : ∀ n, n ≤ 6 → dn d 8 1 ≤ n → dt (bs d (dn d 8 2)) (fun k => X (4 + k)) n = dt (prT d) (fun k => X (4 + k)) (dn d 8 1) := by
    intro n
    induction n with
    | zero => intro _ h0; rw [show dn d 8 1 = 0 by omega]; rfl
    | succ n ih =>
      intro hn hmn
      have hb : ∀ j, bs d (dn d 8 2) j = prT d j := fun j => by
        unfold bs
        by_cases q : j < dn d 8 1 ∧ (dn d 8 2).testBit j = true ∧ d 6 j = -1
        · rw [if_pos q]; exact (cI_t ⟨⟨q.1, q.2.1⟩, hall j q.1 q.2.1, q.2.2⟩).symm
        · rw [if_neg q]; exact (cI_f (fun z => q ⟨z.1.1, z.1.2, z.2.2⟩)).symm
      by_cases e : dn d 8 1 = n + 1
      · rw [e]
        exact dt_congr _ (fun j _ => by rw [hb j])
      · show dt (bs d (dn d 8 2)) (fun k => X (4 + k)) n + bs d (dn d 8 2) n * X (4 + n) = _
        rw [ih (by omega) (by omega)]
        have : bs d (dn d 8 2) n = 0 := if_neg (fun z => by omega)
        rw [this]
        simp
  rw [h2 6 (by omega) hm] at h1
  unfold SI at hS
  rw [← h10, h1] at hS
  simp only [Int.mul_zero] at hS
  rcases Int.mul_eq_zero.mp hS with q | q
  · exact absurd (h10.symm.trans q) hdd
  · exact q
end PO
