/-! floats: steps between gears -/
section ST
theorem rr_mono {s : Bool} {A B A' B' : Nat} (hB : 0 < B) (hB' : 0 < B') (h : A * B' ≤ A' * B) {t0 t1 : Bool} {c0 c1 : Nat} {q0 q1 : Int} (e0 : FP.Core.roundRatio FP.Core.b32 s A B 0 = .fin t0 c0 q0) (e1 : FP.Core.roundRatio FP.Core.b32 s A' B' 0 = .fin t1 c1 q1) : FP.Core.zmag FP.Core.b32 (.fin t0 c0 q0) ≤ FP.Core.zmag FP.Core.b32 (.fin t1 c1 q1) := by
  have hf := FP.Core.good_b32
  have f0 : FP.Core.fits FP.Core.b32 (.fin t0 c0 q0) := by rw [← e0]; exact FP.Core.roundRatio_fits hf s A hB 0
  have f1 : FP.Core.fits FP.Core.b32 (.fin t1 c1 q1) := by rw [← e1]; exact FP.Core.roundRatio_fits hf s A' hB' 0
  have hqm : FP.Core.b32.qmin ≤ 0 := by decide
  refine Nat.le_of_not_lt fun hlt => ?_
  have n0 := FP.Core.roundRatio_nearest hf hB e0 (c' := c1) (q' := q1) (e0 := FP.Core.b32.qmin) f1.1 f1.2.1 (Int.le_refl _) hqm
  have n1 := FP.Core.roundRatio_nearest hf hB' e1 (c' := c0) (q' := q0) (e0 := FP.Core.b32.qmin) f0.1 f0.2.1 (Int.le_refl _) hqm
  have h1 : ¬ (FP.Core.inUnits A 0 FP.Core.b32.qmin ≤ FP.Core.zmag FP.Core.b32 (.fin t1 c1 q1) * 2 ^ (FP.Core.b32.qmin - FP.Core.b32.qmin).toNat * B) := fun z => by
    have := FP.Core.zmag_roundRatio_le hf (s := s) hB f1 (fun y => by cases y) (Int.le_refl _) hqm z
    rw [e0] at this
    omega
  have h2 : ¬ (FP.Core.zmag FP.Core.b32 (.fin t0 c0 q0) * 2 ^ (FP.Core.b32.qmin - FP.Core.b32.qmin).toNat * B' ≤ FP.Core.inUnits A' 0 FP.Core.b32.qmin) := fun z => by
    have := FP.Core.zmag_roundRatio_ge hf (s := s) hB' f0 (Int.le_refl _) hqm z
    rw [e1] at this
    omega
  have hz : (FP.Core.b32.qmin - FP.Core.b32.qmin).toNat = 0 := by decide
  rw [hz, Nat.pow_zero, Nat.mul_one] at h1 h2
  unfold FP.Core.distance at n0 n1
  have u0 : FP.Core.inUnits c0 q0 FP.Core.b32.qmin = FP.Core.zmag FP.Core.b32 (.fin t0 c0 q0) := rfl
  have u1 : FP.Core.inUnits c1 q1 FP.Core.b32.qmin = FP.Core.zmag FP.Core.b32 (.fin t1 c1 q1) := rfl
  rw [u0, u1] at n0 n1
  have ha : FP.Core.inUnits A 0 FP.Core.b32.qmin * B' ≤ FP.Core.inUnits A' 0 FP.Core.b32.qmin * B := by
    have k : FP.Core.inUnits A 0 FP.Core.b32.qmin * B' = A * B' * 2 ^ (0 - FP.Core.b32.qmin).toNat := by
      show A * 2 ^ (0 - FP.Core.b32.qmin).toNat * B' = _
      rw [Nat.mul_assoc, Nat.mul_comm (2 ^ _) B', ← Nat.mul_assoc]
    have k' : FP.Core.inUnits A' 0 FP.Core.b32.qmin * B = A' * B * 2 ^ (0 - FP.Core.b32.qmin).toNat := by
      show A' * 2 ^ (0 - FP.Core.b32.qmin).toNat * B = _
      rw [Nat.mul_assoc, Nat.mul_comm (2 ^ _) B, ← Nat.mul_assoc]
    rw [k, k']
    exact Nat.mul_le_mul_right _ h
  generalize hz0 : FP.Core.zmag FP.Core.b32 (.fin t0 c0 q0) = z0 at *
  generalize hz1 : FP.Core.zmag FP.Core.b32 (.fin t1 c1 q1) = z1 at *
  generalize hav : FP.Core.inUnits A 0 FP.Core.b32.qmin = a at *
  generalize hav' : FP.Core.inUnits A' 0 FP.Core.b32.qmin = a' at *
  have g1 : z1 * B < a := Nat.lt_of_not_le h1
  have g2 : a' < z0 * B' := Nat.lt_of_not_le h2
  have m1 : z0 * B * B' = z0 * B' * B := by rw [Nat.mul_assoc, Nat.mul_comm B B', ← Nat.mul_assoc]
  have m2 : z1 * B * B' = z1 * B' * B := by rw [Nat.mul_assoc, Nat.mul_comm B B', ← Nat.mul_assoc]
  have g3 : a < z0 * B := by
    have : a * B' < z0 * B * B' := by
      rw [m1]
      exact Nat.lt_of_le_of_lt ha (Nat.mul_lt_mul_of_pos_right g2 hB)
    exact Nat.lt_of_mul_lt_mul_right this
  have g4 : z1 * B' < a' := by
    have : z1 * B' * B < a' * B := by
      rw [← m2]
      exact Nat.lt_of_lt_of_le (Nat.mul_lt_mul_of_pos_right g1 hB') ha
    exact Nat.lt_of_mul_lt_mul_right this
  have c1' : ((z0 : Int) * (B : Int)) = ((z0 * B : Nat) : Int) := by rw [Int.natCast_mul]
  have c2' : ((z1 : Int) * (B : Int)) = ((z1 * B : Nat) : Int) := by rw [Int.natCast_mul]
  have c3' : ((z0 : Int) * (B' : Int)) = ((z0 * B' : Nat) : Int) := by rw [Int.natCast_mul]
  have c4' : ((z1 : Int) * (B' : Int)) = ((z1 * B' : Nat) : Int) := by rw [Int.natCast_mul]
  rw [c1', c2'] at n0
  rw [c3', c4'] at n1
  have k0 : z0 * B + z1 * B ≤ 2 * a := by omega
  have k1 : 2 * a' ≤ z0 * B' + z1 * B' := by omega
  have k2 : (z0 * B + z1 * B) * B' ≤ 2 * a * B' := Nat.mul_le_mul_right _ k0
  have k3 : 2 * a' * B ≤ (z0 * B' + z1 * B') * B := Nat.mul_le_mul_right _ k1
  have k4 : (z0 * B + z1 * B) * B' = (z0 * B' + z1 * B') * B := by rw [Nat.add_mul, Nat.add_mul, m1, m2]
  have k5 : a * B' = a' * B := by
    have e2 : 2 * a * B' = 2 * (a * B') := Nat.mul_assoc _ _ _
    have e3 : 2 * a' * B = 2 * (a' * B) := Nat.mul_assoc _ _ _
    omega
  have k6 : A * B' = A' * B := by
    have e2 : a * B' = A * B' * 2 ^ (0 - FP.Core.b32.qmin).toNat := by
      rw [← hav]
      show A * 2 ^ (0 - FP.Core.b32.qmin).toNat * B' = _
      rw [Nat.mul_assoc, Nat.mul_comm (2 ^ _) B', ← Nat.mul_assoc]
    have e3 : a' * B = A' * B * 2 ^ (0 - FP.Core.b32.qmin).toNat := by
      rw [← hav']
      show A' * 2 ^ (0 - FP.Core.b32.qmin).toNat * B = _
      rw [Nat.mul_assoc, Nat.mul_comm (2 ^ _) B, ← Nat.mul_assoc]
    rw [e2, e3] at k5
    exact Nat.eq_of_mul_eq_mul_right (Nat.two_pow_pos _) k5
  have k7 := FP.Core.roundRatio_congr (f := FP.Core.b32) (s := s) (A := A) (B := B) (A' := A') (B' := B') (e := 0) (e' := 0) hB hB' (by rw [k6])
  rw [e0, e1] at k7
  rw [k7] at hz0
  omega
/-- the value of a quotient of two whole numbers -/
theorem fq_val {a b : Int64} (ha : a.toInt ≠ 0) (hb : 0 < b.toInt) (ka : a.toInt.natAbs ≤ 5488000) (kb : b.toInt.natAbs ≤ 5488000) : ∃ c q, FP.Core.val32 (fq a b) = .fin (decide (a.toInt < 0)) c q ∧ FP.Core.roundRatio FP.Core.b32 (decide (a.toInt < 0)) a.toInt.natAbs b.toInt.natAbs 0 = .fin (decide (a.toInt < 0)) c q ∧ c ≠ 0 ∧ FP.Core.fits FP.Core.b32 (.fin (decide (a.toInt < 0)) c q) := by
  have hf := FP.Core.good_b32
  obtain ⟨c, q, e1⟩ := FP.Core.l2f_shape a
  obtain ⟨d, r, e2⟩ := FP.Core.l2f_shape b
  have w1 : FP.Core.Whole a.toInt (FP.Core.val32 (FP.l2f a)) := FP.Core.l2f_whole ⟨by omega, by omega⟩
  have w2 : FP.Core.Whole b.toInt (FP.Core.val32 (FP.l2f b)) := FP.Core.l2f_whole ⟨by omega, by omega⟩
  have e1 : FP.Core.val32 (FP.l2f a) = .fin (decide (a.toInt < 0)) c q := e1
  have e2 : FP.Core.val32 (FP.l2f b) = .fin (decide (b.toInt < 0)) d r := e2
  rw [e1] at w1
  rw [e2] at w2
  have n1 := FP.Core.whole_natAbs w1
  have n2 := FP.Core.whole_natAbs w2
  have hb0 : decide (b.toInt < 0) = false := by simp; omega
  have hd0 : d ≠ 0 := by
    rintro rfl
    have := Nat.mul_pos (show 0 < b.toInt.natAbs by omega) (Nat.two_pow_pos (-r).toNat)
    rw [Nat.zero_mul] at n2
    omega
  have hv : FP.Core.val32 (fq a b) = FP.Core.roundRatio FP.Core.b32 (decide (a.toInt < 0)) a.toInt.natAbs b.toInt.natAbs 0 := by
    have h1 : FP.Core.val32 (fq a b) = FP.Core.quotient FP.Core.b32 (FP.Core.val32 (FP.l2f a)) (FP.Core.val32 (FP.l2f b)) := FP.Core.val32_fdiv _ _
    rw [h1, e1, e2, hb0]
    show (if d = 0 then _ else FP.Core.roundRatio FP.Core.b32 (decide (a.toInt < 0) != false) c d (q - r)) = _
    rw [if_neg hd0, Bool.bne_false]
    refine FP.Core.roundRatio_congr (by omega) (by omega) ?_
    have p1 : c * 2 ^ q.toNat * (b.toInt.natAbs * 2 ^ (-r).toNat) = a.toInt.natAbs * 2 ^ (-q).toNat * (d * 2 ^ r.toNat) := by rw [n1, n2]
    obtain ⟨k, hk1, hk2⟩ : ∃ k, q.toNat + (-r).toNat = (q - r - 0).toNat + k ∧ (-q).toNat + r.toNat = (0 - (q - r)).toNat + k := ⟨q.toNat + (-r).toNat - (q - r - 0).toNat, by omega, by omega⟩
    have p2 : c * b.toInt.natAbs * 2 ^ (q - r - 0).toNat * 2 ^ k = a.toInt.natAbs * d * 2 ^ (0 - (q - r)).toNat * 2 ^ k := by
      have l1 : c * b.toInt.natAbs * 2 ^ (q - r - 0).toNat * 2 ^ k = c * 2 ^ q.toNat * (b.toInt.natAbs * 2 ^ (-r).toNat) := by
        rw [Nat.mul_assoc (c * b.toInt.natAbs), ← Nat.pow_add, ← hk1, Nat.pow_add]; ac_rfl
      have l2 : a.toInt.natAbs * d * 2 ^ (0 - (q - r)).toNat * 2 ^ k = a.toInt.natAbs * 2 ^ (-q).toNat * (d * 2 ^ r.toNat) := by
        rw [Nat.mul_assoc (a.toInt.natAbs * d), ← Nat.pow_add, ← hk2, Nat.pow_add]; ac_rfl
      rw [l1, l2, p1]
    exact Nat.eq_of_mul_eq_mul_right (Nat.two_pow_pos k) p2
  have hrng := fq_rng ha (show b.toInt ≠ 0 by omega) (Nat.le_trans ka (Nat.le_of_ble_eq_true rfl)) (Nat.le_trans kb (Nat.le_of_ble_eq_true rfl))
  obtain ⟨s9, c9, q9, k1, k2, k3⟩ := FP.Core.fin_of_mag hf (n := (fq a b).toNat) (by rw [FP.Core.mag_toNat32, FP.Core.infBits_b32]; omega)
  have k1 : FP.Core.val32 (fq a b) = .fin s9 c9 q9 := k1
  have hs9 : s9 = decide (a.toInt < 0) := by
    have := FP.Core.sgn_roundRatio FP.Core.b32 (decide (a.toInt < 0)) a.toInt.natAbs b.toInt.natAbs 0
    rw [← hv, k1] at this
    exact this
  subst hs9
  refine ⟨c9, q9, k1, hv.symm.trans k1, ?_, k2⟩
  rintro rfl
  have h0 : FP.Core.zmag FP.Core.b32 (.fin (decide (a.toInt < 0)) 0 q9) = 0 := Nat.zero_mul _
  rw [h0, FP.Core.mag_toNat32] at k3
  have h1 := (FP.Core.unitsOf_le_iff (f := FP.Core.b32)).mpr hrng.1
  rw [← k3] at h1
  revert h1
  decide +kernel
theorem one_val : FP.Core.val32 FP.fconst1 = .fin false (2 ^ 23) (-23) := by decide +kernel
theorem zero_val : FP.Core.val32 FP.fconst0 = .fin false 0 FP.Core.b32.qmin := by decide +kernel
theorem one_fits : FP.Core.fits FP.Core.b32 (.fin false (2 ^ 23) (-23)) := by rw [← one_val]; exact FP.Core.val32_fits _
theorem one_mag : FP.Core.zmag FP.Core.b32 (.fin false (2 ^ 23) (-23)) = 2 ^ 149 := by decide +kernel
theorem qm : FP.Core.b32.qmin = -149 := by decide
/-- a quotient against 1 -/
theorem div_one {x y : UInt32} {s t : Bool} {c d : Nat} {q r : Int} (hx : FP.Core.val32 x = .fin s c q) (hy : FP.Core.val32 y = .fin t d r) (hd : d ≠ 0) (fx : FP.Core.fits FP.Core.b32 (.fin s c q)) (fy : FP.Core.fits FP.Core.b32 (.fin t d r)) : FP.Core.val32 (FP.fdiv x y) = FP.Core.roundRatio FP.Core.b32 (s != t) c d (q - r) ∧ (FP.Core.zmag FP.Core.b32 (.fin t d r) ≤ FP.Core.zmag FP.Core.b32 (.fin s c q) → 2 ^ 149 ≤ FP.Core.zmag FP.Core.b32 (FP.Core.roundRatio FP.Core.b32 (s != t) c d (q - r))) ∧ (FP.Core.zmag FP.Core.b32 (.fin s c q) ≤ FP.Core.zmag FP.Core.b32 (.fin t d r) → FP.Core.zmag FP.Core.b32 (FP.Core.roundRatio FP.Core.b32 (s != t) c d (q - r)) ≤ 2 ^ 149) := by
  have hf := FP.Core.good_b32
  have hq : -149 ≤ q := by have := fx.2.1; rw [qm] at this; exact this
  have hr : -149 ≤ r := by have := fy.2.1; rw [qm] at this; exact this
  have e1 : FP.Core.zmag FP.Core.b32 (.fin s c q) = c * 2 ^ (q + 149).toNat := by
    show c * 2 ^ (q - FP.Core.b32.qmin).toNat = _
    rw [qm]; congr 3
  have e2 : FP.Core.zmag FP.Core.b32 (.fin t d r) = d * 2 ^ (r + 149).toNat := by
    show d * 2 ^ (r - FP.Core.b32.qmin).toNat = _
    rw [qm]; congr 3
  have e3 : FP.Core.inUnits c (q - r) (2 * FP.Core.b32.qmin - r) = c * 2 ^ (q + 149).toNat * 2 ^ 149 := by
    show c * 2 ^ (q - r - (2 * FP.Core.b32.qmin - r)).toNat = _
    rw [qm, Nat.mul_assoc, ← Nat.pow_add]; congr 2; omega
  have e4 : ∀ z : Nat, z * 2 ^ (FP.Core.b32.qmin - (2 * FP.Core.b32.qmin - r)).toNat * d = z * (d * 2 ^ (r + 149).toNat) := fun z => by
    rw [qm, Nat.mul_assoc, Nat.mul_comm (2 ^ _) d]; congr 4; omega
  refine ⟨?_, fun h => ?_, fun h => ?_⟩
  · have h1 : FP.Core.val32 (FP.fdiv x y) = FP.Core.quotient FP.Core.b32 (FP.Core.val32 x) (FP.Core.val32 y) := FP.Core.val32_fdiv _ _
    rw [h1, hx, hy]
    show (if d = 0 then _ else _) = _
    rw [if_neg hd]
  · rw [← one_mag]
    refine FP.Core.zmag_roundRatio_ge hf (by omega) one_fits (e0 := 2 * FP.Core.b32.qmin - r) (by rw [qm]; omega) (by rw [qm]; omega) ?_
    rw [e3, e4, one_mag, Nat.mul_comm]
    rw [e1, e2] at h
    exact Nat.mul_le_mul_right _ h
  · rw [← one_mag]
    refine FP.Core.zmag_roundRatio_le hf (by omega) one_fits (fun z => by cases z) (e0 := 2 * FP.Core.b32.qmin - r) (by rw [qm]; omega) (by rw [qm]; omega) ?_
    rw [e3, e4, one_mag, Nat.mul_comm (2 ^ 149)]
    rw [e1, e2] at h
    exact Nat.mul_le_mul_right _ h
variable {n0 d0 n1 d1 : Int64}
theorem step_facts (hn0 : n0.toInt ≠ 0) (hd0 : 0 < d0.toInt) (hn1 : n1.toInt ≠ 0) (hd1 : 0 < d1.toInt) (k1 : n0.toInt.natAbs ≤ 5488000) (k2 : d0.toInt.natAbs ≤ 5488000) (k3 : n1.toInt.natAbs ≤ 5488000) (k4 : d1.toInt.natAbs ≤ 5488000) (hle : n0.toInt * d1.toInt ≤ n1.toInt * d0.toInt) :
    (0 < n0.toInt → FP.fcmp (FP.fdiv (fq n1 d1) (fq n0 d0)) FP.fconst1 = some .gt ∨ FP.fcmp (FP.fdiv (fq n1 d1) (fq n0 d0)) FP.fconst1 = some .eq) ∧
    (n1.toInt < 0 → FP.fcmp (FP.fdiv (fq n1 d1) (fq n0 d0)) FP.fconst1 = some .lt ∨ FP.fcmp (FP.fdiv (fq n1 d1) (fq n0 d0)) FP.fconst1 = some .eq) ∧
    (n0.toInt < 0 → 0 < n1.toInt → FP.fcmp (FP.fdiv (fq n1 d1) (fq n0 d0)) FP.fconst0 = some .lt) := by
  have hf := FP.Core.good_b32
  obtain ⟨c, q, a1, a2, a3, a4⟩ := fq_val hn1 hd1 k3 k4
  obtain ⟨d, r, b1, b2, b3, b4⟩ := fq_val hn0 hd0 k1 k2
  obtain ⟨v1, v2, v3⟩ := div_one a1 b1 b3 a4 b4
  have hnn : FP.Core.val32 (FP.fdiv (fq n1 d1) (fq n0 d0)) ≠ .nan := by rw [v1]; exact FP.Core.roundRatio_ne_nan _ _ _ _ _
  have h1n : FP.Core.val32 FP.fconst1 ≠ .nan := by rw [one_val]; intro z; cases z
  have h0n : FP.Core.val32 FP.fconst0 ≠ .nan := by rw [zero_val]; intro z; cases z
  have c1 := FP.Core.fcmp_zval hnn h1n
  have c0 := FP.Core.fcmp_zval hnn h0n
  have z1 : FP.Core.zval FP.Core.b32 (FP.Core.val32 FP.fconst1) = 2 ^ 149 := by decide +kernel
  have z0 : FP.Core.zval FP.Core.b32 (FP.Core.val32 FP.fconst0) = 0 := by decide +kernel
  have zv : FP.Core.zval FP.Core.b32 (FP.Core.val32 (FP.fdiv (fq n1 d1) (fq n0 d0))) = FP.Core.signed (decide (n1.toInt < 0) != decide (n0.toInt < 0)) (FP.Core.zmag FP.Core.b32 (FP.Core.roundRatio FP.Core.b32 (decide (n1.toInt < 0) != decide (n0.toInt < 0)) c d (q - r))) := by
    rw [v1]
    unfold FP.Core.zval
    rw [FP.Core.sgn_roundRatio]
  rw [z1, zv] at c1
  rw [z0, zv] at c0
  have fe : ∀ x y, FP.fcmp x y = FP.Core.fcmp x y := fun _ _ => rfl
  rw [fe, fe, c1, c0]
  generalize hm : FP.Core.zmag FP.Core.b32 (FP.Core.roundRatio FP.Core.b32 (decide (n1.toInt < 0) != decide (n0.toInt < 0)) c d (q - r)) = M at *
  have bigp : (2 : Int) ^ 149 = ((2 ^ 149 : Nat) : Int) := by norm_cast
  refine ⟨fun hp => ?_, fun hp => ?_, fun hp hq => ?_⟩
  · have hs1 : decide (n1.toInt < 0) = false := by
      have : 0 < n1.toInt * d0.toInt := Int.lt_of_lt_of_le (Int.mul_pos hp hd1) hle
      have : ¬ n1.toInt ≤ 0 := fun z => by
        have h9 := Int.mul_nonneg (show 0 ≤ -n1.toInt by omega) (Int.le_of_lt hd0)
        rw [Int.neg_mul] at h9
        omega
      simp; omega
    have hs0 : decide (n0.toInt < 0) = false := by simp; omega
    rw [hs1] at a1 a2 a4 v2 v3 ⊢
    rw [hs0] at b1 b2 b4 v2 v3 ⊢
    have hp1 : 0 < n1.toInt := by have := hs1; simp at this; omega
    have hmm := v2 (rr_mono (s := false) (by omega) (by omega) (by
      have e1 : ((n0.toInt.natAbs * d1.toInt.natAbs : Nat) : Int) = n0.toInt * d1.toInt := by rw [Int.natCast_mul]; congr 1 <;> omega
      have e2 : ((n1.toInt.natAbs * d0.toInt.natAbs : Nat) : Int) = n1.toInt * d0.toInt := by rw [Int.natCast_mul]; congr 1 <;> omega
      omega) b2 a2)
    show some (compare ((M : Nat) : Int) _) = _ ∨ some (compare ((M : Nat) : Int) _) = _
    rw [bigp, FP.Core.compare_ite]
    by_cases z : M = 2 ^ 149
    · right; rw [if_neg (by omega), if_pos (by omega)]
    · left; rw [if_neg (by omega), if_neg (by omega)]
  · have hs1 : decide (n1.toInt < 0) = true := by simp; omega
    have hs0 : decide (n0.toInt < 0) = true := by
      have h5 : n1.toInt * d0.toInt < 0 := Int.mul_neg_of_neg_of_pos hp hd0
      have h6 : ¬ 0 ≤ n0.toInt := fun z => by
        have := Int.mul_nonneg z (Int.le_of_lt hd1)
        omega
      simp; omega
    have hp0 : n0.toInt < 0 := by have := hs0; simp at this; omega
    rw [hs1] at a1 a2 a4 v2 v3 ⊢
    rw [hs0] at b1 b2 b4 v2 v3 ⊢
    have hmm := v3 (rr_mono (s := true) (by omega) (by omega) (by
      have e1 : ((n0.toInt.natAbs * d1.toInt.natAbs : Nat) : Int) = -(n0.toInt * d1.toInt) := by rw [Int.natCast_mul, ← Int.neg_mul]; congr 1 <;> omega
      have e2 : ((n1.toInt.natAbs * d0.toInt.natAbs : Nat) : Int) = -(n1.toInt * d0.toInt) := by rw [Int.natCast_mul, ← Int.neg_mul]; congr 1 <;> omega
      omega) a2 b2)
    show some (compare ((M : Nat) : Int) _) = _ ∨ some (compare ((M : Nat) : Int) _) = _
    rw [bigp, FP.Core.compare_ite]
    by_cases z : M = 2 ^ 149
    · right; rw [if_neg (by omega), if_pos (by omega)]
    · left; rw [if_pos (by omega)]
  · have hs1 : decide (n1.toInt < 0) = false := by simp; omega
    have hs0 : decide (n0.toInt < 0) = true := by simp; omega
    have hM : 0 < M := by
      have g1 := fq_rng hn1 (show d1.toInt ≠ 0 by omega) (Nat.le_trans k3 (Nat.le_of_ble_eq_true rfl)) (Nat.le_trans k4 (Nat.le_of_ble_eq_true rfl))
      have g0 := fq_rng hn0 (show d0.toInt ≠ 0 by omega) (Nat.le_trans k1 (Nat.le_of_ble_eq_true rfl)) (Nat.le_trans k2 (Nat.le_of_ble_eq_true rfl))
      have g3 := fdiv_ge (a := fq n1 d1) (b := fq n0 d0) (L := 90) (Kb := 158) (K := 1) g1.1 (by omega) g0.2 (by omega) (by omega) (by decide) (by decide) (by decide) (by decide) (by decide)
      have g4 := FP.Core.zmag_toNat32 hnn
      rw [v1, hm] at g4
      have g5 := (FP.Core.unitsOf_le_iff (f := FP.Core.b32)).mpr g3
      rw [g4]
      refine Nat.lt_of_lt_of_le ?_ g5
      decide +kernel
    rw [hs1, hs0]
    show some (compare (-((M : Nat) : Int)) 0) = _
    rw [FP.Core.compare_ite, if_pos (by omega)]
end ST
