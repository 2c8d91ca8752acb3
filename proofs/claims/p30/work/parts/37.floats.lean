/-! floats: quotients of whole numbers -/
section FQ
theorem vD_pos (S : (Nat → Int) → Prop) (t : Nat) : 0 < vD S t := by
  unfold vD
  split
  · rename_i h
    exact (Classical.choose_spec h).1
  · exact (by decide : (0 : Int) < 1)
theorem rtN_ne (S : (Nat → Int) → Prop) : rtN S ≠ 0 := by
  have h := vD_pos S 1
  unfold rtN
  split <;> omega
theorem rtD_ne {S : (Nat → Int) → Prop} (h : stC S = 0) : rtD S ≠ 0 := by
  have h2 := (stC_drive.mp h).2.2
  unfold rtD
  omega
theorem div_mag_ge {f : FP.Core.Fmt} (hf : FP.Core.Good f) {x y Kb L K : Nat} (hx : L * f.tails ≤ FP.Core.mag f x) (hxf : FP.Core.mag f x < FP.Core.infBits f) (hy : FP.Core.mag f y < Kb * f.tails) (hy1 : 1 * f.tails ≤ FP.Core.mag f y) (hyf : FP.Core.mag f y < FP.Core.infBits f) (hL : 1 ≤ L) (hK : 1 ≤ K) (hK2 : K ≤ f.exps - 1) (hB : 1 ≤ Kb)
    (h : K + (f.p - 1) + Kb ≤ L + (-f.qmin).toNat + 1) : K * f.tails ≤ FP.Core.mag f (FP.Core.div f x y) := by
  obtain ⟨s, c, q, x1, x2, x3⟩ := FP.Core.fin_of_mag hf hxf
  obtain ⟨t, d, r, y1, y2, y3⟩ := FP.Core.fin_of_mag hf hyf
  have hq := FP.Core.qmin_neg hf
  have l2 : f.tails * 2 ^ (1 - 1) ≤ FP.Core.zmag f (.fin t d r) := by
    rw [y3, ← FP.Core.unitsOf_start (Nat.le_refl 1)]; exact FP.Core.unitsOf_le_iff.mpr hy1
  have l3 : f.tails * 2 ^ (L - 1) ≤ FP.Core.zmag f (.fin s c q) := by
    rw [x3, ← FP.Core.unitsOf_start hL]; exact FP.Core.unitsOf_le_iff.mpr hx
  have hd0 : d ≠ 0 := by
    rintro rfl
    have h1 : FP.Core.zmag f (.fin t 0 r) = 0 := Nat.zero_mul _
    have := Nat.mul_pos (FP.Core.tails_pos f) (Nat.two_pow_pos (1 - 1))
    omega
  have hd : FP.Core.decode f (FP.Core.div f x y) = FP.Core.roundRatio f (s != t) c d (q - r) := by
    unfold FP.Core.div
    rw [FP.Core.decode_enc hf (FP.Core.quotient_fits hf _ _), x1, y1]
    simp only [FP.Core.quotient, if_neg hd0]
  have hx1 := x2.2.1
  have hy1 := y2.2.1
  refine FP.Core.mag_ge hf hd (by omega) (e0 := 2 * f.qmin - r) (by omega) (by omega) (Nat.mul_le_mul_right _ hK2) ?_
  obtain ⟨k1, l1⟩ := FP.Core.units_lt_start hy
  rw [FP.Core.unitsOf_start hK]
  have e1 : FP.Core.inUnits c (q - r) (2 * f.qmin - r) = FP.Core.zmag f (.fin s c q) * 2 ^ (-f.qmin).toNat := by
    show c * _ = c * _ * _
    rw [Nat.mul_assoc, ← Nat.pow_add]; congr 2; omega
  have e2 : 2 ^ (f.qmin - (2 * f.qmin - r)).toNat * d = FP.Core.zmag f (.fin t d r) := by
    show _ = d * _
    rw [Nat.mul_comm]; congr 2; omega
  rw [e1, Nat.mul_assoc, e2]
  rw [← y3] at l1
  calc f.tails * 2 ^ (K - 1) * FP.Core.zmag f (.fin t d r) ≤ f.tails * 2 ^ (K - 1) * (f.tails * 2 ^ (Kb - 1)) := Nat.mul_le_mul_left _ (Nat.le_of_lt l1)
    _ = f.tails * 2 ^ (K - 1 + (f.p - 1) + (Kb - 1)) := by
      rw [Nat.pow_add, Nat.pow_add, show 2 ^ (f.p - 1) = f.tails from rfl]; ac_rfl
    _ ≤ f.tails * 2 ^ (L - 1 + (-f.qmin).toNat) := Nat.mul_le_mul_left _ (Nat.pow_le_pow_right (by decide) (by omega))
    _ = f.tails * 2 ^ (L - 1) * 2 ^ (-f.qmin).toNat := by rw [Nat.pow_add, Nat.mul_assoc]
    _ ≤ FP.Core.zmag f (.fin s c q) * 2 ^ (-f.qmin).toNat := Nat.mul_le_mul_right _ l3
/-- a / b as floats -/
def fq (a b : Int64) : UInt32 := FP.fdiv (FP.l2f a) (FP.l2f b)
theorem l2f_rng {a : Int64} (h : a.toInt ≠ 0) (hb : a.toInt.natAbs ≤ BB) : 127 * 2 ^ 23 ≤ (FP.l2f a).toNat % 2 ^ 31 ∧ (FP.l2f a).toNat % 2 ^ 31 ≤ 156 * 2 ^ 23 := by
  have h1 := (FP.Core.l2f_big h).1
  have h2 := FP.Core.fromInt_mag32 (FP.Core.toNat_l2f a) (j := 29) (K := 156) (Nat.le_trans hb (Nat.le_of_ble_eq_true rfl)) (by decide) (by decide)
  exact ⟨h1, h2⟩
theorem fdiv_ge {a b : UInt32} {L Kb K : Nat} (ha : L * 2 ^ 23 ≤ a.toNat % 2 ^ 31) (ha2 : a.toNat % 2 ^ 31 < 255 * 2 ^ 23) (hb : b.toNat % 2 ^ 31 < Kb * 2 ^ 23) (hb1 : 1 * 2 ^ 23 ≤ b.toNat % 2 ^ 31) (hb2 : b.toNat % 2 ^ 31 < 255 * 2 ^ 23) (hL : 1 ≤ L) (hK : 1 ≤ K) (hK2 : K ≤ 255) (hB : 1 ≤ Kb) (h : K + 23 + Kb ≤ L + 150) : K * 2 ^ 23 ≤ (FP.fdiv a b).toNat % 2 ^ 31 := by
  have h1 : (FP.Core.fdiv a b).toNat = FP.Core.div FP.Core.b32 a.toNat b.toNat := FP.Core.toNat_of32 (FP.Core.quotient_fits FP.Core.good_b32 _ _)
  have h2 := div_mag_ge FP.Core.good_b32 (x := a.toNat) (y := b.toNat) (Kb := Kb) (L := L) (K := K)
    (by rw [FP.Core.mag_toNat32, FP.Core.tails_b32]; exact ha) (by rw [FP.Core.mag_toNat32, FP.Core.infBits_b32]; omega) (by rw [FP.Core.mag_toNat32, FP.Core.tails_b32]; exact hb) (by rw [FP.Core.mag_toNat32, FP.Core.tails_b32]; exact hb1)
    (by rw [FP.Core.mag_toNat32, FP.Core.infBits_b32]; omega) hL hK (by rw [FP.Core.exps_b32]; exact hK2) hB (by rw [FP.Core.p_b32, FP.Core.qmin_b32]; omega)
  rw [← h1, FP.Core.mag_toNat32, FP.Core.tails_b32] at h2
  exact h2
theorem fq_rng {a b : Int64} (ha : a.toInt ≠ 0) (hb : b.toInt ≠ 0) (ka : a.toInt.natAbs ≤ BB) (kb : b.toInt.natAbs ≤ BB) : 90 * 2 ^ 23 ≤ (fq a b).toNat % 2 ^ 31 ∧ (fq a b).toNat % 2 ^ 31 < 158 * 2 ^ 23 := by
  have h1 := l2f_rng ha ka
  have h2 := l2f_rng hb kb
  refine ⟨fdiv_ge (L := 127) (Kb := 157) (K := 90) h1.1 (by omega) (by omega) (by omega) (by omega) (by decide) (by decide) (by decide) (by decide) (by decide), ?_⟩
  have h3 := FP.Core.fdiv_mag (a := FP.l2f a) (b := FP.l2f b) (K := 157) (L := 127) (by omega) h2.1 (by omega) (by decide) (by decide)
  exact h3
theorem n32_of {r : UInt32} (h : r.toNat % 2 ^ 31 ≤ 2139095040) : vf_n32 r := by
  unfold vf_n32
  rw [UInt32.le_iff_toNat_le, UInt32.toNat_and]
  show r.toNat &&& (2 ^ 31 - 1) ≤ 2139095040
  rw [Nat.and_two_pow_sub_one_eq_mod]
  exact h
theorem fq_n32 {a b : Int64} (ha : a.toInt ≠ 0) (hb : b.toInt ≠ 0) (ka : a.toInt.natAbs ≤ BB) (kb : b.toInt.natAbs ≤ BB) : vf_n32 (fq a b) := n32_of (by have := (fq_rng ha hb ka kb).2; omega)
/-- a quotient of two quotients -/
theorem fqq_n32 {a b c d : Int64} (ha : a.toInt ≠ 0) (hb : b.toInt ≠ 0) (hc : c.toInt ≠ 0) (hd : d.toInt ≠ 0) (ka : a.toInt.natAbs ≤ BB) (kb : b.toInt.natAbs ≤ BB) (kc : c.toInt.natAbs ≤ BB) (kd : d.toInt.natAbs ≤ BB) : vf_n32 (FP.fdiv (fq a b) (fq c d)) := by
  have h1 := fq_rng ha hb ka kb
  have h2 := fq_rng hc hd kc kd
  have h3 := FP.Core.fdiv_mag (a := fq a b) (b := fq c d) (K := 158) (L := 90) h1.2 h2.1 (by omega) (by decide) (by decide)
  exact n32_of (by have h3 : (FP.fdiv (fq a b) (fq c d)).toNat % 2 ^ 31 < _ := h3; omega)
theorem fq_ne0 {a b : Int64} (ha : a.toInt ≠ 0) (hb : b.toInt ≠ 0) (ka : a.toInt.natAbs ≤ BB) (kb : b.toInt.natAbs ≤ BB) : ¬ FP.fcmp (fq a b) FP.fconst0 = some .eq := by
  have h1 := fq_rng ha hb ka kb
  intro h
  have h2 := FP.Core.fcmp_some h
  have h3 := (FP.Core.fcmp_eq_key h2.1 h2.2).mp h
  have h4 : FP.Core.fkey FP.fconst0 = 0 := by decide
  rw [h4] at h3
  unfold FP.Core.fkey at h3
  have h5 := (fq a b).toNat_lt
  split at h3 <;> omega
end FQ
