/-! long numbers: no wrap-around within the bounds; Euclid -/
theorem bmL {z : Int} (h1 : -9223372036854775808 ≤ z) (h2 : z < 9223372036854775808) : z.bmod (2 ^ 64) = z := Int.bmod_eq_of_le (by omega) (by omega)
theorem L_mul {x y : Int64} (h1 : -9223372036854775808 ≤ x.toInt * y.toInt) (h2 : x.toInt * y.toInt < 9223372036854775808) : (x * y).toInt = x.toInt * y.toInt := by rw [Int64.toInt_mul, bmL h1 h2]
theorem L_sub {x y : Int64} (h1 : -9223372036854775808 ≤ x.toInt - y.toInt) (h2 : x.toInt - y.toInt < 9223372036854775808) : (x - y).toInt = x.toInt - y.toInt := by rw [Int64.toInt_sub, bmL h1 h2]
theorem L_add {x y : Int64} (h1 : -9223372036854775808 ≤ x.toInt + y.toInt) (h2 : x.toInt + y.toInt < 9223372036854775808) : (x + y).toInt = x.toInt + y.toInt := by rw [Int64.toInt_add, bmL h1 h2]
theorem L_neg {x : Int64} (h1 : -9223372036854775808 < x.toInt) : (-x).toInt = -x.toInt := by
  have := Int64.toInt_lt x
  rw [Int64.toInt_neg, bmL (by omega) (by omega)]
theorem L_ext {x y : Int64} (h : x.toInt = y.toInt) : x = y := Int64.toInt_inj.mp h
theorem L_pos {x : Int64} (h : 0 ≤ x.toInt) : x = lN x.toInt.natAbs := by
  have := Int64.toInt_lt x
  refine L_ext ?_
  rw [pk_lT (by omega)]
  omega
theorem L_negA {x : Int64} (h : x.toInt < 0) (h2 : -9223372036854775808 < x.toInt) : -x = lN x.toInt.natAbs := by
  refine L_ext ?_
  rw [L_neg h2, pk_lT (by omega)]
  omega
/-- n steps of Euclid reach the end -/
def euc : Nat → Nat → Nat → Prop
  | 0, _, y => y = 0
  | n + 1, x, y => y = 0 ∨ euc n y (x % y)
def fp : Nat → Nat × Nat
  | 0 => (1, 1)
  | n + 1 => ((fp n).2, (fp n).1 + (fp n).2)
theorem euc_fp : ∀ (n x y : Nat), y ≤ x → ¬ euc n x y → (fp n).1 ≤ y ∧ (fp n).2 ≤ x
  | 0, x, y, h, k => by
    have : ¬ y = 0 := k
    show 1 ≤ y ∧ 1 ≤ x
    omega
  | n + 1, x, y, h, k => by
    have k1 : ¬ y = 0 := fun q => k (Or.inl q)
    have k2 : ¬ euc n y (x % y) := fun q => k (Or.inr q)
    have hm : x % y < y := Nat.mod_lt _ (by omega)
    obtain ⟨i1, i2⟩ := euc_fp n y (x % y) (by omega) k2
    show (fp n).2 ≤ y ∧ (fp n).1 + (fp n).2 ≤ x
    refine ⟨i2, ?_⟩
    have h1 := Nat.mod_add_div x y
    have h2 : 1 ≤ x / y := (Nat.le_div_iff_mul_le (by omega)).mpr (by omega)
    have h3 : y * 1 ≤ y * (x / y) := Nat.mul_le_mul_left _ h2
    omega
theorem fp99 : 9223372036854775808 ≤ (fp 99).1 := by decide +kernel
theorem fp100 : 9223372036854775808 ≤ (fp 100).1 := by decide +kernel
theorem euc_100 {x y : Nat} (hx : x < 9223372036854775808) (hy : y < 9223372036854775808) : euc 100 x y := by
  rcases Nat.lt_or_ge x y with q | q
  · refine Or.inr (Classical.byContradiction fun k => ?_)
    rw [Nat.mod_eq_of_lt q] at k
    have := (euc_fp 99 y x (by omega) k).1
    have := fp99
    omega
  · refine Classical.byContradiction fun k => ?_
    have := (euc_fp 100 x y q k).1
    have := fp100
    omega
theorem gcd_step (x y : Nat) : Nat.gcd y (x % y) = Nat.gcd x y := by
  rw [Nat.gcd_comm x y, Nat.gcd_rec y x, Nat.gcd_comm]
theorem lN_toI {n : Nat} (h : n < 9223372036854775808) : (lN n).toInt = (n : Int) := pk_lT (by omega)
/-- a fraction in lowest terms, its denominator positive -/
def Lnum (c p : Int) : Int := if p < 0 then -(c / (Nat.gcd p.natAbs c.natAbs : Nat)) else c / (Nat.gcd p.natAbs c.natAbs : Nat)
def Lden (c p : Int) : Int := if p < 0 then -(p / (Nat.gcd p.natAbs c.natAbs : Nat)) else p / (Nat.gcd p.natAbs c.natAbs : Nat)
/-- the numbers of a matrix of longs -/
def tI (M : Nat → Nat → Int64) : Nat → Nat → Int := fun i j => if j < 11 then (M i j).toInt else 0
theorem tI_at {M : Nat → Nat → Int64} {i j : Nat} (h : j < 11) : tI M i j = (M i j).toInt := if_pos h
theorem tI_out {M : Nat → Nat → Int64} {i j : Nat} (h : ¬ j < 11) : tI M i j = 0 := if_neg h
theorem abs_mul_le {a b : Int} {u v : Nat} (ha : a.natAbs ≤ u) (hb : b.natAbs ≤ v) : -((u * v : Nat) : Int) ≤ a * b ∧ a * b ≤ ((u * v : Nat) : Int) := by
  have h1 : (a * b).natAbs ≤ u * v := by rw [Int.natAbs_mul]; exact Nat.mul_le_mul ha hb
  omega
/-- one number of an elimination, within the longs -/
theorem L_elim {a b c d : Int64} (ha : a.toInt.natAbs ≤ BB) (hb : b.toInt.natAbs ≤ BB) (hc : c.toInt.natAbs ≤ BB) (hd : d.toInt.natAbs ≤ BB) : (a * b - c * d).toInt = a.toInt * b.toInt - c.toInt * d.toInt ∧ (a * b - c * d).toInt.natAbs ≤ 2 * (BB * BB) := by
  have h1 := abs_mul_le ha hb
  have h2 := abs_mul_le hc hd
  have hB : BB * BB = 123363917824000000 := by decide
  rw [hB] at h1 h2 ⊢
  have e1 : (a * b).toInt = a.toInt * b.toInt := L_mul (by omega) (by omega)
  have e2 : (c * d).toInt = c.toInt * d.toInt := L_mul (by omega) (by omega)
  have e3 : (a * b - c * d).toInt = a.toInt * b.toInt - c.toInt * d.toInt := by rw [L_sub (by omega) (by omega), e1, e2]
  exact ⟨e3, by omega⟩
