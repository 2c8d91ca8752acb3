/-! speeds and torques: each is the other's dual -/
section DU
theorem sp_zero {d : Nat → Nat → Int32} (h : DV d) (g : Nat) : ∀ i j, 11 ≤ j → spM d g i j = 0 := fun i _ hj => spM_col h g i (by omega) (by omega)
theorem tq_zero (d : Nat → Nat → Int32) (g : Nat) : ∀ i j, 11 ≤ j → tqM d g i j = 0 := fun i j hj => by
  unfold tqM
  split
  · rfl
  · rw [if_neg (show ¬ j = 10 by omega), if_neg (show ¬ j = 0 by omega), if_neg (show ¬ j < 4 by omega), if_neg (fun z => by omega)]
/-- the values of all unknowns that are determined: one denominator, and the bound -/
theorem vals {M0 : Nat → Nat → Int} {T : Nat} (hz : ∀ i j, 11 ≤ j → M0 i j = 0) (hB : MT T M0 10) (hS : Solv (HS M0 10)) : ∃ D : Int, D ≠ 0 ∧ D.natAbs ≤ T ∧ ∀ t, t < 10 → DetS (HS M0 10) t → vD (HS M0 10) t ∣ D ∧ (vN (HS M0 10) t).natAbs ≤ T ∧ LT (HS M0 10) t (vN (HS M0 10) t) (vD (HS M0 10) t) := by
  obtain ⟨V, ps, hE, hF, -⟩ := fin_all 10 hz
  obtain ⟨D, hD, hDT, hq⟩ := com_den hE hB
  refine ⟨D, hD, hDT, fun t ht hdet => ?_⟩
  obtain ⟨r, hr, hrz⟩ := fin_undet hE hF ht hdet
  obtain ⟨N, hNT, hN⟩ := hq _ hr
  have hN : D * V r 10 = N * V r t := hN
  have hne : V r t ≠ 0 := (hE.2.2.1 _ hr).1
  have hLT : LT (HS M0 10) t (Lnum N D) (Lden N D) := LT_of hD (fun x hx => by
    have h1 := fin_val hE (hE.1 _ hr).1 ht hrz hx
    have h2 : V r t * (D * x t + N * x 10) = 0 := by grind
    rcases Int.mul_eq_zero.mp h2 with z | z
    · exact absurd z hne
    · omega)
  obtain ⟨e1, e2⟩ := vN_of hS hLT
  have hdv : ((Nat.gcd D.natAbs N.natAbs : Nat) : Int) ∣ D := Int.ofNat_dvd_left.mpr (Nat.gcd_dvd_left _ _)
  refine ⟨?_, by rw [e1]; exact Nat.le_trans (Lnum_le N D) hNT, by rw [e1, e2]; exact hLT⟩
  rw [e2]
  unfold Lden
  obtain ⟨c, hc⟩ := hdv
  have hg : ((Nat.gcd D.natAbs N.natAbs : Nat) : Int) ≠ 0 := fun z => by rw [z] at hc; simp at hc; exact hD hc
  have e3 : D / ((Nat.gcd D.natAbs N.natAbs : Nat) : Int) = c := by
    conv => lhs; lhs; rw [hc]
    exact Int.mul_ediv_cancel_left _ hg
  split
  · rw [e3]; exact ⟨-((Nat.gcd D.natAbs N.natAbs : Nat) : Int), by grind⟩
  · rw [e3]; exact ⟨((Nat.gcd D.natAbs N.natAbs : Nat) : Int), by grind⟩
theorem LT_le {S : (Nat → Int) → Prop} {t : Nat} {D : Int} (hD : D ≠ 0) (h : vD S t ∣ D) : (vD S t).natAbs ≤ D.natAbs := Nat.le_of_dvd (Int.natAbs_pos.mpr hD) (Int.natAbs_dvd_natAbs.mpr h)
/-! sums -/
theorem dt_add (u v x : Nat → Int) : ∀ n, dt (fun j => u j + v j) x n = dt u x n + dt v x n
  | 0 => rfl
  | n + 1 => by
    show dt (fun j => u j + v j) x n + (u n + v n) * x n = (dt u x n + u n * x n) + (dt v x n + v n * x n)
    rw [dt_add u v x n]
    grind
theorem dt_smul (c : Int) (v x : Nat → Int) : ∀ n, dt (fun j => c * v j) x n = c * dt v x n
  | 0 => by simp [dt]
  | n + 1 => by
    show dt (fun j => c * v j) x n + c * v n * x n = c * (dt v x n + v n * x n)
    rw [dt_smul c v x n]
    grind
theorem dt_nil (x : Nat → Int) : ∀ n, dt (fun _ => 0) x n = 0
  | 0 => rfl
  | n + 1 => by
    show dt (fun _ => 0) x n + 0 * x n = 0
    rw [dt_nil x n]
    simp
theorem dt_congr {u v x z : Nat → Int} : ∀ n, (∀ j, j < n → u j * x j = v j * z j) → dt u x n = dt v z n
  | 0, _ => rfl
  | n + 1, h => by
    show dt u x n + u n * x n = dt v z n + v n * z n
    rw [dt_congr n (fun j hj => h j (by omega)), h n (Nat.lt_succ_self n)]
theorem dt_zero {u x : Nat → Int} (n : Nat) (h : ∀ j, j < n → u j * x j = 0) : dt u x n = 0 := by
  rw [dt_congr (v := fun _ => 0) (z := x) n (fun j hj => by rw [h j hj]; simp), dt_nil]
theorem dt_swap (A : Nat → Nat → Int) (x w : Nat → Int) (m : Nat) : ∀ n, dt (fun i => dt (A i) x m) w n = dt (fun j => dt (fun i => A i j) w n) x m
  | 0 => (dt_nil x m).symm
  | n + 1 => by
    show dt (fun i => dt (A i) x m) w n + dt (A n) x m * w n = dt (fun j => dt (fun i => A i j) w n + A n j * w n) x m
    rw [dt_add, dt_swap A x w m n]
    have : dt (fun j => A n j * w n) x m = w n * dt (A n) x m := by
      rw [← dt_smul]
      exact dt_congr m (fun j _ => by grind)
    rw [this]
    grind
/-! the torques' columns are the speeds' rows -/
theorem tq_sp {d : Nat → Nat → Int32} {g i j : Nat} (hi : i < 6) (h1 : 1 ≤ j) (h2 : j < 10) : tqM d g i j = spM d g j i := by
  unfold tqM spM
  rw [if_neg (show ¬ 6 ≤ i by omega), if_neg (show ¬ j = 10 by omega), if_neg (show ¬ j = 0 by omega), if_neg (show ¬ j = 0 by omega)]
  by_cases q : j < 4
  · rw [if_pos q, if_pos q]
  · rw [if_neg q, if_neg q]
    by_cases y : j - 4 < dn d 8 1 ∧ g.testBit (j - 4) = true
    · rw [if_pos y, if_pos ⟨h2, y⟩]
    · rw [if_neg y, if_neg (fun z => y z.2)]
theorem tq_c0 (d : Nat → Nat → Int32) (g i : Nat) : i < 6 → tqM d g i 0 = if i = 1 then 1 else 0 := fun h => by
  unfold tqM
  rw [if_neg (show ¬ 6 ≤ i by omega), if_neg (show ¬ 0 = 10 by omega), if_pos rfl]
theorem tq_c10 (d : Nat → Nat → Int32) (g i : Nat) : i < 6 → tqM d g i 10 = if i = 0 then -1 else 0 := fun h => by
  unfold tqM
  rw [if_neg (show ¬ 6 ≤ i by omega), if_pos rfl]
theorem sp_r0 (d : Nat → Nat → Int32) (g j : Nat) : spM d g 0 j = if j = 0 then 1 else if j = 10 then 1 else 0 := by unfold spM; rw [if_pos rfl]
theorem sp_c10 {d : Nat → Nat → Int32} (h : DV d) (g i : Nat) (hi : 1 ≤ i) : spM d g i 10 = 0 := by
  obtain ⟨n, m, gg, h1, h2, h3, e0, e1, e2, hs, he⟩ := h
  unfold spM
  rw [if_neg (show ¬ i = 0 by omega)]
  split
  · split
    · next q => rw [dn_of e0 (by omega)] at q; exact setc_lt (hs _ q) (by decide)
    · rfl
  · split
    · next q => rw [dn_of e1 (by omega)] at q; exact elc_lt (he _ q.1) (by decide)
    · rfl
/-- a sum over the shafts of an equation's row is the row's sum -/
theorem sp_six {d : Nat → Nat → Int32} (h : DV d) {g j : Nat} (hj : 1 ≤ j) (w : Nat → Int) : dt (spM d g j) w 11 = dt (spM d g j) w 6 := by
  have z : ∀ i, 6 ≤ i → spM d g j i = 0 := fun i hi => by
    by_cases q : i = 10
    · subst q; exact sp_c10 h g j hj
    · exact spM_col h g j hi q
  show dt (spM d g j) w 6 + spM d g j 6 * w 6 + spM d g j 7 * w 7 + spM d g j 8 * w 8 + spM d g j 9 * w 9 + spM d g j 10 * w 10 = _
  rw [z 6 (by decide), z 7 (by decide), z 8 (by decide), z 9 (by decide), z 10 (by decide)]
  omega
theorem dt_flip (u x : Nat → Int) (n : Nat) : dt u x n = dt x u n := dt_congr n (fun j _ => Int.mul_comm _ _)
/-- the torques weighed with speeds -/
theorem power {d : Nat → Nat → Int32} (h : DV d) {g : Nat} {x w : Nat → Int} (hx : TQ d g x) (hw : ∀ j, 1 ≤ j → j < 10 → dt (spM d g j) w 11 = 0) : w 1 * x 0 = w 0 * x 10 := by
  have h1 : dt (fun i => dt (tqM d g i) x 11) w 6 = 0 := dt_zero 6 (fun i hi => by rw [hx i (by omega)]; simp)
  rw [dt_swap] at h1
  have c0 : dt (fun i => tqM d g i 0) w 6 = w 1 := by
    rw [dt_congr (v := fun i => if i = 1 then 1 else 0) (z := w) 6 (fun i hi => by rw [tq_c0 d g i hi]), dt_ind, if_pos (by decide)]
  have c10 : dt (fun i => tqM d g i 10) w 6 = - w 0 := by
    rw [dt_congr (v := fun i => (-1) * (if i = 0 then 1 else 0)) (z := w) 6 (fun i hi => by rw [tq_c10 d g i hi]; split <;> simp), dt_smul, dt_ind, if_pos (by decide)]
    omega
  have cj : ∀ j, 1 ≤ j → j < 10 → dt (fun i => tqM d g i j) w 6 = 0 := fun j a b => by
    rw [dt_congr (v := spM d g j) (z := w) 6 (fun i hi => by rw [tq_sp hi a b]), ← sp_six h a]
    exact hw j a b
  rw [dt_two (a := 0) (b := 10) (by decide) 11 (fun j hj ha hb => by rw [cj j (by omega) (by omega)]; simp), if_pos (by decide), if_pos (by decide), c0, c10] at h1
  have h2 : -w 0 * x 10 = -(w 0 * x 10) := Int.neg_mul _ _
  omega
/-- where it drives, the output's torque is the negative ratio -/
theorem drive_torque {d : Nat → Nat → Int32} (h : DV d) {g : Nat} (hd : stM d g = 0) : Solv (TQ d g) ∧ DetS (TQ d g) 0 ∧ vN (TQ d g) 0 = - rtN (SP d g) ∧ vD (TQ d g) 0 = rtD (SP d g) := by
  obtain ⟨hS, hD, hv⟩ := stC_drive.mp hd
  obtain ⟨D9, hD9, hT9, hvals⟩ := vals (sp_zero h g) (MT_spM h g 10) hS
  obtain ⟨-, -, hLT⟩ := hvals 1 (by decide) hD
  obtain ⟨V, ps, hE, hF, hR⟩ := fin_all 10 (sp_zero h g)
  obtain ⟨r, hr, hrz⟩ := fin_undet hE hF (by decide) hD
  have hr10 : r < 10 := (hE.1 _ hr).1
  have hne : V r 1 ≠ 0 := (hE.2.2.1 _ hr).1
  obtain ⟨y, F, hF0, hy⟩ := hR r hr10
  have hb : V r 10 ≠ 0 := fun z => by
    refine hv (vN_of (p := 0) (q := 1) hS ⟨by decide, by decide, fun x hx => ?_⟩).1
    have h1 := fin_val hE hr10 (by decide) hrz hx
    rw [z] at h1
    have h2 : V r 1 * x 1 = 0 := by rw [h1]; simp
    rcases Int.mul_eq_zero.mp h2 with q | q
    · exact absurd q hne
    · rw [q]; simp
  have hy10 : F * V r 10 = y 0 := by
    rw [hy 10, dt_flip, dt_two (a := 0) (b := 20) (by decide) 10 (fun j hj ha _ => by rw [sp_c10 h g j (by omega)]; simp), if_pos (by decide), if_neg (by decide), sp_r0, if_neg (by decide), if_pos rfl]
    omega
  have hyi : ∀ i, i < 6 → dt y (fun j => spM d g j i) 10 = if i = 1 then F * V r 1 else 0 := fun i hi => by
    rw [← hy i]
    by_cases z : i = 1
    · subst z; rw [if_pos rfl]
    · rw [if_neg z, hrz i (by omega) z]; simp
  let X : Nat → Int := fun j => if j = 0 then -(F * V r 1) else if j = 10 then -(F * V r 10) else y j
  have hX : TQ d g X := fun i hi => by
    by_cases q : i < 6
    · have h1 := hyi i q
      have h2 : dt (tqM d g i) X 11 = dt y (fun j => spM d g j i) 10 + (tqM d g i 0 * X 0 - y 0 * spM d g 0 i) + tqM d g i 10 * X 10 := by
        have hj : ∀ j, 1 ≤ j → j < 10 → tqM d g i j * X j = y j * spM d g j i := fun j a b => by
          rw [tq_sp q a b]
          have : X j = y j := by
            show (if j = 0 then _ else if j = 10 then _ else y j) = y j
            rw [if_neg (by omega), if_neg (by omega)]
          rw [this]
          exact Int.mul_comm _ _
        show 0 + tqM d g i 0 * X 0 + tqM d g i 1 * X 1 + tqM d g i 2 * X 2 + tqM d g i 3 * X 3 + tqM d g i 4 * X 4 + tqM d g i 5 * X 5 + tqM d g i 6 * X 6 + tqM d g i 7 * X 7 + tqM d g i 8 * X 8 + tqM d g i 9 * X 9 + tqM d g i 10 * X 10 = (0 + y 0 * spM d g 0 i + y 1 * spM d g 1 i + y 2 * spM d g 2 i + y 3 * spM d g 3 i + y 4 * spM d g 4 i + y 5 * spM d g 5 i + y 6 * spM d g 6 i + y 7 * spM d g 7 i + y 8 * spM d g 8 i + y 9 * spM d g 9 i) + (tqM d g i 0 * X 0 - y 0 * spM d g 0 i) + tqM d g i 10 * X 10
        rw [hj 1 (by decide) (by decide), hj 2 (by decide) (by decide), hj 3 (by decide) (by decide), hj 4 (by decide) (by decide), hj 5 (by decide) (by decide), hj 6 (by decide) (by decide), hj 7 (by decide) (by decide), hj 8 (by decide) (by decide), hj 9 (by decide) (by decide)]
        omega
      have x0 : X 0 = -(F * V r 1) := rfl
      have x10 : X 10 = -(F * V r 10) := rfl
      rw [h2, h1, tq_c0 d g i q, tq_c10 d g i q, sp_r0, x0, x10, hy10]
      by_cases z : i = 1
      · subst z
        simp
        omega
      · rw [if_neg z, if_neg z]
        by_cases z0 : i = 0
        · subst z0
          simp
          omega
        · rw [if_neg z0, if_neg (show ¬ i = 10 by omega), if_neg z0]
          simp
    · have h0 : ∀ j, tqM d g i j = 0 := fun j => by unfold tqM; rw [if_pos (by omega)]
      exact dt_zero 11 (fun j _ => by rw [h0 j]; simp)
  have hSQ : Solv (TQ d g) := ⟨X, hX, by
    show -(F * V r 10) ≠ 0
    have := Int.mul_ne_zero hF0 hb
    omega⟩
  obtain ⟨w, hw, hw10⟩ := hS
  have hw0 : w 0 + w 10 = 0 := by
    have h1 := hw 0 (by decide)
    rw [dt_two (a := 0) (b := 10) (by decide) 11 (fun j hj ha hb => by rw [sp_r0, if_neg ha, if_neg hb]; simp), if_pos (by decide), if_pos (by decide), sp_r0, sp_r0, if_pos rfl, if_neg (by decide), if_pos rfl] at h1
    omega
  have hw1 : vD (SP d g) 1 * w 1 = -(vN (SP d g) 1 * w 10) := hLT.2.2 w hw
  have hpow : ∀ x, TQ d g x → vN (SP d g) 1 * x 0 = vD (SP d g) 1 * x 10 := fun x hx => by
    have h1 := power h hx (w := w) (fun j a b => hw j b)
    have h2 : w 10 * (vN (SP d g) 1 * x 0) = w 10 * (vD (SP d g) 1 * x 10) := by
      have e0 : w 0 = - w 10 := by omega
      rw [e0] at h1
      have h3 : vD (SP d g) 1 * (w 1 * x 0) = vD (SP d g) 1 * (-w 10 * x 10) := by rw [h1]
      have h4 : vD (SP d g) 1 * (w 1 * x 0) = (vD (SP d g) 1 * w 1) * x 0 := by rw [Int.mul_assoc]
      rw [h4, hw1] at h3
      grind
    exact Int.eq_of_mul_eq_mul_left hw10 h2
  have hDQ : DetS (TQ d g) 0 := fun x hx h10 => by
    have h1 := hpow x hx
    rw [h10] at h1
    have h2 : vN (SP d g) 1 * x 0 = 0 := by rw [h1]; simp
    rcases Int.mul_eq_zero.mp h2 with q | q
    · exact absurd q hv
    · exact q
  have hq := vN_of (S := TQ d g) (t := 0) (p := - rtN (SP d g)) (q := rtD (SP d g)) hSQ (by
    obtain ⟨a1, a2, -⟩ := hLT
    unfold rtN rtD
    by_cases z : vN (SP d g) 1 < 0
    · rw [if_pos z]
      refine ⟨by omega, ?_, fun x hx => ?_⟩
      · rw [Int.neg_neg, Nat.gcd_comm, Int.natAbs_natCast]; exact a2
      · have h1 := hpow x hx
        have e : ((vN (SP d g) 1).natAbs : Int) = -(vN (SP d g) 1) := by omega
        rw [e]
        grind
    · rw [if_neg z]
      refine ⟨by omega, ?_, fun x hx => ?_⟩
      · rw [Int.natAbs_neg, Nat.gcd_comm, Int.natAbs_natCast]; exact a2
      · have h1 := hpow x hx
        have e : ((vN (SP d g) 1).natAbs : Int) = vN (SP d g) 1 := by omega
        rw [e]
        grind)
  exact ⟨hSQ, hDQ, hq.1, hq.2⟩
/-! the sum of all torques -/
/-- 1: element k is a brake that is engaged -/
def bs (d : Nat → Nat → Int32) (g k : Nat) : Int := if k < dn d 8 1 ∧ g.testBit k = true ∧ d 6 k = -1 then 1 else 0
theorem dt_indc (i : Nat) (c : Int) (x : Nat → Int) (n : Nat) : dt (fun k => if k = i then c else 0) x n = if i < n then c * x i else 0 := by
  rw [dt_congr (v := fun k => c * (if k = i then 1 else 0)) (z := x) n (fun k _ => by split <;> simp), dt_smul, dt_ind]
  split <;> simp
theorem torque_sum {d : Nat → Nat → Int32} (h : DV d) {g : Nat} {x : Nat → Int} (hx : TQ d g x) : x 10 - x 0 - dt (bs d g) (fun k => x (4 + k)) 6 = 0 := by
  have h1 : dt (fun i => dt (tqM d g i) x 11) (fun _ => 1) 6 = 0 := dt_zero 6 (fun i hi => by rw [hx i (by omega)]; simp)
  rw [dt_swap] at h1
  obtain ⟨n, m, gg, h7, h8, h9, e0, e1, e2, hs, he⟩ := h
  have f0 := dn_of e0 (by omega)
  have f1 := dn_of e1 (by omega)
  have c0 : dt (fun i => tqM d g i 0) (fun _ => 1) 6 = 1 := by
    rw [dt_congr (v := fun i => if i = 1 then 1 else 0) (z := fun _ => 1) 6 (fun i hi => by rw [tq_c0 d g i hi]), dt_ind, if_pos (by decide)]
  have c10 : dt (fun i => tqM d g i 10) (fun _ => 1) 6 = -1 := by
    rw [dt_congr (v := fun i => if i = 0 then -1 else 0) (z := fun _ => 1) 6 (fun i hi => by rw [tq_c10 d g i hi]), dt_indc, if_pos (by decide)]
    rfl
  have cs : ∀ k, k < 3 → dt (fun i => tqM d g i (1 + k)) (fun _ => 1) 6 = 0 := fun k hk => by
    rw [dt_congr (v := spM d g (1 + k)) (z := fun _ => 1) 6 (fun i hi => by rw [tq_sp hi (by omega) (by omega)])]
    by_cases q : k < n
    · obtain ⟨a, b, c, s, r, ⟨ha, hb, hc⟩, -, -, t0, t1, t2, t3, t4⟩ := hs k q
      have hsp : ∀ i, spM d g (1 + k) i = setc d k i := fun i => by
        unfold spM
        rw [if_neg (by omega), if_pos (by omega), show 1 + k - 1 = k by omega, if_pos (by omega)]
      rw [dt_congr (v := fun i => (if i = a then (dn d 3 k : Int) else 0) + ((if i = b then (dn d 4 k : Int) else 0) + (if i = c then -((dn d 3 k : Int) + dn d 4 k) else 0))) (z := fun _ => 1) 6 (fun i _ => by rw [hsp i]; unfold setc; rw [dn_of t0 (by omega), dn_of t1 (by omega), dn_of t2 (by omega)])]
      rw [dt_add, dt_add, dt_indc, dt_indc, dt_indc, if_pos ha, if_pos hb, if_pos hc]
      omega
    · exact dt_zero 6 (fun i _ => by
        have : spM d g (1 + k) i = 0 := by
          unfold spM
          rw [if_neg (by omega), if_pos (by omega), show 1 + k - 1 = k by omega, if_neg (by omega)]
        rw [this]; simp)
  have ce : ∀ k, k < 6 → dt (fun i => tqM d g i (4 + k)) (fun _ => 1) 6 = bs d g k := fun k hk => by
    rw [dt_congr (v := spM d g (4 + k)) (z := fun _ => 1) 6 (fun i hi => by rw [tq_sp hi (by omega) (by omega)])]
    have hsp : ∀ i, spM d g (4 + k) i = if k < dn d 8 1 ∧ g.testBit k = true then elc d k i else 0 := fun i => by
      unfold spM
      rw [if_neg (by omega), if_neg (by omega), show 4 + k - 4 = k by omega]
    unfold bs
    by_cases q : k < dn d 8 1 ∧ g.testBit k = true
    · obtain ⟨a, c, ha, t0, tb, -, -, -⟩ := he k (by omega)
      rcases tb with tb | ⟨b, hb, -, tb⟩
      · rw [if_pos ⟨q.1, q.2, tb⟩]
        rw [dt_congr (v := fun i => if i = a then 1 else 0) (z := fun _ => 1) 6 (fun i _ => by
          have e : (if 0 ≤ (-1 : Int32).toInt ∧ i = dn d 6 k then (-1 : Int) else 0) = 0 := if_neg (fun z => absurd z.1 (by decide))
          rw [hsp i, if_pos q]; unfold elc; rw [dn_of t0 (by omega), tb, e]; simp), dt_ind, if_pos ha]
      · have hb1 : (nI b).toInt = (b : Int) := nI_toIntI (by omega)
        rw [if_neg (fun z => by have z := z.2.2; rw [tb] at z; exact absurd z.symm (m1_ne (by omega)))]
        rw [dt_congr (v := fun i => (if i = a then 1 else 0) + (if i = b then -1 else 0)) (z := fun _ => 1) 6 (fun i _ => by
          rw [hsp i, if_pos q]; unfold elc; rw [dn_of t0 (by omega), dn_of tb (by omega), tb, hb1]
          congr 2
          by_cases z : i = b
          · rw [if_pos ⟨by omega, z⟩, if_pos z]
          · rw [if_neg (fun y => z y.2), if_neg z]), dt_add, dt_indc, dt_indc, if_pos ha, if_pos hb]
        rfl
    · rw [if_neg (fun z => q ⟨z.1, z.2.1⟩)]
      exact dt_zero 6 (fun i _ => by rw [hsp i, if_neg q]; simp)
  have h2 : 0 + dt (fun i => tqM d g i 0) (fun _ => 1) 6 * x 0 + dt (fun i => tqM d g i (1 + 0)) (fun _ => 1) 6 * x 1 + dt (fun i => tqM d g i (1 + 1)) (fun _ => 1) 6 * x 2 + dt (fun i => tqM d g i (1 + 2)) (fun _ => 1) 6 * x 3 + dt (fun i => tqM d g i (4 + 0)) (fun _ => 1) 6 * x 4 + dt (fun i => tqM d g i (4 + 1)) (fun _ => 1) 6 * x 5 + dt (fun i => tqM d g i (4 + 2)) (fun _ => 1) 6 * x 6 + dt (fun i => tqM d g i (4 + 3)) (fun _ => 1) 6 * x 7 + dt (fun i => tqM d g i (4 + 4)) (fun _ => 1) 6 * x 8 + dt (fun i => tqM d g i (4 + 5)) (fun _ => 1) 6 * x 9 + dt (fun i => tqM d g i 10) (fun _ => 1) 6 * x 10 = 0 := h1
  rw [c0, c10, cs 0 (by decide), cs 1 (by decide), cs 2 (by decide), ce 0 (by decide), ce 1 (by decide), ce 2 (by decide), ce 3 (by decide), ce 4 (by decide), ce 5 (by decide)] at h2
  show x 10 - x 0 - (0 + bs d g 0 * x 4 + bs d g 1 * x 5 + bs d g 2 * x 6 + bs d g 3 * x 7 + bs d g 4 * x 8 + bs d g 5 * x 9) = 0
  omega
/-! nothing engaged: all shafts may turn alike -/
theorem still_state {d : Nat → Nat → Int32} (h : DV d) : stM d 0 = 0 ∨ stM d 0 = 2 := by
  let w : Nat → Int := fun j => if j < 6 then 1 else if j = 10 then -1 else 0
  have hw : SP d 0 w := fun i hi => by
    by_cases z : i = 0
    · subst z
      rw [dt_two (a := 0) (b := 10) (by decide) 11 (fun j hj ha hb => by rw [sp_r0, if_neg ha, if_neg hb]; simp), if_pos (by decide), if_pos (by decide), sp_r0, sp_r0, if_pos rfl, if_neg (by decide), if_pos rfl]
      rfl
    · rw [sp_six h (by omega)]
      obtain ⟨n, m, gg, h7, h8, h9, e0, e1, e2, hs, he⟩ := h
      have f0 := dn_of e0 (by omega)
      by_cases q : i < 4 ∧ i - 1 < n
      · obtain ⟨a, b, c, s, r, ⟨ha, hb, hc⟩, -, -, t0, t1, t2, t3, t4⟩ := hs (i - 1) q.2
        rw [dt_congr (v := fun j => (if j = a then (dn d 3 (i - 1) : Int) else 0) + ((if j = b then (dn d 4 (i - 1) : Int) else 0) + (if j = c then -((dn d 3 (i - 1) : Int) + dn d 4 (i - 1)) else 0))) (z := fun _ => 1) 6 (fun j hj => by
          have hs1 : spM d 0 i j = setc d (i - 1) j := by unfold spM; rw [if_neg z, if_pos q.1, if_pos (by omega)]
          have hw1 : w j = 1 := if_pos hj
          rw [hs1, hw1]; unfold setc; rw [dn_of t0 (by omega), dn_of t1 (by omega), dn_of t2 (by omega)])]
        rw [dt_add, dt_add, dt_indc, dt_indc, dt_indc, if_pos ha, if_pos hb, if_pos hc]
        omega
      · exact dt_zero 6 (fun j _ => by
          have : spM d 0 i j = 0 := by
            unfold spM
            rw [if_neg z]
            by_cases y : i < 4
            · rw [if_pos y, if_neg (by omega)]
            · rw [if_neg y, if_neg (fun u => by simp at u)]
          rw [this]; simp)
  have hS : Solv (SP d 0) := ⟨w, hw, by decide⟩
  by_cases hD : DetS (SP d 0) 1
  · refine Or.inl (stC_0 hS hD (fun q => ?_))
    obtain ⟨D9, hD9, hT9, hvals⟩ := vals (sp_zero h 0) (MT_spM h 0 10) hS
    obtain ⟨-, -, hLT⟩ := hvals 1 (by decide) hD
    have h1 := hLT.2.2 w hw
    rw [q] at h1
    have w1 : w 1 = 1 := rfl
    rw [w1] at h1
    have := hLT.1
    omega
  · exact Or.inr (stC_2 hS hD)
end DU
