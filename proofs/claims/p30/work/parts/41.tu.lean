/-! minors of incidence rows are 0, 1 or -1 -/
section TU
theorem mx_swap {a b : (Nat → Int) → Int} : ∀ (l : List (Nat → Int)) (G : List (Nat → Int) → Int), mx (fun r q => a r * mx (fun r' q' => b r' * G q') q) l = - mx (fun r q => b r * mx (fun r' q' => a r' * G q') q) l
  | [], _ => rfl
  | x :: l, G => by
    show a x * mx (fun r' q' => b r' * G q') l - mx (fun t q => a t * mx (fun r' q' => b r' * G q') (x :: q)) l = -(b x * mx (fun r' q' => a r' * G q') l - mx (fun t q => b t * mx (fun r' q' => a r' * G q') (x :: q)) l)
    have h1 : ∀ c d : (Nat → Int) → Int, mx (fun t q => c t * mx (fun r' q' => d r' * G q') (x :: q)) l = d x * mx (fun t q => c t * G q) l - mx (fun t q => c t * mx (fun r' q' => d r' * G (x :: q')) q) l := fun c d => by
      have e := mx_congr l (fun t q => c t * mx (fun r' q' => d r' * G q') (x :: q)) (fun t q => d x * (c t * G q) + (-1) * (c t * mx (fun r' q' => d r' * G (x :: q')) q)) (fun t q _ => by
        show c t * (d x * G q - mx (fun r' q' => d r' * G (x :: q')) q) = _
        grind)
      rw [e, mx_lin]
      omega
    rw [h1 a b, h1 b a, mx_swap l (fun q => G (x :: q))]
    omega
theorem mn_cswap (i j : Nat) (cs : List Nat) (l : List (Nat → Int)) : mn (i :: j :: cs) l = - mn (j :: i :: cs) l := mx_swap (a := fun r => r i) (b := fun r => r j) l (mn cs)
theorem mn_cperm {cs cs' : List Nat} (h : cs.Perm cs') : ∃ e : Int, (e = 1 ∨ e = -1) ∧ ∀ l, mn cs l = e * mn cs' l := by
  induction h with
  | nil => exact ⟨1, Or.inl rfl, fun l => by simp⟩
  | @cons x l1 l2 h ih =>
    obtain ⟨e, he, h1⟩ := ih
    refine ⟨e, he, fun l => ?_⟩
    show mx (fun r q => r x * mn l1 q) l = e * mx (fun r q => r x * mn l2 q) l
    rw [mx_congr l (fun r q => r x * mn l1 q) (fun r q => e * (r x * mn l2 q) + 0 * (r x * mn l2 q)) (fun r q _ => by rw [h1 q]; grind), mx_lin]
    simp
  | swap x y l => exact ⟨-1, Or.inr rfl, fun r => by rw [mn_cswap]; grind⟩
  | trans h1 h2 ih1 ih2 =>
    obtain ⟨e1, g1, k1⟩ := ih1
    obtain ⟨e2, g2, k2⟩ := ih2
    refine ⟨e1 * e2, ?_, fun l => by rw [k1 l, k2 l]; grind⟩
    rcases g1 with rfl | rfl <;> rcases g2 with rfl | rfl <;> simp
theorem mn_cdup {i : Nat} {cs : List Nat} (h : i ∈ cs) (l : List (Nat → Int)) : mn (i :: cs) l = 0 := by
  obtain ⟨e, he, hk⟩ := mn_cperm ((List.perm_cons_erase h).cons i)
  have h1 := mn_cswap i i (cs.erase i) l
  rw [hk l, show mn (i :: i :: cs.erase i) l = 0 by omega]
  simp
/-- a row with one entry at most, in front -/
theorem mn_one_entry {k : Nat} : ∀ (cs : List Nat), k ∈ cs → cs.Nodup → ∃ e : Int, (e = 1 ∨ e = -1) ∧ ∀ (r : Nat → Int) (l : List (Nat → Int)), (∀ j ∈ cs, j ≠ k → r j = 0) → mn cs (r :: l) = e * (r k * mn (cs.erase k) l) := by
  intro cs hk hn
  obtain ⟨e, he, h1⟩ := mn_cperm (List.perm_cons_erase hk)
  refine ⟨e, he, fun r l hz => ?_⟩
  rw [h1, mn_front k _ _ (fun j hj => hz j (List.mem_of_mem_erase hj) (fun z => by subst z; exact hn.not_mem_erase hj))]
  grind
/-- the sum of a row's entries in some columns -/
def sC (cs : List Nat) (r : Nat → Int) : Int := match cs with
  | [] => 0
  | j :: cs => r j + sC cs r
theorem mx_sum (l : List (Nat → Int)) (G : List (Nat → Int) → Int) : ∀ cs : List Nat, (∀ i ∈ cs, mx (fun r q => r i * G q) l = 0) → mx (fun r q => sC cs r * G q) l = 0
  | [], _ => mx_zero l _ (fun r q _ => by show (0 : Int) * G q = 0; simp)
  | j :: cs, h => by
    have e := mx_congr l (fun r q => sC (j :: cs) r * G q) (fun r q => 1 * (r j * G q) + 1 * (sC cs r * G q)) (fun r q _ => by
      show (r j + sC cs r) * G q = _
      grind)
    rw [e, mx_lin, h j List.mem_cons_self, mx_sum l G cs (fun i hi => h i (List.mem_cons_of_mem _ hi))]
    rfl
theorem mn_sum0 {j : Nat} {cs : List Nat} {l : List (Nat → Int)} (h : ∀ r ∈ l, sC (j :: cs) r = 0) : mn (j :: cs) l = 0 := by
  have h1 : mx (fun r q => sC cs r * mn cs q) l = 0 := mx_sum l (mn cs) cs (fun i hi => mn_cdup hi l)
  show mx (fun r q => r j * mn cs q) l = 0
  rw [mx_congr l (fun r q => r j * mn cs q) (fun r q => (-1) * (sC cs r * mn cs q) + 0 * (sC cs r * mn cs q)) (fun r q hq => by
    have h2 : r j + sC cs r = 0 := h r (hq.subset List.mem_cons_self)
    have h3 : r j = - sC cs r := by omega
    rw [h3]
    grind), mx_lin, h1]
  rfl
/-- a row of an incidence matrix, in the columns at hand -/
def NR (w : Nat → Int) : Prop := ∃ a b : Nat, ∀ j, j < 11 → w j = (if j = a then 1 else 0) - (if j = b then 1 else 0)
theorem sC_ind (a : Nat) : ∀ cs : List Nat, cs.Nodup → sC cs (fun j => if j = a then 1 else 0) = if a ∈ cs then 1 else 0
  | [], _ => by simp [sC]
  | j :: cs, h => by
    obtain ⟨h1, h2⟩ := List.nodup_cons.mp h
    show (if j = a then 1 else 0) + sC cs _ = _
    rw [sC_ind a cs h2]
    by_cases z : j = a
    · subst z
      rw [if_pos rfl, if_neg h1, if_pos List.mem_cons_self]
      rfl
    · rw [if_neg z]
      by_cases q : a ∈ cs
      · rw [if_pos q, if_pos (List.mem_cons_of_mem _ q)]; rfl
      · rw [if_neg q, if_neg (fun m => (List.mem_cons.mp m).elim (fun e => z e.symm) q)]; rfl
theorem sC_congr {u w : Nat → Int} : ∀ cs : List Nat, (∀ j ∈ cs, u j = w j) → sC cs u = sC cs w
  | [], _ => rfl
  | j :: cs, h => by
    show u j + sC cs u = w j + sC cs w
    rw [h j List.mem_cons_self, sC_congr cs (fun k hk => h k (List.mem_cons_of_mem _ hk))]
theorem sC_sub (u w : Nat → Int) : ∀ cs : List Nat, sC cs (fun j => u j - w j) = sC cs u - sC cs w
  | [] => rfl
  | j :: cs => by
    show (u j - w j) + sC cs _ = (u j + sC cs u) - (w j + sC cs w)
    rw [sC_sub u w cs]
    omega
theorem NR_sum {w : Nat → Int} {a b : Nat} {cs : List Nat} (hn : cs.Nodup) (hlt : ∀ c ∈ cs, c < 11) (h : ∀ j, j < 11 → w j = (if j = a then 1 else 0) - (if j = b then 1 else 0)) (hab : a ∈ cs ↔ b ∈ cs) : sC cs w = 0 := by
  rw [sC_congr (w := fun j => (if j = a then (1 : Int) else 0) - (if j = b then 1 else 0)) cs (fun j hj => h j (hlt j hj)), sC_sub, sC_ind a cs hn, sC_ind b cs hn]
  by_cases q : a ∈ cs
  · rw [if_pos q, if_pos (hab.mp q)]; rfl
  · rw [if_neg q, if_neg (fun z => q (hab.mpr z))]; rfl
theorem mn_TU : ∀ (m : Nat) (cs : List Nat) (l : List (Nat → Int)), cs.length = m → cs.Nodup → (∀ c ∈ cs, c < 11) → (∀ r ∈ l, NR r) → (mn cs l).natAbs ≤ 1
  | 0, [], l, _, _, _, _ => by
    cases l with
    | nil => decide
    | cons r l => show (0 : Int).natAbs ≤ 1; decide
  | m + 1, j :: cs, l, hm, hn, hlt, hl => by
    by_cases hall : ∀ r ∈ l, sC (j :: cs) r = 0
    · rw [mn_sum0 hall]; exact Nat.zero_le _
    · obtain ⟨r, hr, hs⟩ : ∃ r, r ∈ l ∧ ¬ sC (j :: cs) r = 0 := Classical.byContradiction fun z => hall (fun r hr => Classical.byContradiction fun q => z ⟨r, hr, q⟩)
      obtain ⟨a, b, hw⟩ := hl r hr
      obtain ⟨s1, s2, rfl⟩ := List.append_of_mem hr
      obtain ⟨e1, he1, hk1⟩ := mn_perm (show (s1 ++ r :: s2).Perm (r :: (s1 ++ s2)) from List.perm_middle)
      have hl2 : ∀ z ∈ s1 ++ s2, NR z := fun z hz => hl z (by
        rcases List.mem_append.mp hz with q | q
        · exact List.mem_append_left _ q
        · exact List.mem_append_right _ (List.mem_cons_of_mem _ q))
      have key : ∀ k, k ∈ j :: cs → (∀ i ∈ j :: cs, i ≠ k → r i = 0) → (r k = 1 ∨ r k = -1) → (mn (j :: cs) (s1 ++ r :: s2)).natAbs ≤ 1 := fun k hk hz h1 => by
        obtain ⟨e2, he2, hk2⟩ := mn_one_entry (j :: cs) hk hn
        have ih := mn_TU m ((j :: cs).erase k) (s1 ++ s2) (by rw [List.length_erase_of_mem hk, hm]; rfl) (hn.erase k) (fun c hc => hlt c (List.mem_of_mem_erase hc)) hl2
        rw [hk1, hk2 r _ hz]
        rcases he1 with rfl | rfl <;> rcases he2 with rfl | rfl <;> rcases h1 with z | z <;> rw [z] <;> omega
      by_cases ha : a ∈ j :: cs
      · by_cases hb : b ∈ j :: cs
        · exact absurd (NR_sum hn hlt hw ⟨fun _ => hb, fun _ => ha⟩) hs
        · refine key a ha (fun i hi hne => ?_) (Or.inl ?_)
          · rw [hw i (hlt i hi), if_neg hne, if_neg (fun z => hb (by rw [← z]; exact hi))]; rfl
          · rw [hw a (hlt a ha), if_pos rfl, if_neg (fun z => hb (by rw [← z]; exact ha))]; rfl
      · by_cases hb : b ∈ j :: cs
        · refine key b hb (fun i hi hne => ?_) (Or.inr ?_)
          · rw [hw i (hlt i hi), if_neg (fun z => ha (by rw [← z]; exact hi)), if_neg hne]; rfl
          · rw [hw b (hlt b hb), if_neg (fun z => ha (by rw [← z]; exact hb)), if_pos rfl]; rfl
        · exact absurd (NR_sum hn hlt hw ⟨fun z => absurd z ha, fun z => absurd z hb⟩) hs
/-- a sum of two incidence rows, its weights within B -/
def WR (B : Nat) (w : Nat → Int) : Prop := ∃ (p q : Nat) (u v : Nat → Int), NR u ∧ NR v ∧ p + q ≤ B ∧ ∀ j, w j = (p : Int) * u j + (q : Int) * v j
theorem mn_WR {b : Nat → Nat} {M0 : Nat → Nat → Int} {cs : List Nat} (hn : cs.Nodup) (hlt : ∀ c ∈ cs, c < 11) : ∀ (rs : List Nat) (l : List (Nat → Int)), (∀ r ∈ rs, WR (b r) (M0 r)) → (∀ r ∈ l, NR r) → (mn cs (rs.map M0 ++ l)).natAbs ≤ pB b rs
  | [], l, _, hl => mn_TU cs.length cs l rfl hn hlt hl
  | r :: rs, l, h, hl => by
    obtain ⟨p, q, u, v, hu, hv, hpq, hw⟩ := h r List.mem_cons_self
    have hsub : ∀ r ∈ rs, WR (b r) (M0 r) := fun z hz => h z (List.mem_cons_of_mem _ hz)
    have key : ∀ x, NR x → (mn cs (x :: (rs.map M0 ++ l))).natAbs ≤ pB b rs := fun x hx => by
      obtain ⟨e, he, hk⟩ := mn_perm (show (x :: (rs.map M0 ++ l)).Perm (rs.map M0 ++ x :: l) from List.perm_middle.symm)
      have ih := mn_WR hn hlt rs (x :: l) hsub (fun z hz => (List.mem_cons.mp hz).elim (fun e => by rw [e]; exact hx) (hl z))
      rw [hk]
      rcases he with rfl | rfl <;> omega
    have k1 := key u hu
    have k2 := key v hv
    show (mn cs (M0 r :: (rs.map M0 ++ l))).natAbs ≤ b r * pB b rs
    rw [mn_lin (p : Int) (q : Int) hw]
    have h1 : ((p : Int) * mn cs (u :: (rs.map M0 ++ l))).natAbs ≤ p * pB b rs := by rw [Int.natAbs_mul]; exact Nat.mul_le_mul (Nat.le_refl _) k1
    have h2 : ((q : Int) * mn cs (v :: (rs.map M0 ++ l))).natAbs ≤ q * pB b rs := by rw [Int.natAbs_mul]; exact Nat.mul_le_mul (Nat.le_refl _) k2
    have h3 : p * pB b rs + q * pB b rs ≤ b r * pB b rs := by rw [← Nat.add_mul]; exact Nat.mul_le_mul_right _ hpq
    omega
/-! the speeds' rows -/
def wT (i : Nat) : Nat := if i = 0 then 2 else if i < 4 then 140 else 1
theorem NR_at (a b : Nat) {w : Nat → Int} (h : ∀ j, j < 11 → w j = (if j = a then 1 else 0) - (if j = b then 1 else 0)) : NR w := ⟨a, b, h⟩
theorem NR_zero {w : Nat → Int} (h : ∀ j, w j = 0) : NR w := ⟨11, 11, fun j hj => by rw [h j]; omega⟩
theorem WR_of {w : Nat → Int} {B : Nat} (hB : 1 ≤ B) (h : NR w) : WR B w := ⟨1, 0, w, w, h, h, by omega, fun j => by omega⟩
theorem WR_spM {d : Nat → Nat → Int32} (h : DV d) (g i : Nat) : WR (wT i) (spM d g i) := by
  obtain ⟨n, m, gg, h1, h2, h3, e0, e1, e2, hs, he⟩ := h
  have f0 := dn_of e0 (by omega)
  have f1 := dn_of e1 (by omega)
  unfold wT
  by_cases q0 : i = 0
  · subst q0
    rw [if_pos rfl]
    refine ⟨1, 1, fun j => if j = 0 then 1 else 0, fun j => if j = 10 then 1 else 0, NR_at 0 11 (fun j hj => ?_), NR_at 10 11 (fun j hj => ?_), by decide, fun j => ?_⟩
    · show (if j = 0 then (1 : Int) else 0) = _
      rw [if_neg (show ¬ j = 11 by omega)]; omega
    · show (if j = 10 then (1 : Int) else 0) = _
      rw [if_neg (show ¬ j = 11 by omega)]; omega
    · show (if 0 = 0 then (if j = 0 then (1 : Int) else if j = 10 then 1 else 0) else _) = _
      rw [if_pos rfl]
      by_cases z : j = 0
      · subst z; simp
      · simp [z]
  · rw [if_neg q0]
    by_cases q1 : i < 4
    · rw [if_pos q1]
      by_cases q2 : i - 1 < dn d 8 0
      · obtain ⟨a, b, c, s, r, -, -, ⟨b1, b2, b3, b4⟩, t0, t1, t2, t3, t4⟩ := hs (i - 1) (by omega)
        refine ⟨dn d 3 (i - 1), dn d 4 (i - 1), fun j => (if j = dn d 0 (i - 1) then 1 else 0) - (if j = dn d 2 (i - 1) then 1 else 0), fun j => (if j = dn d 1 (i - 1) then 1 else 0) - (if j = dn d 2 (i - 1) then 1 else 0), ⟨_, _, fun j _ => rfl⟩, ⟨_, _, fun j _ => rfl⟩, by rw [dn_of t3 (by omega), dn_of t4 (by omega)]; omega, fun j => ?_⟩
        unfold spM setc
        rw [if_neg q0, if_pos q1, if_pos q2]
        generalize (dn d 3 (i - 1) : Int) = S
        generalize (dn d 4 (i - 1) : Int) = R
        by_cases z0 : j = dn d 0 (i - 1) <;> by_cases z1 : j = dn d 1 (i - 1) <;> by_cases z2 : j = dn d 2 (i - 1) <;> simp only [z0, z1, z2, if_true, if_false] <;> first | grind | (simp; grind) | simp
      · exact WR_of (by decide) (NR_zero (fun j => by unfold spM; rw [if_neg q0, if_pos q1, if_neg q2]))
    · rw [if_neg q1]
      by_cases q2 : i - 4 < dn d 8 1 ∧ g.testBit (i - 4) = true
      · refine WR_of (by decide) ?_
        by_cases q3 : 0 ≤ (d 6 (i - 4)).toInt
        · refine NR_at (dn d 5 (i - 4)) (dn d 6 (i - 4)) (fun j hj => ?_)
          unfold spM elc
          rw [if_neg q0, if_neg q1, if_pos q2]
          have e : (if 0 ≤ (d 6 (i - 4)).toInt ∧ j = dn d 6 (i - 4) then (-1 : Int) else 0) = -(if j = dn d 6 (i - 4) then 1 else 0) := by
            by_cases z : j = dn d 6 (i - 4)
            · rw [if_pos z, if_pos ⟨q3, z⟩]
            · rw [if_neg z, if_neg (fun y => z y.2)]; rfl
          rw [e]
          omega
        · refine NR_at (dn d 5 (i - 4)) 11 (fun j hj => ?_)
          unfold spM elc
          have e : (if 0 ≤ (d 6 (i - 4)).toInt ∧ j = dn d 6 (i - 4) then (-1 : Int) else 0) = 0 := if_neg (fun y => q3 y.1)
          rw [if_neg q0, if_neg q1, if_pos q2, e, if_neg (show ¬ j = 11 by omega)]; omega
      · exact WR_of (by decide) (NR_zero (fun j => by unfold spM; rw [if_neg q0, if_neg q1, if_neg q2]))
def cnt0 : List Nat → Nat
  | [] => 0
  | r :: rs => (if r = 0 then 1 else 0) + cnt0 rs
theorem cnt0_mem : ∀ {rs : List Nat}, 0 ∉ rs → cnt0 rs = 0
  | [], _ => rfl
  | r :: rs, h => by
    show (if r = 0 then 1 else 0) + cnt0 rs = 0
    rw [if_neg (fun z => h (by rw [z]; exact List.mem_cons_self)), cnt0_mem (fun z => h (List.mem_cons_of_mem _ z))]
theorem cnt0_le : ∀ {rs : List Nat}, rs.Nodup → cnt0 rs ≤ 1
  | [], _ => Nat.zero_le _
  | r :: rs, h => by
    obtain ⟨h1, h2⟩ := List.nodup_cons.mp h
    show (if r = 0 then 1 else 0) + cnt0 rs ≤ 1
    by_cases z : r = 0
    · subst z
      rw [if_pos rfl, cnt0_mem h1]
      omega
    · rw [if_neg z]
      have := cnt0_le h2
      omega
theorem pB_wT : ∀ rs : List Nat, pB wT rs = 2 ^ cnt0 rs * 140 ^ cnt3 rs
  | [] => rfl
  | r :: rs => by
    show wT r * pB wT rs = 2 ^ ((if r = 0 then 1 else 0) + cnt0 rs) * 140 ^ ((if 1 ≤ r ∧ r ≤ 3 then 1 else 0) + cnt3 rs)
    rw [pB_wT rs]
    unfold wT
    by_cases z : r = 0
    · subst z
      rw [if_pos rfl, if_pos rfl, if_neg (by omega), Nat.zero_add, Nat.pow_add, Nat.mul_assoc]
    · rw [if_neg z, if_neg z, Nat.zero_add]
      by_cases y : r < 4
      · rw [if_pos y, if_pos (by omega), Nat.pow_add]
        have : (140 : Nat) ^ 1 = 140 := rfl
        rw [this]
        simp only [Nat.mul_assoc, Nat.mul_comm, Nat.mul_left_comm]
      · rw [if_neg y, if_neg (by omega), Nat.zero_add, Nat.one_mul]
theorem MT_spM {d : Nat → Nat → Int32} (h : DV d) (g n : Nat) : MT 5488000 (spM d g) n := by
  intro rs cs h1 h2 h3 h4
  have k := mn_WR (b := wT) (M0 := spM d g) h3 h4 rs [] (fun r _ => WR_spM h g r) (fun r hr => absurd hr List.not_mem_nil)
  rw [List.append_nil, pB_wT] at k
  have a1 : 2 ^ cnt0 rs ≤ 2 ^ 1 := Nat.pow_le_pow_right (by decide) (cnt0_le h1)
  have a2 : 140 ^ cnt3 rs ≤ 140 ^ 3 := Nat.pow_le_pow_right (by decide) (cnt3_le h1)
  exact Nat.le_trans k (Nat.le_trans (Nat.mul_le_mul a1 a2) (by decide))
theorem MT_tqM {d : Nat → Nat → Int32} (h : DV d) (g n : Nat) : MT BB (tqM d g) n := MB_tqM h g n
end TU
