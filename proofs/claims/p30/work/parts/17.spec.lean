/-! a design, its equations, their bounds -/
section SP
def dn (d : Nat → Nat → Int32) (k j : Nat) : Nat := (d k j).toInt.toNat
theorem dn_of {d : Nat → Nat → Int32} {k j a : Nat} (h : d k j = nI a) (ha : a < 2147483648) : dn d k j = a := by
  unfold dn
  rw [h, nI_toIntI ha]
  omega
/-- a gear set's coefficients at the shafts -/
def setc (d : Nat → Nat → Int32) (k j : Nat) : Int := (if j = dn d 0 k then (dn d 3 k : Int) else 0) + ((if j = dn d 1 k then (dn d 4 k : Int) else 0) + (if j = dn d 2 k then -((dn d 3 k : Int) + dn d 4 k) else 0))
/-- an element's coefficients -/
def elc (d : Nat → Nat → Int32) (e j : Nat) : Int := (if j = dn d 5 e then 1 else 0) + (if 0 ≤ (d 6 e).toInt ∧ j = dn d 6 e then -1 else 0)
def spM (d : Nat → Nat → Int32) (g i j : Nat) : Int := if i = 0 then (if j = 0 then 1 else if j = 10 then 1 else 0) else if i < 4 then (if i - 1 < dn d 8 0 then setc d (i - 1) j else 0) else if i - 4 < dn d 8 1 ∧ g.testBit (i - 4) = true then elc d (i - 4) j else 0
def tqM (d : Nat → Nat → Int32) (g i j : Nat) : Int := if 6 ≤ i then 0 else if j = 10 then (if i = 0 then -1 else 0) else if j = 0 then (if i = 1 then 1 else 0) else if j < 4 then (if j - 1 < dn d 8 0 then setc d (j - 1) i else 0) else if j < 10 ∧ j - 4 < dn d 8 1 ∧ g.testBit (j - 4) = true then elc d (j - 4) i else 0
def SetV (d : Nat → Nat → Int32) (k : Nat) : Prop := ∃ a b c s r : Nat, (a < 6 ∧ b < 6 ∧ c < 6) ∧ (a ≠ b ∧ a ≠ c ∧ b ≠ c) ∧ (10 ≤ s ∧ s ≤ 40 ∧ s < r ∧ r ≤ 100) ∧ d 0 k = nI a ∧ d 1 k = nI b ∧ d 2 k = nI c ∧ d 3 k = nI s ∧ d 4 k = nI r
def ElV (d : Nat → Nat → Int32) (e : Nat) : Prop := ∃ a c : Nat, a < 6 ∧ d 5 e = nI a ∧ (d 6 e = -1 ∨ ∃ b : Nat, b < 6 ∧ b ≠ a ∧ d 6 e = nI b) ∧ 1 ≤ c ∧ c ≤ 10000 ∧ d 7 e = nI c
def DV (d : Nat → Nat → Int32) : Prop := ∃ n m g : Nat, n ≤ 3 ∧ m ≤ 6 ∧ g < 2 ^ m ∧ d 8 0 = nI n ∧ d 8 1 = nI m ∧ d 8 2 = nI g ∧ (∀ k, k < n → SetV d k) ∧ (∀ e, e < m → ElV d e)
/-! sums over lists without repetition -/
theorem rN_ind (a : Nat) (v : Int) : ∀ cs : List Nat, cs.Nodup → rN cs (fun j => if j = a then v else 0) ≤ v.natAbs
  | [], _ => Nat.zero_le _
  | j :: cs, h => by
    obtain ⟨h1, h2⟩ := List.nodup_cons.mp h
    show (if j = a then v else 0).natAbs + rN cs _ ≤ _
    by_cases q : j = a
    · subst q
      rw [if_pos rfl]
      have : rN cs (fun i => if i = j then v else 0) = 0 := by
        clear h h2
        induction cs with
        | nil => rfl
        | cons k cs ih =>
          rw [List.mem_cons, not_or] at h1
          show (if k = j then v else 0).natAbs + rN cs _ = 0
          rw [if_neg (fun z => h1.1 z.symm), ih h1.2]
          rfl
      rw [this]
      exact Nat.le_refl _
    · rw [if_neg q]
      have := rN_ind a v cs h2
      simpa using this
theorem rN_add (u w : Nat → Int) : ∀ cs : List Nat, rN cs (fun j => u j + w j) ≤ rN cs u + rN cs w
  | [] => Nat.le_refl _
  | j :: cs => by
    show (u j + w j).natAbs + rN cs _ ≤ ((u j).natAbs + rN cs u) + ((w j).natAbs + rN cs w)
    have := rN_add u w cs
    omega
theorem rN_congr {u w : Nat → Int} : ∀ cs : List Nat, (∀ j ∈ cs, u j = w j) → rN cs u = rN cs w
  | [], _ => rfl
  | j :: cs, h => by
    show (u j).natAbs + rN cs u = (w j).natAbs + rN cs w
    rw [h j List.mem_cons_self, rN_congr cs (fun k hk => h k (List.mem_cons_of_mem _ hk))]
theorem rN_zero : ∀ cs : List Nat, rN cs (fun _ => 0) = 0
  | [] => rfl
  | j :: cs => by
    show 0 + rN cs (fun _ => 0) = 0
    rw [rN_zero cs]
theorem rN_setc {d : Nat → Nat → Int32} {k : Nat} (h : SetV d k) {cs : List Nat} (hn : cs.Nodup) : rN cs (setc d k) ≤ 280 := by
  obtain ⟨a, b, c, s, r, -, -, ⟨h1, h2, h3, h4⟩, e0, e1, e2, e3, e4⟩ := h
  have f3 := dn_of e3 (by omega)
  have f4 := dn_of e4 (by omega)
  have i1 := rN_ind (dn d 0 k) (dn d 3 k : Int) cs hn
  have i2 := rN_ind (dn d 1 k) (dn d 4 k : Int) cs hn
  have i3 := rN_ind (dn d 2 k) (-((dn d 3 k : Int) + dn d 4 k)) cs hn
  have j1 := rN_add (fun j => if j = dn d 1 k then (dn d 4 k : Int) else 0) (fun j => if j = dn d 2 k then -((dn d 3 k : Int) + dn d 4 k) else 0) cs
  have j2 := rN_add (fun j => if j = dn d 0 k then (dn d 3 k : Int) else 0) (fun j => (if j = dn d 1 k then (dn d 4 k : Int) else 0) + (if j = dn d 2 k then -((dn d 3 k : Int) + dn d 4 k) else 0)) cs
  have e : rN cs (setc d k) = rN cs (fun j => (if j = dn d 0 k then (dn d 3 k : Int) else 0) + ((if j = dn d 1 k then (dn d 4 k : Int) else 0) + (if j = dn d 2 k then -((dn d 3 k : Int) + dn d 4 k) else 0))) := rfl
  rw [e]
  rw [f3, f4] at *
  omega
theorem rN_elc (d : Nat → Nat → Int32) (k : Nat) {cs : List Nat} (hn : cs.Nodup) : rN cs (elc d k) ≤ 2 := by
  have i1 := rN_ind (dn d 5 k) 1 cs hn
  have j1 := rN_add (fun j => if j = dn d 5 k then (1 : Int) else 0) (fun j => if 0 ≤ (d 6 k).toInt ∧ j = dn d 6 k then (-1 : Int) else 0) cs
  have i2 : rN cs (fun j => if 0 ≤ (d 6 k).toInt ∧ j = dn d 6 k then (-1 : Int) else 0) ≤ 1 := by
    by_cases q : 0 ≤ (d 6 k).toInt
    · have := rN_ind (dn d 6 k) (-1) cs hn
      rw [rN_congr (w := fun j => if j = dn d 6 k then (-1 : Int) else 0) cs (fun j _ => by simp [q])]
      exact this
    · rw [rN_congr (w := fun _ => (0 : Int)) cs (fun j _ => by simp [q]), rN_zero]
      exact Nat.zero_le _
  have e : rN cs (elc d k) = rN cs (fun j => (if j = dn d 5 k then (1 : Int) else 0) + (if 0 ≤ (d 6 k).toInt ∧ j = dn d 6 k then (-1 : Int) else 0)) := rfl
  rw [e]
  have : (1 : Int).natAbs = 1 := rfl
  omega
def wB (i : Nat) : Nat := if 1 ≤ i ∧ i ≤ 3 then 280 else 2
theorem rN_spM {d : Nat → Nat → Int32} (h : DV d) (g i : Nat) {cs : List Nat} (hn : cs.Nodup) : rN cs (spM d g i) ≤ wB i := by
  obtain ⟨n, m, gg, h1, h2, h3, e0, e1, e2, hs, he⟩ := h
  have f0 := dn_of e0 (by omega)
  unfold wB
  by_cases q0 : i = 0
  · subst q0
    have i1 := rN_ind 0 1 cs hn
    have i2 := rN_ind 10 1 cs hn
    have j1 := rN_add (fun j => if j = 0 then (1 : Int) else 0) (fun j => if j = 10 then (1 : Int) else 0) cs
    rw [rN_congr (w := fun j => (if j = 0 then (1 : Int) else 0) + (if j = 10 then (1 : Int) else 0)) cs (fun j _ => by
      show (if 0 = 0 then (if j = 0 then (1 : Int) else if j = 10 then 1 else 0) else _) = _
      rw [if_pos rfl]
      by_cases q : j = 0
      · subst q; simp
      · simp [q])]
    rw [if_neg (by omega)]
    have : (1 : Int).natAbs = 1 := rfl
    omega
  · by_cases q1 : i < 4
    · rw [if_pos (by omega)]
      by_cases q2 : i - 1 < dn d 8 0
      · rw [rN_congr (w := setc d (i - 1)) cs (fun j _ => by unfold spM; rw [if_neg q0, if_pos q1, if_pos q2])]
        exact rN_setc (hs _ (by omega)) hn
      · rw [rN_congr (w := fun _ => 0) cs (fun j _ => by unfold spM; rw [if_neg q0, if_pos q1, if_neg q2]), rN_zero]
        exact Nat.zero_le _
    · rw [if_neg (by omega)]
      by_cases q2 : i - 4 < dn d 8 1 ∧ g.testBit (i - 4) = true
      · rw [rN_congr (w := elc d (i - 4)) cs (fun j _ => by unfold spM; rw [if_neg q0, if_neg q1, if_pos q2])]
        exact rN_elc d _ hn
      · rw [rN_congr (w := fun _ => 0) cs (fun j _ => by unfold spM; rw [if_neg q0, if_neg q1, if_neg q2]), rN_zero]
        exact Nat.zero_le _
theorem setc_lt {d : Nat → Nat → Int32} {k j : Nat} (h : SetV d k) (hj : 6 ≤ j) : setc d k j = 0 := by
  obtain ⟨a, b, c, s, r, ⟨ha, hb, hc⟩, -, -, e0, e1, e2, -, -⟩ := h
  unfold setc
  rw [dn_of e0 (by omega), dn_of e1 (by omega), dn_of e2 (by omega), if_neg (by omega), if_neg (by omega), if_neg (by omega)]
  rfl
theorem elc_lt {d : Nat → Nat → Int32} {k j : Nat} (h : ElV d k) (hj : 6 ≤ j) : elc d k j = 0 := by
  obtain ⟨a, c, ha, e0, hb, -, -, -⟩ := h
  unfold elc
  rw [dn_of e0 (by omega), if_neg (by omega)]
  rcases hb with e1 | ⟨b, hb, -, e1⟩
  · rw [e1, if_neg (fun q => absurd q.1 (by decide))]; rfl
  · rw [dn_of e1 (by omega), if_neg (by omega)]; rfl
theorem spM_col {d : Nat → Nat → Int32} (h : DV d) (g i : Nat) {j : Nat} (hj : 6 ≤ j) (hj2 : j ≠ 10) : spM d g i j = 0 := by
  obtain ⟨n, m, gg, h1, h2, h3, e0, e1, e2, hs, he⟩ := h
  unfold spM
  split
  · simp [show ¬ j = 0 by omega, hj2]
  · split
    · split
      · next q => rw [dn_of e0 (by omega)] at q; exact setc_lt (hs _ q) hj
      · rfl
    · split
      · next q => rw [dn_of e1 (by omega)] at q; exact elc_lt (he _ q.1) hj
      · rfl
theorem mn_len : ∀ (cs : List Nat) (l : List (Nat → Int)), cs.length ≠ l.length → mn cs l = 0
  | [], [], h => absurd rfl h
  | [], r :: l, _ => rfl
  | j :: cs, l, h => mx_zero l _ (fun r q hq => by
    rw [mn_len cs q (fun e => h (by rw [List.length_cons, e, ← hq.length_eq, List.length_cons]))]
    simp)
theorem mn_zero_colAny {c : Nat} : ∀ (cs : List Nat) (l : List (Nat → Int)), c ∈ cs → (∀ r ∈ l, r c = 0) → mn cs l = 0
  | j :: cs, l, hc, h => by
    rcases List.mem_cons.mp hc with rfl | hc
    · exact mn_zero_col cs l h
    · exact mx_zero l _ (fun r q hq => by
        rw [mn_zero_colAny cs q hc (fun z hz => h z (hq.subset (List.mem_cons_of_mem _ hz)))]
        simp)
theorem nodup_len : ∀ (n : Nat) (l : List Nat), l.Nodup → (∀ x ∈ l, x < n) → l.length ≤ n
  | 0, [], _, _ => Nat.le_refl _
  | 0, x :: l, _, h => absurd (h x List.mem_cons_self) (Nat.not_lt_zero _)
  | n + 1, l, hn, h => by
    have h1 := nodup_len n (l.erase n) (hn.erase n) (fun x hx => by
      have a1 := h x (List.mem_of_mem_erase hx)
      have a2 : x ≠ n := fun q => by subst q; exact hn.not_mem_erase hx
      omega)
    by_cases q : n ∈ l
    · rw [List.length_erase_of_mem q] at h1
      omega
    · rw [List.erase_of_not_mem q] at h1
      omega
def pB (b : Nat → Nat) : List Nat → Nat
  | [] => 1
  | r :: rs => b r * pB b rs
theorem pW_map {y : (Nat → Int) → Nat} {b : Nat → Nat} {V : Nat → Nat → Int} : ∀ rs : List Nat, (∀ r ∈ rs, y (V r) ≤ b r) → pW y (rs.map V) ≤ pB b rs
  | [], _ => Nat.le_refl _
  | r :: rs, h => Nat.mul_le_mul (h r List.mem_cons_self) (pW_map rs (fun q hq => h q (List.mem_cons_of_mem _ hq)))
def cnt3 : List Nat → Nat
  | [] => 0
  | r :: rs => (if 1 ≤ r ∧ r ≤ 3 then 1 else 0) + cnt3 rs
theorem pB_wB : ∀ rs : List Nat, pB wB rs = 2 ^ rs.length * 140 ^ cnt3 rs
  | [] => rfl
  | r :: rs => by
    show wB r * pB wB rs = 2 ^ (rs.length + 1) * 140 ^ ((if 1 ≤ r ∧ r ≤ 3 then 1 else 0) + cnt3 rs)
    rw [pB_wB rs]
    unfold wB
    split
    · rw [Nat.pow_succ, Nat.add_comm 1, Nat.pow_succ]
      have : (280 : Nat) = 2 * 140 := rfl
      rw [this]
      simp only [Nat.mul_assoc, Nat.mul_comm, Nat.mul_left_comm]
    · rw [Nat.pow_succ, Nat.zero_add]
      simp only [Nat.mul_assoc, Nat.mul_comm, Nat.mul_left_comm]
theorem cnt3_le {rs : List Nat} (h : rs.Nodup) : cnt3 rs ≤ 3 := by
  have e : ∀ l : List Nat, cnt3 l = (l.filter (fun r => decide (1 ≤ r ∧ r ≤ 3))).length := by
    intro l
    induction l with
    | nil => rfl
    | cons r l ih =>
      show (if 1 ≤ r ∧ r ≤ 3 then 1 else 0) + cnt3 l = _
      rw [List.filter_cons, ih]
      by_cases q : 1 ≤ r ∧ r ≤ 3
      · simp [q]; omega
      · simp [q]
  rw [e]
  have h1 := h.sublist (List.filter_sublist (p := fun r => decide (1 ≤ r ∧ r ≤ 3)))
  have h2 : ((rs.filter (fun r => decide (1 ≤ r ∧ r ≤ 3))).map (fun r => r - 1)).Nodup := by
    refine List.pairwise_map.mpr (List.Pairwise.imp_of_mem (fun {a b} ha hb hab => ?_) h1)
    have a1 := (List.mem_filter.mp ha).2
    have b1 := (List.mem_filter.mp hb).2
    simp only [decide_eq_true_eq] at a1 b1
    omega
  have h3 := nodup_len 3 _ h2 (fun x hx => by
    obtain ⟨y, hy, rfl⟩ := List.mem_map.mp hx
    have a1 := (List.mem_filter.mp hy).2
    simp only [decide_eq_true_eq] at a1
    omega)
  rw [List.length_map] at h3
  exact h3
theorem pow_bound {n c : Nat} (hn : n ≤ 7) (hc : c ≤ 3) : 2 ^ n * 140 ^ c ≤ BB := by
  have h1 : 2 ^ n ≤ 2 ^ 7 := Nat.pow_le_pow_right (by decide) hn
  have h2 : 140 ^ c ≤ 140 ^ 3 := Nat.pow_le_pow_right (by decide) hc
  exact Nat.le_trans (Nat.mul_le_mul h1 h2) (by decide)
/-- minors of speed equations: any matrix of such rows -/
theorem MB_rows {M0 : Nat → Nat → Int} {n : Nat} (hr : ∀ i cs, i < n → cs.Nodup → rN cs (M0 i) ≤ wB i) (hz : ∀ i j, i < n → 6 ≤ j → j ≠ 10 → M0 i j = 0) : MB M0 n := by
  intro rs cs h1 h2 h3 h4
  by_cases hl : cs.length = rs.length
  · by_cases hc : ∃ c ∈ cs, 6 ≤ c ∧ c ≠ 10
    · obtain ⟨c, hc1, hc2, hc3⟩ := hc
      rw [mn_zero_colAny cs _ hc1 (fun r hr2 => by
        obtain ⟨i, hi, rfl⟩ := List.mem_map.mp hr2
        exact hz i c (h2 i hi) hc2 hc3)]
      exact Nat.zero_le _
    · have hlen : cs.length ≤ 7 := by
        have e1 : (cs.map (fun c => if c = 10 then 6 else c)).Nodup := by
          refine List.pairwise_map.mpr (List.Pairwise.imp_of_mem (fun {a b} ha hb hab => ?_) h3)
          have a1 : ¬ (6 ≤ a ∧ a ≠ 10) := fun q => hc ⟨a, ha, q⟩
          have b1 : ¬ (6 ≤ b ∧ b ≠ 10) := fun q => hc ⟨b, hb, q⟩
          split <;> split <;> omega
        have e2 := nodup_len 7 _ e1 (fun x hx => by
          obtain ⟨y, hy, rfl⟩ := List.mem_map.mp hx
          have b1 : ¬ (6 ≤ y ∧ y ≠ 10) := fun q => hc ⟨y, hy, q⟩
          split <;> omega)
        rw [List.length_map] at e2
        exact e2
      have h5 := mn_rows cs (rs.map M0)
      have h6 := pW_map (y := rN cs) (b := wB) (V := M0) rs (fun r hr2 => hr r cs (h2 r hr2) h3)
      rw [pB_wB] at h6
      exact Nat.le_trans h5 (Nat.le_trans h6 (pow_bound (by omega) (cnt3_le h1)))
  · rw [mn_len cs _ (by rw [List.length_map]; exact hl)]
    exact Nat.zero_le _
theorem MB_spM {d : Nat → Nat → Int32} (h : DV d) (g n : Nat) : MB (spM d g) n := MB_rows (fun i cs _ hn => rN_spM h g i hn) (fun i j _ hj hj2 => spM_col h g i hj hj2)
theorem ent_rN {w : Nat → Int} (j : Nat) : (w j).natAbs ≤ rN [j] w := by
  show _ ≤ (w j).natAbs + 0
  omega
theorem spM_ent {d : Nat → Nat → Int32} (h : DV d) (g i j : Nat) : (spM d g i j).natAbs ≤ BB := by
  refine Nat.le_trans (ent_rN j) (Nat.le_trans (rN_spM h g i (List.nodup_cons.mpr ⟨List.not_mem_nil, List.nodup_nil⟩)) ?_)
  unfold wB
  split <;> decide
/-! the torques' columns -/
theorem cN_rN (V : Nat → Nat → Int) (j : Nat) : ∀ rs : List Nat, cN (rs.map V) j = rN rs (fun i => V i j)
  | [] => rfl
  | r :: rs => by
    show (V r j).natAbs + cN (rs.map V) j = (V r j).natAbs + rN rs _
    rw [cN_rN V j rs]
theorem rN_tqM {d : Nat → Nat → Int32} (h : DV d) (g j : Nat) {rs : List Nat} (hn : rs.Nodup) (hr : ∀ r ∈ rs, r < 6) : rN rs (fun i => tqM d g i j) ≤ wB j := by
  obtain ⟨n, m, gg, h1, h2, h3, e0, e1, e2, hs, he⟩ := h
  have f0 := dn_of e0 (by omega)
  have o1 : (1 : Int).natAbs = 1 := rfl
  have o2 : (-1 : Int).natAbs = 1 := rfl
  unfold wB
  by_cases q1 : j = 10
  · subst q1
    rw [if_neg (by omega), rN_congr (w := fun i => if i = 0 then (-1 : Int) else 0) rs (fun i hi => by unfold tqM; rw [if_neg (by have := hr i hi; omega), if_pos rfl])]
    have := rN_ind 0 (-1) rs hn
    omega
  by_cases q2 : j = 0
  · subst q2
    rw [if_neg (by omega), rN_congr (w := fun i => if i = 1 then (1 : Int) else 0) rs (fun i hi => by unfold tqM; rw [if_neg (by have := hr i hi; omega), if_neg q1, if_pos rfl])]
    have := rN_ind 1 1 rs hn
    omega
  by_cases q3 : j < 4
  · rw [if_pos (by omega)]
    by_cases q4 : j - 1 < dn d 8 0
    · rw [rN_congr (w := setc d (j - 1)) rs (fun i hi => by unfold tqM; rw [if_neg (by have := hr i hi; omega), if_neg q1, if_neg q2, if_pos q3, if_pos q4])]
      exact rN_setc (hs _ (by omega)) hn
    · rw [rN_congr (w := fun _ => 0) rs (fun i hi => by unfold tqM; rw [if_neg (by have := hr i hi; omega), if_neg q1, if_neg q2, if_pos q3, if_neg q4]), rN_zero]
      exact Nat.zero_le _
  · rw [if_neg (by omega)]
    by_cases q4 : j < 10 ∧ j - 4 < dn d 8 1 ∧ g.testBit (j - 4) = true
    · rw [rN_congr (w := elc d (j - 4)) rs (fun i hi => by unfold tqM; rw [if_neg (by have := hr i hi; omega), if_neg q1, if_neg q2, if_neg q3, if_pos q4])]
      exact rN_elc d _ hn
    · rw [rN_congr (w := fun _ => 0) rs (fun i hi => by unfold tqM; rw [if_neg (by have := hr i hi; omega), if_neg q1, if_neg q2, if_neg q3, if_neg q4]), rN_zero]
      exact Nat.zero_le _
theorem pC_pB : ∀ {y b : Nat → Nat} (cs : List Nat), (∀ c ∈ cs, y c ≤ b c) → pC y cs ≤ pB b cs
  | _, _, [], _ => Nat.le_refl _
  | _, _, c :: cs, h => Nat.mul_le_mul (h c List.mem_cons_self) (pC_pB cs (fun q hq => h q (List.mem_cons_of_mem _ hq)))
theorem MB_tqM {d : Nat → Nat → Int32} (h : DV d) (g n : Nat) : MB (tqM d g) n := by
  intro rs cs h1 h2 h3 h4
  by_cases hl : cs.length = rs.length
  · by_cases hc : ∃ r ∈ rs, 6 ≤ r
    · obtain ⟨r, hr, hr6⟩ := hc
      obtain ⟨e, he, hk⟩ := mn_perm ((List.perm_cons_erase hr).map (tqM d g))
      rw [hk cs, List.map_cons, mn_zero_row cs _ (fun j _ => by unfold tqM; rw [if_pos hr6])]
      simp
    · have hr : ∀ r ∈ rs, r < 6 := fun r hr => Nat.lt_of_not_le fun q => hc ⟨r, hr, q⟩
      have hlen := nodup_len 6 rs h1 hr
      have h5 := mn_cols cs (rs.map (tqM d g))
      have h6 := pC_pB (y := cN (rs.map (tqM d g))) (b := wB) cs (fun c _ => by rw [cN_rN]; exact rN_tqM h g c h1 hr)
      rw [pB_wB] at h6
      exact Nat.le_trans h5 (Nat.le_trans h6 (pow_bound (by omega) (cnt3_le h3)))
  · rw [mn_len cs _ (by rw [List.length_map]; exact hl)]
    exact Nat.zero_le _
theorem tqM_ent {d : Nat → Nat → Int32} (h : DV d) (g i j : Nat) : (tqM d g i j).natAbs ≤ BB := by
  by_cases q : 6 ≤ i
  · unfold tqM; rw [if_pos q]; exact Nat.zero_le _
  · have h1 := rN_tqM h g j (rs := [i]) (List.nodup_cons.mpr ⟨List.not_mem_nil, List.nodup_nil⟩) (fun r hr => by
      rcases List.mem_cons.mp hr with rfl | z
      · omega
      · exact absurd z List.not_mem_nil)
    have h2 : (tqM d g i j).natAbs ≤ rN [i] (fun i => tqM d g i j) := ent_rN (w := fun i => tqM d g i j) i
    refine Nat.le_trans h2 (Nat.le_trans h1 ?_)
    unfold wB
    split <;> decide
/-! values of unknowns -/
def LT (S : (Nat → Int) → Prop) (t : Nat) (p q : Int) : Prop := 0 < q ∧ Nat.gcd p.natAbs q.natAbs = 1 ∧ ∀ x, S x → q * x t = -(p * x 10)
theorem LT_one {S : (Nat → Int) → Prop} {t : Nat} {p q p2 q2 : Int} (hS : Solv S) (h : LT S t p q) (h2 : LT S t p2 q2) : p = p2 ∧ q = q2 := by
  obtain ⟨x, hx, h10⟩ := hS
  have e1 := h.2.2 x hx
  have e2 := h2.2.2 x hx
  have e3 : (p * q2 - p2 * q) * x 10 = 0 := by grind
  have e4 : p * q2 = p2 * q := by
    rcases Int.mul_eq_zero.mp e3 with z | z
    · omega
    · exact absurd z h10
  have e5 : p.natAbs * q2.natAbs = p2.natAbs * q.natAbs := by rw [← Int.natAbs_mul, ← Int.natAbs_mul, e4]
  have d1 : q.natAbs ∣ q2.natAbs := Nat.Coprime.dvd_of_dvd_mul_left (Nat.Coprime.symm h.2.1) ⟨p2.natAbs, by rw [e5]; exact Nat.mul_comm _ _⟩
  have d2 : q2.natAbs ∣ q.natAbs := Nat.Coprime.dvd_of_dvd_mul_left (Nat.Coprime.symm h2.2.1) ⟨p.natAbs, by rw [← e5]; exact Nat.mul_comm _ _⟩
  have e6 := Nat.dvd_antisymm d1 d2
  have hq := h.1
  have hq2 := h2.1
  have e7 : q = q2 := by omega
  subst e7
  exact ⟨Int.eq_of_mul_eq_mul_right (by omega) e4, rfl⟩
/-- a fraction's lowest terms -/
theorem Lfrac {c p : Int} (hp : p ≠ 0) : 0 < Lden c p ∧ Nat.gcd (Lnum c p).natAbs (Lden c p).natAbs = 1 ∧ Lnum c p * p = c * Lden c p := by
  have hg : 0 < Nat.gcd p.natAbs c.natAbs := Nat.gcd_pos_of_pos_left _ (Int.natAbs_pos.mpr hp)
  obtain ⟨u, hu⟩ := Nat.gcd_dvd_left p.natAbs c.natAbs
  obtain ⟨v, hv⟩ := Nat.gcd_dvd_right p.natAbs c.natAbs
  have hd1 : ((Nat.gcd p.natAbs c.natAbs : Nat) : Int) ∣ p := Int.ofNat_dvd_left.mpr (Nat.gcd_dvd_left _ _)
  have hd2 : ((Nat.gcd p.natAbs c.natAbs : Nat) : Int) ∣ c := Int.ofNat_dvd_left.mpr (Nat.gcd_dvd_right _ _)
  unfold Lden Lnum
  generalize hG : Nat.gcd p.natAbs c.natAbs = G at *
  obtain ⟨a, ha⟩ := hd1
  obtain ⟨b, hb⟩ := hd2
  have hG0 : (G : Int) ≠ 0 := by omega
  have e1 : p / (G : Int) = a := by rw [ha, Int.mul_ediv_cancel_left _ hG0]
  have e2 : c / (G : Int) = b := by rw [hb, Int.mul_ediv_cancel_left _ hG0]
  rw [e1, e2]
  have ha0 : a ≠ 0 := fun q => by rw [q] at ha; simp at ha; exact hp ha
  have hcop : Nat.gcd b.natAbs a.natAbs = 1 := by
    have h1 : G * Nat.gcd a.natAbs b.natAbs = G * 1 := by
      rw [← Nat.gcd_mul_left, Nat.mul_one]
      have z1 : p.natAbs = G * a.natAbs := by rw [ha, Int.natAbs_mul]; rfl
      have z2 : c.natAbs = G * b.natAbs := by rw [hb, Int.natAbs_mul]; rfl
      rw [← z1, ← z2]
      exact hG
    rw [Nat.gcd_comm]
    exact Nat.eq_of_mul_eq_mul_left hg h1
  have hsg : p < 0 ↔ a < 0 := by
    constructor
    · intro q
      refine Classical.byContradiction fun z => ?_
      have : 0 ≤ (G : Int) * a := Int.mul_nonneg (by omega) (by omega)
      omega
    · intro q
      have : (G : Int) * a < 0 := Int.mul_neg_of_pos_of_neg (by omega) q
      omega
  by_cases hneg : p < 0
  · rw [if_pos hneg, if_pos hneg]
    have := hsg.mp hneg
    refine ⟨by omega, by rw [Int.natAbs_neg, Int.natAbs_neg]; exact hcop, ?_⟩
    rw [ha, hb]
    grind
  · rw [if_neg hneg, if_neg hneg]
    have : ¬ a < 0 := fun q => hneg (hsg.mpr q)
    refine ⟨by omega, hcop, ?_⟩
    rw [ha, hb]
    grind
theorem LT_of {S : (Nat → Int) → Prop} {t : Nat} {c p : Int} (hp : p ≠ 0) (h : ∀ x, S x → p * x t = -(c * x 10)) : LT S t (Lnum c p) (Lden c p) := by
  obtain ⟨h1, h2, h3⟩ := Lfrac (c := c) hp
  refine ⟨h1, h2, fun x hx => ?_⟩
  have e := h x hx
  have e2 : p * (Lden c p * x t + Lnum c p * x 10) = 0 := by grind
  rcases Int.mul_eq_zero.mp e2 with z | z
  · exact absurd z hp
  · omega
noncomputable def vN (S : (Nat → Int) → Prop) (t : Nat) : Int := @dite Int (∃ z : Int × Int, LT S t z.1 z.2) (Classical.propDecidable _) (fun h => (Classical.choose h).1) (fun _ => 0)
noncomputable def vD (S : (Nat → Int) → Prop) (t : Nat) : Int := @dite Int (∃ z : Int × Int, LT S t z.1 z.2) (Classical.propDecidable _) (fun h => (Classical.choose h).2) (fun _ => 1)
theorem vN_of {S : (Nat → Int) → Prop} {t : Nat} {p q : Int} (hS : Solv S) (h : LT S t p q) : vN S t = p ∧ vD S t = q := by
  have hx : ∃ z : Int × Int, LT S t z.1 z.2 := ⟨(p, q), h⟩
  unfold vN vD
  rw [dif_pos hx, dif_pos hx]
  exact LT_one hS (Classical.choose_spec hx) h
end SP
