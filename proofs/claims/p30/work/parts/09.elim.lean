/-! bounds of minors; the elimination over whole numbers -/
section EL
def mxs (f : (Nat → Int) → List (Nat → Int) → Nat) : List (Nat → Int) → Nat
  | [] => 0
  | r :: rs => f r rs + mxs (fun t q => f t (r :: q)) rs
theorem mxs_le : ∀ (rs : List (Nat → Int)) (f g : (Nat → Int) → List (Nat → Int) → Nat), (∀ r q, (r :: q).Perm rs → f r q ≤ g r q) → mxs f rs ≤ mxs g rs
  | [], _, _, _ => Nat.le_refl _
  | r :: rs, f, g, h => Nat.add_le_add (h r rs (List.Perm.refl _)) (mxs_le rs _ _ (fun t q hq => h t (r :: q) ((List.Perm.swap r t q).trans (hq.cons r))))
theorem mx_abs : ∀ (rs : List (Nat → Int)) (f : (Nat → Int) → List (Nat → Int) → Int), (mx f rs).natAbs ≤ mxs (fun r q => (f r q).natAbs) rs
  | [], _ => Nat.le_refl _
  | r :: rs, f => by
    show (f r rs - mx (fun t q => f t (r :: q)) rs).natAbs ≤ (f r rs).natAbs + mxs (fun t q => (f t (r :: q)).natAbs) rs
    have := mx_abs rs (fun t q => f t (r :: q))
    omega
def pW (y : (Nat → Int) → Nat) : List (Nat → Int) → Nat
  | [] => 1
  | r :: rs => y r * pW y rs
theorem pW_le {y z : (Nat → Int) → Nat} : ∀ (l : List (Nat → Int)), (∀ r ∈ l, y r ≤ z r) → pW y l ≤ pW z l
  | [], _ => Nat.le_refl _
  | r :: l, h => Nat.mul_le_mul (h r List.mem_cons_self) (pW_le l (fun q hq => h q (List.mem_cons_of_mem _ hq)))
theorem mxs_mul (a : Nat) : ∀ (rs : List (Nat → Int)) (f : (Nat → Int) → List (Nat → Int) → Nat), mxs (fun r q => a * f r q) rs = a * mxs f rs
  | [], _ => rfl
  | r :: rs, f => by
    show a * f r rs + mxs (fun t q => a * f t (r :: q)) rs = a * (f r rs + mxs (fun t q => f t (r :: q)) rs)
    rw [mxs_mul a rs (fun t q => f t (r :: q)), Nat.mul_add]
theorem mxs_prod (x y : (Nat → Int) → Nat) : ∀ (l : List (Nat → Int)), mxs (fun r q => x r * pW y q) l ≤ pW (fun r => x r + y r) l
  | [] => Nat.zero_le _
  | r :: l => by
    show x r * pW y l + mxs (fun t q => x t * pW y (r :: q)) l ≤ (x r + y r) * pW (fun r => x r + y r) l
    have h1 : mxs (fun t q => x t * pW y (r :: q)) l = y r * mxs (fun t q => x t * pW y q) l := by
      rw [← mxs_mul]
      congr 1
      funext t q
      show x t * (y r * pW y q) = y r * (x t * pW y q)
      rw [← Nat.mul_assoc, ← Nat.mul_assoc, Nat.mul_comm (x t)]
    rw [h1, Nat.add_mul]
    exact Nat.add_le_add (Nat.mul_le_mul_left _ (pW_le l (fun q _ => Nat.le_add_left _ _))) (Nat.mul_le_mul_left _ (mxs_prod x y l))
def rN (cs : List Nat) (w : Nat → Int) : Nat := match cs with
  | [] => 0
  | j :: cs => (w j).natAbs + rN cs w
theorem mn_rows : ∀ (cs : List Nat) (l : List (Nat → Int)), (mn cs l).natAbs ≤ pW (rN cs) l
  | [], [] => Nat.le_refl _
  | [], r :: l => Nat.zero_le _
  | j :: cs, l => by
    refine Nat.le_trans (mx_abs l _) (Nat.le_trans (mxs_le l _ (fun r q => (r j).natAbs * pW (rN cs) q) (fun r q _ => ?_)) (mxs_prod (fun r => (r j).natAbs) (rN cs) l))
    rw [Int.natAbs_mul]
    exact Nat.mul_le_mul_left _ (mn_rows cs q)
def cN (l : List (Nat → Int)) (j : Nat) : Nat := match l with
  | [] => 0
  | r :: l => (r j).natAbs + cN l j
def pC (y : Nat → Nat) : List Nat → Nat
  | [] => 1
  | r :: rs => y r * pC y rs
theorem pC_le {y z : Nat → Nat} : ∀ (l : List Nat), (∀ r ∈ l, y r ≤ z r) → pC y l ≤ pC z l
  | [], _ => Nat.le_refl _
  | r :: l, h => Nat.mul_le_mul (h r List.mem_cons_self) (pC_le l (fun q hq => h q (List.mem_cons_of_mem _ hq)))
theorem cN_perm {l l' : List (Nat → Int)} (h : l.Perm l') (j : Nat) : cN l j = cN l' j := by
  induction h with
  | nil => rfl
  | cons x _ ih => show _ + _ = _ + _; rw [ih]
  | swap x y l => show _ + (_ + _) = _ + (_ + _); omega
  | trans _ _ h1 h2 => rw [h1, h2]
theorem mxs_cN (j : Nat) (a : Nat) : ∀ (l : List (Nat → Int)), mxs (fun r _ => (r j).natAbs * a) l = cN l j * a
  | [] => by simp [mxs, cN]
  | r :: l => by
    show (r j).natAbs * a + mxs (fun t _ => (t j).natAbs * a) l = ((r j).natAbs + cN l j) * a
    rw [mxs_cN j a l, Nat.add_mul]
theorem mn_cols : ∀ (cs : List Nat) (l : List (Nat → Int)), (mn cs l).natAbs ≤ pC (cN l) cs
  | [], [] => Nat.le_refl _
  | [], r :: l => Nat.zero_le _
  | j :: cs, l => by
    refine Nat.le_trans (mx_abs l _) (Nat.le_trans (mxs_le l _ (fun r _ => (r j).natAbs * pC (cN l) cs) (fun r q hq => ?_)) (Nat.le_of_eq (mxs_cN j _ l)))
    rw [Int.natAbs_mul]
    refine Nat.mul_le_mul_left _ (Nat.le_trans (mn_cols cs q) (pC_le cs (fun k _ => ?_)))
    rw [← cN_perm hq k]
    exact Nat.le_add_left _ _
/-! the greatest common factor of a row's first n -/
def gU (e : Nat → Int) : Nat → Nat
  | 0 => 0
  | n + 1 => Nat.gcd (gU e n) (e n).natAbs
theorem gU_dvd {e : Nat → Int} : ∀ {n j : Nat}, j < n → gU e n ∣ (e j).natAbs
  | n + 1, j, h => by
    rcases Nat.lt_or_ge j n with q | q
    · exact Nat.dvd_trans (Nat.gcd_dvd_left _ _) (gU_dvd q)
    · have : j = n := by omega
      subst this
      exact Nat.gcd_dvd_right _ _
theorem gU_of {e : Nat → Int} {d : Nat} : ∀ {n : Nat}, (∀ j, j < n → d ∣ (e j).natAbs) → d ∣ gU e n
  | 0, _ => Nat.dvd_zero d
  | n + 1, h => Nat.dvd_gcd (gU_of (fun j hj => h j (by omega))) (h n (by omega))
theorem gU_congr {e f : Nat → Int} : ∀ {n : Nat}, (∀ j, j < n → e j = f j) → gU e n = gU f n
  | 0, _ => rfl
  | n + 1, h => by
    show Nat.gcd _ _ = Nat.gcd _ _
    rw [gU_congr (fun j hj => h j (by omega)), h n (by omega)]
theorem gU_mul (g : Int) (e : Nat → Int) : ∀ n, gU (fun j => g * e j) n = g.natAbs * gU e n
  | 0 => rfl
  | n + 1 => by
    show Nat.gcd (gU (fun j => g * e j) n) (g * e n).natAbs = g.natAbs * Nat.gcd (gU e n) (e n).natAbs
    rw [gU_mul g e n, Int.natAbs_mul, Nat.gcd_mul_left]
theorem gU_zero {e : Nat → Int} {n : Nat} (h : gU e n = 0) : ∀ j, j < n → e j = 0 := fun j hj => by
  have := gU_dvd (e := e) hj
  rw [h] at this
  have := Nat.eq_zero_of_zero_dvd this
  omega
/-- a row without a common factor is the least of its kind -/
theorem prim_le {v w : Nat → Int} {al be : Int} {n : Nat} (hg : gU v n ≤ 1) (ha : al ≠ 0) (h : ∀ j, j < n → al * v j = be * w j) : ∀ j, j < n → (v j).natAbs ≤ (w j).natAbs := by
  intro j hj
  rcases Nat.eq_zero_or_pos (gU v n) with h0 | h0
  · rw [gU_zero h0 j hj]; exact Nat.zero_le _
  have h1 : gU v n = 1 := by omega
  have hN : ∀ k, k < n → al.natAbs * (v k).natAbs = be.natAbs * (w k).natAbs := fun k hk => by
    rw [← Int.natAbs_mul, ← Int.natAbs_mul, h k hk]
  have hd : be.natAbs ∣ al.natAbs := by
    have h2 : be.natAbs ∣ gU (fun k => al * v k) n := gU_of (fun k hk => by
      show be.natAbs ∣ (al * v k).natAbs
      rw [h k hk, Int.natAbs_mul]
      exact Nat.dvd_mul_right _ _)
    rw [gU_mul, h1, Nat.mul_one] at h2
    exact h2
  obtain ⟨z, hz⟩ := hd
  have hap : 0 < al.natAbs := Int.natAbs_pos.mpr ha
  have hb : 0 < be.natAbs := Nat.pos_of_ne_zero fun q => by rw [hz, q, Nat.zero_mul] at hap; exact absurd hap (Nat.lt_irrefl _)
  have hz0 : 0 < z := Nat.pos_of_ne_zero fun q => by rw [hz, q, Nat.mul_zero] at hap; exact absurd hap (Nat.lt_irrefl _)
  have h3 := hN j hj
  rw [hz, Nat.mul_assoc] at h3
  have h4 := Nat.eq_of_mul_eq_mul_left hb h3
  rw [← h4]
  exact Nat.le_mul_of_pos_left _ hz0
/-! one stage of the elimination -/
def Elim (v w u : Nat → Int) (t : Nat) : Prop := ∃ g : Int, 0 < g ∧ (∀ j, g * u j = v j * w t - w j * v t) ∧ gU u 11 ≤ 1
def Stage (V V' : Nat → Nat → Int) (r t n : Nat) : Prop := V' r = V r ∧ ∀ k, k < n → k ≠ r → (V k t = 0 ∧ V' k = V k) ∨ Elim (V k) (V r) (V' k) t
theorem step_minor {U U' : Nat → Nat → Int} {rs : List Nat} {k r t : Nat} (hn : rs.Nodup) (hk : k ∈ rs) (hr : r ∈ rs) (hkr : k ≠ r) (he : ∀ i, i ≠ k → U' i = U i) (hp : U r t ≠ 0) (h : U' k = U k ∨ Elim (U k) (U r) (U' k) t) : ∃ al be : Int, al ≠ 0 ∧ be ≠ 0 ∧ ∀ cs, al * mn cs (rs.map U') = be * mn cs (rs.map U) := by
  rcases h with h | ⟨g, hg, hj, -⟩
  · have : U' = U := funext fun i => by
      by_cases q : i = k
      · subst q; exact h
      · exact he i q
    rw [this]
    exact ⟨1, 1, by decide, by decide, fun _ => rfl⟩
  have hpm := List.perm_cons_erase hk
  have htl : (rs.erase k).map U' = (rs.erase k).map U := List.map_congr_left (fun i hi => he i (fun q => by subst q; exact hn.not_mem_erase hi))
  obtain ⟨e1, g1, k1⟩ := mn_perm (hpm.map U')
  obtain ⟨e2, g2, k2⟩ := mn_perm (hpm.map U)
  rw [List.map_cons, htl] at k1
  rw [List.map_cons] at k2
  have hrin : U r ∈ (rs.erase k).map U := List.mem_map.mpr ⟨r, (List.mem_erase_of_ne (fun q => hkr q.symm)).mpr hr, rfl⟩
  have hx : ∀ cs, g * mn cs (U' k :: (rs.erase k).map U) = U r t * mn cs (U k :: (rs.erase k).map U) := fun cs => by
    have a1 := mn_lin g 0 (u := U' k) (v := U' k) (w := fun j => g * U' k j) (fun j => by simp) cs ((rs.erase k).map U)
    have a2 := mn_lin (U r t) (-(U k t)) (u := U k) (v := U r) (w := fun j => g * U' k j) (fun j => by rw [hj j]; grind) cs ((rs.erase k).map U)
    rw [mn_dup hrin] at a2
    rw [a1] at a2
    grind
  refine ⟨g * e1, U r t * e2, ?_, ?_, fun cs => ?_⟩
  · rcases g1 with rfl | rfl <;> omega
  · rcases g2 with rfl | rfl
    · rw [Int.mul_one]; exact hp
    · rw [Int.mul_neg, Int.mul_one]; omega
  · rw [k1 cs, k2 cs]
    have := hx cs
    rcases g1 with rfl | rfl <;> rcases g2 with rfl | rfl <;> grind
theorem stage_minor {V V' : Nat → Nat → Int} {r t n : Nat} (hs : Stage V V' r t n) (hp : V r t ≠ 0) {rs : List Nat} (hn : rs.Nodup) (hr : r ∈ rs) (hb : ∀ i ∈ rs, i < n) : ∃ al be : Int, al ≠ 0 ∧ be ≠ 0 ∧ ∀ cs, al * mn cs (rs.map V') = be * mn cs (rs.map V) := by
  have key : ∀ S : List Nat, S.Nodup → (∀ i ∈ S, i ∈ rs) → ∃ al be : Int, al ≠ 0 ∧ be ≠ 0 ∧ ∀ cs, al * mn cs (rs.map (fun k => if k ∈ S then V' k else V k)) = be * mn cs (rs.map V) := by
    intro S
    induction S with
    | nil =>
      intro _ _
      refine ⟨1, 1, by decide, by decide, fun cs => ?_⟩
      have : (fun k => if k ∈ ([] : List Nat) then V' k else V k) = V := funext fun k => by simp
      rw [this]
    | cons k S ih =>
      intro hS hin
      obtain ⟨hkS, hS2⟩ := List.nodup_cons.mp hS
      obtain ⟨a1, b1, ha1, hb1, h1⟩ := ih hS2 (fun i hi => hin i (List.mem_cons_of_mem _ hi))
      by_cases hkr : k = r
      · subst hkr
        refine ⟨a1, b1, ha1, hb1, fun cs => ?_⟩
        have : (fun i => if i ∈ k :: S then V' i else V i) = (fun i => if i ∈ S then V' i else V i) := funext fun i => by
          by_cases q : i = k
          · subst q; simp [hkS, hs.1]
          · simp [q]
        rw [this]
        exact h1 cs
      · have hk := hin k List.mem_cons_self
        obtain ⟨a2, b2, ha2, hb2, h2⟩ := step_minor (U := fun i => if i ∈ S then V' i else V i) (U' := fun i => if i ∈ k :: S then V' i else V i) (k := k) (r := r) (t := t) hn hk hr hkr (fun i hi => by simp [hi]) (by
            show (if r ∈ S then V' r else V r) t ≠ 0
            split
            · rw [hs.1]; exact hp
            · exact hp) (by
            have e1 : (if k ∈ k :: S then V' k else V k) = V' k := by simp
            have e2 : (if k ∈ S then V' k else V k) = V k := by simp [hkS]
            have e3 : (if r ∈ S then V' r else V r) = V r := by
              split
              · exact hs.1
              · rfl
            show (if k ∈ k :: S then V' k else V k) = (if k ∈ S then V' k else V k) ∨ Elim (if k ∈ S then V' k else V k) (if r ∈ S then V' r else V r) (if k ∈ k :: S then V' k else V k) t
            rw [e1, e2, e3]
            rcases hs.2 k (hb k hk) hkr with q | q
            · exact Or.inl q.2
            · exact Or.inr q)
        refine ⟨a1 * a2, b1 * b2, Int.mul_ne_zero ha1 ha2, Int.mul_ne_zero hb1 hb2, fun cs => ?_⟩
        have e1 := h1 cs
        have e2 := h2 cs
        grind
  obtain ⟨al, be, ha, hbe, h⟩ := key rs hn (fun i hi => hi)
  refine ⟨al, be, ha, hbe, fun cs => ?_⟩
  have : rs.map V' = rs.map (fun k => if k ∈ rs then V' k else V k) := List.map_congr_left (fun i hi => by simp [hi])
  rw [this]
  exact h cs
/-! solutions -/
def dt (v x : Nat → Int) : Nat → Int
  | 0 => 0
  | n + 1 => dt v x n + v n * x n
def HS (V : Nat → Nat → Int) (n : Nat) (x : Nat → Int) : Prop := ∀ i, i < n → dt (V i) x 11 = 0
theorem dt_lin (x : Nat → Int) {g c d : Int} {u v w : Nat → Int} (h : ∀ j, g * u j = v j * c - w j * d) : ∀ n, g * dt u x n = dt v x n * c - dt w x n * d
  | 0 => by simp [dt]
  | n + 1 => by
    show g * (dt u x n + u n * x n) = (dt v x n + v n * x n) * c - (dt w x n + w n * x n) * d
    have h1 := dt_lin x h n
    have h2 := h n
    grind
theorem stage_sol {V V' : Nat → Nat → Int} {r t n : Nat} (hs : Stage V V' r t n) (hp : V r t ≠ 0) (hr : r < n) (x : Nat → Int) : HS V' n x ↔ HS V n x := by
  constructor
  · intro h k hk
    have h0 := h r hr
    rw [hs.1] at h0
    by_cases q : k = r
    · subst q; exact h0
    rcases hs.2 k hk q with z | ⟨g, hg, hj, -⟩
    · rw [← z.2]; exact h k hk
    · have h1 := dt_lin x hj 11
      rw [h k hk, h0] at h1
      have h2 : dt (V k) x 11 * V r t = 0 := by grind
      rcases Int.mul_eq_zero.mp h2 with z | z
      · exact z
      · exact absurd z hp
  · intro h k hk
    by_cases q : k = r
    · subst q; rw [hs.1]; exact h k hk
    rcases hs.2 k hk q with z | ⟨g, hg, hj, -⟩
    · rw [z.2]; exact h k hk
    · have h1 := dt_lin x hj 11
      rw [h k hk, h r hr] at h1
      have h2 : g * dt (V' k) x 11 = 0 := by grind
      rcases Int.mul_eq_zero.mp h2 with z | z
      · omega
      · exact z
/-! what holds between two stages -/
def BB : Nat := 351232000
def MB (M0 : Nat → Nat → Int) (n : Nat) : Prop := ∀ (rs cs : List Nat), rs.Nodup → (∀ r ∈ rs, r < n) → cs.Nodup → (∀ c ∈ cs, c < 11) → (mn cs (rs.map M0)).natAbs ≤ BB
def EInv (M0 V : Nat → Nat → Int) (n : Nat) (ps : List (Nat × Nat)) : Prop := (∀ q ∈ ps, q.1 < n ∧ q.2 < 10) ∧ (ps.map Prod.fst).Nodup ∧ (∀ q ∈ ps, V q.1 q.2 ≠ 0 ∧ ∀ k, k < n → k ≠ q.1 → V k q.2 = 0) ∧
  (∀ rs : List Nat, rs.Nodup → (∀ i ∈ rs, i < n) → (∀ q ∈ ps, q.1 ∈ rs) → ∃ al be : Int, al ≠ 0 ∧ be ≠ 0 ∧ ∀ cs, al * mn cs (rs.map V) = be * mn cs (rs.map M0)) ∧
  (∀ i, i < n → V i = M0 i ∨ gU (V i) 11 ≤ 1) ∧ (∀ x, HS V n x ↔ HS M0 n x)
theorem EInv_start (M0 : Nat → Nat → Int) (n : Nat) : EInv M0 M0 n [] := ⟨fun q h => absurd h List.not_mem_nil, List.nodup_nil, fun q h => absurd h List.not_mem_nil, fun _ _ _ _ => ⟨1, 1, by decide, by decide, fun _ => rfl⟩, fun _ _ => Or.inl rfl, fun _ => Iff.rfl⟩
theorem EInv_stage {M0 V V' : Nat → Nat → Int} {n r t : Nat} {ps : List (Nat × Nat)} (h : EInv M0 V n ps) (hr : r < n) (hf : ∀ q ∈ ps, q.1 ≠ r) (ht : t < 10) (hp : V r t ≠ 0) (hs : Stage V V' r t n) : EInv M0 V' n ((r, t) :: ps) := by
  obtain ⟨h1, h2, h3, h4, h5, h6⟩ := h
  refine ⟨?_, ?_, ?_, ?_, ?_, fun x => (stage_sol hs hp hr x).trans (h6 x)⟩
  · intro q hq
    rcases List.mem_cons.mp hq with rfl | hq
    · exact ⟨hr, ht⟩
    · exact h1 q hq
  · rw [List.map_cons, List.nodup_cons]
    refine ⟨fun q => ?_, h2⟩
    obtain ⟨z, hz, e⟩ := List.mem_map.mp q
    exact hf z hz e
  · intro q hq
    rcases List.mem_cons.mp hq with rfl | hq
    · refine ⟨by rw [hs.1]; exact hp, fun k hk hkr => ?_⟩
      rcases hs.2 k hk hkr with z | ⟨g, hg, hj, -⟩
      · rw [z.2]; exact z.1
      · have := hj t
        have h0 : g * V' k t = 0 := by rw [this]; grind
        rcases Int.mul_eq_zero.mp h0 with z | z
        · omega
        · exact z
    · obtain ⟨hne, hz⟩ := h3 q hq
      have hq1 := h1 q hq
      have hrq : V r q.2 = 0 := hz r hr (fun z => hf q hq z.symm)
      constructor
      · rcases hs.2 q.1 hq1.1 (hf q hq) with z | ⟨g, hg, hj, -⟩
        · rw [z.2]; exact hne
        · intro q0
          have := hj q.2
          rw [q0, hrq] at this
          have h0 : V q.1 q.2 * V r t = 0 := by grind
          rcases Int.mul_eq_zero.mp h0 with z | z
          · exact hne z
          · exact hp z
      · intro k hk hkq
        by_cases hkr : k = r
        · subst hkr; rw [hs.1]; exact hrq
        rcases hs.2 k hk hkr with z | ⟨g, hg, hj, -⟩
        · rw [z.2]; exact hz k hk hkq
        · have := hj q.2
          rw [hrq, hz k hk hkq] at this
          have h0 : g * V' k q.2 = 0 := by grind
          rcases Int.mul_eq_zero.mp h0 with z | z
          · omega
          · exact z
  · intro rs hn hb hin
    obtain ⟨a1, b1, ha1, hb1, k1⟩ := h4 rs hn hb (fun q hq => hin q (List.mem_cons_of_mem _ hq))
    obtain ⟨a2, b2, ha2, hb2, k2⟩ := stage_minor hs hp hn (hin (r, t) List.mem_cons_self) hb
    refine ⟨a1 * a2, b1 * b2, Int.mul_ne_zero ha1 ha2, Int.mul_ne_zero hb1 hb2, fun cs => ?_⟩
    have e1 := k1 cs
    have e2 := k2 cs
    grind
  · intro i hi
    by_cases q : i = r
    · subst q; rw [hs.1]; exact h5 i hi
    rcases hs.2 i hi q with z | ⟨g, -, -, z⟩
    · rw [z.2]; exact h5 i hi
    · exact Or.inr z
/-- between two stages no number is greater than a minor -/
theorem EInv_bound {M0 V : Nat → Nat → Int} {n : Nat} {ps : List (Nat × Nat)} (h : EInv M0 V n ps) (hB : MB M0 n) (h0 : ∀ i j, i < n → j < 11 → (M0 i j).natAbs ≤ BB) : ∀ i j, i < n → j < 11 → (V i j).natAbs ≤ BB := by
  obtain ⟨h1, h2, h3, h4, h5, h6⟩ := h
  intro i j hi hj
  rcases h5 i hi with e | hg
  · rw [e]; exact h0 i j hi hj
  let qs := ps.filter (fun q => !(q.1 == i))
  have hqs : ∀ q ∈ qs, q ∈ ps ∧ q.1 ≠ i := fun q hq => by
    obtain ⟨a, b⟩ := List.mem_filter.mp hq
    exact ⟨a, by simpa using b⟩
  have hzero : ∀ k ∈ qs.map Prod.snd, V i k = 0 := fun k hk => by
    obtain ⟨q, hq, rfl⟩ := List.mem_map.mp hk
    exact (h3 q (hqs q hq).1).2 i hi (fun z => (hqs q hq).2 z.symm)
  have hnd1 : (qs.map Prod.fst).Nodup := h2.sublist (List.filter_sublist.map _)
  have hnd : (i :: qs.map Prod.fst).Nodup := List.nodup_cons.mpr ⟨fun q => by
    obtain ⟨z, hz, e⟩ := List.mem_map.mp q
    exact (hqs z hz).2 e, hnd1⟩
  have hlt : ∀ k ∈ i :: qs.map Prod.fst, k < n := fun k hk => by
    rcases List.mem_cons.mp hk with rfl | hk
    · exact hi
    · obtain ⟨q, hq, rfl⟩ := List.mem_map.mp hk
      exact (h1 q (hqs q hq).1).1
  obtain ⟨al, be, ha, hb, hk⟩ := h4 (i :: qs.map Prod.fst) hnd hlt (fun q hq => by
    by_cases z : q.1 = i
    · rw [z]; exact List.mem_cons_self
    · exact List.mem_cons_of_mem _ (List.mem_map.mpr ⟨q, List.mem_filter.mpr ⟨hq, by simpa using z⟩, rfl⟩))
  have hpw : qs.Pairwise (fun a b => V b.1 a.2 = 0) := by
    have hp1 : qs.Pairwise (fun a b => a.1 ≠ b.1) := List.pairwise_map.mp hnd1
    refine (List.Pairwise.imp_of_mem (fun {a b} ha hb hab => ?_) hp1)
    exact (h3 a (hqs a ha).1).2 b.1 (h1 b (hqs b hb).1).1 (fun z => hab z.symm)
  have hdg := mn_diag (V := V) qs (fun q hq => (h3 q (hqs q hq).1).1) hpw
  have hrel : ∀ k, k < 11 → (al * mn (qs.map Prod.snd) (qs.map (fun q => V q.1))) * V i k = be * mn (k :: qs.map Prod.snd) ((i :: qs.map Prod.fst).map M0) := fun k _ => by
    rw [← hk (k :: qs.map Prod.snd), List.map_cons, mn_front k _ _ hzero, List.map_map]
    show al * mn (qs.map Prod.snd) (qs.map (fun q => V q.1)) * V i k = al * (mn (qs.map Prod.snd) (qs.map (fun q => V q.1)) * V i k)
    rw [Int.mul_assoc]
  have hle := prim_le hg (Int.mul_ne_zero ha hdg) hrel j hj
  by_cases hin : j ∈ qs.map Prod.snd
  · rw [hzero j hin]; exact Nat.zero_le _
  · refine Nat.le_trans hle (hB _ _ hnd hlt (List.nodup_cons.mpr ⟨hin, ?_⟩) (fun k hk => ?_))
    · have hp1 : qs.Pairwise (fun a b => a.1 ≠ b.1) := List.pairwise_map.mp hnd1
      refine List.pairwise_map.mpr (List.Pairwise.imp_of_mem (fun {a b} ha hb hab => ?_) hp1)
      intro z
      have e1 := (h3 a (hqs a ha).1).2 b.1 (h1 b (hqs b hb).1).1 (fun z => hab z.symm)
      rw [z] at e1
      exact (h3 b (hqs b hb).1).1 e1
    · rcases List.mem_cons.mp hk with rfl | hk
      · exact hj
      · obtain ⟨q, hq, rfl⟩ := List.mem_map.mp hk
        have := (h1 q (hqs q hq).1).2
        omega
end EL
