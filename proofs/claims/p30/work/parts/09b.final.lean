/-! what the last stage tells of the solutions -/
section FI
theorem dt_two {v x : Nat → Int} {a b : Nat} (hab : a ≠ b) : ∀ n, (∀ j, j < n → j ≠ a → j ≠ b → v j * x j = 0) → dt v x n = (if a < n then v a * x a else 0) + (if b < n then v b * x b else 0)
  | 0, _ => by simp [dt]
  | n + 1, h => by
    show dt v x n + v n * x n = _
    rw [dt_two hab n (fun j hj => h j (by omega))]
    by_cases h1 : n = a
    · subst h1
      rw [if_neg (Nat.lt_irrefl _), if_pos (Nat.lt_succ_self _)]
      by_cases h2 : b < n
      · rw [if_pos h2, if_pos (by omega)]; omega
      · rw [if_neg h2, if_neg (by omega)]; omega
    · by_cases h3 : n = b
      · subst h3
        rw [if_neg (Nat.lt_irrefl n), if_pos (Nat.lt_succ_self n)]
        by_cases h2 : a < n
        · rw [if_pos h2, if_pos (by omega)]; omega
        · rw [if_neg h2, if_neg (by omega)]; omega
      · rw [h n (Nat.lt_succ_self n) h1 h3]
        have e1 : (a < n + 1) = (a < n) := propext ⟨fun q => by omega, fun q => by omega⟩
        have e2 : (b < n + 1) = (b < n) := propext ⟨fun q => by omega, fun q => by omega⟩
        simp only [e1, e2]
        omega
theorem dt_set {v x z : Nat → Int} {p : Nat} (hz : ∀ j, j ≠ p → z j = x j) : ∀ n, dt v z n = dt v x n + (if p < n then v p * (z p - x p) else 0)
  | 0 => by simp [dt]
  | n + 1 => by
    show dt v z n + v n * z n = dt v x n + v n * x n + _
    rw [dt_set hz n]
    by_cases h1 : n = p
    · subst h1
      rw [if_neg (Nat.lt_irrefl _), if_pos (Nat.lt_succ_self _)]
      grind
    · rw [hz n h1]
      have e1 : (p < n + 1) = (p < n) := propext ⟨fun q => by omega, fun q => by omega⟩
      simp only [e1]
      omega
theorem dt_scale (v x : Nat → Int) (c : Int) : ∀ n, dt v (fun j => c * x j) n = c * dt v x n
  | 0 => by simp [dt]
  | n + 1 => by
    show dt v (fun j => c * x j) n + v n * (c * x n) = c * (dt v x n + v n * x n)
    rw [dt_scale v x c n]
    grind
theorem dt_build {V : Nat → Nat → Int} (y : Nat → Int) : ∀ (ps : List (Nat × Nat)), (∀ q ∈ ps, V q.1 q.2 ≠ 0 ∧ q.2 < 10) → ps.Pairwise (fun a b => V b.1 a.2 = 0) → ∃ (x : Nat → Int) (d : Int), d ≠ 0 ∧ (∀ j, j ∉ ps.map Prod.snd → x j = d * y j) ∧ ∀ q ∈ ps, dt (V q.1) x 11 = 0
  | [], _, _ => ⟨y, 1, by decide, fun j _ => by simp, fun q h => absurd h List.not_mem_nil⟩
  | p :: ps, h, hp => by
    obtain ⟨hp1, hp2⟩ := List.pairwise_cons.mp hp
    obtain ⟨x, d, hd, hx, hz⟩ := dt_build y ps (fun q hq => h q (List.mem_cons_of_mem _ hq)) hp2
    obtain ⟨hne, hlt⟩ := h p List.mem_cons_self
    let w : Nat → Int := fun j => if j = p.2 then V p.1 p.2 * x p.2 - dt (V p.1) x 11 else V p.1 p.2 * x j
    have hw : ∀ j, j ≠ p.2 → w j = V p.1 p.2 * x j := fun j hj => if_neg hj
    have hwp : w p.2 = V p.1 p.2 * x p.2 - dt (V p.1) x 11 := if_pos rfl
    refine ⟨w, d * V p.1 p.2, Int.mul_ne_zero hd hne, fun j hj => ?_, fun q hq => ?_⟩
    · rw [List.map_cons, List.mem_cons, not_or] at hj
      rw [hw j hj.1, hx j hj.2]
      grind
    · have e := dt_set (v := V q.1) (x := fun j => V p.1 p.2 * x j) (z := w) (p := p.2) hw 11
      rw [if_pos (show p.2 < 11 by omega), dt_scale, hwp] at e
      rcases List.mem_cons.mp hq with rfl | hq
      · rw [e]; grind
      · rw [e, hz q hq, hp1 q hq]; grind
def Solv (S : (Nat → Int) → Prop) : Prop := ∃ x, S x ∧ x 10 ≠ 0
def DetS (S : (Nat → Int) → Prop) (t : Nat) : Prop := ∀ x, S x → x 10 = 0 → x t = 0
def Fin (V : Nat → Nat → Int) (n : Nat) (ps : List (Nat × Nat)) : Prop := ∀ i, i < n → (∀ q ∈ ps, q.1 ≠ i) → ∀ j, j < 10 → V i j = 0
variable {M0 V : Nat → Nat → Int} {n : Nat} {ps : List (Nat × Nat)}
theorem fin_pw (h : EInv M0 V n ps) : ps.Pairwise (fun a b => V b.1 a.2 = 0) := by
  obtain ⟨h1, h2, h3, -⟩ := h
  have hp1 : ps.Pairwise (fun a b => a.1 ≠ b.1) := List.pairwise_map.mp h2
  exact List.Pairwise.imp_of_mem (fun {a b} ha hb hab => (h3 a ha).2 b.1 (h1 b hb).1 (fun z => hab z.symm)) hp1
theorem fin_free {i : Nat} (hF : Fin V n ps) (hi : i < n) (hf : ∀ q ∈ ps, q.1 ≠ i) (x : Nat → Int) : dt (V i) x 11 = V i 10 * x 10 := by
  have := dt_two (v := V i) (x := x) (a := 10) (b := 11) (by decide) 11 (fun j hj h1 _ => by rw [hF i hi hf j (by omega)]; simp)
  rw [this, if_pos (by decide), if_neg (by decide)]
  simp
/-- a solution of given values off the pivots' columns -/
theorem fin_build (h : EInv M0 V n ps) (hF : Fin V n ps) (y : Nat → Int) (hy : y 10 = 0 ∨ ∀ i, i < n → (∀ q ∈ ps, q.1 ≠ i) → V i 10 = 0) : ∃ (x : Nat → Int) (d : Int), d ≠ 0 ∧ (∀ j, j ∉ ps.map Prod.snd → x j = d * y j) ∧ HS M0 n x := by
  obtain ⟨x, d, hd, hx, hz⟩ := dt_build (V := V) y ps (fun q hq => ⟨(h.2.2.1 q hq).1, (h.1 q hq).2⟩) (fin_pw h)
  refine ⟨x, d, hd, hx, (h.2.2.2.2.2 x).mp (fun i hi => ?_)⟩
  by_cases q : ∃ q ∈ ps, q.1 = i
  · obtain ⟨z, hzm, rfl⟩ := q
    exact hz z hzm
  · have hf : ∀ q ∈ ps, q.1 ≠ i := fun z hz1 e => q ⟨z, hz1, e⟩
    rw [fin_free hF hi hf]
    rcases hy with e | e
    · rw [hx 10 (fun z => by obtain ⟨w, hw, e2⟩ := List.mem_map.mp z; have := (h.1 w hw).2; omega), e]
      simp
    · rw [e i hi hf]; simp
theorem fin_solv (h : EInv M0 V n ps) (hF : Fin V n ps) : Solv (HS M0 n) ↔ ∀ i, i < n → (∀ q ∈ ps, q.1 ≠ i) → V i 10 = 0 := by
  constructor
  · rintro ⟨x, hx, h10⟩ i hi hf
    have := (h.2.2.2.2.2 x).mpr hx i hi
    rw [fin_free hF hi hf] at this
    rcases Int.mul_eq_zero.mp this with z | z
    · exact z
    · exact absurd z h10
  · intro h0
    obtain ⟨x, d, hd, hx, hs⟩ := fin_build h hF (fun j => if j = 10 then 1 else 0) (Or.inr h0)
    refine ⟨x, hs, ?_⟩
    rw [hx 10 (fun z => by obtain ⟨w, hw, e2⟩ := List.mem_map.mp z; have := (h.1 w hw).2; omega)]
    simpa using hd
theorem fin_val (h : EInv M0 V n ps) {r t : Nat} (hr : r < n) (ht : t < 10) (hz : ∀ o, o < 10 → ¬ o = t → V r o = 0) {x : Nat → Int} (hx : HS M0 n x) : V r t * x t = -(V r 10 * x 10) := by
  have h1 := (h.2.2.2.2.2 x).mpr hx r hr
  rw [dt_two (a := t) (b := 10) (by omega) 11 (fun j hj h1 h2 => by rw [hz j (by omega) h1]; simp), if_pos (by omega), if_pos (by decide)] at h1
  omega
theorem fin_det (h : EInv M0 V n ps) {r t : Nat} (hp : (r, t) ∈ ps) (hz : ∀ o, o < 10 → ¬ o = t → V r o = 0) : DetS (HS M0 n) t := by
  intro x hx h10
  have h1 := fin_val h (h.1 _ hp).1 (h.1 _ hp).2 hz hx
  rw [h10] at h1
  have h2 : V r t * x t = 0 := by rw [h1]; simp
  rcases Int.mul_eq_zero.mp h2 with z | z
  · exact absurd z (h.2.2.1 _ hp).1
  · exact z
theorem fin_undet (h : EInv M0 V n ps) (hF : Fin V n ps) {t : Nat} (ht : t < 10) (hD : DetS (HS M0 n) t) : ∃ r, (r, t) ∈ ps ∧ ∀ o, o < 10 → ¬ o = t → V r o = 0 := by
  by_cases hin : t ∈ ps.map Prod.snd
  · obtain ⟨⟨r, t2⟩, hp, e⟩ := List.mem_map.mp hin
    have e : t2 = t := e
    subst e
    refine ⟨r, hp, fun o ho hne => Classical.byContradiction fun hv => ?_⟩
    have hr := (h.1 _ hp).1
    have hoc : o ∉ ps.map Prod.snd := fun q => by
      obtain ⟨⟨r2, o2⟩, hp2, e2⟩ := List.mem_map.mp q
      have e2 : o2 = o := e2
      subst e2
      by_cases er : r = r2
      · subst er
        have hpw := List.pairwise_map.mp h.2.1
        have := List.Pairwise.forall_of_forall_of_flip (R := fun a b : Nat × Nat => a.1 = b.1 → a = b) (l := ps) (fun _ _ _ => rfl) (hpw.imp (fun hab q => absurd q hab)) (hpw.imp (fun hab q => absurd q.symm hab)) hp hp2 rfl
        exact hne (congrArg Prod.snd this).symm
      · exact hv ((h.2.2.1 _ hp2).2 r hr er)
    obtain ⟨x, d, hd, hx, hs⟩ := fin_build h hF (fun j => if j = o then 1 else 0) (Or.inl (by simp; omega))
    have h10 : x 10 = 0 := by
      rw [hx 10 (fun z => by obtain ⟨w, hw, e2⟩ := List.mem_map.mp z; have := (h.1 w hw).2; omega)]
      rw [if_neg (by omega)]; simp
    have hxt := hD x hs h10
    have h1 := (h.2.2.2.2.2 x).mpr hs r hr
    rw [dt_two (a := t2) (b := o) (fun z => hne z.symm) 11 (fun j hj h1 h2 => by
      by_cases hj10 : j = 10
      · rw [hj10, h10]; simp
      by_cases hjc : j ∈ ps.map Prod.snd
      · obtain ⟨⟨r2, o2⟩, hp2, e2⟩ := List.mem_map.mp hjc
        have e2 : o2 = j := e2
        subst e2
        by_cases er : r = r2
        · subst er
          have hpw := List.pairwise_map.mp h.2.1
          have := List.Pairwise.forall_of_forall_of_flip (R := fun a b : Nat × Nat => a.1 = b.1 → a = b) (l := ps) (fun _ _ _ => rfl) (hpw.imp (fun hab q => absurd q hab)) (hpw.imp (fun hab q => absurd q.symm hab)) hp hp2 rfl
          exact absurd (congrArg Prod.snd this).symm h1
        · rw [(h.2.2.1 _ hp2).2 r hr er]; simp
      · rw [hx j hjc, if_neg h2]; simp), if_pos (by omega), if_pos (by omega), hxt, hx o hoc, if_pos rfl] at h1
    have h2 : V r o * d = 0 := by
      simp only [Int.mul_zero, Int.zero_add, Int.mul_one] at h1
      exact h1
    rcases Int.mul_eq_zero.mp h2 with z | z
    · exact hv z
    · exact hd z
  · exfalso
    obtain ⟨x, d, hd, hx, hs⟩ := fin_build h hF (fun j => if j = t then 1 else 0) (Or.inl (by simp; omega))
    have h10 : x 10 = 0 := by
      rw [hx 10 (fun z => by obtain ⟨w, hw, e2⟩ := List.mem_map.mp z; have := (h.1 w hw).2; omega)]
      rw [if_neg (by omega)]; simp
    have hxt := hD x hs h10
    rw [hx t hin, if_pos rfl] at hxt
    simp only [Int.mul_one] at hxt
    exact hd hxt
end FI
