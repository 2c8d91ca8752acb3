/-! the invariant under the changes -/
theorem gst_congr {d d' : Nat → Nat → Int32} (h : spM d' = spM d) (hm : dn d' 8 1 = dn d 8 1) : gst d' = gst d := by
  have h0 : SP d' = SP d := funext fun g => by show HS (spM d' g) 10 = HS (spM d g) 10; rw [h]
  have h1 : stM d' = stM d := funext fun g => by unfold stM; rw [h0]
  have h2 : isG d' = isG d := funext fun g => by unfold isG; rw [h1, hm]
  have h3 : gtR d' = gtR d := funext fun a => funext fun b => by unfold gtR; rw [h0]
  have h4 : ∀ G g n, posG d' G g n = posG d G g n := fun G g n => by
    induction n with
    | zero => rfl
    | succ n ih =>
      by_cases z : gtR d (G n) g
      · rw [posG_yes z, posG_yes (by rw [h3]; exact z), ih]
      · rw [posG_no z, posG_no (by rw [h3]; exact z)]
  have h5 : insG d' = insG d := funext fun G => funext fun n => funext fun g => by unfold insG; rw [h4]
  funext t
  induction t with
  | zero => rfl
  | succ t ih =>
    by_cases z : isG d t
    · rw [gst_yes z, gst_yes (by rw [h2]; exact z), ih, h5]
    · rw [gst_no z, gst_no (by rw [h2]; exact z), ih]
theorem gN_congr {d d' : Nat → Nat → Int32} (h : spM d' = spM d) (hm : dn d' 8 1 = dn d 8 1) : gN d' = gN d := by unfold gN; rw [gst_congr h hm]
theorem gF_congr {d d' : Nat → Nat → Int32} (h : spM d' = spM d) (hm : dn d' 8 1 = dn d 8 1) : gF d' = gF d := by unfold gF; rw [gst_congr h hm]
theorem II_congr {d d' : Nat → Nat → Int32} {i : CI} (h : spM d' = spM d) (hm : dn d' 8 1 = dn d 8 1) (hJ : II d i) : II d' i := by
  obtain ⟨h1, h2, h3⟩ := hJ
  refine ⟨h1, h2, fun z => ?_⟩
  obtain ⟨h4, h5⟩ := h3 z
  refine ⟨by rw [gN_congr h hm]; exact h4, ?_⟩
  rw [gF_congr h hm]
  intro j hj
  have h0 : SP d' = SP d := funext fun g => by show HS (spM d' g) 10 = HS (spM d g) 10; rw [h]
  rw [h0]
  exact h5 j hj
theorem spM_eng (d : Nat → Nat → Int32) (x : Int32) : spM (dU d 8 2 x) = spM d := rfl
theorem spM_cap (d : Nat → Nat → Int32) (k : Nat) (x : Int32) : spM (dU d 7 k x) = spM d := rfl
theorem II_eng {d : Nat → Nat → Int32} {i : CI} {x : Int32} (h : II d i) : II (dU d 8 2 x) i := II_congr (spM_eng d x) rfl h
theorem II_cap {d : Nat → Nat → Int32} {i : CI} {k : Nat} {x : Int32} (h : II d i) : II (dU d 7 k x) i := II_congr (spM_cap d k x) rfl h
theorem DV_eng {d : Nat → Nat → Int32} {z : Nat} (h : DV d) (hz : z < 2 ^ dn d 8 1) : DV (dU d 8 2 (nI z)) := by
  obtain ⟨n, m, g, h1, h2, h3, h4, h5, h6, h7, h8⟩ := h
  rw [dn_of h5 (by omega)] at hz
  exact ⟨n, m, z, h1, h2, hz, h4, h5, rfl, h7, h8⟩
theorem updSame {f : Nat → Int32} {k : Nat} {x : Int32} : upd f k x k = x := if_pos rfl
theorem updOther {f : Nat → Int32} {k j : Nat} {x : Int32} (h : j ≠ k) : upd f k x j = f j := if_neg h
theorem DV_cap {d : Nat → Nat → Int32} {k c : Nat} (h : DV d) (hk : k < dn d 8 1) (h1 : 1 ≤ c) (h2 : c ≤ 10000) : DV (dU d 7 k (nI c)) := by
  obtain ⟨n, m, g, a1, a2, a3, a4, a5, a6, a7, a8⟩ := h
  refine ⟨n, m, g, a1, a2, a3, a4, a5, a6, a7, fun e he => ?_⟩
  obtain ⟨a, c1, b1, b2, b3, b4, b5, b6⟩ := a8 e he
  by_cases z : e = k
  · exact ⟨a, c, b1, b2, b3, h1, h2, by subst z; exact updSame⟩
  · exact ⟨a, c1, b1, b2, b3, b4, b5, (updOther z).trans b6⟩
theorem dn_keep {d d' : Nat → Nat → Int32} {k j : Nat} (h : d' k j = d k j) : dn d' k j = dn d k j := by unfold dn; rw [h]
/-- a set more -/
def dS (d : Nat → Nat → Int32) (n : Nat) (a b c s r : Int32) : Nat → Nat → Int32 := dU (dU (dU (dU (dU (dU d 0 n a) 1 n b) 2 n c) 3 n s) 4 n r) 8 0 (nI (n + 1))
def dE (d : Nat → Nat → Int32) (m : Nat) (a b : Int32) : Nat → Nat → Int32 := dU (dU (dU (dU d 5 m a) 6 m b) 7 m (nI 1000)) 8 1 (nI (m + 1))
theorem DV_dS {d : Nat → Nat → Int32} {n : Nat} {a b c s r : Int32} (h : DV d) (hn : n < 3) (h0 : d 8 0 = nI n) (ha : shf a ∧ shf b ∧ shf c) (hne : ¬ (a = b ∨ a = c ∨ b = c)) (hs : ¬ (s.toInt < 10 ∨ 40 < s.toInt)) (hr : ¬ (r.toInt ≤ s.toInt ∨ 100 < r.toInt)) : DV (dS d n a b c s r) := by
  obtain ⟨n1, m, g, a1, a2, a3, a4, a5, a6, a7, a8⟩ := h
  have e : n1 = n := (nI_eq (by omega) (by omega)).mp (a4.symm.trans h0)
  subst e
  obtain ⟨⟨ka, hka, rfl⟩, ⟨kb, hkb, rfl⟩, ⟨kc, hkc, rfl⟩⟩ := ha
  refine ⟨n1 + 1, m, g, by omega, a2, a3, rfl, a5, a6, fun k hk => ?_, fun e he => a8 e he⟩
  by_cases z : k = n1
  · subst z
    refine ⟨ka, kb, kc, s.toInt.toNat, r.toInt.toNat, ⟨hka, hkb, hkc⟩, ⟨fun q => hne (Or.inl (by rw [q])), fun q => hne (Or.inr (Or.inl (by rw [q]))), fun q => hne (Or.inr (Or.inr (by rw [q])))⟩, by omega, updSame, updSame, updSame, updSame.trans (nIt (by omega)), updSame.trans (nIt (by omega))⟩
  · obtain ⟨a, b, c, s1, r1, b1, b2, b3, b4, b5, b6, b7, b8⟩ := a7 k (by omega)
    exact ⟨a, b, c, s1, r1, b1, b2, b3, (updOther z).trans b4, (updOther z).trans b5, (updOther z).trans b6, (updOther z).trans b7, (updOther z).trans b8⟩
theorem DV_dE {d : Nat → Nat → Int32} {m : Nat} {a b : Int32} (h : DV d) (hm : m < 6) (h1 : d 8 1 = nI m) (ha : shf a) (hb : b = -1 ∨ (shf b ∧ ¬ a = b)) : DV (dE d m a b) := by
  obtain ⟨n, m1, g, a1, a2, a3, a4, a5, a6, a7, a8⟩ := h
  have e : m1 = m := (nI_eq (by omega) (by omega)).mp (a5.symm.trans h1)
  subst e
  obtain ⟨ka, hka, rfl⟩ := ha
  refine ⟨n, m1 + 1, g, a1, by omega, Nat.lt_of_lt_of_le a3 (Nat.pow_le_pow_right (by decide) (by omega)), a4, rfl, a6, fun k hk => a7 k hk, fun e he => ?_⟩
  by_cases z : e = m1
  · subst z
    refine ⟨ka, 1000, hka, updSame, ?_, by omega, by omega, updSame⟩
    rcases hb with hb | ⟨⟨kb, hkb, rfl⟩, hne⟩
    · exact Or.inl (updSame.trans hb)
    · exact Or.inr ⟨kb, hkb, fun q => hne (by rw [q]), updSame⟩
  · obtain ⟨a, c1, b1, b2, b3, b4, b5, b6⟩ := a8 e (by omega)
    refine ⟨a, c1, b1, (updOther z).trans b2, ?_, b4, b5, (updOther z).trans b6⟩
    rcases b3 with b3 | ⟨b, c2, c3, c4⟩
    · exact Or.inl ((updOther z).trans b3)
    · exact Or.inr ⟨b, c2, c3, (updOther z).trans c4⟩
/-- the object behind a change of the engaged elements -/
def HSN (v : CV) (x : Int32) (w : CV) : Prop := w.1 = dU v.1 8 2 x ∧ w.2.1 = v.2.1 ∧ w.2.2.1 = v.2.2.1 ∧ w.2.2.2.1 = v.2.2.2.1 ∧ w.2.2.2.2.1 = v.2.2.2.2.1 ∧ w.2.2.2.2.2.2 = (if v.2.2.2.2.2.2 = 20 then 20 else v.2.2.2.2.2.2 + 1) ∧ ∀ j, j < w.2.2.2.2.2.2 → w.2.2.2.2.2.1 j = hsA v.2.2.2.2.2.1 v.2.2.2.2.2.2 (v.1 8 2) j
def CHG (v : CV) (x z : Int32) (w : CV) : Prop := (x = v.1 8 2 ∧ z = nI 0 ∧ w = v) ∨ (¬ x = v.1 8 2 ∧ z = nI 1 ∧ HSN v x w)
theorem IV_HSN {v w : CV} {x : Int32} (h : IV v) (hx : ∃ z, z < 2 ^ dn v.1 8 1 ∧ x = nI z) (hw : HSN v x w) : IV w := by
  obtain ⟨d, d1, d2, f1, f2, f, s0⟩ := v
  obtain ⟨d', d1', d2', f1', f2', f', s0'⟩ := w
  obtain ⟨e1, e2, e3, e4, e5, e6, e7⟩ := hw
  obtain ⟨h1, h2, h3, h4, h5, h6, h7⟩ := h
  dsimp only at *
  subst e1 e2 e3 e4 e5
  obtain ⟨z, hz, rfl⟩ := hx
  have h9 : ∃ z, z < 2 ^ dn d 8 1 ∧ d 8 2 = nI z := by
    obtain ⟨n, m, g, a1, a2, a3, a4, a5, a6, a7, a8⟩ := h1
    exact ⟨g, by rw [dn_of a5 (by omega)]; exact a3, a6⟩
  refine ⟨DV_eng h1 hz, h2, h3, h4, h5, ?_, fun j hj => ?_⟩
  · show s0' ≤ 20
    rw [e6]
    split <;> omega
  · have hj : j < s0' := hj
    show ∃ z_1, z_1 < 2 ^ dn d 8 1 ∧ f' j = nI z_1
    rw [e7 j hj]
    rw [e6] at hj
    unfold hsA
    by_cases q : s0 = 20
    · rw [if_pos q]
      rw [if_pos q] at hj
      by_cases q2 : j < 19
      · rw [if_pos q2]
        exact h7 _ (by omega)
      · rw [if_neg q2]
        exact h9
    · rw [if_neg q]
      rw [if_neg q] at hj
      by_cases q2 : j = s0
      · rw [if_pos q2]
        exact h9
      · rw [if_neg q2]
        exact h7 _ (by omega)
theorem IV_CHG {v w : CV} {x z : Int32} (h : IV v) (hx : ∃ z, z < 2 ^ dn v.1 8 1 ∧ x = nI z) (hw : CHG v x z w) : IV w := by
  rcases hw with ⟨-, -, rfl⟩ | ⟨-, -, hw⟩
  · exact h
  · exact IV_HSN h hx hw
