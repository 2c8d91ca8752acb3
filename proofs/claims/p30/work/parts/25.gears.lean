/-! gears, their order, the shifts between them -/
section GE
def cl1 (t e : Nat) : Nat := t ^^^ (t &&& 2 ^ e)
def anN (a b : Nat) : Nat := a ^^^ (a &&& b)
def pcn (g : Nat) : Nat := (g.testBit 0).toNat + (g.testBit 1).toNat + (g.testBit 2).toNat + (g.testBit 3).toNat + (g.testBit 4).toNat + (g.testBit 5).toNat
theorem w_clr : ∀ t, t < 64 → ∀ e, e < 6 → nI t &&& ((nI 1 <<< (nI e &&& 31)) ^^^ (-1)) = nI (cl1 t e) := by decide +kernel
theorem w_or : ∀ t, t < 64 → ∀ e, e < 6 → nI t ||| (nI 1 <<< (nI e &&& 31)) = nI (t ||| 2 ^ e) := by decide +kernel
theorem w_anN : ∀ a, a < 64 → ∀ b, b < 64 → nI a &&& (nI b ^^^ (-1)) = nI (anN a b) := by decide +kernel
theorem cl1_lt : ∀ t, t < 64 → ∀ e, e < 6 → cl1 t e < 64 ∧ (t.testBit e = true → cl1 t e < t ∧ cl1 t e &&& t = cl1 t e) ∧ (¬ t.testBit e = true → cl1 t e = t) := by decide +kernel
theorem anN_lt : ∀ a, a < 64 → ∀ b, b < 64 → anN a b < 64 := by decide +kernel
theorem sub_cl : ∀ t, t < 64 → ∀ s, s < 64 → s &&& t = s → s ≠ t → ∃ e, e < 6 ∧ t.testBit e = true ∧ s &&& cl1 t e = s := by decide +kernel
theorem sub_trans : ∀ t, t < 64 → ∀ e, e < 6 → ∀ s, s < 64 → s &&& cl1 t e = s → s &&& t = s := by decide +kernel
theorem sub_ne : ∀ t, t < 64 → ∀ e, e < 6 → t.testBit e = true → ∀ s, s < 64 → s &&& cl1 t e = s → s ≠ t := by decide +kernel
theorem sub_lt : ∀ t, t < 64 → ∀ s, s < 64 → s &&& t = s → s ≤ t := by decide +kernel
theorem sub_le {s t : Nat} (h : s &&& t = s) : s ≤ t := by rw [← h]; exact Nat.and_le_right
abbrev SP (d : Nat → Nat → Int32) (g : Nat) : (Nat → Int) → Prop := HS (spM d g) 10
abbrev TQ (d : Nat → Nat → Int32) (g : Nat) : (Nat → Int) → Prop := HS (tqM d g) 10
noncomputable def stM (d : Nat → Nat → Int32) (g : Nat) : Nat := stC (SP d g)
def allN (d : Nat → Nat → Int32) (g : Nat) : Prop := ∀ s, s &&& g = s → stM d s = 2
def isG (d : Nat → Nat → Int32) (g : Nat) : Prop := g < 2 ^ dn d 8 1 ∧ stM d g = 0 ∧ ∀ s, s &&& g = s → s ≠ g → stM d s = 2
theorem smaller_iff {d : Nat → Nat → Int32} {t : Nat} (ht : t < 64) : (∀ e, e < 6 → t.testBit e = true → allN d (cl1 t e)) ↔ (∀ s, s &&& t = s → s ≠ t → stM d s = 2) := by
  constructor
  · intro h s hs hne
    have hs64 : s < 64 := by have := sub_le hs; omega
    obtain ⟨e, he, hb, h2⟩ := sub_cl t ht s hs64 hs hne
    exact h e he hb s h2
  · intro h e he hb s hs
    have hs64 : s < 64 := by have := sub_le hs; have := (cl1_lt t ht e he).1; omega
    exact h s (sub_trans t ht e he s hs64 hs) (sub_ne t ht e he hb s hs64 hs)
theorem allN_iff {d : Nat → Nat → Int32} {t : Nat} : allN d t ↔ stM d t = 2 ∧ ∀ s, s &&& t = s → s ≠ t → stM d s = 2 := by
  constructor
  · intro h
    exact ⟨h t (Nat.and_self t), fun s hs _ => h s hs⟩
  · rintro ⟨h1, h2⟩ s hs
    by_cases q : s = t
    · subst q; exact h1
    · exact h2 s hs q
/-! the order -/
def gtR (d : Nat → Nat → Int32) (a b : Nat) : Prop := rtN (SP d b) * rtD (SP d a) < rtN (SP d a) * rtD (SP d b)
noncomputable def posG (d : Nat → Nat → Int32) (G : Nat → Nat) (g : Nat) : Nat → Nat
  | 0 => 0
  | k + 1 => @ite _ (gtR d (G k) g) (Classical.propDecidable _) (posG d G g k) (k + 1)
theorem posG_le (d : Nat → Nat → Int32) (G : Nat → Nat) (g : Nat) : ∀ n, posG d G g n ≤ n
  | 0 => Nat.le_refl _
  | k + 1 => by
    unfold posG
    by_cases h : gtR d (G k) g
    · rw [if_pos h]; exact Nat.le_succ_of_le (posG_le d G g k)
    · rw [if_neg h]; exact Nat.le_refl _
theorem posG_yes {d : Nat → Nat → Int32} {G : Nat → Nat} {g k : Nat} (h : gtR d (G k) g) : posG d G g (k + 1) = posG d G g k := by
  show @ite _ (gtR d (G k) g) (Classical.propDecidable _) (posG d G g k) (k + 1) = _
  rw [if_pos h]
theorem posG_no {d : Nat → Nat → Int32} {G : Nat → Nat} {g k : Nat} (h : ¬ gtR d (G k) g) : posG d G g (k + 1) = k + 1 := by
  show @ite _ (gtR d (G k) g) (Classical.propDecidable _) (posG d G g k) (k + 1) = _
  rw [if_neg h]
noncomputable def insG (d : Nat → Nat → Int32) (G : Nat → Nat) (n g : Nat) : Nat → Nat := fun i => if i < posG d G g n then G i else if i = posG d G g n then g else G (i - 1)
noncomputable def gst (d : Nat → Nat → Int32) : Nat → Nat × (Nat → Nat)
  | 0 => (0, fun _ => 0)
  | t + 1 => @ite _ (isG d t) (Classical.propDecidable _) ((gst d t).1 + 1, insG d (gst d t).2 (gst d t).1 t) (gst d t)
theorem gst_yes {d : Nat → Nat → Int32} {t : Nat} (h : isG d t) : gst d (t + 1) = ((gst d t).1 + 1, insG d (gst d t).2 (gst d t).1 t) := by
  show @ite _ (isG d t) (Classical.propDecidable _) _ _ = _
  rw [if_pos h]
theorem gst_no {d : Nat → Nat → Int32} {t : Nat} (h : ¬ isG d t) : gst d (t + 1) = gst d t := by
  show @ite _ (isG d t) (Classical.propDecidable _) _ _ = _
  rw [if_neg h]
theorem gst_le (d : Nat → Nat → Int32) : ∀ t, (gst d t).1 ≤ t
  | 0 => Nat.le_refl _
  | t + 1 => by
    by_cases h : isG d t
    · rw [gst_yes h]; exact Nat.succ_le_succ (gst_le d t)
    · rw [gst_no h]; exact Nat.le_succ_of_le (gst_le d t)
noncomputable def gN (d : Nat → Nat → Int32) : Nat := (gst d 64).1
noncomputable def gF (d : Nat → Nat → Int32) : Nat → Nat := (gst d 64).2
theorem gN_le (d : Nat → Nat → Int32) : gN d ≤ 64 := gst_le d 64
theorem insG_mem {d : Nat → Nat → Int32} {P : Nat → Prop} {G : Nat → Nat} {n g : Nat} (h : ∀ i, i < n → P (G i)) (hg : P g) : ∀ i, i < n + 1 → P (insG d G n g i) := by
  intro i hi
  unfold insG
  have := posG_le d G g n
  split
  · exact h i (by omega)
  · split
    · exact hg
    · exact h _ (by omega)
theorem gst_mem (d : Nat → Nat → Int32) : ∀ t i, i < (gst d t).1 → isG d ((gst d t).2 i) ∧ (gst d t).2 i < t
  | 0, i, h => absurd h (Nat.not_lt_zero _)
  | t + 1, i, h => by
    by_cases q : isG d t
    · rw [gst_yes q] at h ⊢
      exact insG_mem (P := fun g => isG d g ∧ g < t + 1) (fun j hj => ⟨(gst_mem d t j hj).1, by have := (gst_mem d t j hj).2; omega⟩) ⟨q, Nat.lt_succ_self t⟩ i h
    · rw [gst_no q] at h ⊢
      have := gst_mem d t i h
      exact ⟨this.1, by omega⟩
/-- a row of gears, with their ratios -/
def TabA (d : Nat → Nat → Int32) (G : Nat → Nat) (n : Nat) (ma : Nat → Int32) (nu de : Nat → Int64) : Prop := ∀ i, i < n → G i < 64 ∧ ma i = nI (G i) ∧ (nu i).toInt = rtN (SP d (G i)) ∧ (de i).toInt = rtD (SP d (G i)) ∧ (nu i).toInt.natAbs ≤ BB ∧ (de i).toInt.natAbs ≤ BB
/-! shifts -/
def nbr (a b : Nat) : Prop := pcn (anN a b) = 1 ∧ pcn (anN b a) = 1
/-- the least below n with P, or n -/
noncomputable def lstF (P : Nat → Prop) : Nat → Nat
  | 0 => 0
  | n + 1 => if lstF P n < n then lstF P n else @ite _ (P n) (Classical.propDecidable _) n (n + 1)
theorem lstF_le (P : Nat → Prop) : ∀ n, lstF P n ≤ n
  | 0 => Nat.le_refl _
  | n + 1 => by
    have ih := lstF_le P n
    unfold lstF
    split
    · omega
    · by_cases h : P n
      · rw [if_pos h]; omega
      · rw [if_neg h]; omega
theorem lstF_eq {P : Nat → Prop} {h : Nat} : ∀ {n : Nat}, h < n → P h → (∀ j, j < h → ¬ P j) → lstF P n = h
  | n + 1, hn, hp, hm => by
    have key : ∀ m, m ≤ h → lstF P m = m := by
      intro m
      induction m with
      | zero => intro _; rfl
      | succ m ih =>
        intro hmm
        unfold lstF
        rw [ih (by omega), if_neg (Nat.lt_irrefl _), if_neg (hm m (by omega))]
    unfold lstF
    by_cases q : h = n
    · subst q
      rw [key h (Nat.le_refl _), if_neg (Nat.lt_irrefl _), if_pos hp]
    · have := lstF_eq (n := n) (show h < n by omega) hp hm
      rw [this, if_pos (by omega)]
/-- the fewest shifts to gear 'last', after s rounds; -1: not reached yet -/
noncomputable def dD (G : Nat → Nat) (n last : Nat) : Nat → Nat → Int
  | 0 => fun i => if i = last then 0 else -1
  | s + 1 => fun i => @ite _ (dD G n last s i = -1 ∧ ∃ h, h < n ∧ dD G n last s h = (s : Int) ∧ nbr (G i) (G h)) (Classical.propDecidable _) ((s : Int) + 1) (dD G n last s i)
theorem dD_yes {G : Nat → Nat} {n last s i : Nat} (h1 : dD G n last s i = -1) (h2 : ∃ h, h < n ∧ dD G n last s h = (s : Int) ∧ nbr (G i) (G h)) : dD G n last (s + 1) i = (s : Int) + 1 := by
  show @ite _ _ (Classical.propDecidable _) _ _ = _
  rw [if_pos ⟨h1, h2⟩]
theorem dD_no {G : Nat → Nat} {n last s i : Nat} (h : ¬ (dD G n last s i = -1 ∧ ∃ h, h < n ∧ dD G n last s h = (s : Int) ∧ nbr (G i) (G h))) : dD G n last (s + 1) i = dD G n last s i := by
  show @ite _ _ (Classical.propDecidable _) _ _ = _
  rw [if_neg h]
theorem dD_range (G : Nat → Nat) (n last : Nat) : ∀ s i, -1 ≤ dD G n last s i ∧ dD G n last s i ≤ s
  | 0, i => by
    show -1 ≤ (if i = last then (0 : Int) else -1) ∧ (if i = last then (0 : Int) else -1) ≤ ((0 : Nat) : Int)
    split <;> omega
  | s + 1, i => by
    by_cases h : dD G n last s i = -1 ∧ ∃ h, h < n ∧ dD G n last s h = (s : Int) ∧ nbr (G i) (G h)
    · rw [dD_yes h.1 h.2]; omega
    · rw [dD_no h]
      have := dD_range G n last s i
      omega
/-- what is once reached stays -/
theorem dD_keep {G : Nat → Nat} {n last s i : Nat} (h : dD G n last s i ≠ -1) : ∀ k, dD G n last (s + k) i = dD G n last s i
  | 0 => rfl
  | k + 1 => by
    have ih := dD_keep h k
    rw [← Nat.add_assoc, dD_no (fun z => h (by rw [← ih]; exact z.1)), ih]
theorem dD_step {G : Nat → Nat} {n last s i : Nat} {v : Nat} (h : dD G n last s i = (v : Int) + 1) : ∃ j, j < n ∧ dD G n last s j = (v : Int) ∧ nbr (G i) (G j) := by
  induction s with
  | zero =>
    have h2 : (if i = last then (0 : Int) else -1) = (v : Int) + 1 := h
    split at h2 <;> omega
  | succ s ih =>
    by_cases q : dD G n last s i = -1 ∧ ∃ h, h < n ∧ dD G n last s h = (s : Int) ∧ nbr (G i) (G h)
    · rw [dD_yes q.1 q.2] at h
      obtain ⟨j, hj, hd, hb⟩ := q.2
      have hv : (s : Int) = v := by omega
      refine ⟨j, hj, ?_, hb⟩
      have := dD_keep (G := G) (n := n) (last := last) (s := s) (i := j) (by omega) 1
      rw [this, hd, hv]
    · rw [dD_no q] at h
      obtain ⟨j, hj, hd, hb⟩ := ih h
      refine ⟨j, hj, ?_, hb⟩
      have := dD_keep (G := G) (n := n) (last := last) (s := s) (i := j) (by omega) 1
      rw [this, hd]
/-- the gear after k shifts on the way -/
noncomputable def wkF (G : Nat → Nat) (n : Nat) (D : Nat → Int) (src : Nat) : Nat → Nat
  | 0 => src
  | k + 1 => lstF (fun h => D h = D src - (k : Int) - 1 ∧ nbr (G (wkF G n D src k)) (G h)) n
end GE
