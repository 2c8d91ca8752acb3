/-! shifts: the fewest are the same both ways; the order of the gears -/
section SH
def Rch (G : Nat → Nat) (n : Nat) : Nat → Nat → Nat → Prop
  | 0 => fun i j => i = j
  | s + 1 => fun i j => ∃ h, h < n ∧ nbr (G i) (G h) ∧ Rch G n s h j
theorem nbr_symm {a b : Nat} (h : nbr a b) : nbr b a := ⟨h.2, h.1⟩
theorem Rch_end {G : Nat → Nat} {n k : Nat} (hk : k < n) : ∀ {s i j : Nat}, Rch G n s i j → nbr (G j) (G k) → Rch G n (s + 1) i k
  | 0, i, j, h, hb => by
    have e : i = j := h
    subst e
    exact ⟨k, hk, hb, rfl⟩
  | s + 1, i, j, h, hb => by
    obtain ⟨h9, hh, hb2, hr⟩ := h
    exact ⟨h9, hh, hb2, Rch_end hk hr hb⟩
theorem Rch_symm {G : Nat → Nat} {n : Nat} : ∀ {s i j : Nat}, i < n → Rch G n s i j → Rch G n s j i
  | 0, i, j, _, h => Eq.symm h
  | s + 1, i, j, hi, h => by
    obtain ⟨k, hk, hb, hr⟩ := h
    exact Rch_end hi (Rch_symm hk hr) (nbr_symm hb)
theorem least {P : Nat → Prop} : ∀ {v : Nat}, P v → ∃ w, w ≤ v ∧ P w ∧ ∀ u, u < w → ¬ P u := by
  intro v
  induction v using Nat.strongRecOn with
  | ind v ih =>
    intro h
    by_cases q : ∃ u, u < v ∧ P u
    · obtain ⟨u, hu, hp⟩ := q
      obtain ⟨w, hw, h1, h2⟩ := ih u hu hp
      exact ⟨w, by omega, h1, h2⟩
    · exact ⟨v, Nat.le_refl _, h, fun u hu hp => q ⟨u, hu, hp⟩⟩
/-- a round's distances are the lengths of shortest ways -/
theorem dD_iff {G : Nat → Nat} {n last : Nat} : ∀ (S i v : Nat), i < n → v ≤ S → (dD G n last S i = (v : Int) ↔ (Rch G n v i last ∧ ∀ w, w < v → ¬ Rch G n w i last))
  | 0, i, v, hi, hv => by
    have e : v = 0 := by omega
    subst e
    show (if i = last then (0 : Int) else -1) = ((0 : Nat) : Int) ↔ _
    constructor
    · intro h
      refine ⟨Classical.byContradiction fun q => ?_, fun w hw => absurd hw (Nat.not_lt_zero _)⟩
      have q : ¬ i = last := q
      rw [if_neg q] at h
      omega
    · intro h
      have h1 : i = last := h.1
      rw [if_pos h1]
      rfl
  | S + 1, i, v, hi, hv => by
    have ih := fun (j u : Nat) (hj : j < n) (hu : u ≤ S) => dD_iff (G := G) (n := n) (last := last) S j u hj hu
    have hrg := dD_range G n last S i
    by_cases q : dD G n last S i = -1 ∧ ∃ h, h < n ∧ dD G n last S h = (S : Int) ∧ nbr (G i) (G h)
    · rw [dD_yes q.1 q.2]
      by_cases e : v = S + 1
      · subst e
        refine ⟨fun _ => ?_, fun _ => by omega⟩
        obtain ⟨h, hh, hd, hb⟩ := q.2
        refine ⟨⟨h, hh, hb, ((ih h S hh (Nat.le_refl _)).mp hd).1⟩, fun w hw hr => ?_⟩
        obtain ⟨u, hu, h1, h2⟩ := least (P := fun u => Rch G n u i last) hr
        have := (ih i u hi (by omega)).mpr ⟨h1, h2⟩
        omega
      · have h0 := ih i v hi (by omega)
        constructor
        · intro h; omega
        · intro h
          have := h0.mpr h
          omega
    · rw [dD_no q]
      by_cases e : v = S + 1
      · subst e
        constructor
        · intro h; omega
        · rintro ⟨⟨h, hh, hb, hr⟩, hno⟩
          exfalso
          refine q ⟨?_, h, hh, (ih h S hh (Nat.le_refl _)).mpr ⟨hr, fun w hw hr2 => hno (w + 1) (by omega) ⟨h, hh, hb, hr2⟩⟩, hb⟩
          refine Classical.byContradiction fun z => ?_
          have h9 : dD G n last S i = ((dD G n last S i).toNat : Int) := by omega
          exact hno _ (by omega) ((ih i (dD G n last S i).toNat hi (by omega)).mp h9).1
      · exact ih i v hi (by omega)
theorem dD_symm {G : Nat → Nat} {n a b : Nat} (S : Nat) (ha : a < n) (hb : b < n) : dD G n b S a = dD G n a S b := by
  have key : ∀ x y, x < n → y < n → ∀ v : Nat, v ≤ S → dD G n y S x = (v : Int) → dD G n x S y = (v : Int) := fun x y hx hy v hv h => by
    obtain ⟨h1, h2⟩ := (dD_iff S x v hx hv).mp h
    exact (dD_iff S y v hy hv).mpr ⟨Rch_symm hx h1, fun w hw hr => h2 w hw (Rch_symm hy hr)⟩
  have r1 := dD_range G n b S a
  have r2 := dD_range G n a S b
  by_cases q : dD G n b S a = -1
  · by_cases z : dD G n a S b = -1
    · rw [q, z]
    · have h9 : dD G n a S b = ((dD G n a S b).toNat : Int) := by omega
      have := key b a hb ha _ (by omega) h9
      omega
  · have h9 : dD G n b S a = ((dD G n b S a).toNat : Int) := by omega
    have := key a b ha hb _ (by omega) h9
    omega
theorem dD_zero {G : Nat → Nat} {n a b : Nat} (S : Nat) (ha : a < n) : dD G n b S a = 0 ↔ a = b := by
  have h := dD_iff (G := G) (n := n) (last := b) S a 0 ha (Nat.zero_le _)
  constructor
  · intro e
    exact ((h.mp e).1 : a = b)
  · intro e
    exact h.mpr ⟨e, fun w hw => absurd hw (Nat.not_lt_zero _)⟩
theorem dD_near {G : Nat → Nat} {n a b : Nat} {S : Nat} (hS : 1 ≤ S) (ha : a < n) (hb : b < n) (h : nbr (G a) (G b)) : 0 ≤ dD G n b S a := by
  obtain ⟨u, hu, h1, h2⟩ := least (P := fun u => Rch G n u a b) (v := 1) ⟨b, hb, h, rfl⟩
  have := (dD_iff S a u ha (by omega)).mpr ⟨h1, h2⟩
  omega
theorem lstF_min {P : Nat → Prop} {n h : Nat} (hn : h < n) (hp : P h) : lstF P n < n ∧ P (lstF P n) := by
  obtain ⟨w, hw, h1, h2⟩ := least hp
  rw [lstF_eq (show w < n by omega) h1 h2]
  exact ⟨by omega, h1⟩
/-- the walk: each step one shift nearer -/
theorem wkF_on {G : Nat → Nat} {n last S src v : Nat} (hsrc : src < n) (hv : dD G n last S src = (v : Int)) : ∀ k, k ≤ v → wkF G n (dD G n last S) src k < n ∧ dD G n last S (wkF G n (dD G n last S) src k) = (v : Int) - k ∧ (1 ≤ k → nbr (G (wkF G n (dD G n last S) src (k - 1))) (G (wkF G n (dD G n last S) src k)))
  | 0, _ => ⟨hsrc, by show dD G n last S src = (v : Int) - ((0 : Nat) : Int); rw [hv]; omega, fun h => absurd h (by decide)⟩
  | k + 1, hk => by
    obtain ⟨h1, h2, -⟩ := wkF_on hsrc hv k (by omega)
    have h3 : dD G n last S (wkF G n (dD G n last S) src k) = ((v - k - 1 : Nat) : Int) + 1 := by rw [h2]; omega
    obtain ⟨j, hj, hd, hb⟩ := dD_step h3
    have h4 := lstF_min (P := fun h => dD G n last S h = dD G n last S src - (k : Int) - 1 ∧ nbr (G (wkF G n (dD G n last S) src k)) (G h)) hj ⟨by rw [hd, hv]; omega, hb⟩
    refine ⟨h4.1, ?_, fun _ => h4.2.2⟩
    show dD G n last S (lstF _ n) = (v : Int) - ((k + 1 : Nat) : Int)
    have h5 : dD G n last S (lstF (fun h => dD G n last S h = dD G n last S src - (k : Int) - 1 ∧ nbr (G (wkF G n (dD G n last S) src k)) (G h)) n) = dD G n last S src - (k : Int) - 1 := h4.2.1
    rw [h5, hv]
    omega
/-! the order of the gears -/
def LEq (d : Nat → Nat → Int32) (a b : Nat) : Prop := rtN (SP d a) * rtD (SP d b) ≤ rtN (SP d b) * rtD (SP d a)
theorem frac_trans {a b c p q r : Int} (hq : 0 < q) (hp : 0 < p) (hr : 0 < r) (h1 : a * q ≤ b * p) (h2 : b * r ≤ c * q) : a * r ≤ c * p := by
  have h3 : q * (a * r) ≤ q * (c * p) := by
    have e1 : q * (a * r) = a * q * r := by grind
    have e2 : q * (c * p) = c * q * p := by grind
    have e3 : b * p * r = b * r * p := by grind
    rw [e1, e2]
    refine Int.le_trans (Int.mul_le_mul_of_nonneg_right h1 (by omega)) ?_
    rw [e3]
    exact Int.mul_le_mul_of_nonneg_right h2 (by omega)
  exact Int.le_of_mul_le_mul_left h3 hq
def Srt (d : Nat → Nat → Int32) (G : Nat → Nat) (n : Nat) : Prop := ∀ i j, i < j → j < n → LEq d (G i) (G j) ∧ (rtN (SP d (G i)) * rtD (SP d (G j)) = rtN (SP d (G j)) * rtD (SP d (G i)) → G i < G j)
theorem isG_pos {d : Nat → Nat → Int32} {g : Nat} (h : isG d g) : 0 < rtD (SP d g) := by
  have h1 := rtD_ne (show stC (SP d g) = 0 from h.2.1)
  unfold rtD at *
  omega
theorem posG_spec (d : Nat → Nat → Int32) (G : Nat → Nat) (g : Nat) : ∀ n, (∀ k, posG d G g n ≤ k → k < n → gtR d (G k) g) ∧ (0 < posG d G g n → ¬ gtR d (G (posG d G g n - 1)) g)
  | 0 => ⟨fun k _ h => absurd h (Nat.not_lt_zero _), fun h => absurd h (Nat.lt_irrefl _)⟩
  | n + 1 => by
    obtain ⟨h1, h2⟩ := posG_spec d G g n
    by_cases q : gtR d (G n) g
    · rw [posG_yes q]
      refine ⟨fun k hk hk2 => ?_, h2⟩
      by_cases e : k = n
      · subst e; exact q
      · exact h1 k hk (by omega)
    · rw [posG_no q]
      exact ⟨fun k hk hk2 => absurd hk2 (by omega), fun _ => q⟩
theorem gst_srt (d : Nat → Nat → Int32) : ∀ t, Srt d (gst d t).2 (gst d t).1
  | 0 => fun i j _ h => absurd h (Nat.not_lt_zero _)
  | t + 1 => by
    have ih := gst_srt d t
    have hm := gst_mem d t
    by_cases q : isG d t
    · rw [gst_yes q]
      generalize (gst d t).2 = G at ih hm
      generalize (gst d t).1 = n at ih hm
      obtain ⟨p1, p2⟩ := posG_spec d G t n
      have hle := posG_le d G t n
      generalize hpp : posG d G t n = p at p1 p2 hle
      have hpt : 0 < rtD (SP d t) := isG_pos q
      have hlow : ∀ i, i < p → LEq d (G i) t := fun i hi => by
        have h1 : LEq d (G (p - 1)) t := by
          have := p2 (by omega)
          unfold gtR at this
          unfold LEq
          omega
        by_cases e : i = p - 1
        · rw [e]; exact h1
        · have h2 := (ih i (p - 1) (by omega) (by omega)).1
          exact frac_trans (isG_pos (hm (p - 1) (by omega)).1) (isG_pos (hm i (by omega)).1) hpt h2 h1
      have hins : ∀ i, insG d G n t i = if i < p then G i else if i = p then t else G (i - 1) := fun i => by unfold insG; rw [hpp]
      intro i j hij hj
      have hj : j < n + 1 := hj
      show LEq d (insG d G n t i) (insG d G n t j) ∧ (rtN (SP d (insG d G n t i)) * rtD (SP d (insG d G n t j)) = rtN (SP d (insG d G n t j)) * rtD (SP d (insG d G n t i)) → insG d G n t i < insG d G n t j)
      rw [hins i, hins j]
      by_cases hjp : j < p
      · rw [if_pos hjp, if_pos (show i < p by omega)]
        exact ih i j hij (by omega)
      · rw [if_neg hjp]
        by_cases hje : j = p
        · rw [if_pos hje, if_pos (show i < p by omega)]
          exact ⟨hlow i (by omega), fun _ => (hm i (by omega)).2⟩
        · rw [if_neg hje]
          by_cases hip : i < p
          · rw [if_pos hip]
            exact ih i (j - 1) (by omega) (by omega)
          · rw [if_neg hip]
            have hgt := p1 (j - 1) (by omega) (by omega)
            by_cases hie : i = p
            · rw [if_pos hie]
              unfold gtR at hgt
              exact ⟨by unfold LEq; omega, fun z => by omega⟩
            · rw [if_neg hie]
              exact ih (i - 1) (j - 1) (by omega) (by omega)
    · rw [gst_no q]
      exact ih
theorem gF_srt (d : Nat → Nat → Int32) : Srt d (gF d) (gN d) := gst_srt d 64
theorem gF_isG {d : Nat → Nat → Int32} {k : Nat} (h : k < gN d) : isG d (gF d k) ∧ gF d k < 64 := gst_mem d 64 k h
theorem gF_inj {d : Nat → Nat → Int32} {i j : Nat} (hi : i < gN d) (hj : j < gN d) (h : gF d i = gF d j) : i = j := by
  refine Classical.byContradiction fun q => ?_
  rcases Nat.lt_or_gt_of_ne q with z | z
  · have := (gF_srt d i j z hj).2 (by rw [h])
    omega
  · have := (gF_srt d j i z hi).2 (by rw [h])
    omega
/-- every gear has its place -/
theorem insG_has {d : Nat → Nat → Int32} {G : Nat → Nat} {n g i : Nat} (h : i < n) : ∃ k, k < n + 1 ∧ insG d G n g k = G i := by
  have hle := posG_le d G g n
  by_cases q : i < posG d G g n
  · exact ⟨i, by omega, if_pos q⟩
  · refine ⟨i + 1, by omega, ?_⟩
    unfold insG
    rw [if_neg (by omega), if_neg (by omega)]
    rfl
theorem gst_has {d : Nat → Nat → Int32} {s : Nat} (hs : isG d s) : ∀ t, s < t → ∃ k, k < (gst d t).1 ∧ (gst d t).2 k = s
  | 0, h => absurd h (Nat.not_lt_zero _)
  | t + 1, h => by
    by_cases q : isG d t
    · rw [gst_yes q]
      by_cases e : s = t
      · have hle := posG_le d (gst d t).2 t (gst d t).1
        refine ⟨posG d (gst d t).2 t (gst d t).1, by show _ < (gst d t).1 + 1; omega, ?_⟩
        show insG d (gst d t).2 (gst d t).1 t _ = s
        unfold insG
        rw [if_neg (Nat.lt_irrefl _), if_pos rfl, e]
      · obtain ⟨k, hk, hk2⟩ := gst_has hs t (by omega)
        obtain ⟨k', h1, h2⟩ := insG_has (d := d) (G := (gst d t).2) (n := (gst d t).1) (g := t) hk
        exact ⟨k', h1, h2.trans hk2⟩
    · rw [gst_no q]
      by_cases e : s = t
      · subst e; exact absurd hs q
      · exact gst_has hs t (by omega)
theorem gF_zero {d : Nat → Nat → Int32} : (∃ k, k < gN d ∧ gF d k = 0) ↔ stM d 0 = 0 := by
  constructor
  · rintro ⟨k, hk, h⟩
    have := (gF_isG hk).1.2.1
    rw [h] at this
    exact this
  · intro h
    exact gst_has (d := d) (s := 0) ⟨Nat.two_pow_pos _, h, fun s hs hne => absurd (by rw [← hs]; exact Nat.and_zero s) hne⟩ 64 (by decide)
/-- with one element less a gear is in neutral -/
theorem gear_less {d : Nat → Nat → Int32} {t e : Nat} (h : isG d t) (ht : t < 64) (he : e < 6) (hb : t.testBit e = true) : stM d (cl1 t e) = 2 := by
  obtain ⟨h1, h2, -⟩ := cl1_lt t ht e he
  obtain ⟨h3, h4⟩ := h2 hb
  exact h.2.2 (cl1 t e) h4 (by omega)
end SH
