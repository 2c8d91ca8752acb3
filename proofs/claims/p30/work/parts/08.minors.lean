/-! minors of whole numbers, by expansion along the first column -/
section MN
def mx (f : (Nat → Int) → List (Nat → Int) → Int) : List (Nat → Int) → Int
  | [] => 0
  | r :: rs => f r rs - mx (fun t q => f t (r :: q)) rs
def mn : List Nat → List (Nat → Int) → Int
  | [] => fun rs => match rs with
    | [] => 1
    | _ :: _ => 0
  | j :: cs => fun rs => mx (fun r q => r j * mn cs q) rs
theorem mn_cons (j : Nat) (cs : List Nat) (r : Nat → Int) (rs : List (Nat → Int)) : mn (j :: cs) (r :: rs) = r j * mn cs rs - mx (fun t q => t j * mn cs (r :: q)) rs := rfl
theorem mn_nil_rows (j : Nat) (cs : List Nat) : mn (j :: cs) [] = 0 := rfl
theorem mx_congr : ∀ (rs : List (Nat → Int)) (f g : (Nat → Int) → List (Nat → Int) → Int), (∀ r q, (r :: q).Perm rs → f r q = g r q) → mx f rs = mx g rs
  | [], _, _, _ => rfl
  | r :: rs, f, g, h => by
    show f r rs - mx _ rs = g r rs - mx _ rs
    rw [h r rs (List.Perm.refl _), mx_congr rs (fun t q => f t (r :: q)) (fun t q => g t (r :: q)) (fun t q hq => h t (r :: q) ((List.Perm.swap r t q).trans (hq.cons r)))]
theorem mx_lin (a b : Int) : ∀ (rs : List (Nat → Int)) (f g : (Nat → Int) → List (Nat → Int) → Int), mx (fun r q => a * f r q + b * g r q) rs = a * mx f rs + b * mx g rs
  | [], _, _ => by simp [mx]
  | r :: rs, f, g => by
    show (a * f r rs + b * g r rs) - mx (fun t q => a * f t (r :: q) + b * g t (r :: q)) rs = a * (f r rs - mx (fun t q => f t (r :: q)) rs) + b * (g r rs - mx (fun t q => g t (r :: q)) rs)
    rw [mx_lin a b rs (fun t q => f t (r :: q)) (fun t q => g t (r :: q))]
    grind
theorem mx_zero (rs : List (Nat → Int)) (f : (Nat → Int) → List (Nat → Int) → Int) (h : ∀ r q, (r :: q).Perm rs → f r q = 0) : mx f rs = 0 := by
  have h1 := mx_congr rs f (fun r q => 0 * f r q + 0 * f r q) (fun r q hq => by rw [h r q hq]; simp)
  rw [h1, mx_lin]
  simp
/-- what changes its sign with two neighbours -/
def mAlt (F : List (Nat → Int) → Int) : Prop := ∀ xs a b ys, F (xs ++ a :: b :: ys) = - F (xs ++ b :: a :: ys)
theorem mx_alt : ∀ (xs : List (Nat → Int)) (f : (Nat → Int) → List (Nat → Int) → Int), (∀ t, mAlt (f t)) → ∀ a b ys, mx f (xs ++ a :: b :: ys) = - mx f (xs ++ b :: a :: ys)
  | [], f, h, a, b, ys => by
    show f a (b :: ys) - (f b (a :: ys) - mx (fun t q => f t (a :: b :: q)) ys) = -(f b (a :: ys) - (f a (b :: ys) - mx (fun t q => f t (b :: a :: q)) ys))
    have h1 : mx (fun t q => f t (a :: b :: q)) ys = mx (fun t q => (-1) * f t (b :: a :: q) + 0 * f t q) ys := mx_congr ys _ _ (fun t q _ => by
      have := h t [] a b q
      simp only [List.nil_append] at this
      rw [this]
      grind)
    rw [h1, mx_lin]
    grind
  | x :: xs, f, h, a, b, ys => by
    show f x (xs ++ a :: b :: ys) - mx (fun t q => f t (x :: q)) (xs ++ a :: b :: ys) = -(f x (xs ++ b :: a :: ys) - mx (fun t q => f t (x :: q)) (xs ++ b :: a :: ys))
    rw [h x xs a b ys, mx_alt xs (fun t q => f t (x :: q)) (fun t zs a b ws => h t (x :: zs) a b ws) a b ys]
    grind
theorem mn_one : mn [] [] = 1 := rfl
theorem mn_over (r : Nat → Int) (rs : List (Nat → Int)) : mn [] (r :: rs) = 0 := rfl
theorem mn_alt : ∀ (cs : List Nat), mAlt (mn cs)
  | [] => fun xs a b ys => by
    cases xs with
    | nil => rfl
    | cons x xs => rfl
  | j :: cs => fun xs a b ys => mx_alt xs (fun r q => r j * mn cs q) (fun t zs a b ws => by
      show t j * mn cs (zs ++ a :: b :: ws) = -(t j * mn cs (zs ++ b :: a :: ws))
      rw [mn_alt cs zs a b ws]
      grind) a b ys
theorem alt_perm {l l' : List (Nat → Int)} (h : l.Perm l') : ∃ e : Int, (e = 1 ∨ e = -1) ∧ ∀ F, mAlt F → F l = e * F l' := by
  induction h with
  | nil => exact ⟨1, Or.inl rfl, fun F _ => by simp⟩
  | @cons x l1 l2 h ih =>
    obtain ⟨e, he, h1⟩ := ih
    exact ⟨e, he, fun F hF => h1 (fun q => F (x :: q)) (fun xs a b ys => hF (x :: xs) a b ys)⟩
  | swap x y l => exact ⟨-1, Or.inr rfl, fun F hF => by
      have := hF [] y x l
      simp only [List.nil_append] at this
      rw [this]
      grind⟩
  | trans h1 h2 ih1 ih2 =>
    obtain ⟨e1, g1, k1⟩ := ih1
    obtain ⟨e2, g2, k2⟩ := ih2
    refine ⟨e1 * e2, ?_, fun F hF => by rw [k1 F hF, k2 F hF]; grind⟩
    rcases g1 with rfl | rfl <;> rcases g2 with rfl | rfl <;> simp
theorem mn_perm {l l' : List (Nat → Int)} (h : l.Perm l') : ∃ e : Int, (e = 1 ∨ e = -1) ∧ ∀ cs, mn cs l = e * mn cs l' := by
  obtain ⟨e, he, h1⟩ := alt_perm h
  exact ⟨e, he, fun cs => h1 _ (mn_alt cs)⟩
theorem mn_dup {a : Nat → Int} {l : List (Nat → Int)} (h : a ∈ l) (cs : List Nat) : mn cs (a :: l) = 0 := by
  obtain ⟨s, t, rfl⟩ := List.append_of_mem h
  obtain ⟨e, he, h1⟩ := mn_perm (show (a :: (s ++ a :: t)).Perm (a :: a :: (s ++ t)) from List.Perm.cons a List.perm_middle)
  have h2 := mn_alt cs [] a a (s ++ t)
  simp only [List.nil_append] at h2
  have h3 : mn cs (a :: a :: (s ++ t)) = 0 := by omega
  rw [h1 cs, h3]
  simp
theorem mn_lin (c d : Int) {u v w : Nat → Int} (hw : ∀ j, w j = c * u j + d * v j) : ∀ (cs : List Nat) (l : List (Nat → Int)), mn cs (w :: l) = c * mn cs (u :: l) + d * mn cs (v :: l)
  | [], l => by simp [mn_over]
  | j :: cs, l => by
    rw [mn_cons, mn_cons, mn_cons, hw j]
    have h1 : mx (fun t q => t j * mn cs (w :: q)) l = mx (fun t q => c * (t j * mn cs (u :: q)) + d * (t j * mn cs (v :: q))) l := mx_congr l _ _ (fun t q _ => by
      rw [mn_lin c d hw cs q]
      grind)
    rw [h1, mx_lin]
    grind
/-- only the entries in the columns at hand count -/
theorem mn_zero_row {w : Nat → Int} : ∀ (cs : List Nat) (l : List (Nat → Int)), (∀ j ∈ cs, w j = 0) → mn cs (w :: l) = 0
  | [], l, _ => rfl
  | j :: cs, l, h => by
    rw [mn_cons, h j List.mem_cons_self]
    have h1 : mx (fun t q => t j * mn cs (w :: q)) l = 0 := mx_zero l _ (fun t q _ => by
      rw [mn_zero_row cs q (fun k hk => h k (List.mem_cons_of_mem _ hk))]
      simp)
    rw [h1]
    simp
theorem mn_zero_col {j : Nat} (cs : List Nat) (l : List (Nat → Int)) (h : ∀ r ∈ l, r j = 0) : mn (j :: cs) l = 0 := by
  show mx (fun r q => r j * mn cs q) l = 0
  refine mx_zero l _ (fun r q hq => ?_)
  rw [h r (hq.subset List.mem_cons_self)]
  simp
/-- one row more: the others stand on columns of their own -/
theorem mn_front {w : Nat → Int} (j : Nat) (cs : List Nat) (l : List (Nat → Int)) (h : ∀ k ∈ cs, w k = 0) : mn (j :: cs) (w :: l) = mn cs l * w j := by
  rw [mn_cons]
  have h1 : mx (fun t q => t j * mn cs (w :: q)) l = 0 := mx_zero l _ (fun t q _ => by
    rw [mn_zero_row cs q h]
    simp)
  rw [h1]
  grind
/-- a diagonal -/
theorem mn_diag {V : Nat → Nat → Int} : ∀ (ps : List (Nat × Nat)), (∀ q ∈ ps, V q.1 q.2 ≠ 0) → ps.Pairwise (fun a b => V b.1 a.2 = 0) → mn (ps.map Prod.snd) (ps.map (fun q => V q.1)) ≠ 0
  | [], _, _ => by simp [mn]
  | q :: ps, h, hp => by
    rw [List.map_cons, List.map_cons, mn_cons]
    have hp' := List.pairwise_cons.mp hp
    have h1 : mx (fun t z => t q.2 * mn (ps.map Prod.snd) (V q.1 :: z)) (ps.map (fun q => V q.1)) = 0 := mx_zero _ _ (fun t z hz => by
      obtain ⟨b, hb, rfl⟩ := List.mem_map.mp (hz.subset List.mem_cons_self)
      rw [hp'.1 b hb]
      simp)
    rw [h1]
    have h2 := mn_diag ps (fun q hq => h q (List.mem_cons_of_mem _ hq)) hp'.2
    have h3 := h q List.mem_cons_self
    simp only [Int.sub_zero]
    exact Int.mul_ne_zero h3 h2
end MN
