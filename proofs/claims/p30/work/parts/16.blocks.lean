/-! worlds of blocks -/
section BL
variable {D : va_G} {cl : List vw_C} {A : Nat → Prop} {H H1 : Heap}
theorem P_mem {ws : va_W} : va_P D cl ws H ↔ ∀ q ∈ ws, va_at D cl q H := ⟨fun h q hq => by
  obtain ⟨k, hk⟩ := List.getElem?_of_mem hq
  exact h k q hk, fun h k q hk => h q (List.mem_of_getElem? hk)⟩
theorem D_mem {ws : va_W} : va_D A ws ↔ ws.Pairwise (fun a b => a.1 ≠ b.1) ∧ ∀ q ∈ ws, A q.1 := by
  constructor
  · intro h
    refine ⟨List.pairwise_iff_getElem.mpr (fun i j hi hj hij e => ?_), fun q hq => ?_⟩
    · have := h.1 i j _ _ (List.getElem?_eq_getElem hi) (List.getElem?_eq_getElem hj) e
      omega
    · obtain ⟨k, hk⟩ := List.getElem?_of_mem hq
      exact h.2 k q hk
  · intro h
    refine ⟨fun i j p q hi hj e => ?_, fun k q hk => h.2 q (List.mem_of_getElem? hk)⟩
    obtain ⟨hi1, hi2⟩ := List.getElem?_eq_some_iff.mp hi
    obtain ⟨hj1, hj2⟩ := List.getElem?_eq_some_iff.mp hj
    have hpw := List.pairwise_iff_getElem.mp h.1
    rcases Nat.lt_trichotomy i j with z | z | z
    · exact absurd (by rw [hi2, hj2]; exact e) (hpw i j hi1 hj1 z)
    · exact z
    · exact absurd (by rw [hi2, hj2]; exact e.symm) (hpw j i hj1 hi1 z)
theorem A_mem {ws : va_W} {sz q : Nat} : va_A ws sz q ↔ (∃ e, (q, e) ∈ ws) ∨ sz ≤ q := by
  constructor
  · rintro (⟨k, e, h⟩ | h)
    · exact Or.inl ⟨e, List.mem_of_getElem? h⟩
    · exact Or.inr h
  · rintro (⟨e, h⟩ | h)
    · obtain ⟨k, hk⟩ := List.getElem?_of_mem h
      exact Or.inl ⟨k, e, hk⟩
    · exact Or.inr h
theorem P_lt {ws : va_W} (h : va_P D cl ws H) {q : Nat × va_E} (hq : q ∈ ws) : q.1 < H.size := by
  obtain ⟨k, hk⟩ := List.getElem?_of_mem hq
  exact (h k q hk).lt
theorem blkP {X B Y : va_W} (h : va_P D cl (X ++ (B ++ Y)) H) : va_P D cl B H := P_mem.mpr (fun q hq => P_mem.mp h q (List.mem_append_right _ (List.mem_append_left _ hq)))
theorem blkD {X B Y : va_W} (h : va_D A (X ++ (B ++ Y))) : va_D A B := by
  obtain ⟨h1, h2⟩ := D_mem.mp h
  exact D_mem.mpr ⟨(List.pairwise_append.mp (List.pairwise_append.mp h1).2.1).1, fun q hq => h2 q (List.mem_append_right _ (List.mem_append_left _ hq))⟩
theorem blkF {X B Y : va_W} {H0 : Heap} {locs : List Loc} (hD : va_D A (X ++ (B ++ Y))) (hS : va_S A H0 H locs) (hA : ∀ q, H0.size ≤ q → A q) : ∀ q, va_A B H.size q → A q := fun q h => by
  rcases A_mem.mp h with ⟨e, he⟩ | h
  · exact (D_mem.mp hD).2 (q, e) (List.mem_append_right _ (List.mem_append_left _ he))
  · exact hA q (Nat.le_trans hS.1 h)
theorem blkJ {X B Y B1 : va_W} (hP : va_P D cl (X ++ (B ++ Y)) H) (hD : va_D A (X ++ (B ++ Y))) (hk : ∀ q : Nat, q < H.size → ¬ va_A B H.size q → H1[q]? = H[q]?) (hF : ∀ q, va_A B H.size q → A q) (hP1 : va_P D cl B1 H1) (hD1 : va_D (va_A B H.size) B1) : va_P D cl (X ++ (B1 ++ Y)) H1 ∧ va_D A (X ++ (B1 ++ Y)) := by
  obtain ⟨h1, h2⟩ := D_mem.mp hD
  obtain ⟨g1, g2⟩ := D_mem.mp hD1
  obtain ⟨pX, pBY, xBY⟩ := List.pairwise_append.mp h1
  obtain ⟨pB, pY, bY⟩ := List.pairwise_append.mp pBY
  have nX : ∀ q ∈ X, ¬ va_A B H.size q.1 := fun q hq z => by
    rcases A_mem.mp z with ⟨e, he⟩ | z
    · exact xBY q hq (q.1, e) (List.mem_append_left _ he) rfl
    · have := P_lt hP (List.mem_append_left _ hq)
      omega
  have nY : ∀ q ∈ Y, ¬ va_A B H.size q.1 := fun q hq z => by
    rcases A_mem.mp z with ⟨e, he⟩ | z
    · exact bY (q.1, e) he q hq rfl
    · have := P_lt hP (List.mem_append_right _ (List.mem_append_right _ hq))
      omega
  have hPm := P_mem.mp hP
  refine ⟨P_mem.mpr (fun q hq => ?_), D_mem.mpr ⟨List.pairwise_append.mpr ⟨pX, List.pairwise_append.mpr ⟨g1, pY, fun x hx y hy e => nY y hy (by rw [← e]; exact g2 x hx)⟩, fun x hx y hy e => ?_⟩, fun q hq => ?_⟩⟩
  · rcases List.mem_append.mp hq with z | z
    · have hq' : q ∈ X ++ (B ++ Y) := List.mem_append_left _ z
      exact (hPm q hq').kept (hk _ (P_lt hP hq') (nX q z))
    · rcases List.mem_append.mp z with z | z
      · exact P_mem.mp hP1 q z
      · have hq' : q ∈ X ++ (B ++ Y) := List.mem_append_right _ (List.mem_append_right _ z)
        exact (hPm q hq').kept (hk _ (P_lt hP hq') (nY q z))
  · rcases List.mem_append.mp hy with z | z
    · exact nX x hx (by rw [e]; exact g2 y z)
    · exact xBY x hx y (List.mem_append_right _ z) e
  · rcases List.mem_append.mp hq with z | z
    · exact h2 q (List.mem_append_left _ z)
    · rcases List.mem_append.mp z with z | z
      · exact hF _ (g2 q z)
      · exact h2 q (List.mem_append_right _ (List.mem_append_right _ z))
theorem bP0 {B Y : va_W} (h : va_P D cl (B ++ Y) H) : va_P D cl B H := by
  rw [show B ++ Y = [] ++ (B ++ Y) from rfl] at h
  exact blkP h
theorem bD0 {B Y : va_W} (h : va_D A (B ++ Y)) : va_D A B := by
  rw [show B ++ Y = [] ++ (B ++ Y) from rfl] at h
  exact blkD h
theorem bF0 {B Y : va_W} {H0 : Heap} {locs : List Loc} (hD : va_D A (B ++ Y)) (hS : va_S A H0 H locs) (hA : ∀ q, H0.size ≤ q → A q) : ∀ q, va_A B H.size q → A q := by
  rw [show B ++ Y = [] ++ (B ++ Y) from rfl] at hD
  exact blkF hD hS hA
theorem bJ0 {B Y B1 : va_W} (hP : va_P D cl (B ++ Y) H) (hD : va_D A (B ++ Y)) (hk : ∀ q : Nat, q < H.size → ¬ va_A B H.size q → H1[q]? = H[q]?) (hF : ∀ q, va_A B H.size q → A q) (hP1 : va_P D cl B1 H1) (hD1 : va_D (va_A B H.size) B1) : va_P D cl (B1 ++ Y) H1 ∧ va_D A (B1 ++ Y) := by
  rw [show B ++ Y = [] ++ (B ++ Y) from rfl] at hP hD
  rw [show B1 ++ Y = [] ++ (B1 ++ Y) from rfl]
  exact blkJ hP hD hk hF hP1 hD1
theorem bP1 {X0 B Y : va_W} (h : va_P D cl (X0 ++ (B ++ Y)) H) : va_P D cl B H := by
  rw [show X0 ++ (B ++ Y) = (X0) ++ (B ++ Y) by simp only [List.append_assoc, List.append_nil, List.nil_append]] at h
  exact blkP h
theorem bD1 {X0 B Y : va_W} (h : va_D A (X0 ++ (B ++ Y))) : va_D A B := by
  rw [show X0 ++ (B ++ Y) = (X0) ++ (B ++ Y) by simp only [List.append_assoc, List.append_nil, List.nil_append]] at h
  exact blkD h
theorem bF1 {X0 B Y : va_W} {H0 : Heap} {locs : List Loc} (hD : va_D A (X0 ++ (B ++ Y))) (hS : va_S A H0 H locs) (hA : ∀ q, H0.size ≤ q → A q) : ∀ q, va_A B H.size q → A q := by
  rw [show X0 ++ (B ++ Y) = (X0) ++ (B ++ Y) by simp only [List.append_assoc, List.append_nil, List.nil_append]] at hD
  exact blkF hD hS hA
theorem bJ1 {X0 B Y B1 : va_W} (hP : va_P D cl (X0 ++ (B ++ Y)) H) (hD : va_D A (X0 ++ (B ++ Y))) (hk : ∀ q : Nat, q < H.size → ¬ va_A B H.size q → H1[q]? = H[q]?) (hF : ∀ q, va_A B H.size q → A q) (hP1 : va_P D cl B1 H1) (hD1 : va_D (va_A B H.size) B1) : va_P D cl (X0 ++ (B1 ++ Y)) H1 ∧ va_D A (X0 ++ (B1 ++ Y)) := by
  rw [show X0 ++ (B ++ Y) = (X0) ++ (B ++ Y) by simp only [List.append_assoc, List.append_nil, List.nil_append]] at hP hD
  rw [show X0 ++ (B1 ++ Y) = (X0) ++ (B1 ++ Y) by simp only [List.append_assoc, List.append_nil, List.nil_append]]
  exact blkJ hP hD hk hF hP1 hD1
theorem bP1e {X0 B : va_W} (h : va_P D cl (X0 ++ (B)) H) : va_P D cl B H := by
  rw [show X0 ++ (B) = (X0) ++ (B ++ []) by simp only [List.append_assoc, List.append_nil, List.nil_append]] at h
  exact blkP h
theorem bD1e {X0 B : va_W} (h : va_D A (X0 ++ (B))) : va_D A B := by
  rw [show X0 ++ (B) = (X0) ++ (B ++ []) by simp only [List.append_assoc, List.append_nil, List.nil_append]] at h
  exact blkD h
theorem bF1e {X0 B : va_W} {H0 : Heap} {locs : List Loc} (hD : va_D A (X0 ++ (B))) (hS : va_S A H0 H locs) (hA : ∀ q, H0.size ≤ q → A q) : ∀ q, va_A B H.size q → A q := by
  rw [show X0 ++ (B) = (X0) ++ (B ++ []) by simp only [List.append_assoc, List.append_nil, List.nil_append]] at hD
  exact blkF hD hS hA
theorem bJ1e {X0 B B1 : va_W} (hP : va_P D cl (X0 ++ (B)) H) (hD : va_D A (X0 ++ (B))) (hk : ∀ q : Nat, q < H.size → ¬ va_A B H.size q → H1[q]? = H[q]?) (hF : ∀ q, va_A B H.size q → A q) (hP1 : va_P D cl B1 H1) (hD1 : va_D (va_A B H.size) B1) : va_P D cl (X0 ++ (B1)) H1 ∧ va_D A (X0 ++ (B1)) := by
  rw [show X0 ++ (B) = (X0) ++ (B ++ []) by simp only [List.append_assoc, List.append_nil, List.nil_append]] at hP hD
  rw [show X0 ++ (B1) = (X0) ++ (B1 ++ []) by simp only [List.append_assoc, List.append_nil, List.nil_append]]
  exact blkJ hP hD hk hF hP1 hD1
theorem bP2 {X0 X1 B Y : va_W} (h : va_P D cl (X0 ++ (X1 ++ (B ++ Y))) H) : va_P D cl B H := by
  rw [show X0 ++ (X1 ++ (B ++ Y)) = (X0 ++ (X1)) ++ (B ++ Y) by simp only [List.append_assoc, List.append_nil, List.nil_append]] at h
  exact blkP h
theorem bD2 {X0 X1 B Y : va_W} (h : va_D A (X0 ++ (X1 ++ (B ++ Y)))) : va_D A B := by
  rw [show X0 ++ (X1 ++ (B ++ Y)) = (X0 ++ (X1)) ++ (B ++ Y) by simp only [List.append_assoc, List.append_nil, List.nil_append]] at h
  exact blkD h
theorem bF2 {X0 X1 B Y : va_W} {H0 : Heap} {locs : List Loc} (hD : va_D A (X0 ++ (X1 ++ (B ++ Y)))) (hS : va_S A H0 H locs) (hA : ∀ q, H0.size ≤ q → A q) : ∀ q, va_A B H.size q → A q := by
  rw [show X0 ++ (X1 ++ (B ++ Y)) = (X0 ++ (X1)) ++ (B ++ Y) by simp only [List.append_assoc, List.append_nil, List.nil_append]] at hD
  exact blkF hD hS hA
theorem bJ2 {X0 X1 B Y B1 : va_W} (hP : va_P D cl (X0 ++ (X1 ++ (B ++ Y))) H) (hD : va_D A (X0 ++ (X1 ++ (B ++ Y)))) (hk : ∀ q : Nat, q < H.size → ¬ va_A B H.size q → H1[q]? = H[q]?) (hF : ∀ q, va_A B H.size q → A q) (hP1 : va_P D cl B1 H1) (hD1 : va_D (va_A B H.size) B1) : va_P D cl (X0 ++ (X1 ++ (B1 ++ Y))) H1 ∧ va_D A (X0 ++ (X1 ++ (B1 ++ Y))) := by
  rw [show X0 ++ (X1 ++ (B ++ Y)) = (X0 ++ (X1)) ++ (B ++ Y) by simp only [List.append_assoc, List.append_nil, List.nil_append]] at hP hD
  rw [show X0 ++ (X1 ++ (B1 ++ Y)) = (X0 ++ (X1)) ++ (B1 ++ Y) by simp only [List.append_assoc, List.append_nil, List.nil_append]]
  exact blkJ hP hD hk hF hP1 hD1
theorem bP2e {X0 X1 B : va_W} (h : va_P D cl (X0 ++ (X1 ++ (B))) H) : va_P D cl B H := by
  rw [show X0 ++ (X1 ++ (B)) = (X0 ++ (X1)) ++ (B ++ []) by simp only [List.append_assoc, List.append_nil, List.nil_append]] at h
  exact blkP h
theorem bD2e {X0 X1 B : va_W} (h : va_D A (X0 ++ (X1 ++ (B)))) : va_D A B := by
  rw [show X0 ++ (X1 ++ (B)) = (X0 ++ (X1)) ++ (B ++ []) by simp only [List.append_assoc, List.append_nil, List.nil_append]] at h
  exact blkD h
theorem bF2e {X0 X1 B : va_W} {H0 : Heap} {locs : List Loc} (hD : va_D A (X0 ++ (X1 ++ (B)))) (hS : va_S A H0 H locs) (hA : ∀ q, H0.size ≤ q → A q) : ∀ q, va_A B H.size q → A q := by
  rw [show X0 ++ (X1 ++ (B)) = (X0 ++ (X1)) ++ (B ++ []) by simp only [List.append_assoc, List.append_nil, List.nil_append]] at hD
  exact blkF hD hS hA
theorem bJ2e {X0 X1 B B1 : va_W} (hP : va_P D cl (X0 ++ (X1 ++ (B))) H) (hD : va_D A (X0 ++ (X1 ++ (B)))) (hk : ∀ q : Nat, q < H.size → ¬ va_A B H.size q → H1[q]? = H[q]?) (hF : ∀ q, va_A B H.size q → A q) (hP1 : va_P D cl B1 H1) (hD1 : va_D (va_A B H.size) B1) : va_P D cl (X0 ++ (X1 ++ (B1))) H1 ∧ va_D A (X0 ++ (X1 ++ (B1))) := by
  rw [show X0 ++ (X1 ++ (B)) = (X0 ++ (X1)) ++ (B ++ []) by simp only [List.append_assoc, List.append_nil, List.nil_append]] at hP hD
  rw [show X0 ++ (X1 ++ (B1)) = (X0 ++ (X1)) ++ (B1 ++ []) by simp only [List.append_assoc, List.append_nil, List.nil_append]]
  exact blkJ hP hD hk hF hP1 hD1
theorem bP3 {X0 X1 X2 B Y : va_W} (h : va_P D cl (X0 ++ (X1 ++ (X2 ++ (B ++ Y)))) H) : va_P D cl B H := by
  rw [show X0 ++ (X1 ++ (X2 ++ (B ++ Y))) = (X0 ++ (X1 ++ (X2))) ++ (B ++ Y) by simp only [List.append_assoc, List.append_nil, List.nil_append]] at h
  exact blkP h
theorem bD3 {X0 X1 X2 B Y : va_W} (h : va_D A (X0 ++ (X1 ++ (X2 ++ (B ++ Y))))) : va_D A B := by
  rw [show X0 ++ (X1 ++ (X2 ++ (B ++ Y))) = (X0 ++ (X1 ++ (X2))) ++ (B ++ Y) by simp only [List.append_assoc, List.append_nil, List.nil_append]] at h
  exact blkD h
theorem bF3 {X0 X1 X2 B Y : va_W} {H0 : Heap} {locs : List Loc} (hD : va_D A (X0 ++ (X1 ++ (X2 ++ (B ++ Y))))) (hS : va_S A H0 H locs) (hA : ∀ q, H0.size ≤ q → A q) : ∀ q, va_A B H.size q → A q := by
  rw [show X0 ++ (X1 ++ (X2 ++ (B ++ Y))) = (X0 ++ (X1 ++ (X2))) ++ (B ++ Y) by simp only [List.append_assoc, List.append_nil, List.nil_append]] at hD
  exact blkF hD hS hA
theorem bJ3 {X0 X1 X2 B Y B1 : va_W} (hP : va_P D cl (X0 ++ (X1 ++ (X2 ++ (B ++ Y)))) H) (hD : va_D A (X0 ++ (X1 ++ (X2 ++ (B ++ Y))))) (hk : ∀ q : Nat, q < H.size → ¬ va_A B H.size q → H1[q]? = H[q]?) (hF : ∀ q, va_A B H.size q → A q) (hP1 : va_P D cl B1 H1) (hD1 : va_D (va_A B H.size) B1) : va_P D cl (X0 ++ (X1 ++ (X2 ++ (B1 ++ Y)))) H1 ∧ va_D A (X0 ++ (X1 ++ (X2 ++ (B1 ++ Y)))) := by
  rw [show X0 ++ (X1 ++ (X2 ++ (B ++ Y))) = (X0 ++ (X1 ++ (X2))) ++ (B ++ Y) by simp only [List.append_assoc, List.append_nil, List.nil_append]] at hP hD
  rw [show X0 ++ (X1 ++ (X2 ++ (B1 ++ Y))) = (X0 ++ (X1 ++ (X2))) ++ (B1 ++ Y) by simp only [List.append_assoc, List.append_nil, List.nil_append]]
  exact blkJ hP hD hk hF hP1 hD1
theorem bP3e {X0 X1 X2 B : va_W} (h : va_P D cl (X0 ++ (X1 ++ (X2 ++ (B)))) H) : va_P D cl B H := by
  rw [show X0 ++ (X1 ++ (X2 ++ (B))) = (X0 ++ (X1 ++ (X2))) ++ (B ++ []) by simp only [List.append_assoc, List.append_nil, List.nil_append]] at h
  exact blkP h
theorem bD3e {X0 X1 X2 B : va_W} (h : va_D A (X0 ++ (X1 ++ (X2 ++ (B))))) : va_D A B := by
  rw [show X0 ++ (X1 ++ (X2 ++ (B))) = (X0 ++ (X1 ++ (X2))) ++ (B ++ []) by simp only [List.append_assoc, List.append_nil, List.nil_append]] at h
  exact blkD h
theorem bF3e {X0 X1 X2 B : va_W} {H0 : Heap} {locs : List Loc} (hD : va_D A (X0 ++ (X1 ++ (X2 ++ (B))))) (hS : va_S A H0 H locs) (hA : ∀ q, H0.size ≤ q → A q) : ∀ q, va_A B H.size q → A q := by
  rw [show X0 ++ (X1 ++ (X2 ++ (B))) = (X0 ++ (X1 ++ (X2))) ++ (B ++ []) by simp only [List.append_assoc, List.append_nil, List.nil_append]] at hD
  exact blkF hD hS hA
theorem bJ3e {X0 X1 X2 B B1 : va_W} (hP : va_P D cl (X0 ++ (X1 ++ (X2 ++ (B)))) H) (hD : va_D A (X0 ++ (X1 ++ (X2 ++ (B))))) (hk : ∀ q : Nat, q < H.size → ¬ va_A B H.size q → H1[q]? = H[q]?) (hF : ∀ q, va_A B H.size q → A q) (hP1 : va_P D cl B1 H1) (hD1 : va_D (va_A B H.size) B1) : va_P D cl (X0 ++ (X1 ++ (X2 ++ (B1)))) H1 ∧ va_D A (X0 ++ (X1 ++ (X2 ++ (B1)))) := by
  rw [show X0 ++ (X1 ++ (X2 ++ (B))) = (X0 ++ (X1 ++ (X2))) ++ (B ++ []) by simp only [List.append_assoc, List.append_nil, List.nil_append]] at hP hD
  rw [show X0 ++ (X1 ++ (X2 ++ (B1))) = (X0 ++ (X1 ++ (X2))) ++ (B1 ++ []) by simp only [List.append_assoc, List.append_nil, List.nil_append]]
  exact blkJ hP hD hk hF hP1 hD1
theorem bP4 {X0 X1 X2 X3 B Y : va_W} (h : va_P D cl (X0 ++ (X1 ++ (X2 ++ (X3 ++ (B ++ Y))))) H) : va_P D cl B H := by
  rw [show X0 ++ (X1 ++ (X2 ++ (X3 ++ (B ++ Y)))) = (X0 ++ (X1 ++ (X2 ++ (X3)))) ++ (B ++ Y) by simp only [List.append_assoc, List.append_nil, List.nil_append]] at h
  exact blkP h
theorem bD4 {X0 X1 X2 X3 B Y : va_W} (h : va_D A (X0 ++ (X1 ++ (X2 ++ (X3 ++ (B ++ Y)))))) : va_D A B := by
  rw [show X0 ++ (X1 ++ (X2 ++ (X3 ++ (B ++ Y)))) = (X0 ++ (X1 ++ (X2 ++ (X3)))) ++ (B ++ Y) by simp only [List.append_assoc, List.append_nil, List.nil_append]] at h
  exact blkD h
theorem bF4 {X0 X1 X2 X3 B Y : va_W} {H0 : Heap} {locs : List Loc} (hD : va_D A (X0 ++ (X1 ++ (X2 ++ (X3 ++ (B ++ Y)))))) (hS : va_S A H0 H locs) (hA : ∀ q, H0.size ≤ q → A q) : ∀ q, va_A B H.size q → A q := by
  rw [show X0 ++ (X1 ++ (X2 ++ (X3 ++ (B ++ Y)))) = (X0 ++ (X1 ++ (X2 ++ (X3)))) ++ (B ++ Y) by simp only [List.append_assoc, List.append_nil, List.nil_append]] at hD
  exact blkF hD hS hA
theorem bJ4 {X0 X1 X2 X3 B Y B1 : va_W} (hP : va_P D cl (X0 ++ (X1 ++ (X2 ++ (X3 ++ (B ++ Y))))) H) (hD : va_D A (X0 ++ (X1 ++ (X2 ++ (X3 ++ (B ++ Y)))))) (hk : ∀ q : Nat, q < H.size → ¬ va_A B H.size q → H1[q]? = H[q]?) (hF : ∀ q, va_A B H.size q → A q) (hP1 : va_P D cl B1 H1) (hD1 : va_D (va_A B H.size) B1) : va_P D cl (X0 ++ (X1 ++ (X2 ++ (X3 ++ (B1 ++ Y))))) H1 ∧ va_D A (X0 ++ (X1 ++ (X2 ++ (X3 ++ (B1 ++ Y))))) := by
  rw [show X0 ++ (X1 ++ (X2 ++ (X3 ++ (B ++ Y)))) = (X0 ++ (X1 ++ (X2 ++ (X3)))) ++ (B ++ Y) by simp only [List.append_assoc, List.append_nil, List.nil_append]] at hP hD
  rw [show X0 ++ (X1 ++ (X2 ++ (X3 ++ (B1 ++ Y)))) = (X0 ++ (X1 ++ (X2 ++ (X3)))) ++ (B1 ++ Y) by simp only [List.append_assoc, List.append_nil, List.nil_append]]
  exact blkJ hP hD hk hF hP1 hD1
theorem bP4e {X0 X1 X2 X3 B : va_W} (h : va_P D cl (X0 ++ (X1 ++ (X2 ++ (X3 ++ (B))))) H) : va_P D cl B H := by
  rw [show X0 ++ (X1 ++ (X2 ++ (X3 ++ (B)))) = (X0 ++ (X1 ++ (X2 ++ (X3)))) ++ (B ++ []) by simp only [List.append_assoc, List.append_nil, List.nil_append]] at h
  exact blkP h
theorem bD4e {X0 X1 X2 X3 B : va_W} (h : va_D A (X0 ++ (X1 ++ (X2 ++ (X3 ++ (B)))))) : va_D A B := by
  rw [show X0 ++ (X1 ++ (X2 ++ (X3 ++ (B)))) = (X0 ++ (X1 ++ (X2 ++ (X3)))) ++ (B ++ []) by simp only [List.append_assoc, List.append_nil, List.nil_append]] at h
  exact blkD h
theorem bF4e {X0 X1 X2 X3 B : va_W} {H0 : Heap} {locs : List Loc} (hD : va_D A (X0 ++ (X1 ++ (X2 ++ (X3 ++ (B)))))) (hS : va_S A H0 H locs) (hA : ∀ q, H0.size ≤ q → A q) : ∀ q, va_A B H.size q → A q := by
  rw [show X0 ++ (X1 ++ (X2 ++ (X3 ++ (B)))) = (X0 ++ (X1 ++ (X2 ++ (X3)))) ++ (B ++ []) by simp only [List.append_assoc, List.append_nil, List.nil_append]] at hD
  exact blkF hD hS hA
theorem bJ4e {X0 X1 X2 X3 B B1 : va_W} (hP : va_P D cl (X0 ++ (X1 ++ (X2 ++ (X3 ++ (B))))) H) (hD : va_D A (X0 ++ (X1 ++ (X2 ++ (X3 ++ (B)))))) (hk : ∀ q : Nat, q < H.size → ¬ va_A B H.size q → H1[q]? = H[q]?) (hF : ∀ q, va_A B H.size q → A q) (hP1 : va_P D cl B1 H1) (hD1 : va_D (va_A B H.size) B1) : va_P D cl (X0 ++ (X1 ++ (X2 ++ (X3 ++ (B1))))) H1 ∧ va_D A (X0 ++ (X1 ++ (X2 ++ (X3 ++ (B1))))) := by
  rw [show X0 ++ (X1 ++ (X2 ++ (X3 ++ (B)))) = (X0 ++ (X1 ++ (X2 ++ (X3)))) ++ (B ++ []) by simp only [List.append_assoc, List.append_nil, List.nil_append]] at hP hD
  rw [show X0 ++ (X1 ++ (X2 ++ (X3 ++ (B1)))) = (X0 ++ (X1 ++ (X2 ++ (X3)))) ++ (B1 ++ []) by simp only [List.append_assoc, List.append_nil, List.nil_append]]
  exact blkJ hP hD hk hF hP1 hD1
theorem bP5 {X0 X1 X2 X3 X4 B Y : va_W} (h : va_P D cl (X0 ++ (X1 ++ (X2 ++ (X3 ++ (X4 ++ (B ++ Y)))))) H) : va_P D cl B H := by
  rw [show X0 ++ (X1 ++ (X2 ++ (X3 ++ (X4 ++ (B ++ Y))))) = (X0 ++ (X1 ++ (X2 ++ (X3 ++ (X4))))) ++ (B ++ Y) by simp only [List.append_assoc, List.append_nil, List.nil_append]] at h
  exact blkP h
theorem bD5 {X0 X1 X2 X3 X4 B Y : va_W} (h : va_D A (X0 ++ (X1 ++ (X2 ++ (X3 ++ (X4 ++ (B ++ Y))))))) : va_D A B := by
  rw [show X0 ++ (X1 ++ (X2 ++ (X3 ++ (X4 ++ (B ++ Y))))) = (X0 ++ (X1 ++ (X2 ++ (X3 ++ (X4))))) ++ (B ++ Y) by simp only [List.append_assoc, List.append_nil, List.nil_append]] at h
  exact blkD h
theorem bF5 {X0 X1 X2 X3 X4 B Y : va_W} {H0 : Heap} {locs : List Loc} (hD : va_D A (X0 ++ (X1 ++ (X2 ++ (X3 ++ (X4 ++ (B ++ Y))))))) (hS : va_S A H0 H locs) (hA : ∀ q, H0.size ≤ q → A q) : ∀ q, va_A B H.size q → A q := by
  rw [show X0 ++ (X1 ++ (X2 ++ (X3 ++ (X4 ++ (B ++ Y))))) = (X0 ++ (X1 ++ (X2 ++ (X3 ++ (X4))))) ++ (B ++ Y) by simp only [List.append_assoc, List.append_nil, List.nil_append]] at hD
  exact blkF hD hS hA
theorem bJ5 {X0 X1 X2 X3 X4 B Y B1 : va_W} (hP : va_P D cl (X0 ++ (X1 ++ (X2 ++ (X3 ++ (X4 ++ (B ++ Y)))))) H) (hD : va_D A (X0 ++ (X1 ++ (X2 ++ (X3 ++ (X4 ++ (B ++ Y))))))) (hk : ∀ q : Nat, q < H.size → ¬ va_A B H.size q → H1[q]? = H[q]?) (hF : ∀ q, va_A B H.size q → A q) (hP1 : va_P D cl B1 H1) (hD1 : va_D (va_A B H.size) B1) : va_P D cl (X0 ++ (X1 ++ (X2 ++ (X3 ++ (X4 ++ (B1 ++ Y)))))) H1 ∧ va_D A (X0 ++ (X1 ++ (X2 ++ (X3 ++ (X4 ++ (B1 ++ Y)))))) := by
  rw [show X0 ++ (X1 ++ (X2 ++ (X3 ++ (X4 ++ (B ++ Y))))) = (X0 ++ (X1 ++ (X2 ++ (X3 ++ (X4))))) ++ (B ++ Y) by simp only [List.append_assoc, List.append_nil, List.nil_append]] at hP hD
  rw [show X0 ++ (X1 ++ (X2 ++ (X3 ++ (X4 ++ (B1 ++ Y))))) = (X0 ++ (X1 ++ (X2 ++ (X3 ++ (X4))))) ++ (B1 ++ Y) by simp only [List.append_assoc, List.append_nil, List.nil_append]]
  exact blkJ hP hD hk hF hP1 hD1
theorem bP5e {X0 X1 X2 X3 X4 B : va_W} (h : va_P D cl (X0 ++ (X1 ++ (X2 ++ (X3 ++ (X4 ++ (B)))))) H) : va_P D cl B H := by
  rw [show X0 ++ (X1 ++ (X2 ++ (X3 ++ (X4 ++ (B))))) = (X0 ++ (X1 ++ (X2 ++ (X3 ++ (X4))))) ++ (B ++ []) by simp only [List.append_assoc, List.append_nil, List.nil_append]] at h
  exact blkP h
theorem bD5e {X0 X1 X2 X3 X4 B : va_W} (h : va_D A (X0 ++ (X1 ++ (X2 ++ (X3 ++ (X4 ++ (B))))))) : va_D A B := by
  rw [show X0 ++ (X1 ++ (X2 ++ (X3 ++ (X4 ++ (B))))) = (X0 ++ (X1 ++ (X2 ++ (X3 ++ (X4))))) ++ (B ++ []) by simp only [List.append_assoc, List.append_nil, List.nil_append]] at h
  exact blkD h
theorem bF5e {X0 X1 X2 X3 X4 B : va_W} {H0 : Heap} {locs : List Loc} (hD : va_D A (X0 ++ (X1 ++ (X2 ++ (X3 ++ (X4 ++ (B))))))) (hS : va_S A H0 H locs) (hA : ∀ q, H0.size ≤ q → A q) : ∀ q, va_A B H.size q → A q := by
  rw [show X0 ++ (X1 ++ (X2 ++ (X3 ++ (X4 ++ (B))))) = (X0 ++ (X1 ++ (X2 ++ (X3 ++ (X4))))) ++ (B ++ []) by simp only [List.append_assoc, List.append_nil, List.nil_append]] at hD
  exact blkF hD hS hA
theorem bJ5e {X0 X1 X2 X3 X4 B B1 : va_W} (hP : va_P D cl (X0 ++ (X1 ++ (X2 ++ (X3 ++ (X4 ++ (B)))))) H) (hD : va_D A (X0 ++ (X1 ++ (X2 ++ (X3 ++ (X4 ++ (B))))))) (hk : ∀ q : Nat, q < H.size → ¬ va_A B H.size q → H1[q]? = H[q]?) (hF : ∀ q, va_A B H.size q → A q) (hP1 : va_P D cl B1 H1) (hD1 : va_D (va_A B H.size) B1) : va_P D cl (X0 ++ (X1 ++ (X2 ++ (X3 ++ (X4 ++ (B1)))))) H1 ∧ va_D A (X0 ++ (X1 ++ (X2 ++ (X3 ++ (X4 ++ (B1)))))) := by
  rw [show X0 ++ (X1 ++ (X2 ++ (X3 ++ (X4 ++ (B))))) = (X0 ++ (X1 ++ (X2 ++ (X3 ++ (X4))))) ++ (B ++ []) by simp only [List.append_assoc, List.append_nil, List.nil_append]] at hP hD
  rw [show X0 ++ (X1 ++ (X2 ++ (X3 ++ (X4 ++ (B1))))) = (X0 ++ (X1 ++ (X2 ++ (X3 ++ (X4))))) ++ (B1 ++ []) by simp only [List.append_assoc, List.append_nil, List.nil_append]]
  exact blkJ hP hD hk hF hP1 hD1
theorem bP6 {X0 X1 X2 X3 X4 X5 B Y : va_W} (h : va_P D cl (X0 ++ (X1 ++ (X2 ++ (X3 ++ (X4 ++ (X5 ++ (B ++ Y))))))) H) : va_P D cl B H := by
  rw [show X0 ++ (X1 ++ (X2 ++ (X3 ++ (X4 ++ (X5 ++ (B ++ Y)))))) = (X0 ++ (X1 ++ (X2 ++ (X3 ++ (X4 ++ (X5)))))) ++ (B ++ Y) by simp only [List.append_assoc, List.append_nil, List.nil_append]] at h
  exact blkP h
theorem bD6 {X0 X1 X2 X3 X4 X5 B Y : va_W} (h : va_D A (X0 ++ (X1 ++ (X2 ++ (X3 ++ (X4 ++ (X5 ++ (B ++ Y)))))))) : va_D A B := by
  rw [show X0 ++ (X1 ++ (X2 ++ (X3 ++ (X4 ++ (X5 ++ (B ++ Y)))))) = (X0 ++ (X1 ++ (X2 ++ (X3 ++ (X4 ++ (X5)))))) ++ (B ++ Y) by simp only [List.append_assoc, List.append_nil, List.nil_append]] at h
  exact blkD h
theorem bF6 {X0 X1 X2 X3 X4 X5 B Y : va_W} {H0 : Heap} {locs : List Loc} (hD : va_D A (X0 ++ (X1 ++ (X2 ++ (X3 ++ (X4 ++ (X5 ++ (B ++ Y)))))))) (hS : va_S A H0 H locs) (hA : ∀ q, H0.size ≤ q → A q) : ∀ q, va_A B H.size q → A q := by
  rw [show X0 ++ (X1 ++ (X2 ++ (X3 ++ (X4 ++ (X5 ++ (B ++ Y)))))) = (X0 ++ (X1 ++ (X2 ++ (X3 ++ (X4 ++ (X5)))))) ++ (B ++ Y) by simp only [List.append_assoc, List.append_nil, List.nil_append]] at hD
  exact blkF hD hS hA
theorem bJ6 {X0 X1 X2 X3 X4 X5 B Y B1 : va_W} (hP : va_P D cl (X0 ++ (X1 ++ (X2 ++ (X3 ++ (X4 ++ (X5 ++ (B ++ Y))))))) H) (hD : va_D A (X0 ++ (X1 ++ (X2 ++ (X3 ++ (X4 ++ (X5 ++ (B ++ Y)))))))) (hk : ∀ q : Nat, q < H.size → ¬ va_A B H.size q → H1[q]? = H[q]?) (hF : ∀ q, va_A B H.size q → A q) (hP1 : va_P D cl B1 H1) (hD1 : va_D (va_A B H.size) B1) : va_P D cl (X0 ++ (X1 ++ (X2 ++ (X3 ++ (X4 ++ (X5 ++ (B1 ++ Y))))))) H1 ∧ va_D A (X0 ++ (X1 ++ (X2 ++ (X3 ++ (X4 ++ (X5 ++ (B1 ++ Y))))))) := by
  rw [show X0 ++ (X1 ++ (X2 ++ (X3 ++ (X4 ++ (X5 ++ (B ++ Y)))))) = (X0 ++ (X1 ++ (X2 ++ (X3 ++ (X4 ++ (X5)))))) ++ (B ++ Y) by simp only [List.append_assoc, List.append_nil, List.nil_append]] at hP hD
  rw [show X0 ++ (X1 ++ (X2 ++ (X3 ++ (X4 ++ (X5 ++ (B1 ++ Y)))))) = (X0 ++ (X1 ++ (X2 ++ (X3 ++ (X4 ++ (X5)))))) ++ (B1 ++ Y) by simp only [List.append_assoc, List.append_nil, List.nil_append]]
  exact blkJ hP hD hk hF hP1 hD1
theorem bP6e {X0 X1 X2 X3 X4 X5 B : va_W} (h : va_P D cl (X0 ++ (X1 ++ (X2 ++ (X3 ++ (X4 ++ (X5 ++ (B))))))) H) : va_P D cl B H := by
  rw [show X0 ++ (X1 ++ (X2 ++ (X3 ++ (X4 ++ (X5 ++ (B)))))) = (X0 ++ (X1 ++ (X2 ++ (X3 ++ (X4 ++ (X5)))))) ++ (B ++ []) by simp only [List.append_assoc, List.append_nil, List.nil_append]] at h
  exact blkP h
theorem bD6e {X0 X1 X2 X3 X4 X5 B : va_W} (h : va_D A (X0 ++ (X1 ++ (X2 ++ (X3 ++ (X4 ++ (X5 ++ (B)))))))) : va_D A B := by
  rw [show X0 ++ (X1 ++ (X2 ++ (X3 ++ (X4 ++ (X5 ++ (B)))))) = (X0 ++ (X1 ++ (X2 ++ (X3 ++ (X4 ++ (X5)))))) ++ (B ++ []) by simp only [List.append_assoc, List.append_nil, List.nil_append]] at h
  exact blkD h
theorem bF6e {X0 X1 X2 X3 X4 X5 B : va_W} {H0 : Heap} {locs : List Loc} (hD : va_D A (X0 ++ (X1 ++ (X2 ++ (X3 ++ (X4 ++ (X5 ++ (B)))))))) (hS : va_S A H0 H locs) (hA : ∀ q, H0.size ≤ q → A q) : ∀ q, va_A B H.size q → A q := by
  rw [show X0 ++ (X1 ++ (X2 ++ (X3 ++ (X4 ++ (X5 ++ (B)))))) = (X0 ++ (X1 ++ (X2 ++ (X3 ++ (X4 ++ (X5)))))) ++ (B ++ []) by simp only [List.append_assoc, List.append_nil, List.nil_append]] at hD
  exact blkF hD hS hA
theorem bJ6e {X0 X1 X2 X3 X4 X5 B B1 : va_W} (hP : va_P D cl (X0 ++ (X1 ++ (X2 ++ (X3 ++ (X4 ++ (X5 ++ (B))))))) H) (hD : va_D A (X0 ++ (X1 ++ (X2 ++ (X3 ++ (X4 ++ (X5 ++ (B)))))))) (hk : ∀ q : Nat, q < H.size → ¬ va_A B H.size q → H1[q]? = H[q]?) (hF : ∀ q, va_A B H.size q → A q) (hP1 : va_P D cl B1 H1) (hD1 : va_D (va_A B H.size) B1) : va_P D cl (X0 ++ (X1 ++ (X2 ++ (X3 ++ (X4 ++ (X5 ++ (B1))))))) H1 ∧ va_D A (X0 ++ (X1 ++ (X2 ++ (X3 ++ (X4 ++ (X5 ++ (B1))))))) := by
  rw [show X0 ++ (X1 ++ (X2 ++ (X3 ++ (X4 ++ (X5 ++ (B)))))) = (X0 ++ (X1 ++ (X2 ++ (X3 ++ (X4 ++ (X5)))))) ++ (B ++ []) by simp only [List.append_assoc, List.append_nil, List.nil_append]] at hP hD
  rw [show X0 ++ (X1 ++ (X2 ++ (X3 ++ (X4 ++ (X5 ++ (B1)))))) = (X0 ++ (X1 ++ (X2 ++ (X3 ++ (X4 ++ (X5)))))) ++ (B1 ++ []) by simp only [List.append_assoc, List.append_nil, List.nil_append]]
  exact blkJ hP hD hk hF hP1 hD1
theorem bP7 {X0 X1 X2 X3 X4 X5 X6 B Y : va_W} (h : va_P D cl (X0 ++ (X1 ++ (X2 ++ (X3 ++ (X4 ++ (X5 ++ (X6 ++ (B ++ Y)))))))) H) : va_P D cl B H := by
  rw [show X0 ++ (X1 ++ (X2 ++ (X3 ++ (X4 ++ (X5 ++ (X6 ++ (B ++ Y))))))) = (X0 ++ (X1 ++ (X2 ++ (X3 ++ (X4 ++ (X5 ++ (X6))))))) ++ (B ++ Y) by simp only [List.append_assoc, List.append_nil, List.nil_append]] at h
  exact blkP h
theorem bD7 {X0 X1 X2 X3 X4 X5 X6 B Y : va_W} (h : va_D A (X0 ++ (X1 ++ (X2 ++ (X3 ++ (X4 ++ (X5 ++ (X6 ++ (B ++ Y))))))))) : va_D A B := by
  rw [show X0 ++ (X1 ++ (X2 ++ (X3 ++ (X4 ++ (X5 ++ (X6 ++ (B ++ Y))))))) = (X0 ++ (X1 ++ (X2 ++ (X3 ++ (X4 ++ (X5 ++ (X6))))))) ++ (B ++ Y) by simp only [List.append_assoc, List.append_nil, List.nil_append]] at h
  exact blkD h
theorem bF7 {X0 X1 X2 X3 X4 X5 X6 B Y : va_W} {H0 : Heap} {locs : List Loc} (hD : va_D A (X0 ++ (X1 ++ (X2 ++ (X3 ++ (X4 ++ (X5 ++ (X6 ++ (B ++ Y))))))))) (hS : va_S A H0 H locs) (hA : ∀ q, H0.size ≤ q → A q) : ∀ q, va_A B H.size q → A q := by
  rw [show X0 ++ (X1 ++ (X2 ++ (X3 ++ (X4 ++ (X5 ++ (X6 ++ (B ++ Y))))))) = (X0 ++ (X1 ++ (X2 ++ (X3 ++ (X4 ++ (X5 ++ (X6))))))) ++ (B ++ Y) by simp only [List.append_assoc, List.append_nil, List.nil_append]] at hD
  exact blkF hD hS hA
theorem bJ7 {X0 X1 X2 X3 X4 X5 X6 B Y B1 : va_W} (hP : va_P D cl (X0 ++ (X1 ++ (X2 ++ (X3 ++ (X4 ++ (X5 ++ (X6 ++ (B ++ Y)))))))) H) (hD : va_D A (X0 ++ (X1 ++ (X2 ++ (X3 ++ (X4 ++ (X5 ++ (X6 ++ (B ++ Y))))))))) (hk : ∀ q : Nat, q < H.size → ¬ va_A B H.size q → H1[q]? = H[q]?) (hF : ∀ q, va_A B H.size q → A q) (hP1 : va_P D cl B1 H1) (hD1 : va_D (va_A B H.size) B1) : va_P D cl (X0 ++ (X1 ++ (X2 ++ (X3 ++ (X4 ++ (X5 ++ (X6 ++ (B1 ++ Y)))))))) H1 ∧ va_D A (X0 ++ (X1 ++ (X2 ++ (X3 ++ (X4 ++ (X5 ++ (X6 ++ (B1 ++ Y)))))))) := by
  rw [show X0 ++ (X1 ++ (X2 ++ (X3 ++ (X4 ++ (X5 ++ (X6 ++ (B ++ Y))))))) = (X0 ++ (X1 ++ (X2 ++ (X3 ++ (X4 ++ (X5 ++ (X6))))))) ++ (B ++ Y) by simp only [List.append_assoc, List.append_nil, List.nil_append]] at hP hD
  rw [show X0 ++ (X1 ++ (X2 ++ (X3 ++ (X4 ++ (X5 ++ (X6 ++ (B1 ++ Y))))))) = (X0 ++ (X1 ++ (X2 ++ (X3 ++ (X4 ++ (X5 ++ (X6))))))) ++ (B1 ++ Y) by simp only [List.append_assoc, List.append_nil, List.nil_append]]
  exact blkJ hP hD hk hF hP1 hD1
theorem bP7e {X0 X1 X2 X3 X4 X5 X6 B : va_W} (h : va_P D cl (X0 ++ (X1 ++ (X2 ++ (X3 ++ (X4 ++ (X5 ++ (X6 ++ (B)))))))) H) : va_P D cl B H := by
  rw [show X0 ++ (X1 ++ (X2 ++ (X3 ++ (X4 ++ (X5 ++ (X6 ++ (B))))))) = (X0 ++ (X1 ++ (X2 ++ (X3 ++ (X4 ++ (X5 ++ (X6))))))) ++ (B ++ []) by simp only [List.append_assoc, List.append_nil, List.nil_append]] at h
  exact blkP h
theorem bD7e {X0 X1 X2 X3 X4 X5 X6 B : va_W} (h : va_D A (X0 ++ (X1 ++ (X2 ++ (X3 ++ (X4 ++ (X5 ++ (X6 ++ (B))))))))) : va_D A B := by
  rw [show X0 ++ (X1 ++ (X2 ++ (X3 ++ (X4 ++ (X5 ++ (X6 ++ (B))))))) = (X0 ++ (X1 ++ (X2 ++ (X3 ++ (X4 ++ (X5 ++ (X6))))))) ++ (B ++ []) by simp only [List.append_assoc, List.append_nil, List.nil_append]] at h
  exact blkD h
theorem bF7e {X0 X1 X2 X3 X4 X5 X6 B : va_W} {H0 : Heap} {locs : List Loc} (hD : va_D A (X0 ++ (X1 ++ (X2 ++ (X3 ++ (X4 ++ (X5 ++ (X6 ++ (B))))))))) (hS : va_S A H0 H locs) (hA : ∀ q, H0.size ≤ q → A q) : ∀ q, va_A B H.size q → A q := by
  rw [show X0 ++ (X1 ++ (X2 ++ (X3 ++ (X4 ++ (X5 ++ (X6 ++ (B))))))) = (X0 ++ (X1 ++ (X2 ++ (X3 ++ (X4 ++ (X5 ++ (X6))))))) ++ (B ++ []) by simp only [List.append_assoc, List.append_nil, List.nil_append]] at hD
  exact blkF hD hS hA
theorem bJ7e {X0 X1 X2 X3 X4 X5 X6 B B1 : va_W} (hP : va_P D cl (X0 ++ (X1 ++ (X2 ++ (X3 ++ (X4 ++ (X5 ++ (X6 ++ (B)))))))) H) (hD : va_D A (X0 ++ (X1 ++ (X2 ++ (X3 ++ (X4 ++ (X5 ++ (X6 ++ (B))))))))) (hk : ∀ q : Nat, q < H.size → ¬ va_A B H.size q → H1[q]? = H[q]?) (hF : ∀ q, va_A B H.size q → A q) (hP1 : va_P D cl B1 H1) (hD1 : va_D (va_A B H.size) B1) : va_P D cl (X0 ++ (X1 ++ (X2 ++ (X3 ++ (X4 ++ (X5 ++ (X6 ++ (B1)))))))) H1 ∧ va_D A (X0 ++ (X1 ++ (X2 ++ (X3 ++ (X4 ++ (X5 ++ (X6 ++ (B1)))))))) := by
  rw [show X0 ++ (X1 ++ (X2 ++ (X3 ++ (X4 ++ (X5 ++ (X6 ++ (B))))))) = (X0 ++ (X1 ++ (X2 ++ (X3 ++ (X4 ++ (X5 ++ (X6))))))) ++ (B ++ []) by simp only [List.append_assoc, List.append_nil, List.nil_append]] at hP hD
  rw [show X0 ++ (X1 ++ (X2 ++ (X3 ++ (X4 ++ (X5 ++ (X6 ++ (B1))))))) = (X0 ++ (X1 ++ (X2 ++ (X3 ++ (X4 ++ (X5 ++ (X6))))))) ++ (B1 ++ []) by simp only [List.append_assoc, List.append_nil, List.nil_append]]
  exact blkJ hP hD hk hF hP1 hD1
theorem bP8 {X0 X1 X2 X3 X4 X5 X6 X7 B Y : va_W} (h : va_P D cl (X0 ++ (X1 ++ (X2 ++ (X3 ++ (X4 ++ (X5 ++ (X6 ++ (X7 ++ (B ++ Y))))))))) H) : va_P D cl B H := by
  rw [show X0 ++ (X1 ++ (X2 ++ (X3 ++ (X4 ++ (X5 ++ (X6 ++ (X7 ++ (B ++ Y)))))))) = (X0 ++ (X1 ++ (X2 ++ (X3 ++ (X4 ++ (X5 ++ (X6 ++ (X7)))))))) ++ (B ++ Y) by simp only [List.append_assoc, List.append_nil, List.nil_append]] at h
  exact blkP h
theorem bD8 {X0 X1 X2 X3 X4 X5 X6 X7 B Y : va_W} (h : va_D A (X0 ++ (X1 ++ (X2 ++ (X3 ++ (X4 ++ (X5 ++ (X6 ++ (X7 ++ (B ++ Y)))))))))) : va_D A B := by
  rw [show X0 ++ (X1 ++ (X2 ++ (X3 ++ (X4 ++ (X5 ++ (X6 ++ (X7 ++ (B ++ Y)))))))) = (X0 ++ (X1 ++ (X2 ++ (X3 ++ (X4 ++ (X5 ++ (X6 ++ (X7)))))))) ++ (B ++ Y) by simp only [List.append_assoc, List.append_nil, List.nil_append]] at h
  exact blkD h
theorem bF8 {X0 X1 X2 X3 X4 X5 X6 X7 B Y : va_W} {H0 : Heap} {locs : List Loc} (hD : va_D A (X0 ++ (X1 ++ (X2 ++ (X3 ++ (X4 ++ (X5 ++ (X6 ++ (X7 ++ (B ++ Y)))))))))) (hS : va_S A H0 H locs) (hA : ∀ q, H0.size ≤ q → A q) : ∀ q, va_A B H.size q → A q := by
  rw [show X0 ++ (X1 ++ (X2 ++ (X3 ++ (X4 ++ (X5 ++ (X6 ++ (X7 ++ (B ++ Y)))))))) = (X0 ++ (X1 ++ (X2 ++ (X3 ++ (X4 ++ (X5 ++ (X6 ++ (X7)))))))) ++ (B ++ Y) by simp only [List.append_assoc, List.append_nil, List.nil_append]] at hD
  exact blkF hD hS hA
theorem bJ8 {X0 X1 X2 X3 X4 X5 X6 X7 B Y B1 : va_W} (hP : va_P D cl (X0 ++ (X1 ++ (X2 ++ (X3 ++ (X4 ++ (X5 ++ (X6 ++ (X7 ++ (B ++ Y))))))))) H) (hD : va_D A (X0 ++ (X1 ++ (X2 ++ (X3 ++ (X4 ++ (X5 ++ (X6 ++ (X7 ++ (B ++ Y)))))))))) (hk : ∀ q : Nat, q < H.size → ¬ va_A B H.size q → H1[q]? = H[q]?) (hF : ∀ q, va_A B H.size q → A q) (hP1 : va_P D cl B1 H1) (hD1 : va_D (va_A B H.size) B1) : va_P D cl (X0 ++ (X1 ++ (X2 ++ (X3 ++ (X4 ++ (X5 ++ (X6 ++ (X7 ++ (B1 ++ Y))))))))) H1 ∧ va_D A (X0 ++ (X1 ++ (X2 ++ (X3 ++ (X4 ++ (X5 ++ (X6 ++ (X7 ++ (B1 ++ Y))))))))) := by
  rw [show X0 ++ (X1 ++ (X2 ++ (X3 ++ (X4 ++ (X5 ++ (X6 ++ (X7 ++ (B ++ Y)))))))) = (X0 ++ (X1 ++ (X2 ++ (X3 ++ (X4 ++ (X5 ++ (X6 ++ (X7)))))))) ++ (B ++ Y) by simp only [List.append_assoc, List.append_nil, List.nil_append]] at hP hD
  rw [show X0 ++ (X1 ++ (X2 ++ (X3 ++ (X4 ++ (X5 ++ (X6 ++ (X7 ++ (B1 ++ Y)))))))) = (X0 ++ (X1 ++ (X2 ++ (X3 ++ (X4 ++ (X5 ++ (X6 ++ (X7)))))))) ++ (B1 ++ Y) by simp only [List.append_assoc, List.append_nil, List.nil_append]]
  exact blkJ hP hD hk hF hP1 hD1
theorem bP8e {X0 X1 X2 X3 X4 X5 X6 X7 B : va_W} (h : va_P D cl (X0 ++ (X1 ++ (X2 ++ (X3 ++ (X4 ++ (X5 ++ (X6 ++ (X7 ++ (B))))))))) H) : va_P D cl B H := by
  rw [show X0 ++ (X1 ++ (X2 ++ (X3 ++ (X4 ++ (X5 ++ (X6 ++ (X7 ++ (B)))))))) = (X0 ++ (X1 ++ (X2 ++ (X3 ++ (X4 ++ (X5 ++ (X6 ++ (X7)))))))) ++ (B ++ []) by simp only [List.append_assoc, List.append_nil, List.nil_append]] at h
  exact blkP h
theorem bD8e {X0 X1 X2 X3 X4 X5 X6 X7 B : va_W} (h : va_D A (X0 ++ (X1 ++ (X2 ++ (X3 ++ (X4 ++ (X5 ++ (X6 ++ (X7 ++ (B)))))))))) : va_D A B := by
  rw [show X0 ++ (X1 ++ (X2 ++ (X3 ++ (X4 ++ (X5 ++ (X6 ++ (X7 ++ (B)))))))) = (X0 ++ (X1 ++ (X2 ++ (X3 ++ (X4 ++ (X5 ++ (X6 ++ (X7)))))))) ++ (B ++ []) by simp only [List.append_assoc, List.append_nil, List.nil_append]] at h
  exact blkD h
theorem bF8e {X0 X1 X2 X3 X4 X5 X6 X7 B : va_W} {H0 : Heap} {locs : List Loc} (hD : va_D A (X0 ++ (X1 ++ (X2 ++ (X3 ++ (X4 ++ (X5 ++ (X6 ++ (X7 ++ (B)))))))))) (hS : va_S A H0 H locs) (hA : ∀ q, H0.size ≤ q → A q) : ∀ q, va_A B H.size q → A q := by
  rw [show X0 ++ (X1 ++ (X2 ++ (X3 ++ (X4 ++ (X5 ++ (X6 ++ (X7 ++ (B)))))))) = (X0 ++ (X1 ++ (X2 ++ (X3 ++ (X4 ++ (X5 ++ (X6 ++ (X7)))))))) ++ (B ++ []) by simp only [List.append_assoc, List.append_nil, List.nil_append]] at hD
  exact blkF hD hS hA
theorem bJ8e {X0 X1 X2 X3 X4 X5 X6 X7 B B1 : va_W} (hP : va_P D cl (X0 ++ (X1 ++ (X2 ++ (X3 ++ (X4 ++ (X5 ++ (X6 ++ (X7 ++ (B))))))))) H) (hD : va_D A (X0 ++ (X1 ++ (X2 ++ (X3 ++ (X4 ++ (X5 ++ (X6 ++ (X7 ++ (B)))))))))) (hk : ∀ q : Nat, q < H.size → ¬ va_A B H.size q → H1[q]? = H[q]?) (hF : ∀ q, va_A B H.size q → A q) (hP1 : va_P D cl B1 H1) (hD1 : va_D (va_A B H.size) B1) : va_P D cl (X0 ++ (X1 ++ (X2 ++ (X3 ++ (X4 ++ (X5 ++ (X6 ++ (X7 ++ (B1))))))))) H1 ∧ va_D A (X0 ++ (X1 ++ (X2 ++ (X3 ++ (X4 ++ (X5 ++ (X6 ++ (X7 ++ (B1))))))))) := by
  rw [show X0 ++ (X1 ++ (X2 ++ (X3 ++ (X4 ++ (X5 ++ (X6 ++ (X7 ++ (B)))))))) = (X0 ++ (X1 ++ (X2 ++ (X3 ++ (X4 ++ (X5 ++ (X6 ++ (X7)))))))) ++ (B ++ []) by simp only [List.append_assoc, List.append_nil, List.nil_append]] at hP hD
  rw [show X0 ++ (X1 ++ (X2 ++ (X3 ++ (X4 ++ (X5 ++ (X6 ++ (X7 ++ (B1)))))))) = (X0 ++ (X1 ++ (X2 ++ (X3 ++ (X4 ++ (X5 ++ (X6 ++ (X7)))))))) ++ (B1 ++ []) by simp only [List.append_assoc, List.append_nil, List.nil_append]]
  exact blkJ hP hD hk hF hP1 hD1
end BL
