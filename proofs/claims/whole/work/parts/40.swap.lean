/-! the elimination with rows that change places -/
def sw (a b k : Nat) : Nat := if k = a then b else if k = b then a else k
theorem sw_sw (a b k : Nat) : sw a b (sw a b k) = k := by
  unfold sw
  by_cases h1 : k = a
  · subst h1
    rw [if_pos rfl]
    by_cases h2 : b = k
    · rw [if_pos h2]; exact h2
    · rw [if_neg h2, if_pos rfl]
  · rw [if_neg h1]
    by_cases h2 : k = b
    · rw [if_pos h2, if_pos rfl]; exact h2.symm
    · rw [if_neg h2, if_neg h1, if_neg h2]
theorem sw_lt {a b k n : Nat} (ha : a < n) (hb : b < n) (hk : k < n) : sw a b k < n := by unfold sw; split; exact hb; split; exact ha; exact hk
theorem sw_fix {a b k : Nat} (h1 : k ≠ a) (h2 : k ≠ b) : sw a b k = k := by unfold sw; rw [if_neg h1, if_neg h2]
theorem sw_inj {a b i j : Nat} (h : sw a b i = sw a b j) : i = j := by rw [← sw_sw a b i, h, sw_sw]
theorem nodup_sw {a b : Nat} {rs : List Nat} (h : rs.Nodup) : (rs.map (sw a b)).Nodup := List.pairwise_map.mpr (h.imp (fun {x y} q e => q (sw_inj e)))
theorem HS_sw {V : Nat → Nat → Int} {n a b : Nat} (ha : a < n) (hb : b < n) (x : Nat → Int) : HS (fun i => V (sw a b i)) n x ↔ HS V n x := by
  constructor
  · intro h i hi
    have h2 := h (sw a b i) (sw_lt ha hb hi)
    have e : V (sw a b (sw a b i)) = V i := by rw [sw_sw]
    rw [← e]
    exact h2
  · intro h i hi
    exact h (sw a b i) (sw_lt ha hb hi)
theorem MB_sw {M0 : Nat → Nat → Int} {n a b : Nat} (ha : a < n) (hb : b < n) (h : MB M0 n) : MB (fun i => M0 (sw a b i)) n := fun rs cs h1 h2 h3 h4 => by
  have := h (rs.map (sw a b)) cs (nodup_sw h1) (fun r hr => by
    obtain ⟨k, hk, rfl⟩ := List.mem_map.mp hr
    exact sw_lt ha hb (h2 k hk)) h3 h4
  rw [List.map_map] at this
  exact this
theorem EInv_sw {M0 V : Nat → Nat → Int} {n a b : Nat} {ps : List (Nat × Nat)} (h : EInv M0 V n ps) (ha : a < n) (hb : b < n) (hpa : ∀ q ∈ ps, q.1 ≠ a) (hpb : ∀ q ∈ ps, q.1 ≠ b) : EInv (fun i => M0 (sw a b i)) (fun i => V (sw a b i)) n ps := by
  obtain ⟨h1, h2, h3, h4, h5, h6⟩ := h
  have hfix : ∀ q ∈ ps, sw a b q.1 = q.1 := fun q hq => sw_fix (hpa q hq) (hpb q hq)
  refine ⟨h1, h2, fun q hq => ⟨?_, fun k hk hkq => ?_⟩, fun rs hn hl hp => ?_, fun i hi => h5 _ (sw_lt ha hb hi), fun x => (HS_sw ha hb x).trans ((h6 x).trans (HS_sw ha hb x).symm)⟩
  · show V (sw a b q.1) q.2 ≠ 0
    rw [hfix q hq]
    exact (h3 q hq).1
  · exact (h3 q hq).2 _ (sw_lt ha hb hk) (fun e => hkq (by rw [← sw_sw a b k, e, hfix q hq]))
  · obtain ⟨al, be, p1, p2, p3⟩ := h4 (rs.map (sw a b)) (nodup_sw hn) (fun i hi => by
      obtain ⟨k, hk, rfl⟩ := List.mem_map.mp hi
      exact sw_lt ha hb (hl k hk)) (fun q hq => List.mem_map.mpr ⟨q.1, hp q hq, hfix q hq⟩)
    refine ⟨al, be, p1, p2, fun cs => ?_⟩
    have := p3 cs
    rw [List.map_map, List.map_map] at this
    exact this
/-- the model's matrix, row by row -/
def cL (M : Nat → Nat → Int64) : Nat → Int64 := fun k => M (k / 11) (k % 11)
theorem cL_at {M : Nat → Nat → Int64} {k r c : Nat} (h : k = 11 * r + c) (hc : c < 11) : cL M k = M r c := by
  unfold cL
  subst h
  rw [show (11 * r + c) / 11 = r by omega, show (11 * r + c) % 11 = c by omega]
theorem cL_set {M : Nat → Nat → Int64} {k r c : Nat} {x : Int64} (h : k = 11 * r + c) (hc : c < 11) : vp_updL (cL M) k x = cL (setM M r c x) := by
  funext j
  have hj := Nat.div_add_mod j 11
  have hj2 := Nat.mod_lt j (show 0 < 11 by decide)
  unfold cL
  by_cases q : j = k
  · rw [show vp_updL (fun k => M (k / 11) (k % 11)) k x j = x from if_pos q]
    have e1 : j / 11 = r := by omega
    have e2 : j % 11 = c := by omega
    rw [e1, e2]
    unfold setM
    rw [if_pos rfl]
    exact (if_pos rfl).symm
  · rw [show vp_updL (fun k => M (k / 11) (k % 11)) k x j = M (j / 11) (j % 11) from if_neg q]
    unfold setM
    by_cases q2 : j / 11 = r
    · rw [if_pos q2, show vp_updL (M r) c x (j % 11) = M r (j % 11) from if_neg (fun z => q (by omega)), q2]
    · rw [if_neg q2]
/-- a prefix of rows done, of n -/
theorem Part.stageN {M M2 : Nat → Nat → Int64} {r t n : Nat} (ht : t < 11) (h : Part M M2 r t n) : Stage (tI M) (tI M2) r t n := by
  obtain ⟨h1, h2, h3⟩ := h
  refine ⟨tI_row h3, fun k hk hkr => ?_⟩
  rcases h1 k hk hkr with z | z
  · exact Or.inl ⟨by rw [tI_at ht]; exact z.1, tI_row z.2⟩
  · exact Or.inr z
