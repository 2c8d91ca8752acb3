/-! the law: an object with other elements engaged -/
section EG
theorem upd_upd (f : Nat → Int32) (k : Nat) (x y : Int32) : upd (upd f k x) k y = upd f k y := funext fun j => by
  by_cases h : j = k
  · subst h; rw [updSame, updSame]
  · rw [updOther h, updOther h, updOther h]
theorem dU_dU (d : Nat → Nat → Int32) (k j : Nat) (x y : Int32) : dU (dU d k j x) k j y = dU d k j y := funext fun i => by
  show (if i = k then upd (if k = k then upd (d k) j x else d k) j y else (if i = k then upd (d k) j x else d i)) = (if i = k then upd (d k) j y else d i)
  by_cases h : i = k
  · rw [if_pos h, if_pos h, if_pos rfl, upd_upd]
  · rw [if_neg h, if_neg h, if_neg h]
theorem dU_id {d : Nat → Nat → Int32} {k j : Nat} {x : Int32} (h : d k j = x) : dU d k j x = d := funext fun i => by
  show (if i = k then upd (d k) j x else d i) = d i
  by_cases e : i = k
  · subst e
    rw [if_pos rfl]
    funext t
    by_cases z : t = j
    · subst z; rw [updSame, h]
    · rw [updOther z]
  · rw [if_neg e]
/-- w is v with x engaged, but for the history -/
def EG (v : CV) (x : Nat) (w : CV) : Prop := x < 2 ^ dn v.1 8 1 ∧ w.1 = dU v.1 8 2 (nI x) ∧ w.2.1 = v.2.1 ∧ w.2.2.1 = v.2.2.1 ∧ w.2.2.2.1 = v.2.2.2.1 ∧ w.2.2.2.2.1 = v.2.2.2.2.1
theorem EG_refl {v : CV} (h : IV v) : EG v (dn v.1 8 2) v := ⟨(DV_g h.1).1, (dU_id (DV_g h.1).2.1).symm, rfl, rfl, rfl, rfl⟩
variable {v w : CV} {x : Nat}
theorem EG_64 (h : IV v) (hE : EG v x w) : x < 64 := by have := (DV_g h.1).2.2.1; have := hE.1; omega
theorem EG_m (hE : EG v x w) : dn w.1 8 1 = dn v.1 8 1 := by rw [hE.2.1]; rfl
theorem EG_2 (h : IV v) (hE : EG v x w) : w.1 8 2 = nI x ∧ dn w.1 8 2 = x := by
  have e : w.1 8 2 = nI x := by rw [hE.2.1]; rfl
  exact ⟨e, dn_of e (by have := EG_64 h hE; omega)⟩
theorem EG_sp (hE : EG v x w) : spM w.1 = spM v.1 := by rw [hE.2.1]; exact spM_eng _ _
theorem EG_gN (hE : EG v x w) : gN w.1 = gN v.1 := gN_congr (EG_sp hE) (EG_m hE)
theorem EG_gF (hE : EG v x w) : gF w.1 = gF v.1 := gF_congr (EG_sp hE) (EG_m hE)
theorem EG_SP (hE : EG v x w) : SP w.1 = SP v.1 := funext fun g => by show HS (spM w.1 g) 10 = HS (spM v.1 g) 10; rw [EG_sp hE]
theorem EG_st (hE : EG v x w) : stM w.1 = stM v.1 := funext fun g => by unfold stM; rw [EG_SP hE]
theorem EG_6 (hE : EG v x w) : w.1 6 = v.1 6 := by rw [hE.2.1]; rfl
theorem EG_chg (h : IV v) {u : CV} {z : Int32} {y : Nat} (hE : EG v x w) (hy : y < 2 ^ dn v.1 8 1) (hc : CHG w (nI y) z u) : EG v y u := by
  have h64 := (DV_g h.1).2.2.1
  have hx := EG_64 h hE
  rcases hc with ⟨h1, -, rfl⟩ | ⟨-, -, hs⟩
  · rw [(EG_2 h hE).1] at h1
    have e : y = x := (nI_eq (by omega) (by omega)).mp h1
    rw [e]; exact hE
  · obtain ⟨s1, s2, s3, s4, s5, -, -⟩ := hs
    obtain ⟨e0, e1, e2, e3, e4, e5⟩ := hE
    exact ⟨hy, by rw [s1, e1, dU_dU], s2.trans e2, s3.trans e3, s4.trans e4, s5.trans e5⟩
/-! what calls answer of it -/
theorem rsE_gear {k : Nat} (hE : EG v x w) (hk : k < gN v.1) : rs_gear w.1 (nI k) = (0, ((gF v.1 k : Nat) : Int)) := by
  rw [← EG_gF hE]
  exact rs_gear_at (by rw [EG_gN hE]; exact hk)
theorem gF_lt {k : Nat} (hk : k < gN v.1) : gF v.1 k < 2 ^ dn v.1 8 1 := (gF_isG hk).1.1
theorem rsE_index {k : Nat} (hE : EG v x w) (hk : k < gN v.1) : rs_indexOf w.1 (nI (gF v.1 k)) = (0, ((k : Nat) : Int)) := by
  have h64 := (gF_isG hk).2
  have hI9 : (nI (gF v.1 k)).toInt = ((gF v.1 k : Nat) : Int) := nI_toIntI (by omega)
  unfold rs_indexOf
  rw [cI_f (fun z => z (msk_at (by rw [EG_m hE]; exact gF_lt hk))), EG_gF hE, EG_gN hE, hI9, cI_t ⟨k, hk, rfl⟩]
  rw [lstF_eq (P := fun j => ((gF v.1 j : Nat) : Int) = ((gF v.1 k : Nat) : Int)) hk rfl (fun j hj z => by
    have := gF_inj (Nat.lt_trans hj hk) hk (by omega)
    omega)]
theorem rsE_select {y : Nat} (h : IV v) (hE : EG v x w) (hy : y < 2 ^ dn v.1 8 1) : rs_select w.1 (nI y) = (0, ((x : Nat) : Int)) := by
  unfold rs_select
  rw [cI_f (fun z => z (msk_at (by rw [EG_m hE]; exact hy))), (EG_2 h hE).2]
theorem rsE_ratio (h : IV v) (hE : EG v x w) (hs : stM v.1 x = 0) : rs_ratio w.1 (nI 0) = (0, rtN (SP v.1 x)) ∧ rs_ratio w.1 (nI 1) = (0, rtD (SP v.1 x)) := by
  have hst : stM w.1 (dn w.1 8 2) = 0 := by rw [EG_st hE, (EG_2 h hE).2]; exact hs
  constructor <;> unfold rs_ratio <;> rw [cI_f (fun z => z (prt_at (by decide))), cI_f (fun z => z hst), EG_SP hE, (EG_2 h hE).2] <;> rfl
theorem rsE_gearRatio {k : Nat} (hE : EG v x w) (hk : k < gN v.1) : rs_gearRatio w.1 (nI k) (nI 0) = (0, rtN (SP v.1 (gF v.1 k))) ∧ rs_gearRatio w.1 (nI k) (nI 1) = (0, rtD (SP v.1 (gF v.1 k))) := by
  constructor <;> unfold rs_gearRatio <;> rw [cI_f (fun z => z (ger_at (by rw [EG_gN hE]; exact hk))), cI_f (fun z => z (prt_at (by decide))), EG_SP hE, EG_gF hE, nI_tt (g31 hk)] <;> rfl
theorem cl1_or : ∀ t, t < 64 → ∀ e, e < 6 → t.testBit e = true → cl1 t e ||| 2 ^ e = t ∧ ¬ (cl1 t e ||| 2 ^ e) = cl1 t e := by decide +kernel
theorem rsE_release {e : Nat} (h : IV v) (hE : EG v x w) (he : e < dn v.1 8 1) (hb : x.testBit e = true) : rs_release w.1 (nI e) = (0, 1) := by
  have h6 := DV_m h.1
  unfold rs_release
  rw [cI_f (fun z => z (elm_at (by rw [EG_m hE]; exact he))), nI_tt (by omega), (EG_2 h hE).2, cI_f (fun z => by
    have := ((cl1_lt x (EG_64 h hE) e (by omega)).2.1 hb).1
    omega)]
theorem rsE_engage {e : Nat} (h : IV v) (hE : EG v x w) (he : e < dn v.1 8 1) (hb : ¬ (x ||| 2 ^ e) = x) : rs_engage w.1 (nI e) = (0, 1) := by
  have h6 := DV_m h.1
  unfold rs_engage
  rw [cI_f (fun z => z (elm_at (by rw [EG_m hE]; exact he))), nI_tt (by omega), (EG_2 h hE).2, cI_f hb]
theorem rsE_step {k : Nat} (hE : EG v x w) (hk : k + 1 < gN v.1) : rs_step w.1 (nI k) = (0, FP.fdiv (fqS (SP v.1 (gF v.1 (k + 1)))) (fqS (SP v.1 (gF v.1 k)))) := by
  have h2 := gN_le v.1
  unfold rs_step
  rw [nI_add, cI_f (fun z => z ⟨ger_at (by rw [EG_gN hE]; omega), ger_at (by rw [EG_gN hE]; exact hk)⟩), EG_SP hE, EG_gF hE, nI_tt (by omega)]
/-! two gears, one behind the other -/
theorem gear_bounds {k : Nat} (h : IV v) (hk : k < gN v.1) : rtN (SP v.1 (gF v.1 k)) ≠ 0 ∧ 0 < rtD (SP v.1 (gF v.1 k)) ∧ (rtN (SP v.1 (gF v.1 k))).natAbs ≤ 5488000 ∧ (rtD (SP v.1 (gF v.1 k))).natAbs ≤ 5488000 := by
  have hG := (gF_isG hk).1
  obtain ⟨hS, hD, hv⟩ := stC_drive.mp (show stC (SP v.1 (gF v.1 k)) = 0 from hG.2.1)
  obtain ⟨D9, hD9, hT9, hvals⟩ := vals (sp_zero h.1 (gF v.1 k)) (MT_spM h.1 (gF v.1 k) 10) hS
  obtain ⟨h1, h2, h3⟩ := hvals 1 (by decide) hD
  have h4 := LT_le hD9 h1
  have h5 : (vN (SP v.1 (gF v.1 k)) 1).natAbs ≤ 5488000 := h2
  have h6 : (vD (SP v.1 (gF v.1 k)) 1).natAbs ≤ D9.natAbs := h4
  refine ⟨rtN_ne _, isG_pos hG, ?_, ?_⟩
  · unfold rtN
    split
    · rw [Int.natAbs_neg]; omega
    · omega
  · unfold rtD
    rw [Int.natAbs_natCast]
    exact h5
theorem ofI {z : Int} (h : z.natAbs ≤ 100000000000000) : (Int64.ofInt z).toInt = z := by
  rw [Int64.toInt_ofInt]
  exact bmL (by omega) (by omega)
/-- a step's value against 0 and 1; the order -/
theorem gear_two {k : Nat} (h : IV v) (hk : k + 1 < gN v.1) : ∃ Nk Dk Nj Dj : Int, (rtN (SP v.1 (gF v.1 (k + 1))) = Nk ∧ rtD (SP v.1 (gF v.1 (k + 1))) = Dk ∧ rtN (SP v.1 (gF v.1 k)) = Nj ∧ rtD (SP v.1 (gF v.1 k)) = Dj) ∧ (Nk ≠ 0 ∧ Nj ≠ 0 ∧ Nk.natAbs ≤ 5488000 ∧ Nj.natAbs ≤ 5488000) ∧ (0 ≤ Nk * Dj - Nj * Dk ∧ (Nk * Dj - Nj * Dk).natAbs ≤ 100000000000000 ∧ (Nk * Dj - Nj * Dk = 0 → gF v.1 k < gF v.1 (k + 1))) ∧
    (0 < Nj → FP.fcmp (FP.fdiv (fqS (SP v.1 (gF v.1 (k + 1)))) (fqS (SP v.1 (gF v.1 k)))) FP.fconst1 = some .gt ∨ FP.fcmp (FP.fdiv (fqS (SP v.1 (gF v.1 (k + 1)))) (fqS (SP v.1 (gF v.1 k)))) FP.fconst1 = some .eq) ∧
    (Nk < 0 → FP.fcmp (FP.fdiv (fqS (SP v.1 (gF v.1 (k + 1)))) (fqS (SP v.1 (gF v.1 k)))) FP.fconst1 = some .lt ∨ FP.fcmp (FP.fdiv (fqS (SP v.1 (gF v.1 (k + 1)))) (fqS (SP v.1 (gF v.1 k)))) FP.fconst1 = some .eq) ∧
    (Nj < 0 → 0 < Nk → FP.fcmp (FP.fdiv (fqS (SP v.1 (gF v.1 (k + 1)))) (fqS (SP v.1 (gF v.1 k)))) FP.fconst0 = some .lt) := by
  obtain ⟨a1, a2, a3, a4⟩ := gear_bounds h hk
  obtain ⟨b1, b2, b3, b4⟩ := gear_bounds h (show k < gN v.1 by omega)
  obtain ⟨s1, s2⟩ := gF_srt v.1 k (k + 1) (Nat.lt_succ_self k) hk
  unfold LEq at s1
  have e1 := ofI (show (rtN (SP v.1 (gF v.1 (k + 1)))).natAbs ≤ 100000000000000 by omega)
  have e2 := ofI (show (rtD (SP v.1 (gF v.1 (k + 1)))).natAbs ≤ 100000000000000 by omega)
  have e3 := ofI (show (rtN (SP v.1 (gF v.1 k))).natAbs ≤ 100000000000000 by omega)
  have e4 := ofI (show (rtD (SP v.1 (gF v.1 k))).natAbs ≤ 100000000000000 by omega)
  have sf := step_facts (n0 := Int64.ofInt (rtN (SP v.1 (gF v.1 k)))) (d0 := Int64.ofInt (rtD (SP v.1 (gF v.1 k)))) (n1 := Int64.ofInt (rtN (SP v.1 (gF v.1 (k + 1))))) (d1 := Int64.ofInt (rtD (SP v.1 (gF v.1 (k + 1)))))
    (by rw [e3]; exact b1) (by rw [e4]; exact b2) (by rw [e1]; exact a1) (by rw [e2]; exact a2) (by rw [e3]; exact b3) (by rw [e4]; exact b4) (by rw [e1]; exact a3) (by rw [e2]; exact a4) (by rw [e1, e2, e3, e4]; exact s1)
  rw [e1, e3] at sf
  have m1 := abs_mul_le a3 b4
  have m2 := abs_mul_le b3 a4
  have m3 : (5488000 * 5488000 : Nat) = 30118144000000 := by decide
  rw [m3] at m1 m2
  exact ⟨_, _, _, _, ⟨rfl, rfl, rfl, rfl⟩, ⟨a1, b1, a3, b3⟩, ⟨by omega, by omega, fun z => s2 (by omega)⟩, sf.1, sf.2.1, sf.2.2⟩
theorem cmpv_nlt {o : Option Ordering} {op : CmpOp} (h : o = some .gt ∨ o = some .eq) : ¬ (Op.cmpValue o op).toInt < 0 := by rcases h with rfl | rfl <;> cases op <;> decide
theorem cmpv_ngt {o : Option Ordering} {op : CmpOp} (h : o = some .lt ∨ o = some .eq) : ¬ 0 < (Op.cmpValue o op).toInt := by rcases h with rfl | rfl <;> cases op <;> decide
theorem cmpv_lt {o : Option Ordering} {op : CmpOp} (h : o = some .lt) : (Op.cmpValue o op).toInt < 0 := by rw [h]; cases op <;> decide
theorem l_mul (a b : Int) : Int64.ofInt a * Int64.ofInt b = Int64.ofInt (a * b) := (Int64.ofInt_mul a b).symm
theorem l_sub (a b : Int) : Int64.ofInt a - Int64.ofInt b = Int64.ofInt (a - b) := (Int64.ofInt_sub a b).symm
end EG
