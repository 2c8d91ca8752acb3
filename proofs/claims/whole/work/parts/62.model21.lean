/-! PlanetaryGearboxModel: slipping, greatestTorque, ratioAsFloat -/
theorem slip_iff {S : (Nat → Int) → Prop} {k cap t : Nat} {c p x y : Int} (ht : t ≤ 10000) (hd : Solv S ∧ DetS S (4 + k)) (hp : p ≠ 0) (hx : x = if p < 0 then -c else c) (hy : y = (p.natAbs : Int)) (hvn : Lnum c p = vN S (4 + k)) (hvd : Lden c p = vD S (4 + k)) : ((hold S k cap : Int) < (t : Int)) ↔ (cap : Int) * y < (t : Int) * (x.natAbs : Int) := by
  obtain ⟨h1, h2, h3⟩ := Lfacts (c := c) hp
  rw [← hx] at h1
  rw [← hy] at h2
  rw [hvn] at h1
  rw [hvd] at h2
  generalize Nat.gcd p.natAbs c.natAbs = G at h1 h2 h3
  have e1 : x.natAbs = (vN S (4 + k)).natAbs * G := by rw [← h1, Int.natAbs_mul, Int.natAbs_natCast]
  have e2 : y = (((vD S (4 + k)).natAbs * G : Nat) : Int) := by
    have : y = (y.natAbs : Int) := by rw [hy]; omega
    rw [this, ← h2, Int.natAbs_mul, Int.natAbs_natCast]
  rw [e1, e2, ← Int.natCast_mul, ← Int.natCast_mul]
  have e3 : (((cap * ((vD S (4 + k)).natAbs * G) : Nat) : Int) < ((t * ((vN S (4 + k)).natAbs * G) : Nat) : Int)) ↔ cap * (vD S (4 + k)).natAbs < t * (vN S (4 + k)).natAbs := by
    rw [Int.ofNat_lt, ← Nat.mul_assoc, ← Nat.mul_assoc]
    exact Nat.mul_lt_mul_right h3
  rw [e3, Int.ofNat_lt]
  by_cases q : vN S (4 + k) = 0
  · rw [hold_0 hd q, q]
    constructor
    · intro z; omega
    · intro z; simp at z
  · rw [hold_n hd q]
    have hq : 0 < (vN S (4 + k)).natAbs := by omega
    have e4 : cap * (vD S (4 + k)).natAbs / (vN S (4 + k)).natAbs < t ↔ cap * (vD S (4 + k)).natAbs < t * (vN S (4 + k)).natAbs := Nat.div_lt_iff_lt_mul hq
    rw [← e4]
    split <;> omega
theorem w_or0 : ∀ t, t < 64 → nI t ||| nI 0 = nI t := by decide +kernel
theorem T_mul {a : Nat} {x : Int64} (ha : a ≤ 10000) (hx : x.toInt.natAbs ≤ BB) : ((nI a).toInt64 * x).toInt = (a : Int) * x.toInt := by
  have hBB : BB = 351232000 := rfl
  have e : (nI a).toInt64.toInt = (a : Int) := (Int32.toInt_toInt64 _).trans (nI_toIntI (by omega))
  have h := abs_mul_le (a := (a : Int)) (b := x.toInt) (u := 10000) (v := BB) (by omega) hx
  rw [hBB] at h
  rw [L_mul (by rw [e]; omega) (by rw [e]; omega), e]
theorem slp_all (d : Nat → Nat → Int32) (t : Int) {m : Nat} (hm : dn d 8 1 = m) : ∀ j, slp d t (m + j) = slp d t m
  | 0 => rfl
  | j + 1 => (cI_f (fun z => by have h1 : m + j < dn d 8 1 := z.1; omega)).trans (slp_all d t hm j)
theorem slp_yes {d : Nat → Nat → Int32} {t : Int} {k : Nat} (h : k < dn d 8 1 ∧ (dn d 8 2).testBit k = true ∧ (hold (TQ d (dn d 8 2)) k (dn d 7 k) : Int) < t) : slp d t (k + 1) = slp d t k ||| 2 ^ k := cI_t h
theorem slp_no {d : Nat → Nat → Int32} {t : Int} {k : Nat} (h : ¬ (k < dn d 8 1 ∧ (dn d 8 2).testBit k = true ∧ (hold (TQ d (dn d 8 2)) k (dn d 7 k) : Int) < t)) : slp d t (k + 1) = slp d t k := cI_f h
theorem slp_grt {d : Nat → Nat → Int32} {t : Nat} (ht : t ≤ 10000) : ∀ k, slp d (t : Int) k = 0 ↔ t ≤ grt d k
  | 0 => ⟨fun _ => ht, fun _ => rfl⟩
  | k + 1 => by
    have ih := slp_grt (d := d) ht k
    by_cases q : k < dn d 8 1 ∧ (dn d 8 2).testBit k = true
    · have e : grt d (k + 1) = Nat.min (grt d k) (hold (TQ d (dn d 8 2)) k (dn d 7 k)) := cI_t q
      rw [e]
      by_cases h : (hold (TQ d (dn d 8 2)) k (dn d 7 k) : Int) < (t : Int)
      · rw [slp_yes ⟨q.1, q.2, h⟩]
        constructor
        · intro z
          have h1 : 2 ^ k ≤ slp d (t : Int) k ||| 2 ^ k := Nat.right_le_or
          have h2 : 0 < 2 ^ k := Nat.pow_pos (by decide)
          omega
        · intro z
          have := Nat.le_trans z (Nat.min_le_right _ _)
          omega
      · rw [slp_no (fun z => h z.2.2), ih]
        constructor
        · intro z
          exact Nat.le_min.mpr ⟨z, by omega⟩
        · intro z
          exact Nat.le_trans z (Nat.min_le_left _ _)
    · have e : grt d (k + 1) = grt d k := cI_f q
      rw [e, slp_no (fun z => q ⟨z.1, z.2.1⟩)]
      exact ih
theorem Lval_le {c p : Int} (hp : p ≠ 0) : (Lnum c p).natAbs ≤ c.natAbs ∧ (Lden c p).natAbs ≤ p.natAbs := by
  obtain ⟨h1, h2, h3⟩ := Lfacts (c := c) hp
  generalize Nat.gcd p.natAbs c.natAbs = G at h1 h2 h3
  have e1 : (Lnum c p).natAbs * G = c.natAbs := by rw [← Int.natAbs_natCast G, ← Int.natAbs_mul, h1]; split <;> omega
  have e2 : (Lden c p).natAbs * G = p.natAbs := by rw [← Int.natAbs_natCast G, ← Int.natAbs_mul, h2]; omega
  exact ⟨by rw [← e1]; exact Nat.le_mul_of_pos_right _ h3, by rw [← e2]; exact Nat.le_mul_of_pos_right _ h3⟩
set_option maxHeartbeats 4000000 in
set_option maxRecDepth 100000 in
theorem c_X7_slips (l : Launch) (D : va_G) (K : Nat → ClassId) (mm : Nat → Nat) (ta : Nat → Int32) (sl : Nat → Int32) (ss : Nat → Int32) (be : Nat → Int32) (ch : Int32) (th : Int32) (M : Nat → Nat → Int64) (rq : Int32) (cq : Int32) (pv : Nat → Int32) (so : Int32) (st : Nat → Int32) (gs : Int32) (gm : Nat → Int32) (gu : Nat → Int64) (gl : Nat → Int64) (aw : Nat → Int32) (d : Nat → Nat → Int32) (t : Nat) (sz : Nat) (ht : t ≤ 10000) (hd : DV d) (hat : AtD ta d) (hs1 : SolvedM (TQ d (dn d 8 2)) 6 10 M pv so) : Met l yX7_slips (.code yX7_slips cX7_slips 6 (some .int) :: TB) ({ frames := 1, cells := 0, slots := 0, locals := 23 } : Room) (va_Pc [.ref (mm 0), .int (nI t)] (cP D K (WM K mm ta sl ss be ch th M (nI 6) (nI 10) pv so st gs gm gu gl aw) sz)) (va_Qi (fun (z : Int32) (_ : Unit) => z = nI (slp d (t : Int) 6)) (fun _ _ => True) (fun _ => False)) 0 0 (fun _ => False) := by
  refine Met.ofW (cc := cX7_slips) (maxL := 6) (ret := (some .int)) (by decide) rfl ?_
  intro p e s m args below meth c s₁ B hml hv
  obtain ⟨rfl, hsz, hP, hK, hD0⟩ := hv
  have hx := B.exec
  have hb := B.bytes
  have hr := B.returns
  have hts := hts_tl (atoms_spec (ws := (.code yX7_slips cX7_slips 6 (some .int) :: TB)) B.pre)
  have hown : s.vm.findClass RX7 = some m.cls := findClass_of_methodNamed B.named
  have hlocks := B.notSynchronized
  subst hsz
  have hA : ∀ q : Nat, q < s.heap.size → (fun _ : Nat => False) q → False := fun _ _ h => h
  have hS : va_S (fun _ => False) s.heap s.heap [] := va_S.rf
  have hl := lv_entry ([.ref (mm 0), .int (nI t)]) (n := 6) (Nat.le_of_ble_eq_true rfl)
  rw [lg_entry_eq]
  generalize (lg_sl ([.ref (mm 0), .int (nI t)]) ++ List.replicate (6 - (lg_sl ([.ref (mm 0), .int (nI t)])).length) Slot.unset).toArray = ls at hl ⊢
  have hl : lv_has ls 6 [(0, .ref (mm 0)), (1, .int (nI t))] := hl
  obtain ⟨n, m1, ge, hn, hm, hge, h0, h1, h2, hs9, he9⟩ := id hd
  obtain ⟨ha1, ha2, ha33, ha34, ha35⟩ := id hat
  have hp6 : 2 ^ m1 ≤ 64 := Nat.pow_le_pow_right (show 0 < 2 by decide) hm
  have h33 := ha33.trans h0
  have h34 := ha34.trans h1
  have h35 := ha35.trans h2
  have hn1 : dn d 8 0 = n := dn_of h0 (by omega)
  have hm1 : dn d 8 1 = m1 := dn_of h1 (by omega)
  have hg1 : dn d 8 2 = ge := dn_of h2 (by omega)
  have hBB : BB = 351232000 := rfl
  rw [hg1] at hs1
  refine lv_iconst (v := nI 0) hx hb dX7_slips_0 (by decide) ?_
  refine lv_istore_n (lv' := [(2, .int (nI 0)), (0, .ref (mm 0)), (1, .int (nI t))]) hx hb dX7_slips_1 rfl hl (by decide) rfl (fun ls hl => ?_)
  refine lv_iconst (v := nI 0) hx hb dX7_slips_2 (by decide) ?_
  refine lv_istore_n (lv' := [(3, .int (nI 0)), (2, .int (nI 0)), (0, .ref (mm 0)), (1, .int (nI t))]) hx hb dX7_slips_3 rfl hl (by decide) rfl (fun ls hl => ?_)
  have L4 : ∀ (fuel : Nat) (o : Nat) (H : Heap) (locs : List Loc) (ls : Array Slot), 10 - o < fuel → (o ≤ m1) → va_P D vwCl (WM K mm ta sl ss be ch th M (nI 6) (nI 10) pv so st gs gm gu gl aw) H → va_S (fun _ => False) s.heap H locs → lv_has ls 6 [(3, .int (nI o)), (2, .int (nI (slp d (t : Int) o))), (0, .ref (mm 0)), (1, .int (nI t))] → W p l e ({ frames := 1, cells := 0, slots := 0, locals := 23 } : Room) s m [.ref (mm 0), .int (nI t)].toArray below meth c H locs 0 0 (MQ below (va_Qi (fun (z : Int32) (_ : Unit) => z = nI (slp d (t : Int) 6)) (fun _ _ => True) (fun _ => False)) [.ref (mm 0), .int (nI t)].toArray s 0 0 (fun _ => False)) (F0 m 4 ls []) := by
    intro fuel
    induction fuel with
    | zero =>
      intro o H locs ls hfu
      exact absurd hfu (Nat.not_lt_zero _)
    | succ fuel ih4 =>
      intro o H locs ls hfu ho hP hS hl
      refine lv_iload_n hx hb dX7_slips_4 rfl (lv_at hl 0 rfl) ?_
      refine lv_aload_n hx hb dX7_slips_5 rfl (lv_at hl 2 rfl) ?_
      refine va_get (D := D) (ci := 7) (C := RX7) (T := TX7) (N := 17) hx hb hts iX7 hown hK hP 0 rfl rfl 0 (by decide) (hts _ k_f_X7_7) (fun _ h9 => h9) rfl dX7_slips_6 ?_
      refine lv_bipush (v := nI 34) hx hb dX7_slips_9 (by decide) ?_
      refine n_iald hx hb hK hP 1 0 rfl rfl (i := 34) (n := 36) (by omega) (by decide) dX7_slips_11 ?_
      refine t_i (show _ = nI m1 from h34) ?_
      refine b_icmp_ge hx hb (nI_toIntI (by omega)) (nI_toIntI (by omega)) dX7_slips_12 (tgt := 114) (by decide) (fun c12 => ?_) (fun c12 => ?_)
      · refine lv_iload_n hx hb dX7_slips_114 rfl (lv_at hl 1 rfl) ?_
        have hom : o = m1 := by omega
        subst hom
        have hfin : nI (slp d (t : Int) o) = nI (slp d (t : Int) 6) := by rw [show 6 = o + (6 - o) by omega, slp_all d _ hm1]
        exact W.iret (v := nI (slp d (t : Int) o)) hx hb hr (fun t9 ht9 hW => ⟨⟨nI (slp d (t : Int) o), (), rfl, hfin, trivial⟩, hS.F ht9⟩) hS.2.2 dX7_slips_115
      refine lv_aload_n hx hb dX7_slips_15 rfl (lv_at hl 2 rfl) ?_
      refine va_get (D := D) (ci := 7) (C := RX7) (T := TX7) (N := 17) hx hb hts iX7 hown hK hP 0 rfl rfl 0 (by decide) (hts _ k_f_X7_7) (fun _ h9 => h9) rfl dX7_slips_16 ?_
      refine lv_bipush (v := nI 35) hx hb dX7_slips_19 (by decide) ?_
      refine n_iald hx hb hK hP 1 0 rfl rfl (i := 35) (n := 36) (by omega) (by decide) dX7_slips_21 ?_
      refine t_i (show _ = nI ge from h35) ?_
      refine lv_iload_n hx hb dX7_slips_22 rfl (lv_at hl 0 rfl) ?_
      have hsl : slp d (t : Int) o < 64 := Nat.lt_of_lt_of_le (slp_lt d _ o) (show 2 ^ o ≤ 2 ^ 6 from Nat.pow_le_pow_right (by decide) (by omega))
      obtain ⟨a9, c9, -, -, -, hc19, hc29, hcv9⟩ := he9 o (by omega)
      have ht27 := (ha2 o (by omega)).2.2.trans hcv9
      have hcap9 : dn d 7 o = c9 := dn_of hcv9 (by omega)
      refine va_calli (va_runS (As := [.int (nI ge), .int (nI o)]) (rest := []) ⟨hx, hb, hml, hown, hts⟩ (c_X7_has l o ge (by omega) (by omega)) (va_cwS 2 hts (TB_S k_m_X7_73 k_st_X7_has k_in_X7 k_co_X7_has (fun _ h => h)) rfl rfl rfl (by decide +kernel) ⟨Nat.le_of_ble_eq_true rfl, Nat.le_of_ble_eq_true rfl⟩) ⟨tP_blind, tP_of⟩ rfl rfl hl.1 rfl (lv_room (Nat.le_of_ble_eq_true rfl)) dX7_slips_23 ⟨Nat.le_of_ble_eq_true rfl, Nat.le_of_ble_eq_true rfl⟩) hS (fun q _ h => absurd h id) (fun q h => absurd h id) (fun hz9 u9 t9 H locs ht9 hvm hw hB hz1 hk1 hS => ?_)
      have hP := P_same hP hk1
      by_cases hen : ge.testBit o = true
      rotate_left
      · refine t_i (hw.trans (bI_f hen).symm) ?_
        refine b_if_eq hx hb (nI_toIntI (by omega)) dX7_slips_26 (tgt := 108) (by decide) (fun c26 => ?_) (fun c26 => absurd c26 (by omega))
        refine lv_iinc (v := nI (o + 1)) (lv' := [(3, .int (nI (o + 1))), (2, .int (nI (slp d (t : Int) o))), (0, .ref (mm 0)), (1, .int (nI t))]) hx hb dX7_slips_108 hl (k := 0) rfl (nI_add o 1) (by decide) rfl (fun ls hl => ?_)
        refine lv_goto (tgt := 4) hx hb dX7_slips_111 (by decide) ?_
        have e9 : nI (slp d (t : Int) o) = nI (slp d (t : Int) (o + 1)) := (congrArg nI (slp_no (fun z => hen (by rw [hg1] at z; exact z.2.1))).symm)
        have hl : lv_has ls 6 [(3, .int (nI (o + 1))), (2, .int (nI (slp d (t : Int) (o + 1)))), (0, .ref (mm 0)), (1, .int (nI t))] := by rw [← e9]; exact hl
        exact ih4 (o + 1) _ _ _ (by omega) (by omega) hP hS (lv_sub hl [0, 1, 2, 3] rfl)
      refine t_i (hw.trans (bI_t hen).symm) ?_
      refine b_if_eq hx hb (nI_toIntI (by omega)) dX7_slips_26 (tgt := 108) (by decide) (fun c26 => absurd c26 (by omega)) (fun c26 => ?_)
      refine lv_aload_n hx hb dX7_slips_29 rfl (lv_at hl 2 rfl) ?_
      refine lv_iconst (v := nI 4) hx hb dX7_slips_30 (by decide) ?_
      refine lv_iload_n hx hb dX7_slips_31 rfl (lv_at hl 0 rfl) ?_
      refine lv_iadd hx hb dX7_slips_32 ?_
      refine t_i (nI_add _ _) ?_
      refine va_calli (va_runV (As := [.int (nI (4 + o))]) (rest := []) ⟨hx, hb, hml, hown, hts⟩ (c_X7_isDetermined l D K mm ta sl ss be ch th M (nI 6) (nI 10) pv so st gs gm gu gl aw (TQ d ge) 6 10 (4 + o) H.size (by decide) (by decide) rfl (by omega) hs1) (cwV 1 hts (TB_V k_m_X7_120 k_im_X7_isDetermined k_se_X7_isDetermined k_in_X7 k_co_X7_isDetermined (fun _ h => h)) rfl rfl rfl (by decide +kernel) ⟨Nat.le_of_ble_eq_true rfl, Nat.le_of_ble_eq_true rfl⟩) ⟨cP_blind, va_recv hK hP (ci := 7) (q0 := 0) rfl rfl, cP_of hP hK hD0⟩ rfl rfl hl.1 rfl (lv_room (Nat.le_of_ble_eq_true rfl)) dX7_slips_33 ⟨Nat.le_of_ble_eq_true rfl, Nat.le_of_ble_eq_true rfl⟩) hS (fun q _ h => absurd h id) (fun q h => absurd h id) (fun dz u9 t9 H locs ht9 hvm hw hB hz1 hk1 hS => ?_)
      have hP := P_same hP hk1
      by_cases hdet : Solv (TQ d ge) ∧ DetS (TQ d ge) (4 + o)
      rotate_left
      · refine t_i (hw.trans (bI_f hdet).symm) ?_
        refine b_if_eq hx hb (nI_toIntI (by omega)) dX7_slips_36 (tgt := 108) (by decide) (fun c36 => ?_) (fun c36 => absurd c36 (by omega))
        refine lv_iinc (v := nI (o + 1)) (lv' := [(3, .int (nI (o + 1))), (2, .int (nI (slp d (t : Int) o))), (0, .ref (mm 0)), (1, .int (nI t))]) hx hb dX7_slips_108 hl (k := 0) rfl (nI_add o 1) (by decide) rfl (fun ls hl => ?_)
        refine lv_goto (tgt := 4) hx hb dX7_slips_111 (by decide) ?_
        have e9 : nI (slp d (t : Int) o) = nI (slp d (t : Int) (o + 1)) := (congrArg nI (slp_no (fun z => by
      have z2 := z.2.2
      rw [hg1, hold_no hdet] at z2
      omega)).symm)
        have hl : lv_has ls 6 [(3, .int (nI (o + 1))), (2, .int (nI (slp d (t : Int) (o + 1)))), (0, .ref (mm 0)), (1, .int (nI t))] := by rw [← e9]; exact hl
        exact ih4 (o + 1) _ _ _ (by omega) (by omega) hP hS (lv_sub hl [0, 1, 2, 3] rfl)
      refine t_i (hw.trans (bI_t hdet).symm) ?_
      obtain ⟨kv, hkv, hpv9, hne9, hb19, hb29, hvn, hvd⟩ := hs1.val (by decide) (by decide) (t := (4 + o)) (by omega) hdet.1 hdet.2
      refine b_if_eq hx hb (nI_toIntI (by omega)) dX7_slips_36 (tgt := 108) (by decide) (fun c36 => absurd c36 (by omega)) (fun c36 => ?_)
      refine lv_aload_n hx hb dX7_slips_39 rfl (lv_at hl 2 rfl) ?_
      refine lv_iconst (v := nI 4) hx hb dX7_slips_40 (by decide) ?_
      refine lv_iload_n hx hb dX7_slips_41 rfl (lv_at hl 0 rfl) ?_
      refine lv_iadd hx hb dX7_slips_42 ?_
      refine t_i (nI_add _ _) ?_
      refine va_calll (va_runV (As := [.int (nI (4 + o))]) (rest := []) ⟨hx, hb, hml, hown, hts⟩ (c_X7_upper l D K mm ta sl ss be ch th M (nI 6) (nI 10) pv so st gs gm gu gl aw kv (4 + o) H.size (by omega) (by omega) hpv9 hb19 hb29) (cwV 1 hts (TB_V k_m_X7_123 k_im_X7_upper k_se_X7_upper k_in_X7 k_co_X7_upper (fun _ h => h)) rfl rfl rfl (by decide +kernel) ⟨Nat.le_of_ble_eq_true rfl, Nat.le_of_ble_eq_true rfl⟩) ⟨cP_blind, va_recv hK hP (ci := 7) (q0 := 0) rfl rfl, cP_of hP hK hD0⟩ rfl rfl hl.1 rfl (lv_room (Nat.le_of_ble_eq_true rfl)) dX7_slips_43 ⟨Nat.le_of_ble_eq_true rfl, Nat.le_of_ble_eq_true rfl⟩) hS (fun q _ h => absurd h id) (fun q h => absurd h id) (fun up u9 t9 H locs ht9 hvm hw hB hz1 hk1 hS => ?_)
      have hP := P_same hP hk1
      have hup := hw
      have hBB : BB = 351232000 := rfl
      have hupb : up.toInt.natAbs ≤ BB := by rw [hup]; split <;> omega
      refine lv_lconst (v := 0) hx hb dX7_slips_46 (by decide) ?_
      refine b_lcmp_ge hx hb rfl (show (0 : Int64).toInt = 0 by decide) dX7_slips_47 dX7_slips_48 (tgt := 62) (by decide) (fun c47 => ?_) (fun c47 => ?_)
      · refine lv_aload_n hx hb dX7_slips_62 rfl (lv_at hl 2 rfl) ?_
        refine lv_iconst (v := nI 4) hx hb dX7_slips_63 (by decide) ?_
        refine lv_iload_n hx hb dX7_slips_64 rfl (lv_at hl 0 rfl) ?_
        refine lv_iadd hx hb dX7_slips_65 ?_
        refine t_i (nI_add _ _) ?_
        refine va_calll (va_runV (As := [.int (nI (4 + o))]) (rest := []) ⟨hx, hb, hml, hown, hts⟩ (c_X7_upper l D K mm ta sl ss be ch th M (nI 6) (nI 10) pv so st gs gm gu gl aw kv (4 + o) H.size (by omega) (by omega) hpv9 hb19 hb29) (cwV 1 hts (TB_V k_m_X7_123 k_im_X7_upper k_se_X7_upper k_in_X7 k_co_X7_upper (fun _ h => h)) rfl rfl rfl (by decide +kernel) ⟨Nat.le_of_ble_eq_true rfl, Nat.le_of_ble_eq_true rfl⟩) ⟨cP_blind, va_recv hK hP (ci := 7) (q0 := 0) rfl rfl, cP_of hP hK hD0⟩ rfl rfl hl.1 rfl (lv_room (Nat.le_of_ble_eq_true rfl)) dX7_slips_66 ⟨Nat.le_of_ble_eq_true rfl, Nat.le_of_ble_eq_true rfl⟩) hS (fun q _ h => absurd h id) (fun q h => absurd h id) (fun up u9 t9 H locs ht9 hvm hw hB hz1 hk1 hS => ?_)
        have hP := P_same hP hk1
        have hup := hw
        have hBB : BB = 351232000 := rfl
        have hupb : up.toInt.natAbs ≤ BB := by rw [hup]; split <;> omega
        refine lv_lstore (lv' := [(4, .long up), (3, .int (nI o)), (2, .int (nI (slp d (t : Int) o))), (0, .ref (mm 0)), (1, .int (nI t))]) hx hb dX7_slips_69 hl (by decide) rfl (fun ls hl => ?_)
        refine lv_iload_n hx hb dX7_slips_71 rfl (lv_at hl 2 rfl) ?_
        refine lv_iload_n hx hb dX7_slips_72 rfl (lv_at hl 4 rfl) ?_
        refine lv_i2l (v := (nI t).toInt64) hx hb dX7_slips_73 rfl ?_
        refine lv_lload hx hb dX7_slips_74 (lv_at hl 0 rfl) ?_
        refine lv_lmul hx hb dX7_slips_76 ?_
        refine lv_aload_n hx hb dX7_slips_77 rfl (lv_at hl 3 rfl) ?_
        refine va_get (D := D) (ci := 7) (C := RX7) (T := TX7) (N := 17) hx hb hts iX7 hown hK hP 0 rfl rfl 0 (by decide) (hts _ k_f_X7_7) (fun _ h9 => h9) rfl dX7_slips_78 ?_
        refine lv_bipush (v := nI 27) hx hb dX7_slips_81 (by decide) ?_
        refine lv_iload_n hx hb dX7_slips_83 rfl (lv_at hl 1 rfl) ?_
        refine lv_iadd hx hb dX7_slips_84 ?_
        refine t_i (nI_add _ _) ?_
        refine n_iald hx hb hK hP 1 0 rfl rfl (i := 27 + o) (n := 36) (by omega) (by decide) dX7_slips_85 ?_
        refine t_i (show _ = nI c9 from ht27) ?_
        refine lv_i2l (v := (nI c9).toInt64) hx hb dX7_slips_86 rfl ?_
        refine lv_aload_n hx hb dX7_slips_87 rfl (lv_at hl 3 rfl) ?_
        refine lv_iconst (v := nI 4) hx hb dX7_slips_88 (by decide) ?_
        refine lv_iload_n hx hb dX7_slips_89 rfl (lv_at hl 1 rfl) ?_
        refine lv_iadd hx hb dX7_slips_90 ?_
        refine t_i (nI_add _ _) ?_
        refine va_calll (va_runV (As := [.int (nI (4 + o))]) (rest := [.long ((nI c9).toInt64), .long (((nI t).toInt64) * up), .int (nI (slp d (t : Int) o))]) ⟨hx, hb, hml, hown, hts⟩ (c_X7_lower l D K mm ta sl ss be ch th M (nI 6) (nI 10) pv so st gs gm gu gl aw kv (4 + o) H.size (by omega) (by omega) hpv9 hb19 hb29) (cwV 1 hts (TB_V k_m_X7_134 k_im_X7_lower k_se_X7_lower k_in_X7 k_co_X7_lower (fun _ h => h)) rfl rfl rfl (by decide +kernel) ⟨Nat.le_of_ble_eq_true rfl, Nat.le_of_ble_eq_true rfl⟩) ⟨cP_blind, va_recv hK hP (ci := 7) (q0 := 0) rfl rfl, cP_of hP hK hD0⟩ rfl rfl hl.1 rfl (lv_room (Nat.le_of_ble_eq_true rfl)) dX7_slips_91 ⟨Nat.le_of_ble_eq_true rfl, Nat.le_of_ble_eq_true rfl⟩) hS (fun q _ h => absurd h id) (fun q h => absurd h id) (fun lo u9 t9 H locs ht9 hvm hw hB hz1 hk1 hS => ?_)
        have hP := P_same hP hk1
        have hlo := hw
        have hlob : lo.toInt.natAbs ≤ BB := by rw [hlo]; omega
        have hX : (up).toInt = (up.toInt.natAbs : Int) := by omega
        have hl1 : ((nI t).toInt64 * up).toInt = (t : Int) * (up.toInt.natAbs : Int) := (T_mul ht (by rw [hX]; omega)).trans (congrArg (fun z => (t : Int) * z) hX)
        have hl2 : ((nI c9).toInt64 * lo).toInt = (c9 : Int) * lo.toInt := T_mul hc29 hlob
        have hsiff := slip_iff (k := o) (cap := c9) ht hdet hne9 hup hlo hvn hvd
        by_cases hlt9 : (c9 : Int) * lo.toInt < (t : Int) * (up.toInt.natAbs : Int)
        rotate_left
        · refine lv_lmul hx hb dX7_slips_94 ?_
          refine b_lcmp_le hx hb rfl rfl dX7_slips_95 dX7_slips_96 (tgt := 105) (by decide) (fun c95 => ?_) (fun c95 => absurd c95 (by omega))
          refine lv_iconst (v := nI 0) hx hb dX7_slips_105 (by decide) ?_
          refine lv_ior hx hb dX7_slips_106 ?_
          refine lv_istore_n (lv' := [(2, .int ((nI (slp d (t : Int) o)) ||| (nI 0))), (4, .long up), (3, .int (nI o)), (0, .ref (mm 0)), (1, .int (nI t))]) hx hb dX7_slips_107 rfl hl (by decide) rfl (fun ls hl => ?_)
          refine lv_iinc (v := nI (o + 1)) (lv' := [(3, .int (nI (o + 1))), (2, .int ((nI (slp d (t : Int) o)) ||| (nI 0))), (4, .long up), (0, .ref (mm 0)), (1, .int (nI t))]) hx hb dX7_slips_108 hl (k := 2) rfl (nI_add o 1) (by decide) rfl (fun ls hl => ?_)
          refine lv_goto (tgt := 4) hx hb dX7_slips_111 (by decide) ?_
          have e9 : (nI (slp d (t : Int) o)) ||| (nI 0) = nI (slp d (t : Int) (o + 1)) := (w_or0 _ hsl).trans (congrArg nI (slp_no (fun z => hlt9 (hsiff.mp (by have z2 := z.2.2; rw [hg1, hcap9] at z2; exact z2)))).symm)
          have hl : lv_has ls 6 [(3, .int (nI (o + 1))), (2, .int (nI (slp d (t : Int) (o + 1)))), (4, .long up), (0, .ref (mm 0)), (1, .int (nI t))] := by rw [← e9]; exact hl
          exact ih4 (o + 1) _ _ _ (by omega) (by omega) hP hS (lv_sub hl [0, 1, 3, 4] rfl)
        refine lv_lmul hx hb dX7_slips_94 ?_
        refine b_lcmp_le hx hb rfl rfl dX7_slips_95 dX7_slips_96 (tgt := 105) (by decide) (fun c95 => absurd c95 (by omega)) (fun c95 => ?_)
        refine lv_iconst (v := nI 1) hx hb dX7_slips_99 (by decide) ?_
        refine lv_iload_n hx hb dX7_slips_100 rfl (lv_at hl 1 rfl) ?_
        refine lv_ishl hx hb dX7_slips_101 ?_
        refine lv_goto (tgt := 106) hx hb dX7_slips_102 (by decide) ?_
        refine lv_ior hx hb dX7_slips_106 ?_
        refine lv_istore_n (lv' := [(2, .int ((nI (slp d (t : Int) o)) ||| ((nI 1) <<< ((nI o) &&& 31)))), (4, .long up), (3, .int (nI o)), (0, .ref (mm 0)), (1, .int (nI t))]) hx hb dX7_slips_107 rfl hl (by decide) rfl (fun ls hl => ?_)
        refine lv_iinc (v := nI (o + 1)) (lv' := [(3, .int (nI (o + 1))), (2, .int ((nI (slp d (t : Int) o)) ||| ((nI 1) <<< ((nI o) &&& 31)))), (4, .long up), (0, .ref (mm 0)), (1, .int (nI t))]) hx hb dX7_slips_108 hl (k := 2) rfl (nI_add o 1) (by decide) rfl (fun ls hl => ?_)
        refine lv_goto (tgt := 4) hx hb dX7_slips_111 (by decide) ?_
        have e9 : (nI (slp d (t : Int) o)) ||| ((nI 1) <<< ((nI o) &&& 31)) = nI (slp d (t : Int) (o + 1)) := (w_or _ hsl o (by omega)).trans (congrArg nI (slp_yes ⟨by rw [hm1]; omega, by rw [hg1]; exact hen, by rw [hg1, hcap9]; exact hsiff.mpr hlt9⟩).symm)
        have hl : lv_has ls 6 [(3, .int (nI (o + 1))), (2, .int (nI (slp d (t : Int) (o + 1)))), (4, .long up), (0, .ref (mm 0)), (1, .int (nI t))] := by rw [← e9]; exact hl
        exact ih4 (o + 1) _ _ _ (by omega) (by omega) hP hS (lv_sub hl [0, 1, 3, 4] rfl)
      refine lv_aload_n hx hb dX7_slips_51 rfl (lv_at hl 2 rfl) ?_
      refine lv_iconst (v := nI 4) hx hb dX7_slips_52 (by decide) ?_
      refine lv_iload_n hx hb dX7_slips_53 rfl (lv_at hl 0 rfl) ?_
      refine lv_iadd hx hb dX7_slips_54 ?_
      refine t_i (nI_add _ _) ?_
      refine va_calll (va_runV (As := [.int (nI (4 + o))]) (rest := []) ⟨hx, hb, hml, hown, hts⟩ (c_X7_upper l D K mm ta sl ss be ch th M (nI 6) (nI 10) pv so st gs gm gu gl aw kv (4 + o) H.size (by omega) (by omega) hpv9 hb19 hb29) (cwV 1 hts (TB_V k_m_X7_123 k_im_X7_upper k_se_X7_upper k_in_X7 k_co_X7_upper (fun _ h => h)) rfl rfl rfl (by decide +kernel) ⟨Nat.le_of_ble_eq_true rfl, Nat.le_of_ble_eq_true rfl⟩) ⟨cP_blind, va_recv hK hP (ci := 7) (q0 := 0) rfl rfl, cP_of hP hK hD0⟩ rfl rfl hl.1 rfl (lv_room (Nat.le_of_ble_eq_true rfl)) dX7_slips_55 ⟨Nat.le_of_ble_eq_true rfl, Nat.le_of_ble_eq_true rfl⟩) hS (fun q _ h => absurd h id) (fun q h => absurd h id) (fun up u9 t9 H locs ht9 hvm hw hB hz1 hk1 hS => ?_)
      have hP := P_same hP hk1
      have hup := hw
      have hBB : BB = 351232000 := rfl
      have hupb : up.toInt.natAbs ≤ BB := by rw [hup]; split <;> omega
      refine lv_lneg hx hb dX7_slips_58 ?_
      refine lv_goto (tgt := 69) hx hb dX7_slips_59 (by decide) ?_
      refine lv_lstore (lv' := [(4, .long (-up)), (3, .int (nI o)), (2, .int (nI (slp d (t : Int) o))), (0, .ref (mm 0)), (1, .int (nI t))]) hx hb dX7_slips_69 hl (by decide) rfl (fun ls hl => ?_)
      refine lv_iload_n hx hb dX7_slips_71 rfl (lv_at hl 2 rfl) ?_
      refine lv_iload_n hx hb dX7_slips_72 rfl (lv_at hl 4 rfl) ?_
      refine lv_i2l (v := (nI t).toInt64) hx hb dX7_slips_73 rfl ?_
      refine lv_lload hx hb dX7_slips_74 (lv_at hl 0 rfl) ?_
      refine lv_lmul hx hb dX7_slips_76 ?_
      refine lv_aload_n hx hb dX7_slips_77 rfl (lv_at hl 3 rfl) ?_
      refine va_get (D := D) (ci := 7) (C := RX7) (T := TX7) (N := 17) hx hb hts iX7 hown hK hP 0 rfl rfl 0 (by decide) (hts _ k_f_X7_7) (fun _ h9 => h9) rfl dX7_slips_78 ?_
      refine lv_bipush (v := nI 27) hx hb dX7_slips_81 (by decide) ?_
      refine lv_iload_n hx hb dX7_slips_83 rfl (lv_at hl 1 rfl) ?_
      refine lv_iadd hx hb dX7_slips_84 ?_
      refine t_i (nI_add _ _) ?_
      refine n_iald hx hb hK hP 1 0 rfl rfl (i := 27 + o) (n := 36) (by omega) (by decide) dX7_slips_85 ?_
      refine t_i (show _ = nI c9 from ht27) ?_
      refine lv_i2l (v := (nI c9).toInt64) hx hb dX7_slips_86 rfl ?_
      refine lv_aload_n hx hb dX7_slips_87 rfl (lv_at hl 3 rfl) ?_
      refine lv_iconst (v := nI 4) hx hb dX7_slips_88 (by decide) ?_
      refine lv_iload_n hx hb dX7_slips_89 rfl (lv_at hl 1 rfl) ?_
      refine lv_iadd hx hb dX7_slips_90 ?_
      refine t_i (nI_add _ _) ?_
      refine va_calll (va_runV (As := [.int (nI (4 + o))]) (rest := [.long ((nI c9).toInt64), .long (((nI t).toInt64) * (-up)), .int (nI (slp d (t : Int) o))]) ⟨hx, hb, hml, hown, hts⟩ (c_X7_lower l D K mm ta sl ss be ch th M (nI 6) (nI 10) pv so st gs gm gu gl aw kv (4 + o) H.size (by omega) (by omega) hpv9 hb19 hb29) (cwV 1 hts (TB_V k_m_X7_134 k_im_X7_lower k_se_X7_lower k_in_X7 k_co_X7_lower (fun _ h => h)) rfl rfl rfl (by decide +kernel) ⟨Nat.le_of_ble_eq_true rfl, Nat.le_of_ble_eq_true rfl⟩) ⟨cP_blind, va_recv hK hP (ci := 7) (q0 := 0) rfl rfl, cP_of hP hK hD0⟩ rfl rfl hl.1 rfl (lv_room (Nat.le_of_ble_eq_true rfl)) dX7_slips_91 ⟨Nat.le_of_ble_eq_true rfl, Nat.le_of_ble_eq_true rfl⟩) hS (fun q _ h => absurd h id) (fun q h => absurd h id) (fun lo u9 t9 H locs ht9 hvm hw hB hz1 hk1 hS => ?_)
      have hP := P_same hP hk1
      have hlo := hw
      have hlob : lo.toInt.natAbs ≤ BB := by rw [hlo]; omega
      have hX : (-up).toInt = (up.toInt.natAbs : Int) := by rw [L_neg (by omega)]; omega
      have hl1 : ((nI t).toInt64 * (-up)).toInt = (t : Int) * (up.toInt.natAbs : Int) := (T_mul ht (by rw [hX]; omega)).trans (congrArg (fun z => (t : Int) * z) hX)
      have hl2 : ((nI c9).toInt64 * lo).toInt = (c9 : Int) * lo.toInt := T_mul hc29 hlob
      have hsiff := slip_iff (k := o) (cap := c9) ht hdet hne9 hup hlo hvn hvd
      by_cases hlt9 : (c9 : Int) * lo.toInt < (t : Int) * (up.toInt.natAbs : Int)
      rotate_left
      · refine lv_lmul hx hb dX7_slips_94 ?_
        refine b_lcmp_le hx hb rfl rfl dX7_slips_95 dX7_slips_96 (tgt := 105) (by decide) (fun c95 => ?_) (fun c95 => absurd c95 (by omega))
        refine lv_iconst (v := nI 0) hx hb dX7_slips_105 (by decide) ?_
        refine lv_ior hx hb dX7_slips_106 ?_
        refine lv_istore_n (lv' := [(2, .int ((nI (slp d (t : Int) o)) ||| (nI 0))), (4, .long (-up)), (3, .int (nI o)), (0, .ref (mm 0)), (1, .int (nI t))]) hx hb dX7_slips_107 rfl hl (by decide) rfl (fun ls hl => ?_)
        refine lv_iinc (v := nI (o + 1)) (lv' := [(3, .int (nI (o + 1))), (2, .int ((nI (slp d (t : Int) o)) ||| (nI 0))), (4, .long (-up)), (0, .ref (mm 0)), (1, .int (nI t))]) hx hb dX7_slips_108 hl (k := 2) rfl (nI_add o 1) (by decide) rfl (fun ls hl => ?_)
        refine lv_goto (tgt := 4) hx hb dX7_slips_111 (by decide) ?_
        have e9 : (nI (slp d (t : Int) o)) ||| (nI 0) = nI (slp d (t : Int) (o + 1)) := (w_or0 _ hsl).trans (congrArg nI (slp_no (fun z => hlt9 (hsiff.mp (by have z2 := z.2.2; rw [hg1, hcap9] at z2; exact z2)))).symm)
        have hl : lv_has ls 6 [(3, .int (nI (o + 1))), (2, .int (nI (slp d (t : Int) (o + 1)))), (4, .long (-up)), (0, .ref (mm 0)), (1, .int (nI t))] := by rw [← e9]; exact hl
        exact ih4 (o + 1) _ _ _ (by omega) (by omega) hP hS (lv_sub hl [0, 1, 3, 4] rfl)
      refine lv_lmul hx hb dX7_slips_94 ?_
      refine b_lcmp_le hx hb rfl rfl dX7_slips_95 dX7_slips_96 (tgt := 105) (by decide) (fun c95 => absurd c95 (by omega)) (fun c95 => ?_)
      refine lv_iconst (v := nI 1) hx hb dX7_slips_99 (by decide) ?_
      refine lv_iload_n hx hb dX7_slips_100 rfl (lv_at hl 1 rfl) ?_
      refine lv_ishl hx hb dX7_slips_101 ?_
      refine lv_goto (tgt := 106) hx hb dX7_slips_102 (by decide) ?_
      refine lv_ior hx hb dX7_slips_106 ?_
      refine lv_istore_n (lv' := [(2, .int ((nI (slp d (t : Int) o)) ||| ((nI 1) <<< ((nI o) &&& 31)))), (4, .long (-up)), (3, .int (nI o)), (0, .ref (mm 0)), (1, .int (nI t))]) hx hb dX7_slips_107 rfl hl (by decide) rfl (fun ls hl => ?_)
      refine lv_iinc (v := nI (o + 1)) (lv' := [(3, .int (nI (o + 1))), (2, .int ((nI (slp d (t : Int) o)) ||| ((nI 1) <<< ((nI o) &&& 31)))), (4, .long (-up)), (0, .ref (mm 0)), (1, .int (nI t))]) hx hb dX7_slips_108 hl (k := 2) rfl (nI_add o 1) (by decide) rfl (fun ls hl => ?_)
      refine lv_goto (tgt := 4) hx hb dX7_slips_111 (by decide) ?_
      have e9 : (nI (slp d (t : Int) o)) ||| ((nI 1) <<< ((nI o) &&& 31)) = nI (slp d (t : Int) (o + 1)) := (w_or _ hsl o (by omega)).trans (congrArg nI (slp_yes ⟨by rw [hm1]; omega, by rw [hg1]; exact hen, by rw [hg1, hcap9]; exact hsiff.mpr hlt9⟩).symm)
      have hl : lv_has ls 6 [(3, .int (nI (o + 1))), (2, .int (nI (slp d (t : Int) (o + 1)))), (4, .long (-up)), (0, .ref (mm 0)), (1, .int (nI t))] := by rw [← e9]; exact hl
      exact ih4 (o + 1) _ _ _ (by omega) (by omega) hP hS (lv_sub hl [0, 1, 3, 4] rfl)
  exact L4 _ 0 _ _ _ (Nat.lt_succ_self _) (by omega) hP hS (lv_sub hl [0, 1, 2, 3] rfl)
