/-! GearTable: insert, measure, onTheWay -/
def nP (k : Nat) : Int32 := nI k - nI 1
theorem nP_I {k : Nat} (h : k < 2147483648) : (nP k).toInt = (k : Int) - 1 := by
  have h1 := nI_toIntI h
  have h2 := nI_toIntI (show 1 < 2147483648 by decide)
  unfold nP
  rw [Int32.toInt_sub, h1, h2]
  exact Int.bmod_eq_of_le (by omega) (by omega)
theorem nP_s {k : Nat} (h : 0 < k) : nP k = nI (k - 1) := pk_sub (by omega)
theorem nP_d (k : Nat) (h : 0 < k) : nP k + Int32.ofInt (-1) = nP (k - 1) := by
  rw [nP_s h]
  unfold nP
  rw [Int32.sub_eq_add_neg, show -(nI 1) = Int32.ofInt (-1) by decide]
theorem nP_a {k : Nat} (h : 0 < k) : nP k + nI 1 = nI k := by rw [nP_s h, nI_add]; congr 1; omega
theorem gtR_iff {d : Nat → Nat → Int32} {a b : Nat} {x y z w : Int64} (h1 : x.toInt = rtN (SP d a)) (h2 : y.toInt = rtD (SP d b)) (h3 : z.toInt = rtN (SP d b)) (h4 : w.toInt = rtD (SP d a)) (b1 : x.toInt.natAbs ≤ BB) (b2 : y.toInt.natAbs ≤ BB) (b3 : z.toInt.natAbs ≤ BB) (b4 : w.toInt.natAbs ≤ BB) : gtR d a b ↔ (z * w).toInt < (x * y).toInt := by
  have m1 := abs_mul_le b1 b2
  have m2 := abs_mul_le b3 b4
  have hB : BB * BB = 123363917824000000 := by decide
  rw [hB] at m1 m2
  rw [L_mul (by omega) (by omega), L_mul (by omega) (by omega), h1, h2, h3, h4]
  unfold gtR
  exact Iff.rfl
/-- a row that is on its way up: from k on one place further, k itself free -/
def Sh {α : Type} (f f' : Nat → α) (k n : Nat) : Prop := (∀ i, i < k → f' i = f i) ∧ ∀ i, k < i → i ≤ n → f' i = f (i - 1)
theorem Sh.start {α : Type} (f : Nat → α) (n : Nat) : Sh f f n n := ⟨fun _ _ => rfl, fun i h1 h2 => absurd h1 (by omega)⟩
theorem Sh.stepG {α : Type} {f f' f2 : Nat → α} {k n : Nat} (h : Sh f f' k n) (hk : 0 < k) (e1 : f2 k = f' (k - 1)) (e2 : ∀ i, i ≠ k → f2 i = f' i) : Sh f f2 (k - 1) n := by
  refine ⟨fun i hi => by rw [e2 i (by omega)]; exact h.1 i (by omega), fun i h1 h2 => ?_⟩
  by_cases q : i = k
  · subst q; rw [e1, h.1 _ (by omega)]
  · rw [e2 i q]; exact h.2 i (by omega) h2
theorem Sh.step {f f' : Nat → Int32} {k n : Nat} (h : Sh f f' k n) (hk : 0 < k) : Sh f (upd f' k (f' (k - 1))) (k - 1) n := h.stepG hk (if_pos rfl) (fun i q => if_neg q)
theorem Sh.stepL {f f' : Nat → Int64} {k n : Nat} (h : Sh f f' k n) (hk : 0 < k) : Sh f (vp_updL f' k (f' (k - 1))) (k - 1) n := h.stepG hk (if_pos rfl) (fun i q => if_neg q)
/-- what stands at a place behind the insertion -/
theorem ins_at {α : Type} {d : Nat → Nat → Int32} {G : Nat → Nat} {n t p : Nat} {f f' f2 : Nat → α} {x : α} {P : Nat → α → Prop} (hp : posG d G t n = p) (h : Sh f f' p n) (e1 : f2 p = x) (e2 : ∀ i, i ≠ p → f2 i = f' i) (hP : ∀ i, i < n → P (G i) (f i)) (hx : P t x) : ∀ i, i < n + 1 → P (insG d G n t i) (f2 i) := by
  have hpn := posG_le d G t n
  intro i hi
  unfold insG
  rw [hp]
  by_cases q : i = p
  · subst q
    rw [if_neg (Nat.lt_irrefl _), if_pos rfl, e1]
    exact hx
  · rw [e2 i q]
    by_cases q2 : i < p
    · rw [if_pos q2, h.1 i q2]
      exact hP i (by omega)
    · rw [if_neg q2, if_neg q, h.2 i (by omega) (by omega)]
      exact hP _ (by omega)
theorem TabA_ins {d : Nat → Nat → Int32} {G : Nat → Nat} {n t p : Nat} {ma ma' ma2 : Nat → Int32} {nu nu' nu2 de de' de2 : Nat → Int64} {x : Int32} {y z : Int64} (hT : TabA d G n ma nu de) (hp : posG d G t n = p) (h1 : Sh ma ma' p n) (h2 : Sh nu nu' p n) (h3 : Sh de de' p n) (a1 : ma2 = upd ma' p x) (a2 : nu2 = vp_updL nu' p y) (a3 : de2 = vp_updL de' p z) (ht : t < 64) (hx : x = nI t) (hy : y.toInt = rtN (SP d t)) (hz : z.toInt = rtD (SP d t)) (by1 : y.toInt.natAbs ≤ BB) (bz : z.toInt.natAbs ≤ BB) : TabA d (insG d G n t) (n + 1) ma2 nu2 de2 := by
  subst a1 a2 a3
  intro i hi
  have r1 := ins_at (f2 := upd ma' p x) (P := fun g v => v = nI g) hp h1 (if_pos rfl) (fun i q => if_neg q) (fun i hi => (hT i hi).2.1) hx i hi
  have r2 := ins_at (f2 := vp_updL nu' p y) (P := fun g v => v.toInt = rtN (SP d g) ∧ v.toInt.natAbs ≤ BB) hp h2 (if_pos rfl) (fun i q => if_neg q) (fun i hi => ⟨(hT i hi).2.2.1, (hT i hi).2.2.2.2.1⟩) ⟨hy, by1⟩ i hi
  have r3 := ins_at (f2 := vp_updL de' p z) (P := fun g v => v.toInt = rtD (SP d g) ∧ v.toInt.natAbs ≤ BB) hp h3 (if_pos rfl) (fun i q => if_neg q) (fun i hi => ⟨(hT i hi).2.2.2.1, (hT i hi).2.2.2.2.2⟩) ⟨hz, bz⟩ i hi
  have r0 := insG_mem (d := d) (P := fun g => g < 64) (G := G) (n := n) (g := t) (fun i hi => (hT i hi).1) ht i hi
  exact ⟨r0, r1, r2.1, r3.1, r2.2, r3.2⟩
set_option maxHeartbeats 4000000 in
set_option maxRecDepth 100000 in
theorem c_X2_insert (l : Launch) (D : va_G) (K : Nat → ClassId) (g : Nat → Nat) (ma : Nat → Int32) (nu de : Nat → Int64) (ne di : Nat → Int32) (n : Nat) (fr : Int32) (d : Nat → Nat → Int32) (G : Nat → Nat) (t : Nat) (y z : Int64) (sz : Nat) (hn : n < 64) (ht : t < 64) (hT : TabA d G n ma nu de) (hy : y.toInt = rtN (SP d t)) (hz : z.toInt = rtD (SP d t)) (b1 : y.toInt.natAbs ≤ BB) (b2 : z.toInt.natAbs ≤ BB) : Met l yX2_insert (.code yX2_insert cX2_insert 8 none :: TB) ({ frames := 0, cells := 0, slots := 0, locals := 0 } : Room) (va_Pc [.ref (g 0), .int (nI t), .long y, .long z] (cP D K (WG K g ma nu de ne di (nI n) fr) sz)) (va_Qv (fun (u : (Nat → Int32) × (Nat → Int64) × (Nat → Int64)) => TabA d (insG d G n t) (n + 1) u.1 u.2.1 u.2.2) (fun (u : (Nat → Int32) × (Nat → Int64) × (Nat → Int64)) t => cB D K (va_A (WG K g ma nu de ne di (nI n) fr) sz) (WG K g u.1 u.2.1 u.2.2 ne di (nI (n + 1)) fr) t) (va_A (WG K g ma nu de ne di (nI n) fr) sz)) 0 0 (va_A (WG K g ma nu de ne di (nI n) fr) sz) := by
  refine Met.ofW (cc := cX2_insert) (maxL := 8) (ret := none) (by decide) rfl ?_
  intro p e s m args below meth c s₁ B hml hv
  obtain ⟨rfl, hsz, hP, hK, hD0⟩ := hv
  have hx := B.exec
  have hb := B.bytes
  have hr := B.returns
  have hts := hts_tl (atoms_spec (ws := (.code yX2_insert cX2_insert 8 none :: TB)) B.pre)
  have hown : s.vm.findClass RX2 = some m.cls := findClass_of_methodNamed B.named
  have hlocks := B.notSynchronized
  subst hsz
  have hD := hD0.self (sz := s.heap.size)
  generalize hAe : (va_A (WG K g ma nu de ne di (nI n) fr) s.heap.size) = A at hD ⊢
  have hA : ∀ q : Nat, s.heap.size ≤ q → A q := fun q h => by rw [← hAe]; exact Or.inr h
  have hS : va_S A s.heap s.heap [] := va_S.rf
  have hl := lv_entry ([.ref (g 0), .int (nI t), .long y, .long z]) (n := 8) (Nat.le_of_ble_eq_true rfl)
  rw [lg_entry_eq]
  generalize (lg_sl ([.ref (g 0), .int (nI t), .long y, .long z]) ++ List.replicate (8 - (lg_sl ([.ref (g 0), .int (nI t), .long y, .long z])).length) Slot.unset).toArray = ls at hl ⊢
  have hl : lv_has ls 8 [(0, .ref (g 0)), (1, .int (nI t)), (2, .long y), (4, .long z)] := hl
  refine lv_aload_n hx hb dX2_insert_0 rfl (lv_at hl 0 rfl) ?_
  refine va_get (D := D) (ci := 2) (C := RX2) (T := TX2) (N := 7) hx hb hts iX2 hown hK hP 0 rfl rfl 5 (by decide) (hts _ k_f_X2_33) (fun _ h9 => h9) rfl dX2_insert_1 ?_
  refine t_i (show _ = nI n from rfl) ?_
  refine b_if_lt hx hb (nI_toIntI (by omega)) dX2_insert_4 (tgt := 16) (by decide) (fun c4 => absurd c4 (by omega)) (fun c4 => ?_)
  refine lv_aload_n hx hb dX2_insert_7 rfl (lv_at hl 0 rfl) ?_
  refine va_get (D := D) (ci := 2) (C := RX2) (T := TX2) (N := 7) hx hb hts iX2 hown hK hP 0 rfl rfl 5 (by decide) (hts _ k_f_X2_33) (fun _ h9 => h9) rfl dX2_insert_8 ?_
  refine t_i (show _ = nI n from rfl) ?_
  refine lv_bipush (v := nI 64) hx hb dX2_insert_11 (by decide) ?_
  refine b_icmp_lt hx hb (nI_toIntI (by omega)) (nI_toIntI (by omega)) dX2_insert_13 (tgt := 17) (by decide) (fun c13 => ?_) (fun c13 => absurd c13 (by omega))
  refine lv_aload_n hx hb dX2_insert_17 rfl (lv_at hl 0 rfl) ?_
  refine va_get (D := D) (ci := 2) (C := RX2) (T := TX2) (N := 7) hx hb hts iX2 hown hK hP 0 rfl rfl 5 (by decide) (hts _ k_f_X2_33) (fun _ h9 => h9) rfl dX2_insert_18 ?_
  refine t_i (show _ = nI n from rfl) ?_
  refine lv_istore (lv' := [(6, .int (nI n)), (0, .ref (g 0)), (1, .int (nI t)), (2, .long y), (4, .long z)]) hx hb dX2_insert_21 hl (by decide) rfl (fun ls hl => ?_)
  refine lv_aload_n hx hb dX2_insert_23 rfl (lv_at hl 1 rfl) ?_
  refine va_get (D := D) (ci := 2) (C := RX2) (T := TX2) (N := 7) hx hb hts iX2 hown hK hP 0 rfl rfl 5 (by decide) (hts _ k_f_X2_33) (fun _ h9 => h9) rfl dX2_insert_24 ?_
  refine t_i (show _ = nI n from rfl) ?_
  refine lv_iconst (v := nI 1) hx hb dX2_insert_27 (by decide) ?_
  refine lv_isub hx hb dX2_insert_28 ?_
  refine t_i (show nI n - nI 1 = nP n from rfl) ?_
  refine lv_istore (lv' := [(7, .int (nP n)), (6, .int (nI n)), (0, .ref (g 0)), (1, .int (nI t)), (2, .long y), (4, .long z)]) hx hb dX2_insert_29 hl (by decide) rfl (fun ls hl => ?_)
  have L31 : ∀ (fuel : Nat) (k : Nat) (ma' : Nat → Int32) (nu' : Nat → Int64) (de' : Nat → Int64) (H : Heap) (locs : List Loc) (ls : Array Slot), k < fuel → (k ≤ n) → (posG d G t n = posG d G t k) → (Sh ma ma' k n) → (Sh nu nu' k n) → (Sh de de' k n) → va_P D vwCl (WG K g ma' nu' de' ne di (nI n) fr) H → va_D A (WG K g ma' nu' de' ne di (nI n) fr) → va_S A s.heap H locs → lv_has ls 8 [(7, .int (nP k)), (6, .int (nI k)), (0, .ref (g 0)), (1, .int (nI t)), (2, .long y), (4, .long z)] → W p l e ({ frames := 0, cells := 0, slots := 0, locals := 0 } : Room) s m [.ref (g 0), .int (nI t), .long y, .long z].toArray below meth c H locs 0 0 (MQ below (va_Qv (fun (u : (Nat → Int32) × (Nat → Int64) × (Nat → Int64)) => TabA d (insG d G n t) (n + 1) u.1 u.2.1 u.2.2) (fun (u : (Nat → Int32) × (Nat → Int64) × (Nat → Int64)) t => cB D K A (WG K g u.1 u.2.1 u.2.2 ne di (nI (n + 1)) fr) t) A) [.ref (g 0), .int (nI t), .long y, .long z].toArray s 0 0 A) (F0 m 31 ls []) := by
    intro fuel
    induction fuel with
    | zero =>
      intro k ma' nu' de' H locs ls hfu
      exact absurd hfu (Nat.not_lt_zero _)
    | succ fuel ih31 =>
      intro k ma' nu' de' H locs ls hfu hkn hp hs1 hs2 hs3 hP hD hS hl
      refine lv_iload hx hb dX2_insert_31 (lv_at hl 0 rfl) ?_
      refine b_if_lt hx hb (nP_I (by omega)) dX2_insert_33 (tgt := 120) (by decide) (fun c33 => ?_) (fun c33 => ?_)
      · have hpk : posG d G t n = k := by
          rw [hp]
          rcases Nat.eq_zero_or_pos k with q | q
          · subst q; rfl
          · have q2 : k = (k - 1) + 1 := by omega
            rw [q2]; exact posG_no (fun z9 => by first | (have z8 := hgt.mp z9; omega) | omega)
        refine lv_aload_n hx hb dX2_insert_120 rfl (lv_at hl 2 rfl) ?_
        refine va_get (D := D) (ci := 2) (C := RX2) (T := TX2) (N := 7) hx hb hts iX2 hown hK hP 0 rfl rfl 0 (by decide) (hts _ k_f_X2_9) (fun _ h9 => h9) rfl dX2_insert_121 ?_
        refine lv_iload hx hb dX2_insert_124 (lv_at hl 1 rfl) ?_
        refine lv_iload_n hx hb dX2_insert_126 rfl (lv_at hl 3 rfl) ?_
        refine n_iast hx hb hK hP hD hS 1 0 rfl rfl (i := k) (n := 64) (by omega) (by decide) dX2_insert_127 (fun H locs hP hD hS => ?_)
        have hP : va_P D vwCl (WG K g (upd ma' k (nI t)) nu' de' ne di (nI n) fr) H := hP
        have hD : va_D A (WG K g (upd ma' k (nI t)) nu' de' ne di (nI n) fr) := hD
        refine lv_aload_n hx hb dX2_insert_128 rfl (lv_at hl 2 rfl) ?_
        refine va_get (D := D) (ci := 2) (C := RX2) (T := TX2) (N := 7) hx hb hts iX2 hown hK hP 0 rfl rfl 1 (by decide) (hts _ k_f_X2_15) (fun _ h9 => h9) rfl dX2_insert_129 ?_
        refine lv_iload hx hb dX2_insert_132 (lv_at hl 1 rfl) ?_
        refine lv_lload_n hx hb dX2_insert_134 rfl (lv_at hl 4 rfl) ?_
        refine n_last hx hb hK hP hD hS 2 1 rfl rfl (i := k) (n := 64) (by omega) (by decide) dX2_insert_135 (fun H locs hP hD hS => ?_)
        have hP : va_P D vwCl (WG K g (upd ma' k (nI t)) (vp_updL nu' k y) de' ne di (nI n) fr) H := hP
        have hD : va_D A (WG K g (upd ma' k (nI t)) (vp_updL nu' k y) de' ne di (nI n) fr) := hD
        refine lv_aload_n hx hb dX2_insert_136 rfl (lv_at hl 2 rfl) ?_
        refine va_get (D := D) (ci := 2) (C := RX2) (T := TX2) (N := 7) hx hb hts iX2 hown hK hP 0 rfl rfl 2 (by decide) (hts _ k_f_X2_19) (fun _ h9 => h9) rfl dX2_insert_137 ?_
        refine lv_iload hx hb dX2_insert_140 (lv_at hl 1 rfl) ?_
        refine lv_lload hx hb dX2_insert_142 (lv_at hl 5 rfl) ?_
        refine n_last hx hb hK hP hD hS 3 1 rfl rfl (i := k) (n := 64) (by omega) (by decide) dX2_insert_144 (fun H locs hP hD hS => ?_)
        have hP : va_P D vwCl (WG K g (upd ma' k (nI t)) (vp_updL nu' k y) (vp_updL de' k z) ne di (nI n) fr) H := hP
        have hD : va_D A (WG K g (upd ma' k (nI t)) (vp_updL nu' k y) (vp_updL de' k z) ne di (nI n) fr) := hD
        refine lv_aload_n hx hb dX2_insert_145 rfl (lv_at hl 2 rfl) ?_
        refine lv_dup hx hb dX2_insert_146 rfl ?_
        refine va_get (D := D) (ci := 2) (C := RX2) (T := TX2) (N := 7) hx hb hts iX2 hown hK hP 0 rfl rfl 5 (by decide) (hts _ k_f_X2_33) (fun _ h9 => h9) rfl dX2_insert_147 ?_
        refine t_i (show _ = nI n from rfl) ?_
        refine lv_iconst (v := nI 1) hx hb dX2_insert_150 (by decide) ?_
        refine lv_iadd hx hb dX2_insert_151 ?_
        refine t_i (nI_add _ _) ?_
        refine va_put (D := D) (ci := 2) (v := .int (nI (n + 1))) (ty := .int) (C := RX2) (T := TX2) (N := 7) hx hb hts iX2 tyX2 tyX2_ok nmX2 hown hK hP hD hS 0 rfl rfl 5 (by decide) (hts _ k_f_X2_33) (fun _ h9 => h9) rfl (by decide +kernel) rfl rfl (Nat.le_of_ble_eq_true rfl) dX2_insert_152 (fun H locs hP hD hS => ?_)
        have hP : va_P D vwCl (WG K g (upd ma' k (nI t)) (vp_updL nu' k y) (vp_updL de' k z) ne di (nI (n + 1)) fr) H := hP
        have hD : va_D A (WG K g (upd ma' k (nI t)) (vp_updL nu' k y) (vp_updL de' k z) ne di (nI (n + 1)) fr) := hD
        exact W.vret hx hb hr (fun t9 ht9 hW => ⟨⟨(upd ma' k (nI t), vp_updL nu' k y, vp_updL de' k z), rfl, TabA_ins hT hpk hs1 hs2 hs3 rfl rfl rfl ht rfl hy hz b1 b2, by rw [ht9]; exact hP, va_K.moved hW.alike hK, hD⟩, hS.F ht9⟩) hS.2.2 dX2_insert_155
      have hk0 : 0 < k := by omega
      refine lv_aload_n hx hb dX2_insert_36 rfl (lv_at hl 2 rfl) ?_
      refine va_get (D := D) (ci := 2) (C := RX2) (T := TX2) (N := 7) hx hb hts iX2 hown hK hP 0 rfl rfl 1 (by decide) (hts _ k_f_X2_15) (fun _ h9 => h9) rfl dX2_insert_37 ?_
      refine lv_iload hx hb dX2_insert_40 (lv_at hl 0 rfl) ?_
      refine t_i (nP_s hk0) ?_
      refine n_lald hx hb hK hP 2 1 rfl rfl (i := k - 1) (n := 64) (by omega) (by decide) dX2_insert_42 ?_
      refine lv_lload hx hb dX2_insert_43 (lv_at hl 5 rfl) ?_
      refine lv_lmul hx hb dX2_insert_45 ?_
      refine lv_lload_n hx hb dX2_insert_46 rfl (lv_at hl 4 rfl) ?_
      refine lv_aload_n hx hb dX2_insert_47 rfl (lv_at hl 2 rfl) ?_
      refine va_get (D := D) (ci := 2) (C := RX2) (T := TX2) (N := 7) hx hb hts iX2 hown hK hP 0 rfl rfl 2 (by decide) (hts _ k_f_X2_19) (fun _ h9 => h9) rfl dX2_insert_48 ?_
      refine lv_iload hx hb dX2_insert_51 (lv_at hl 0 rfl) ?_
      refine t_i (nP_s hk0) ?_
      refine n_lald hx hb hK hP 3 1 rfl rfl (i := k - 1) (n := 64) (by omega) (by decide) dX2_insert_53 ?_
      refine lv_lmul hx hb dX2_insert_54 ?_
      have hTk := hT (k - 1) (by omega)
      have hgt : gtR d (G (k - 1)) t ↔ _ := gtR_iff (x := nu' (k - 1)) (y := z) (z := y) (w := de' (k - 1)) (by rw [hs2.1 _ (by omega)]; exact hTk.2.2.1) hz hy (by rw [hs3.1 _ (by omega)]; exact hTk.2.2.2.1) (by rw [hs2.1 _ (by omega)]; exact hTk.2.2.2.2.1) b2 b1 (by rw [hs3.1 _ (by omega)]; exact hTk.2.2.2.2.2)
      refine b_lcmp_gt hx hb rfl rfl dX2_insert_55 dX2_insert_56 (tgt := 62) (by decide) (fun c55 => ?_) (fun c55 => ?_)
      · refine lv_aload_n hx hb dX2_insert_62 rfl (lv_at hl 2 rfl) ?_
        refine va_get (D := D) (ci := 2) (C := RX2) (T := TX2) (N := 7) hx hb hts iX2 hown hK hP 0 rfl rfl 0 (by decide) (hts _ k_f_X2_9) (fun _ h9 => h9) rfl dX2_insert_63 ?_
        refine lv_iload hx hb dX2_insert_66 (lv_at hl 0 rfl) ?_
        refine lv_iconst (v := nI 1) hx hb dX2_insert_68 (by decide) ?_
        refine lv_iadd hx hb dX2_insert_69 ?_
        refine t_i (nP_a hk0) ?_
        refine lv_aload_n hx hb dX2_insert_70 rfl (lv_at hl 2 rfl) ?_
        refine va_get (D := D) (ci := 2) (C := RX2) (T := TX2) (N := 7) hx hb hts iX2 hown hK hP 0 rfl rfl 0 (by decide) (hts _ k_f_X2_9) (fun _ h9 => h9) rfl dX2_insert_71 ?_
        refine lv_iload hx hb dX2_insert_74 (lv_at hl 0 rfl) ?_
        refine t_i (nP_s hk0) ?_
        refine n_iald hx hb hK hP 1 0 rfl rfl (i := k - 1) (n := 64) (by omega) (by decide) dX2_insert_76 ?_
        refine n_iast hx hb hK hP hD hS 1 0 rfl rfl (i := k) (n := 64) (by omega) (by decide) dX2_insert_77 (fun H locs hP hD hS => ?_)
        have hP : va_P D vwCl (WG K g (upd ma' k (ma' (k - 1))) nu' de' ne di (nI n) fr) H := hP
        have hD : va_D A (WG K g (upd ma' k (ma' (k - 1))) nu' de' ne di (nI n) fr) := hD
        refine lv_aload_n hx hb dX2_insert_78 rfl (lv_at hl 2 rfl) ?_
        refine va_get (D := D) (ci := 2) (C := RX2) (T := TX2) (N := 7) hx hb hts iX2 hown hK hP 0 rfl rfl 1 (by decide) (hts _ k_f_X2_15) (fun _ h9 => h9) rfl dX2_insert_79 ?_
        refine lv_iload hx hb dX2_insert_82 (lv_at hl 0 rfl) ?_
        refine lv_iconst (v := nI 1) hx hb dX2_insert_84 (by decide) ?_
        refine lv_iadd hx hb dX2_insert_85 ?_
        refine t_i (nP_a hk0) ?_
        refine lv_aload_n hx hb dX2_insert_86 rfl (lv_at hl 2 rfl) ?_
        refine va_get (D := D) (ci := 2) (C := RX2) (T := TX2) (N := 7) hx hb hts iX2 hown hK hP 0 rfl rfl 1 (by decide) (hts _ k_f_X2_15) (fun _ h9 => h9) rfl dX2_insert_87 ?_
        refine lv_iload hx hb dX2_insert_90 (lv_at hl 0 rfl) ?_
        refine t_i (nP_s hk0) ?_
        refine n_lald hx hb hK hP 2 1 rfl rfl (i := k - 1) (n := 64) (by omega) (by decide) dX2_insert_92 ?_
        refine n_last hx hb hK hP hD hS 2 1 rfl rfl (i := k) (n := 64) (by omega) (by decide) dX2_insert_93 (fun H locs hP hD hS => ?_)
        have hP : va_P D vwCl (WG K g (upd ma' k (ma' (k - 1))) (vp_updL nu' k (nu' (k - 1))) de' ne di (nI n) fr) H := hP
        have hD : va_D A (WG K g (upd ma' k (ma' (k - 1))) (vp_updL nu' k (nu' (k - 1))) de' ne di (nI n) fr) := hD
        refine lv_aload_n hx hb dX2_insert_94 rfl (lv_at hl 2 rfl) ?_
        refine va_get (D := D) (ci := 2) (C := RX2) (T := TX2) (N := 7) hx hb hts iX2 hown hK hP 0 rfl rfl 2 (by decide) (hts _ k_f_X2_19) (fun _ h9 => h9) rfl dX2_insert_95 ?_
        refine lv_iload hx hb dX2_insert_98 (lv_at hl 0 rfl) ?_
        refine lv_iconst (v := nI 1) hx hb dX2_insert_100 (by decide) ?_
        refine lv_iadd hx hb dX2_insert_101 ?_
        refine t_i (nP_a hk0) ?_
        refine lv_aload_n hx hb dX2_insert_102 rfl (lv_at hl 2 rfl) ?_
        refine va_get (D := D) (ci := 2) (C := RX2) (T := TX2) (N := 7) hx hb hts iX2 hown hK hP 0 rfl rfl 2 (by decide) (hts _ k_f_X2_19) (fun _ h9 => h9) rfl dX2_insert_103 ?_
        refine lv_iload hx hb dX2_insert_106 (lv_at hl 0 rfl) ?_
        refine t_i (nP_s hk0) ?_
        refine n_lald hx hb hK hP 3 1 rfl rfl (i := k - 1) (n := 64) (by omega) (by decide) dX2_insert_108 ?_
        refine n_last hx hb hK hP hD hS 3 1 rfl rfl (i := k) (n := 64) (by omega) (by decide) dX2_insert_109 (fun H locs hP hD hS => ?_)
        have hP : va_P D vwCl (WG K g (upd ma' k (ma' (k - 1))) (vp_updL nu' k (nu' (k - 1))) (vp_updL de' k (de' (k - 1))) ne di (nI n) fr) H := hP
        have hD : va_D A (WG K g (upd ma' k (ma' (k - 1))) (vp_updL nu' k (nu' (k - 1))) (vp_updL de' k (de' (k - 1))) ne di (nI n) fr) := hD
        refine lv_iload hx hb dX2_insert_110 (lv_at hl 0 rfl) ?_
        refine t_i (nP_s hk0) ?_
        refine lv_istore (lv' := [(6, .int (nI (k - 1))), (7, .int (nP k)), (0, .ref (g 0)), (1, .int (nI t)), (2, .long y), (4, .long z)]) hx hb dX2_insert_112 hl (by decide) rfl (fun ls hl => ?_)
        refine lv_iinc (v := nP (k - 1)) (lv' := [(7, .int (nP (k - 1))), (6, .int (nI (k - 1))), (0, .ref (g 0)), (1, .int (nI t)), (2, .long y), (4, .long z)]) hx hb dX2_insert_114 hl (k := 1) rfl (nP_d k hk0) (by decide) rfl (fun ls hl => ?_)
        refine lv_goto (tgt := 31) hx hb dX2_insert_117 (by decide) ?_
        have hpk : posG d G t n = posG d G t (k - 1) := by rw [hp, show k = (k - 1) + 1 by omega, posG_yes (hgt.mpr c55), Nat.add_sub_cancel]
        exact ih31 (k - 1) (upd ma' k (ma' (k - 1))) (vp_updL nu' k (nu' (k - 1))) (vp_updL de' k (de' (k - 1))) _ _ _ (by omega) (by omega) hpk (hs1.step hk0) (hs2.stepL hk0) (hs3.stepL hk0) hP hD hS (lv_sub hl [0, 1, 2, 3, 4, 5] rfl)
      refine lv_goto (tgt := 120) hx hb dX2_insert_59 (by decide) ?_
      have hpk : posG d G t n = k := by
        rw [hp]
        rcases Nat.eq_zero_or_pos k with q | q
        · subst q; rfl
        · have q2 : k = (k - 1) + 1 := by omega
          rw [q2]; exact posG_no (fun z9 => by first | (have z8 := hgt.mp z9; omega) | omega)
      refine lv_aload_n hx hb dX2_insert_120 rfl (lv_at hl 2 rfl) ?_
      refine va_get (D := D) (ci := 2) (C := RX2) (T := TX2) (N := 7) hx hb hts iX2 hown hK hP 0 rfl rfl 0 (by decide) (hts _ k_f_X2_9) (fun _ h9 => h9) rfl dX2_insert_121 ?_
      refine lv_iload hx hb dX2_insert_124 (lv_at hl 1 rfl) ?_
      refine lv_iload_n hx hb dX2_insert_126 rfl (lv_at hl 3 rfl) ?_
      refine n_iast hx hb hK hP hD hS 1 0 rfl rfl (i := k) (n := 64) (by omega) (by decide) dX2_insert_127 (fun H locs hP hD hS => ?_)
      have hP : va_P D vwCl (WG K g (upd ma' k (nI t)) nu' de' ne di (nI n) fr) H := hP
      have hD : va_D A (WG K g (upd ma' k (nI t)) nu' de' ne di (nI n) fr) := hD
      refine lv_aload_n hx hb dX2_insert_128 rfl (lv_at hl 2 rfl) ?_
      refine va_get (D := D) (ci := 2) (C := RX2) (T := TX2) (N := 7) hx hb hts iX2 hown hK hP 0 rfl rfl 1 (by decide) (hts _ k_f_X2_15) (fun _ h9 => h9) rfl dX2_insert_129 ?_
      refine lv_iload hx hb dX2_insert_132 (lv_at hl 1 rfl) ?_
      refine lv_lload_n hx hb dX2_insert_134 rfl (lv_at hl 4 rfl) ?_
      refine n_last hx hb hK hP hD hS 2 1 rfl rfl (i := k) (n := 64) (by omega) (by decide) dX2_insert_135 (fun H locs hP hD hS => ?_)
      have hP : va_P D vwCl (WG K g (upd ma' k (nI t)) (vp_updL nu' k y) de' ne di (nI n) fr) H := hP
      have hD : va_D A (WG K g (upd ma' k (nI t)) (vp_updL nu' k y) de' ne di (nI n) fr) := hD
      refine lv_aload_n hx hb dX2_insert_136 rfl (lv_at hl 2 rfl) ?_
      refine va_get (D := D) (ci := 2) (C := RX2) (T := TX2) (N := 7) hx hb hts iX2 hown hK hP 0 rfl rfl 2 (by decide) (hts _ k_f_X2_19) (fun _ h9 => h9) rfl dX2_insert_137 ?_
      refine lv_iload hx hb dX2_insert_140 (lv_at hl 1 rfl) ?_
      refine lv_lload hx hb dX2_insert_142 (lv_at hl 5 rfl) ?_
      refine n_last hx hb hK hP hD hS 3 1 rfl rfl (i := k) (n := 64) (by omega) (by decide) dX2_insert_144 (fun H locs hP hD hS => ?_)
      have hP : va_P D vwCl (WG K g (upd ma' k (nI t)) (vp_updL nu' k y) (vp_updL de' k z) ne di (nI n) fr) H := hP
      have hD : va_D A (WG K g (upd ma' k (nI t)) (vp_updL nu' k y) (vp_updL de' k z) ne di (nI n) fr) := hD
      refine lv_aload_n hx hb dX2_insert_145 rfl (lv_at hl 2 rfl) ?_
      refine lv_dup hx hb dX2_insert_146 rfl ?_
      refine va_get (D := D) (ci := 2) (C := RX2) (T := TX2) (N := 7) hx hb hts iX2 hown hK hP 0 rfl rfl 5 (by decide) (hts _ k_f_X2_33) (fun _ h9 => h9) rfl dX2_insert_147 ?_
      refine t_i (show _ = nI n from rfl) ?_
      refine lv_iconst (v := nI 1) hx hb dX2_insert_150 (by decide) ?_
      refine lv_iadd hx hb dX2_insert_151 ?_
      refine t_i (nI_add _ _) ?_
      refine va_put (D := D) (ci := 2) (v := .int (nI (n + 1))) (ty := .int) (C := RX2) (T := TX2) (N := 7) hx hb hts iX2 tyX2 tyX2_ok nmX2 hown hK hP hD hS 0 rfl rfl 5 (by decide) (hts _ k_f_X2_33) (fun _ h9 => h9) rfl (by decide +kernel) rfl rfl (Nat.le_of_ble_eq_true rfl) dX2_insert_152 (fun H locs hP hD hS => ?_)
      have hP : va_P D vwCl (WG K g (upd ma' k (nI t)) (vp_updL nu' k y) (vp_updL de' k z) ne di (nI (n + 1)) fr) H := hP
      have hD : va_D A (WG K g (upd ma' k (nI t)) (vp_updL nu' k y) (vp_updL de' k z) ne di (nI (n + 1)) fr) := hD
      exact W.vret hx hb hr (fun t9 ht9 hW => ⟨⟨(upd ma' k (nI t), vp_updL nu' k y, vp_updL de' k z), rfl, TabA_ins hT hpk hs1 hs2 hs3 rfl rfl rfl ht rfl hy hz b1 b2, by rw [ht9]; exact hP, va_K.moved hW.alike hK, hD⟩, hS.F ht9⟩) hS.2.2 dX2_insert_155
  exact L31 _ n ma nu de _ _ _ (Nat.lt_succ_self _) (Nat.le_refl _) rfl (Sh.start _ _) (Sh.start _ _) (Sh.start _ _) hP hD hS (lv_sub hl [0, 1, 2, 3, 4, 5] rfl)
set_option maxHeartbeats 4000000 in
set_option maxRecDepth 100000 in
theorem c_X2_measure (l : Launch) (D : va_G) (K : Nat → ClassId) (g : Nat → Nat) (ma : Nat → Int32) (nu de : Nat → Int64) (ne di : Nat → Int32) (n : Nat) (fr : Int32) (G : Nat → Nat) (to9 : Nat) (sz : Nat) (hn : n ≤ 64) (hto : to9 < n) (hG : ∀ j, j < n → G j < 64 ∧ ma j = nI (G j)) : Met l yX2_measure (.code yX2_measure cX2_measure 4 none :: TB) ({ frames := 3, cells := 0, slots := 0, locals := 64 } : Room) (va_Pc [.ref (g 0), .int (nI to9)] (cP D K (WG K g ma nu de ne di (nI n) fr) sz)) (va_Qv (fun (u : Nat → Int32) => ∀ i, i < n → (u i).toInt = dD G n to9 (n - 1) i) (fun (u : Nat → Int32) t => cB D K (va_A (WG K g ma nu de ne di (nI n) fr) sz) (WG K g ma nu de ne u (nI n) fr) t) (va_A (WG K g ma nu de ne di (nI n) fr) sz)) 0 0 (va_A (WG K g ma nu de ne di (nI n) fr) sz) := by
  refine Met.ofW (cc := cX2_measure) (maxL := 4) (ret := none) (by decide) rfl ?_
  intro p e s m args below meth c s₁ B hml hv
  obtain ⟨rfl, hsz, hP, hK, hD0⟩ := hv
  have hx := B.exec
  have hb := B.bytes
  have hr := B.returns
  have hts := hts_tl (atoms_spec (ws := (.code yX2_measure cX2_measure 4 none :: TB)) B.pre)
  have hown : s.vm.findClass RX2 = some m.cls := findClass_of_methodNamed B.named
  have hlocks := B.notSynchronized
  subst hsz
  have hD := hD0.self (sz := s.heap.size)
  generalize hAe : (va_A (WG K g ma nu de ne di (nI n) fr) s.heap.size) = A at hD ⊢
  have hA : ∀ q : Nat, s.heap.size ≤ q → A q := fun q h => by rw [← hAe]; exact Or.inr h
  have hS : va_S A s.heap s.heap [] := va_S.rf
  have hl := lv_entry ([.ref (g 0), .int (nI to9)]) (n := 4) (Nat.le_of_ble_eq_true rfl)
  rw [lg_entry_eq]
  generalize (lg_sl ([.ref (g 0), .int (nI to9)]) ++ List.replicate (4 - (lg_sl ([.ref (g 0), .int (nI to9)])).length) Slot.unset).toArray = ls at hl ⊢
  have hl : lv_has ls 4 [(0, .ref (g 0)), (1, .int (nI to9))] := hl
  refine lv_iconst (v := nI 0) hx hb dX2_measure_0 (by decide) ?_
  refine lv_istore_n (lv' := [(2, .int (nI 0)), (0, .ref (g 0)), (1, .int (nI to9))]) hx hb dX2_measure_1 rfl hl (by decide) rfl (fun ls hl => ?_)
  have L2 : ∀ (fuel : Nat) (i : Nat) (d1 : Nat → Int32) (H : Heap) (locs : List Loc) (ls : Array Slot), 64 - i < fuel → (i ≤ 64) → (∀ j, j < i → (d1 j).toInt = dD G n to9 0 j) → va_P D vwCl (WG K g ma nu de ne d1 (nI n) fr) H → va_D A (WG K g ma nu de ne d1 (nI n) fr) → va_S A s.heap H locs → lv_has ls 4 [(2, .int (nI i)), (0, .ref (g 0)), (1, .int (nI to9))] → W p l e ({ frames := 3, cells := 0, slots := 0, locals := 64 } : Room) s m [.ref (g 0), .int (nI to9)].toArray below meth c H locs 0 0 (MQ below (va_Qv (fun (u : Nat → Int32) => ∀ i, i < n → (u i).toInt = dD G n to9 (n - 1) i) (fun (u : Nat → Int32) t => cB D K A (WG K g ma nu de ne u (nI n) fr) t) A) [.ref (g 0), .int (nI to9)].toArray s 0 0 A) (F0 m 2 ls []) := by
    intro fuel
    induction fuel with
    | zero =>
      intro i d1 H locs ls hfu
      exact absurd hfu (Nat.not_lt_zero _)
    | succ fuel ih2 =>
      intro i d1 H locs ls hfu hi hI hP hD hS hl
      refine lv_iload_n hx hb dX2_measure_2 rfl (lv_at hl 0 rfl) ?_
      refine lv_bipush (v := nI 64) hx hb dX2_measure_3 (by decide) ?_
      refine b_icmp_ge hx hb (nI_toIntI (by omega)) (nI_toIntI (by omega)) dX2_measure_5 (tgt := 30) (by decide) (fun c5 => ?_) (fun c5 => ?_)
      · refine lv_iconst (v := nI 1) hx hb dX2_measure_30 (by decide) ?_
        refine lv_istore_n (lv' := [(2, .int (nI 1)), (0, .ref (g 0)), (1, .int (nI to9))]) hx hb dX2_measure_31 rfl hl (by decide) rfl (fun ls hl => ?_)
        have L32 : ∀ (fuel : Nat) (s1 : Nat) (d2 : Nat → Int32) (H : Heap) (locs : List Loc) (ls : Array Slot), 64 - s1 < fuel → (s1 + 1 ≤ n ∨ (s1 = 0 ∧ n = 0)) → (∀ j, j < n → (d2 j).toInt = dD G n to9 s1 j) → va_P D vwCl (WG K g ma nu de ne d2 (nI n) fr) H → va_D A (WG K g ma nu de ne d2 (nI n) fr) → va_S A s.heap H locs → lv_has ls 4 [(2, .int (nI (s1 + 1))), (0, .ref (g 0)), (1, .int (nI to9))] → W p l e ({ frames := 3, cells := 0, slots := 0, locals := 64 } : Room) s m [.ref (g 0), .int (nI to9)].toArray below meth c H locs 0 0 (MQ below (va_Qv (fun (u : Nat → Int32) => ∀ i, i < n → (u i).toInt = dD G n to9 (n - 1) i) (fun (u : Nat → Int32) t => cB D K A (WG K g ma nu de ne u (nI n) fr) t) A) [.ref (g 0), .int (nI to9)].toArray s 0 0 A) (F0 m 32 ls []) := by
          intro fuel
          induction fuel with
          | zero =>
            intro s1 d2 H locs ls hfu
            exact absurd hfu (Nat.not_lt_zero _)
          | succ fuel ih32 =>
            intro s1 d2 H locs ls hfu hs hI2 hP hD hS hl
            refine lv_iload_n hx hb dX2_measure_32 rfl (lv_at hl 0 rfl) ?_
            refine lv_aload_n hx hb dX2_measure_33 rfl (lv_at hl 1 rfl) ?_
            refine va_get (D := D) (ci := 2) (C := RX2) (T := TX2) (N := 7) hx hb hts iX2 hown hK hP 0 rfl rfl 5 (by decide) (hts _ k_f_X2_33) (fun _ h9 => h9) rfl dX2_measure_34 ?_
            refine t_i (show _ = nI n from rfl) ?_
            refine b_icmp_ge hx hb (nI_toIntI (by omega)) (nI_toIntI (by omega)) dX2_measure_37 (tgt := 97) (by decide) (fun c37 => ?_) (fun c37 => ?_)
            · exact W.vret hx hb hr (fun t9 ht9 hW => ⟨⟨d2, rfl, (fun j hj => by rw [hI2 j hj]; congr 1; omega), by rw [ht9]; exact hP, va_K.moved hW.alike hK, hD⟩, hS.F ht9⟩) hS.2.2 dX2_measure_97
            refine lv_iconst (v := nI 0) hx hb dX2_measure_40 (by decide) ?_
            refine lv_istore_n (lv' := [(3, .int (nI 0)), (2, .int (nI (s1 + 1))), (0, .ref (g 0)), (1, .int (nI to9))]) hx hb dX2_measure_41 rfl hl (by decide) rfl (fun ls hl => ?_)
            have L42 : ∀ (fuel : Nat) (i : Nat) (d3 : Nat → Int32) (H : Heap) (locs : List Loc) (ls : Array Slot), n - i < fuel → (i ≤ n) → (∀ j, j < i → (d3 j).toInt = dD G n to9 (s1 + 1) j) → (∀ j, i ≤ j → j < n → (d3 j).toInt = dD G n to9 s1 j) → va_P D vwCl (WG K g ma nu de ne d3 (nI n) fr) H → va_D A (WG K g ma nu de ne d3 (nI n) fr) → va_S A s.heap H locs → lv_has ls 4 [(3, .int (nI i)), (2, .int (nI (s1 + 1))), (0, .ref (g 0)), (1, .int (nI to9))] → W p l e ({ frames := 3, cells := 0, slots := 0, locals := 64 } : Room) s m [.ref (g 0), .int (nI to9)].toArray below meth c H locs 0 0 (MQ below (va_Qv (fun (u : Nat → Int32) => ∀ i, i < n → (u i).toInt = dD G n to9 (n - 1) i) (fun (u : Nat → Int32) t => cB D K A (WG K g ma nu de ne u (nI n) fr) t) A) [.ref (g 0), .int (nI to9)].toArray s 0 0 A) (F0 m 42 ls []) := by
              intro fuel
              induction fuel with
              | zero =>
                intro i d3 H locs ls hfu
                exact absurd hfu (Nat.not_lt_zero _)
              | succ fuel ih42 =>
                intro i d3 H locs ls hfu hi hlo hhi hP hD hS hl
                refine lv_iload_n hx hb dX2_measure_42 rfl (lv_at hl 0 rfl) ?_
                refine lv_aload_n hx hb dX2_measure_43 rfl (lv_at hl 2 rfl) ?_
                refine va_get (D := D) (ci := 2) (C := RX2) (T := TX2) (N := 7) hx hb hts iX2 hown hK hP 0 rfl rfl 5 (by decide) (hts _ k_f_X2_33) (fun _ h9 => h9) rfl dX2_measure_44 ?_
                refine t_i (show _ = nI n from rfl) ?_
                refine b_icmp_ge hx hb (nI_toIntI (by omega)) (nI_toIntI (by omega)) dX2_measure_47 (tgt := 91) (by decide) (fun c47 => ?_) (fun c47 => ?_)
                · refine lv_iinc (v := nI (s1 + 1 + 1)) (lv' := [(2, .int (nI (s1 + 1 + 1))), (3, .int (nI i)), (0, .ref (g 0)), (1, .int (nI to9))]) hx hb dX2_measure_91 hl (k := 1) rfl (nI_add (s1 + 1) 1) (by decide) rfl (fun ls hl => ?_)
                  refine lv_goto (tgt := 32) hx hb dX2_measure_94 (by decide) ?_
                  exact ih32 (s1 + 1) d3 _ _ _ (by omega) (by omega) (fun j hj => hlo j (by omega)) hP hD hS (lv_sub hl [0, 2, 3] rfl)
                refine lv_iload_n hx hb dX2_measure_50 rfl (lv_at hl 0 rfl) ?_
                refine lv_bipush (v := nI 64) hx hb dX2_measure_51 (by decide) ?_
                refine b_icmp_ge hx hb (nI_toIntI (by omega)) (nI_toIntI (by omega)) dX2_measure_53 (tgt := 91) (by decide) (fun c53 => absurd c53 (by omega)) (fun c53 => ?_)
                refine lv_aload_n hx hb dX2_measure_56 rfl (lv_at hl 2 rfl) ?_
                refine va_get (D := D) (ci := 2) (C := RX2) (T := TX2) (N := 7) hx hb hts iX2 hown hK hP 0 rfl rfl 4 (by decide) (hts _ k_f_X2_26) (fun _ h9 => h9) rfl dX2_measure_57 ?_
                refine lv_iload_n hx hb dX2_measure_60 rfl (lv_at hl 0 rfl) ?_
                refine n_iald hx hb hK hP 5 0 rfl rfl (i := i) (n := 64) (by omega) (by decide) dX2_measure_61 ?_
                refine lv_iconst (v := (-1)) hx hb dX2_measure_62 (by decide) ?_
                refine b_icmp_ne hx hb rfl (show (-1 : Int32).toInt = -1 by decide) dX2_measure_63 (tgt := 85) (by decide) (fun c63 => ?_) (fun c63 => ?_)
                · have hhi2 : ∀ j, i + 1 ≤ j → j < n → (d3 j).toInt = dD G n to9 s1 j := fun j hj hj2 => hhi j (by omega) hj2
                  have hlo2 : ∀ j, j < i + 1 → (d3 j).toInt = dD G n to9 (s1 + 1) j := fun j hj => by
                    by_cases q : j = i
                    · subst q; rw [hhi j (Nat.le_refl _) (by omega)]; exact (dD_no (fun z => c63 (by rw [hhi j (Nat.le_refl _) (by omega)]; exact z.1))).symm
                    · exact hlo j (by omega)
                  refine lv_iinc (v := nI (i + 1)) (lv' := [(3, .int (nI (i + 1))), (2, .int (nI (s1 + 1))), (0, .ref (g 0)), (1, .int (nI to9))]) hx hb dX2_measure_85 hl (k := 0) rfl (nI_add i 1) (by decide) rfl (fun ls hl => ?_)
                  refine lv_goto (tgt := 42) hx hb dX2_measure_88 (by decide) ?_
                  exact ih42 (i + 1) d3 _ _ _ (by omega) (by omega) hlo2 hhi2 hP hD hS (lv_sub hl [0, 1, 2, 3] rfl)
                have hdi : ∀ h, h < n → (d3 h = nI s1 ↔ dD G n to9 s1 h = (s1 : Int)) := fun h hh => by
                  have e1 : d3 h = nI s1 ↔ (d3 h).toInt = (s1 : Int) := by rw [i32_eq, nI_toIntI (by omega)]
                  rw [e1]
                  by_cases q : h < i
                  · rw [hlo h q]; by_cases q2 : dD G n to9 s1 h = -1 ∧ ∃ h2, h2 < n ∧ dD G n to9 s1 h2 = (s1 : Int) ∧ nbr (G h) (G h2)
                    · rw [dD_yes q2.1 q2.2, q2.1]; omega
                    · rw [dD_no q2]
                  · rw [hhi h (by omega) hh]
                refine lv_aload_n hx hb dX2_measure_66 rfl (lv_at hl 2 rfl) ?_
                refine lv_iload_n hx hb dX2_measure_67 rfl (lv_at hl 0 rfl) ?_
                refine lv_iload_n hx hb dX2_measure_68 rfl (lv_at hl 1 rfl) ?_
                refine lv_iconst (v := nI 1) hx hb dX2_measure_69 (by decide) ?_
                refine lv_isub hx hb dX2_measure_70 ?_
                refine t_i ((pk_sub (by omega)).trans (congrArg nI (Nat.add_sub_cancel s1 1))) ?_
                refine va_calli (va_runV (As := [.int (nI i), .int (nI s1)]) (rest := []) ⟨hx, hb, hml, hown, hts⟩ (c_X2_neighbourAt l D K g ma nu de ne d3 n fr G i (nI s1) H.size hn (by omega) hG) (cwV 2 hts (TB_V k_m_X2_67 k_im_X2_neighbourAt k_se_X2_neighbourAt k_in_X2 k_co_X2_neighbourAt (fun _ h => h)) rfl rfl rfl (by decide +kernel) ⟨Nat.le_of_ble_eq_true rfl, Nat.le_of_ble_eq_true rfl⟩) ⟨cP_blind, va_recv hK hP (ci := 2) (q0 := 0) rfl rfl, cP_of hP hK hD⟩ rfl rfl hl.1 rfl (lv_room (Nat.le_of_ble_eq_true rfl)) dX2_measure_71 ⟨Nat.le_of_ble_eq_true rfl, Nat.le_of_ble_eq_true rfl⟩) hS (fun q _ h => absurd h id) (fun q h => absurd h id) (fun nb u9 t9 H locs ht9 hvm hw hB hz1 hk1 hS => ?_)
                have hP := P_same hP hk1
                rcases hw with ⟨h, hh, rfl, hd9, hnb, -⟩ | ⟨rfl, hno⟩
                · have hyes := dD_yes (G := G) (n := n) (last := to9) (s := s1) (i := i) (by rw [← hhi i (Nat.le_refl _) (by omega)]; exact c63) ⟨h, hh, (hdi h hh).mp hd9, hnb⟩
                  have hhi2 : ∀ j, i + 1 ≤ j → j < n → (upd d3 i (nI (s1 + 1)) j).toInt = dD G n to9 s1 j := fun j hj hj2 => by rw [show upd d3 i (nI (s1 + 1)) j = d3 j from if_neg (by omega)]; exact hhi j (by omega) hj2
                  have hlo2 : ∀ j, j < i + 1 → (upd d3 i (nI (s1 + 1)) j).toInt = dD G n to9 (s1 + 1) j := fun j hj => by
                    by_cases q : j = i
                    · subst q; rw [show upd d3 j (nI (s1 + 1)) j = nI (s1 + 1) from if_pos rfl, hyes, nI_toIntI (by omega)]; omega
                    · rw [show upd d3 i (nI (s1 + 1)) j = d3 j from if_neg q]; exact hlo j (by omega)
                  refine lv_iconst (v := (-1)) hx hb dX2_measure_74 (by decide) ?_
                  refine b_icmp_eq hx hb (nI_toIntI (by omega)) (show (-1 : Int32).toInt = -1 by decide) dX2_measure_75 (tgt := 85) (by decide) (fun c75 => absurd c75 (by omega)) (fun c75 => ?_)
                  refine lv_aload_n hx hb dX2_measure_78 rfl (lv_at hl 2 rfl) ?_
                  refine va_get (D := D) (ci := 2) (C := RX2) (T := TX2) (N := 7) hx hb hts iX2 hown hK hP 0 rfl rfl 4 (by decide) (hts _ k_f_X2_26) (fun _ h9 => h9) rfl dX2_measure_79 ?_
                  refine lv_iload_n hx hb dX2_measure_82 rfl (lv_at hl 0 rfl) ?_
                  refine lv_iload_n hx hb dX2_measure_83 rfl (lv_at hl 1 rfl) ?_
                  refine n_iast hx hb hK hP hD hS 5 0 rfl rfl (i := i) (n := 64) (by omega) (by decide) dX2_measure_84 (fun H locs hP hD hS => ?_)
                  have hP : va_P D vwCl (WG K g ma nu de ne (upd d3 i (nI (s1 + 1))) (nI n) fr) H := hP
                  have hD : va_D A (WG K g ma nu de ne (upd d3 i (nI (s1 + 1))) (nI n) fr) := hD
                  refine lv_iinc (v := nI (i + 1)) (lv' := [(3, .int (nI (i + 1))), (2, .int (nI (s1 + 1))), (0, .ref (g 0)), (1, .int (nI to9))]) hx hb dX2_measure_85 hl (k := 0) rfl (nI_add i 1) (by decide) rfl (fun ls hl => ?_)
                  refine lv_goto (tgt := 42) hx hb dX2_measure_88 (by decide) ?_
                  exact ih42 (i + 1) (upd d3 i (nI (s1 + 1))) _ _ _ (by omega) (by omega) hlo2 hhi2 hP hD hS (lv_sub hl [0, 1, 2, 3] rfl)
                refine lv_iconst (v := (-1)) hx hb dX2_measure_74 (by decide) ?_
                refine b_icmp_eq hx hb (show (-1 : Int32).toInt = -1 by decide) (show (-1 : Int32).toInt = -1 by decide) dX2_measure_75 (tgt := 85) (by decide) (fun c75 => ?_) (fun c75 => absurd c75 (by decide))
                have hhi2 : ∀ j, i + 1 ≤ j → j < n → (d3 j).toInt = dD G n to9 s1 j := fun j hj hj2 => hhi j (by omega) hj2
                have hlo2 : ∀ j, j < i + 1 → (d3 j).toInt = dD G n to9 (s1 + 1) j := fun j hj => by
                  by_cases q : j = i
                  · subst q; rw [hhi j (Nat.le_refl _) (by omega)]; exact (dD_no (fun z => by obtain ⟨-, h, hh1, hh2, hh3⟩ := z; exact hno h hh1 ⟨(hdi h hh1).mpr hh2, hh3⟩)).symm
                  · exact hlo j (by omega)
                refine lv_iinc (v := nI (i + 1)) (lv' := [(3, .int (nI (i + 1))), (2, .int (nI (s1 + 1))), (0, .ref (g 0)), (1, .int (nI to9))]) hx hb dX2_measure_85 hl (k := 0) rfl (nI_add i 1) (by decide) rfl (fun ls hl => ?_)
                refine lv_goto (tgt := 42) hx hb dX2_measure_88 (by decide) ?_
                exact ih42 (i + 1) d3 _ _ _ (by omega) (by omega) hlo2 hhi2 hP hD hS (lv_sub hl [0, 1, 2, 3] rfl)
            exact L42 _ 0 d2 _ _ _ (Nat.lt_succ_self _) (Nat.zero_le _) (fun j h => absurd h (Nat.not_lt_zero _)) (fun j _ hj => hI2 j hj) hP hD hS (lv_sub hl [0, 1, 2, 3] rfl)
        exact L32 _ 0 d1 _ _ _ (Nat.lt_succ_self _) (by omega) (fun j hj => hI j (by omega)) hP hD hS (lv_sub hl [0, 1, 2] rfl)
      refine lv_aload_n hx hb dX2_measure_8 rfl (lv_at hl 1 rfl) ?_
      refine va_get (D := D) (ci := 2) (C := RX2) (T := TX2) (N := 7) hx hb hts iX2 hown hK hP 0 rfl rfl 4 (by decide) (hts _ k_f_X2_26) (fun _ h9 => h9) rfl dX2_measure_9 ?_
      refine lv_iload_n hx hb dX2_measure_12 rfl (lv_at hl 0 rfl) ?_
      refine lv_iload_n hx hb dX2_measure_13 rfl (lv_at hl 0 rfl) ?_
      refine lv_iload_n hx hb dX2_measure_14 rfl (lv_at hl 2 rfl) ?_
      refine b_icmp_ne hx hb (nI_toIntI (by omega)) (nI_toIntI (by omega)) dX2_measure_15 (tgt := 22) (by decide) (fun c15 => ?_) (fun c15 => ?_)
      · refine lv_iconst (v := (-1)) hx hb dX2_measure_22 (by decide) ?_
        have hI2 : ∀ j, j < i + 1 → (upd d1 i (-1) j).toInt = dD G n to9 0 j := fun j hj => by
          by_cases q : j = i
          · subst q; rw [show upd d1 j (-1) j = (-1) from if_pos rfl]; show _ = if j = to9 then (0 : Int) else -1; rw [if_neg (by omega)]; decide
          · rw [show upd d1 i (-1) j = d1 j from if_neg q]; exact hI j (by omega)
        refine n_iast hx hb hK hP hD hS 5 0 rfl rfl (i := i) (n := 64) (by omega) (by decide) dX2_measure_23 (fun H locs hP hD hS => ?_)
        have hP : va_P D vwCl (WG K g ma nu de ne (upd d1 i (-1)) (nI n) fr) H := hP
        have hD : va_D A (WG K g ma nu de ne (upd d1 i (-1)) (nI n) fr) := hD
        refine lv_iinc (v := nI (i + 1)) (lv' := [(2, .int (nI (i + 1))), (0, .ref (g 0)), (1, .int (nI to9))]) hx hb dX2_measure_24 hl (k := 0) rfl (nI_add i 1) (by decide) rfl (fun ls hl => ?_)
        refine lv_goto (tgt := 2) hx hb dX2_measure_27 (by decide) ?_
        exact ih2 (i + 1) (upd d1 i (-1)) _ _ _ (by omega) (by omega) hI2 hP hD hS (lv_sub hl [0, 1, 2] rfl)
      refine lv_iconst (v := nI 0) hx hb dX2_measure_18 (by decide) ?_
      refine lv_goto (tgt := 23) hx hb dX2_measure_19 (by decide) ?_
      have hI2 : ∀ j, j < i + 1 → (upd d1 i (nI 0) j).toInt = dD G n to9 0 j := fun j hj => by
        by_cases q : j = i
        · subst q; rw [show upd d1 j (nI 0) j = nI 0 from if_pos rfl]; show _ = if j = to9 then (0 : Int) else -1; rw [if_pos (by omega)]; decide
        · rw [show upd d1 i (nI 0) j = d1 j from if_neg q]; exact hI j (by omega)
      refine n_iast hx hb hK hP hD hS 5 0 rfl rfl (i := i) (n := 64) (by omega) (by decide) dX2_measure_23 (fun H locs hP hD hS => ?_)
      have hP : va_P D vwCl (WG K g ma nu de ne (upd d1 i (nI 0)) (nI n) fr) H := hP
      have hD : va_D A (WG K g ma nu de ne (upd d1 i (nI 0)) (nI n) fr) := hD
      refine lv_iinc (v := nI (i + 1)) (lv' := [(2, .int (nI (i + 1))), (0, .ref (g 0)), (1, .int (nI to9))]) hx hb dX2_measure_24 hl (k := 0) rfl (nI_add i 1) (by decide) rfl (fun ls hl => ?_)
      refine lv_goto (tgt := 2) hx hb dX2_measure_27 (by decide) ?_
      exact ih2 (i + 1) (upd d1 i (nI 0)) _ _ _ (by omega) (by omega) hI2 hP hD hS (lv_sub hl [0, 1, 2] rfl)
  exact L2 _ 0 di _ _ _ (Nat.lt_succ_self _) (by omega) (fun j h => absurd h (Nat.not_lt_zero _)) hP hD hS (lv_sub hl [0, 1, 2] rfl)
