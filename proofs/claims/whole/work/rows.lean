section
-- ===== PART A: goes FIRST, ahead of the names: the tables' words, and 'selects' of the private methods out of them =====
/-- a private method of a class that the tables say can be made, by its rows of tables_1 -/
def lw_okq (q : MethodName × Nat) : Prop := (q.1.cls ≠ "java/lang/invoke/MethodHandle" ∧ q.1.cls ≠ "java/lang/invoke/VarHandle") ∧ Cond.instantiable q.1.cls q.2 ∈ tables_1 ∧ Cond.privateMethod q.1 ∈ tables_1 ∧ Cond.instanceMethod q.1 ∈ tables_1
theorem lw_p0 : lw_okq (⟨"PlanetaryGearbox$Equations", "freeRowWith", "(I)I"⟩, 4) := ⟨⟨by decide +kernel, by decide +kernel⟩, List.mem_of_getElem? (i := 86) (by decide +kernel), List.mem_of_getElem? (i := 254) (by decide +kernel), List.mem_of_getElem? (i := 255) (by decide +kernel)⟩
theorem lw_p1 : lw_okq (⟨"PlanetaryGearbox$Equations", "eliminate", "(III)V"⟩, 4) := ⟨⟨by decide +kernel, by decide +kernel⟩, List.mem_of_getElem? (i := 86) (by decide +kernel), List.mem_of_getElem? (i := 258) (by decide +kernel), List.mem_of_getElem? (i := 259) (by decide +kernel)⟩
theorem lw_p2 : lw_okq (⟨"PlanetaryGearbox$Equations", "areRowsLeftEmpty", "()Z"⟩, 4) := ⟨⟨by decide +kernel, by decide +kernel⟩, List.mem_of_getElem? (i := 86) (by decide +kernel), List.mem_of_getElem? (i := 265) (by decide +kernel), List.mem_of_getElem? (i := 266) (by decide +kernel)⟩
theorem lw_p3 : lw_okq (⟨"java/lang/Throwable", "fillInStackTrace", "(I)Ljava/lang/Throwable;"⟩, 6) := ⟨⟨by decide +kernel, by decide +kernel⟩, List.mem_of_getElem? (i := 336) (by decide +kernel), List.mem_of_getElem? (i := 334) (by decide +kernel), List.mem_of_getElem? (i := 335) (by decide +kernel)⟩
theorem lw_p4 : lw_okq (⟨"PlanetaryGearbox$GearTable", "areSmallerNeutral", "(I)Z"⟩, 7) := ⟨⟨by decide +kernel, by decide +kernel⟩, List.mem_of_getElem? (i := 125) (by decide +kernel), List.mem_of_getElem? (i := 471) (by decide +kernel), List.mem_of_getElem? (i := 472) (by decide +kernel)⟩
theorem lw_p5 : lw_okq (⟨"PlanetaryGearbox$GearTable", "insert", "(IJJ)V"⟩, 7) := ⟨⟨by decide +kernel, by decide +kernel⟩, List.mem_of_getElem? (i := 125) (by decide +kernel), List.mem_of_getElem? (i := 481) (by decide +kernel), List.mem_of_getElem? (i := 482) (by decide +kernel)⟩
theorem lw_p6 : lw_okq (⟨"PlanetaryGearbox", "changeEngaged", "(I)Z"⟩, 9) := ⟨⟨by decide +kernel, by decide +kernel⟩, List.mem_of_getElem? (i := 18) (by decide +kernel), List.mem_of_getElem? (i := 496) (by decide +kernel), List.mem_of_getElem? (i := 497) (by decide +kernel)⟩
theorem lw_p7 : lw_okq (⟨"PlanetaryGearbox", "ratioOfGear", "(I)F"⟩, 9) := ⟨⟨by decide +kernel, by decide +kernel⟩, List.mem_of_getElem? (i := 18) (by decide +kernel), List.mem_of_getElem? (i := 687) (by decide +kernel), List.mem_of_getElem? (i := 688) (by decide +kernel)⟩
theorem lw_p8 : lw_okq (⟨"PlanetaryGearbox$GearTable", "neighbourAt", "(II)I"⟩, 7) := ⟨⟨by decide +kernel, by decide +kernel⟩, List.mem_of_getElem? (i := 125) (by decide +kernel), List.mem_of_getElem? (i := 703) (by decide +kernel), List.mem_of_getElem? (i := 704) (by decide +kernel)⟩
theorem lw_p9 : lw_okq (⟨"PlanetaryGearboxModel", "addElement", "(II)I"⟩, 17) := ⟨⟨by decide +kernel, by decide +kernel⟩, List.mem_of_getElem? (i := 756) (by decide +kernel), List.mem_of_getElem? (i := 832) (by decide +kernel), List.mem_of_getElem? (i := 833) (by decide +kernel)⟩
theorem lw_p10 : lw_okq (⟨"PlanetaryGearboxModel", "isElement", "(I)Z"⟩, 17) := ⟨⟨by decide +kernel, by decide +kernel⟩, List.mem_of_getElem? (i := 756) (by decide +kernel), List.mem_of_getElem? (i := 844) (by decide +kernel), List.mem_of_getElem? (i := 845) (by decide +kernel)⟩
theorem lw_p11 : lw_okq (⟨"PlanetaryGearboxModel", "layGears", "()V"⟩, 17) := ⟨⟨by decide +kernel, by decide +kernel⟩, List.mem_of_getElem? (i := 756) (by decide +kernel), List.mem_of_getElem? (i := 852) (by decide +kernel), List.mem_of_getElem? (i := 853) (by decide +kernel)⟩
theorem lw_p12 : lw_okq (⟨"PlanetaryGearboxModel", "stateOf", "(I)I"⟩, 17) := ⟨⟨by decide +kernel, by decide +kernel⟩, List.mem_of_getElem? (i := 756) (by decide +kernel), List.mem_of_getElem? (i := 856) (by decide +kernel), List.mem_of_getElem? (i := 857) (by decide +kernel)⟩
theorem lw_p13 : lw_okq (⟨"PlanetaryGearboxModel", "laySpeeds", "(I)V"⟩, 17) := ⟨⟨by decide +kernel, by decide +kernel⟩, List.mem_of_getElem? (i := 756) (by decide +kernel), List.mem_of_getElem? (i := 860) (by decide +kernel), List.mem_of_getElem? (i := 861) (by decide +kernel)⟩
theorem lw_p14 : lw_okq (⟨"PlanetaryGearboxModel", "clearRows", "(II)V"⟩, 17) := ⟨⟨by decide +kernel, by decide +kernel⟩, List.mem_of_getElem? (i := 756) (by decide +kernel), List.mem_of_getElem? (i := 864) (by decide +kernel), List.mem_of_getElem? (i := 865) (by decide +kernel)⟩
theorem lw_p15 : lw_okq (⟨"PlanetaryGearboxModel", "solve", "()V"⟩, 17) := ⟨⟨by decide +kernel, by decide +kernel⟩, List.mem_of_getElem? (i := 756) (by decide +kernel), List.mem_of_getElem? (i := 872) (by decide +kernel), List.mem_of_getElem? (i := 873) (by decide +kernel)⟩
def lw_privs_1 : List (MethodName × Nat) := [(⟨"PlanetaryGearbox$Equations", "freeRowWith", "(I)I"⟩, 4), (⟨"PlanetaryGearbox$Equations", "eliminate", "(III)V"⟩, 4), (⟨"PlanetaryGearbox$Equations", "areRowsLeftEmpty", "()Z"⟩, 4), (⟨"java/lang/Throwable", "fillInStackTrace", "(I)Ljava/lang/Throwable;"⟩, 6), (⟨"PlanetaryGearbox$GearTable", "areSmallerNeutral", "(I)Z"⟩, 7), (⟨"PlanetaryGearbox$GearTable", "insert", "(IJJ)V"⟩, 7), (⟨"PlanetaryGearbox", "changeEngaged", "(I)Z"⟩, 9), (⟨"PlanetaryGearbox", "ratioOfGear", "(I)F"⟩, 9), (⟨"PlanetaryGearbox$GearTable", "neighbourAt", "(II)I"⟩, 7), (⟨"PlanetaryGearboxModel", "addElement", "(II)I"⟩, 17), (⟨"PlanetaryGearboxModel", "isElement", "(I)Z"⟩, 17), (⟨"PlanetaryGearboxModel", "layGears", "()V"⟩, 17), (⟨"PlanetaryGearboxModel", "stateOf", "(I)I"⟩, 17), (⟨"PlanetaryGearboxModel", "laySpeeds", "(I)V"⟩, 17), (⟨"PlanetaryGearboxModel", "clearRows", "(II)V"⟩, 17), (⟨"PlanetaryGearboxModel", "solve", "()V"⟩, 17)]
theorem lw_r1 : ∀ q ∈ lw_privs_1, lw_okq q := List.forall_mem_cons.mpr ⟨lw_p0, List.forall_mem_cons.mpr ⟨lw_p1, List.forall_mem_cons.mpr ⟨lw_p2, List.forall_mem_cons.mpr ⟨lw_p3, List.forall_mem_cons.mpr ⟨lw_p4, List.forall_mem_cons.mpr ⟨lw_p5, List.forall_mem_cons.mpr ⟨lw_p6, List.forall_mem_cons.mpr ⟨lw_p7, List.forall_mem_cons.mpr ⟨lw_p8, List.forall_mem_cons.mpr ⟨lw_p9, List.forall_mem_cons.mpr ⟨lw_p10, List.forall_mem_cons.mpr ⟨lw_p11, List.forall_mem_cons.mpr ⟨lw_p12, List.forall_mem_cons.mpr ⟨lw_p13, List.forall_mem_cons.mpr ⟨lw_p14, List.forall_mem_cons.mpr ⟨lw_p15, fun _ h => absurd h List.not_mem_nil⟩⟩⟩⟩⟩⟩⟩⟩⟩⟩⟩⟩⟩⟩⟩⟩
theorem lw_p16 : lw_okq (⟨"PlanetaryGearboxModel", "swap", "(II)V"⟩, 17) := ⟨⟨by decide +kernel, by decide +kernel⟩, List.mem_of_getElem? (i := 756) (by decide +kernel), List.mem_of_getElem? (i := 876) (by decide +kernel), List.mem_of_getElem? (i := 877) (by decide +kernel)⟩
theorem lw_p17 : lw_okq (⟨"PlanetaryGearboxModel", "takeOff", "(III)V"⟩, 17) := ⟨⟨by decide +kernel, by decide +kernel⟩, List.mem_of_getElem? (i := 756) (by decide +kernel), List.mem_of_getElem? (i := 880) (by decide +kernel), List.mem_of_getElem? (i := 881) (by decide +kernel)⟩
theorem lw_p18 : lw_okq (⟨"PlanetaryGearboxModel", "lessen", "(I)V"⟩, 17) := ⟨⟨by decide +kernel, by decide +kernel⟩, List.mem_of_getElem? (i := 756) (by decide +kernel), List.mem_of_getElem? (i := 884) (by decide +kernel), List.mem_of_getElem? (i := 885) (by decide +kernel)⟩
theorem lw_p19 : lw_okq (⟨"PlanetaryGearboxModel", "isDetermined", "(I)Z"⟩, 17) := ⟨⟨by decide +kernel, by decide +kernel⟩, List.mem_of_getElem? (i := 756) (by decide +kernel), List.mem_of_getElem? (i := 891) (by decide +kernel), List.mem_of_getElem? (i := 892) (by decide +kernel)⟩
theorem lw_p20 : lw_okq (⟨"PlanetaryGearboxModel", "upper", "(I)J"⟩, 17) := ⟨⟨by decide +kernel, by decide +kernel⟩, List.mem_of_getElem? (i := 756) (by decide +kernel), List.mem_of_getElem? (i := 895) (by decide +kernel), List.mem_of_getElem? (i := 896) (by decide +kernel)⟩
theorem lw_p21 : lw_okq (⟨"PlanetaryGearboxModel", "isGear", "(I)Z"⟩, 17) := ⟨⟨by decide +kernel, by decide +kernel⟩, List.mem_of_getElem? (i := 756) (by decide +kernel), List.mem_of_getElem? (i := 899) (by decide +kernel), List.mem_of_getElem? (i := 900) (by decide +kernel)⟩
theorem lw_p22 : lw_okq (⟨"PlanetaryGearboxModel", "ratioPart", "(I)J"⟩, 17) := ⟨⟨by decide +kernel, by decide +kernel⟩, List.mem_of_getElem? (i := 756) (by decide +kernel), List.mem_of_getElem? (i := 903) (by decide +kernel), List.mem_of_getElem? (i := 904) (by decide +kernel)⟩
theorem lw_p23 : lw_okq (⟨"PlanetaryGearboxModel", "lower", "(I)J"⟩, 17) := ⟨⟨by decide +kernel, by decide +kernel⟩, List.mem_of_getElem? (i := 756) (by decide +kernel), List.mem_of_getElem? (i := 907) (by decide +kernel), List.mem_of_getElem? (i := 908) (by decide +kernel)⟩
theorem lw_p24 : lw_okq (⟨"PlanetaryGearboxModel", "become", "(I)V"⟩, 17) := ⟨⟨by decide +kernel, by decide +kernel⟩, List.mem_of_getElem? (i := 756) (by decide +kernel), List.mem_of_getElem? (i := 918) (by decide +kernel), List.mem_of_getElem? (i := 919) (by decide +kernel)⟩
theorem lw_p25 : lw_okq (⟨"PlanetaryGearboxModel", "isMask", "(I)Z"⟩, 17) := ⟨⟨by decide +kernel, by decide +kernel⟩, List.mem_of_getElem? (i := 756) (by decide +kernel), List.mem_of_getElem? (i := 930) (by decide +kernel), List.mem_of_getElem? (i := 931) (by decide +kernel)⟩
theorem lw_p26 : lw_okq (⟨"PlanetaryGearboxModel", "layTorques", "()V"⟩, 17) := ⟨⟨by decide +kernel, by decide +kernel⟩, List.mem_of_getElem? (i := 756) (by decide +kernel), List.mem_of_getElem? (i := 969) (by decide +kernel), List.mem_of_getElem? (i := 970) (by decide +kernel)⟩
theorem lw_p27 : lw_okq (⟨"PlanetaryGearboxModel", "slips", "(I)I"⟩, 17) := ⟨⟨by decide +kernel, by decide +kernel⟩, List.mem_of_getElem? (i := 756) (by decide +kernel), List.mem_of_getElem? (i := 981) (by decide +kernel), List.mem_of_getElem? (i := 982) (by decide +kernel)⟩
theorem lw_p28 : lw_okq (⟨"PlanetaryGearboxModel", "isNumber", "(I)Z"⟩, 17) := ⟨⟨by decide +kernel, by decide +kernel⟩, List.mem_of_getElem? (i := 756) (by decide +kernel), List.mem_of_getElem? (i := 993) (by decide +kernel), List.mem_of_getElem? (i := 994) (by decide +kernel)⟩
theorem lw_p29 : lw_okq (⟨"PlanetaryGearboxModel", "ratioOf", "(I)F"⟩, 17) := ⟨⟨by decide +kernel, by decide +kernel⟩, List.mem_of_getElem? (i := 756) (by decide +kernel), List.mem_of_getElem? (i := 1009) (by decide +kernel), List.mem_of_getElem? (i := 1010) (by decide +kernel)⟩
theorem lw_p30 : lw_okq (⟨"PlanetaryGearboxModel", "layAway", "(I)V"⟩, 17) := ⟨⟨by decide +kernel, by decide +kernel⟩, List.mem_of_getElem? (i := 756) (by decide +kernel), List.mem_of_getElem? (i := 1017) (by decide +kernel), List.mem_of_getElem? (i := 1018) (by decide +kernel)⟩
theorem lw_p31 : lw_okq (⟨"PlanetaryGearboxModel", "areNeighbours", "(II)Z"⟩, 17) := ⟨⟨by decide +kernel, by decide +kernel⟩, List.mem_of_getElem? (i := 756) (by decide +kernel), List.mem_of_getElem? (i := 1021) (by decide +kernel), List.mem_of_getElem? (i := 1022) (by decide +kernel)⟩
def lw_privs_2 : List (MethodName × Nat) := [(⟨"PlanetaryGearboxModel", "swap", "(II)V"⟩, 17), (⟨"PlanetaryGearboxModel", "takeOff", "(III)V"⟩, 17), (⟨"PlanetaryGearboxModel", "lessen", "(I)V"⟩, 17), (⟨"PlanetaryGearboxModel", "isDetermined", "(I)Z"⟩, 17), (⟨"PlanetaryGearboxModel", "upper", "(I)J"⟩, 17), (⟨"PlanetaryGearboxModel", "isGear", "(I)Z"⟩, 17), (⟨"PlanetaryGearboxModel", "ratioPart", "(I)J"⟩, 17), (⟨"PlanetaryGearboxModel", "lower", "(I)J"⟩, 17), (⟨"PlanetaryGearboxModel", "become", "(I)V"⟩, 17), (⟨"PlanetaryGearboxModel", "isMask", "(I)Z"⟩, 17), (⟨"PlanetaryGearboxModel", "layTorques", "()V"⟩, 17), (⟨"PlanetaryGearboxModel", "slips", "(I)I"⟩, 17), (⟨"PlanetaryGearboxModel", "isNumber", "(I)Z"⟩, 17), (⟨"PlanetaryGearboxModel", "ratioOf", "(I)F"⟩, 17), (⟨"PlanetaryGearboxModel", "layAway", "(I)V"⟩, 17), (⟨"PlanetaryGearboxModel", "areNeighbours", "(II)Z"⟩, 17)]
theorem lw_r2 : ∀ q ∈ lw_privs_2, lw_okq q := List.forall_mem_cons.mpr ⟨lw_p16, List.forall_mem_cons.mpr ⟨lw_p17, List.forall_mem_cons.mpr ⟨lw_p18, List.forall_mem_cons.mpr ⟨lw_p19, List.forall_mem_cons.mpr ⟨lw_p20, List.forall_mem_cons.mpr ⟨lw_p21, List.forall_mem_cons.mpr ⟨lw_p22, List.forall_mem_cons.mpr ⟨lw_p23, List.forall_mem_cons.mpr ⟨lw_p24, List.forall_mem_cons.mpr ⟨lw_p25, List.forall_mem_cons.mpr ⟨lw_p26, List.forall_mem_cons.mpr ⟨lw_p27, List.forall_mem_cons.mpr ⟨lw_p28, List.forall_mem_cons.mpr ⟨lw_p29, List.forall_mem_cons.mpr ⟨lw_p30, List.forall_mem_cons.mpr ⟨lw_p31, fun _ h => absurd h List.not_mem_nil⟩⟩⟩⟩⟩⟩⟩⟩⟩⟩⟩⟩⟩⟩⟩⟩
def lw_privs : List (MethodName × Nat) := lw_privs_1 ++ (lw_privs_2)
def lw_tbl : List Cond := k2_sels lw_privs ++ tables_1
theorem lw_privs_ok : ∀ q ∈ lw_privs, lw_okq q := by
  show ∀ q ∈ lw_privs_1 ++ (lw_privs_2), lw_okq q
  exact List.forall_mem_append.mpr ⟨lw_r1, lw_r2⟩
/-- the streams that the claim lets the run draw from -/
abbrev lw_cs : List Choice := [Jvm.Choice.named "NaN.bits"]
theorem lw_bits : nanBits ∈ lw_cs := by first | decide | exact List.mem_cons_self | simp [lw_cs, nanBits]
-- ===== end of PART A; then your names; then what follows =====
/-! ===== BEGIN words of one list among another's, by their places ===== -/
theorem goodIn_r {big : List Cond} (ws : List Cond) (ps : List Nat) (hp : ws = ps.filterMap (fun i => big[i]?)) (h : ws.all goodWord = true) : GoodIn big ws := by
  intro w hw
  have h1 := List.all_eq_true.mp h w hw
  rw [hp] at hw
  obtain ⟨i, -, hi⟩ := List.mem_filterMap.mp hw
  have hm : w ∈ big := by first | exact List.mem_of_getElem? hi | exact List.getElem?_mem hi
  exact ⟨hm, good_of_word h1⟩
theorem goodIn_app {big a b : List Cond} (ha : GoodIn big a) (hb : GoodIn big b) : GoodIn big (a ++ b) := fun w h => (List.mem_append.mp h).elim (ha w) (hb w)
theorem goodIn_ca {big a b : List Cond} {c : Cond} (ha : GoodIn big (c :: a)) (hb : GoodIn big b) : GoodIn big (c :: (a ++ b)) := fun w h => (List.mem_cons.mp h).elim (fun e => ha w (List.mem_cons.mpr (Or.inl e))) (fun h => (List.mem_append.mp h).elim (fun h => ha w (List.mem_cons.mpr (Or.inr h))) (hb w))
theorem goodIn_sub {big ws : List Cond} (hm : ∀ w ∈ ws, w ∈ big) (h : ws.all goodWord = true) : GoodIn big ws := fun w hw => ⟨hm w hw, good_of_word (List.all_eq_true.mp h w hw)⟩
/-! ===== END ===== -/

/-! ===== BEGIN new T[n][m]: the outer array a place, the inner ones among the pooled ===== -/
/-- f, but v at every address of l -/
def vr_up {α : Type} (f : Nat → α) (l : List Nat) (v : α) : Nat → α := fun a => if a ∈ l then v else f a
theorem vr_up_in {α : Type} {f : Nat → α} {l : List Nat} {v : α} {a : Nat} (h : a ∈ l) : vr_up f l v a = v := if_pos h
theorem vr_up_ne {α : Type} {f : Nat → α} {l : List Nat} {v : α} {a : Nat} (h : a ∉ l) : vr_up f l v a = f a := if_neg h
theorem vr_rows {L l : List Nat} {f : Nat → va_E} {e : va_E} (h : ∀ a, a ∈ l → a ∉ L) : va_pl L f ++ l.map (fun a => (a, e)) = va_pl (L ++ l) (vr_up f l e) := by
  unfold va_pl
  rw [List.map_append]
  congr 1
  · apply List.map_congr_left
    intro a ha
    rw [vr_up_ne (fun q => h a q ha)]
  · apply List.map_congr_left
    intro a ha
    rw [vr_up_in ha]
theorem vr_lay {X rows : va_W} {x : Nat × va_E} {pl : va_W} {D : va_G} {cl : List vw_C} {H : Heap} (hP : va_P D cl (((X ++ pl) ++ [x]) ++ rows) H) : va_P D cl ((X ++ [x]) ++ (pl ++ rows)) H := by
  rw [List.append_assoc (X ++ pl)] at hP
  have h := va_P.swap hP
  rw [← List.append_assoc X] at h
  have h2 := va_P.swap h
  rw [List.append_assoc (X ++ [x])] at h2
  exact h2
theorem vr_layD {X rows : va_W} {x : Nat × va_E} {pl : va_W} {A : Nat → Prop} (hD : va_D A (((X ++ pl) ++ [x]) ++ rows)) : va_D A ((X ++ [x]) ++ (pl ++ rows)) := by
  rw [List.append_assoc (X ++ pl)] at hD
  have h := va_D.swap hD
  rw [← List.append_assoc X] at h
  have h2 := va_D.swap h
  rw [List.append_assoc (X ++ [x])] at h2
  exact h2
theorem vr_outer (c : ClassId) (N h0 : Nat) : ∀ i : Nat, Jvm.Free.Multi.outerC c N h0 i = arrV c N (fun j => va_rf (if j < i then some (h0 + 1 + j) else none))
  | 0 => by
    show ({ cls := c, slots := Array.replicate N .null, vm := .none } : Cell) = _
    rw [arrV_new]
    refine congrArg (arrV c N) (funext fun j => ?_)
    simp [va_rf]
  | i + 1 => by
    show (Jvm.Free.Multi.outerC c N h0 i).setSlot i (.ref (h0 + 1 + i)) = _
    rw [vr_outer c N h0 i, arrV_store]
    refine congrArg (arrV c N) (funext fun j => ?_)
    by_cases e : j = i
    · subst e
      simp [updV, va_rf]
    · by_cases h : j < i
      · simp [updV, e, h, Nat.lt_succ_of_lt h]
      · simp [updV, e, h, show ¬ j < i + 1 by omega]
/-- the row that the name list uses and does not print: an array class over arrays of t -/
def va_AOA (t : FieldType) (U : State) : Prop := (Cond.arrayOver (.array t)).before #[] U = true
theorem va_AOA.use {t : FieldType} {A : Array Value} {U : State} (h : va_AOA t U) : (Cond.arrayOver (.array t)).before A U = true := h
theorem va_AOA.of {t : FieldType} {A : Array Value} {U : State} (h : (Cond.arrayOver (.array t)).before A U = true) : va_AOA t U := h
section VGM
variable {p : Program} {l : Launch} {e : Env} {R : Room} {s : State} {m : MethodId} {args : Array Value} {below : List Frame} {meth : Method} {c : Code} {H : Heap} {locs : List Loc} {cells slots : Nat} {Q : State → Prop}
variable {cc : ByteArray} {pc : Nat} {ls : Array Slot} {rest : List Value} {D : va_G} {cl : List vw_C} {A : Nat → Prop} {a : Nat} {tys : List (ClassId × FieldType)} {ws : va_W} {H0 : Heap}
theorem va_mna {X : va_W} {L : List Nat} {f : Nat → va_E} {cc : ByteArray} (hexec : p.tables.exec = Jvm.exec) (hb : c.code = cc) {own : String} {index : Nat} {ty : FieldType} {cy : ClassId} (hown : s.vm.findClass own = some m.cls) (hclink : (Cond.classLink own index ("[" ++ (FieldType.array ty).toString)).before args s = true) (hover : va_AOA ty s) (harr : (Cond.arrayClass ty).before args s = true) (hcy : s.vm.findClass (FieldType.array ty).toString = some cy)
    (hK : va_K D cl tys s) (hP : va_P D cl (X ++ va_pl L f) H) (hD : va_D A (X ++ va_pl L f)) (hS : va_S A H0 H locs) (hA : ∀ q, H0.size ≤ q → A q) {n k : Int32} {N' K' : Nat} {z : vp_A} (hn : ¬ n < 0) (hk : ¬ k < 0) (hN : n.toNatClampNeg = N') (hM : k.toNatClampNeg = K')
    (hb1 : N' * 4 ≤ 536870912) (hb2 : K' * componentBytes ty ≤ 536870912) (hb3 : K' ≤ 536870912) (hdf : fits ty (defaultValue ty) = true) (hdd : (defaultValue ty).isDefault = true) (hcells : cells + (1 + N') ≤ R.cells) (hslots : slots + (N' + N' * K') ≤ R.slots) (hz : ∀ c : ClassId, Jvm.Free.Multi.innerC c K' (defaultValue ty) = vp_cell c z) (hdg : decode cc pc = .ok (.multianewarray index 2, 4))
    (kk : ∀ (q : Nat) (r : Nat → Nat) (cA : ClassId) (H1 : Heap), (∀ i j : Nat, i < N' → j < N' → r i = r j → i = j) → (∀ i : Nat, i < N' → r i ∉ L) → va_K D cl (tys ++ [(cA, .array ty)]) s →
      va_P D cl ((X ++ [(q, .inl (cA, N', .inr (.inr (.inr (.inr (fun i => if i < N' then some (r i) else none))))))]) ++ va_pl (L ++ (List.range N').map r) (vr_up f ((List.range N').map r) (.inl (cy, z)))) H1 → va_D A ((X ++ [(q, .inl (cA, N', .inr (.inr (.inr (.inr (fun i => if i < N' then some (r i) else none))))))]) ++ va_pl (L ++ (List.range N').map r) (vr_up f ((List.range N').map r) (.inl (cy, z)))) → va_S A H0 H1 locs →
      W p l e R s m args below meth c H1 locs (cells + 1 + N') (slots + N' + N' * K') Q (F0 m (pc + 4) ls (.ref q :: rest))) : W p l e R s m args below meth c H locs cells slots Q (F0 m pc ls (.int k :: .int n :: rest)) := by
  subst hN
  subst hM
  intro T hT Xs
  obtain ⟨vm₁, cA, comp, -, fA, fC, hO, -, X', step⟩ := Xs.multianewarray2F hexec hown hclink (va_AOA.use hover) harr (g := F0 m pc ls (.int k :: .int n :: rest)) rfl (by rw [hb]; exact hdg) rfl hn hk hb1 hb2 hb3 hdf hdd hcells hslots
  have ec : some cy = some comp := hcy.symm.trans fC
  cases ec
  generalize hF : Jvm.Free.Multi.fill (T.setVm vm₁) cA cy n.toNatClampNeg k.toNatClampNeg (defaultValue ty) n.toNatClampNeg = F at X' step
  have hTh : (T.setVm vm₁).heap = H := hT
  obtain ⟨f1, f2, -, -⟩ := Jvm.Free.Multi.fill_facts (T.setVm vm₁) cA cy n.toNatClampNeg k.toNatClampNeg (defaultValue ty) n.toNatClampNeg
  rw [hF, hTh] at f1 f2
  have hold : ∀ x : Nat, x < H.size → F.heap[x]? = H[x]? := fun x hx => by
    have := Jvm.Free.Multi.fill_old (T.setVm vm₁) cA cy n.toNatClampNeg k.toNatClampNeg (defaultValue ty) (a := x) (by rw [hTh]; exact hx) n.toNatClampNeg
    rw [hF, hTh] at this
    exact this
  have hrow : ∀ j : Nat, j < n.toNatClampNeg → F.heap[H.size + 1 + j]? = some (vp_cell cy z) := fun j hj => by
    have := Jvm.Free.Multi.fill_inner (T.setVm vm₁) cA cy n.toNatClampNeg k.toNatClampNeg (defaultValue ty) n.toNatClampNeg j hj
    rw [hF, hTh, hz] at this
    exact this
  have hout : Jvm.Free.Multi.outerC cA n.toNatClampNeg H.size n.toNatClampNeg = vp_cell cA (n.toNatClampNeg, .inr (.inr (.inr (.inr (fun i => if i < n.toNatClampNeg then some (H.size + 1 + i) else none))))) := by
    rw [vp_cell_q]
    exact vr_outer cA n.toNatClampNeg H.size n.toNatClampNeg
  rw [hout] at f2
  have hlt : ∀ a, a ∈ L → a < H.size := fun a ha => by
    obtain ⟨k9, hk9⟩ := va_pl_get (X := X) (f := f) ha
    exact (hP k9 _ hk9).lt
  have hnl : ∀ i : Nat, i < n.toNatClampNeg → H.size + 1 + i ∉ L := fun i _ h => by
    have := hlt _ h
    omega
  have hnm : ∀ a, a ∈ (List.range n.toNatClampNeg).map (fun i => H.size + 1 + i) → a ∉ L := fun a ha h => by
    obtain ⟨i, -, rfl⟩ := List.mem_map.mp ha
    have := hlt _ h
    omega
  have hP0 : va_P D cl (X ++ va_pl L f) F.heap := hP.kept (fun k9 x hx => hold x.1 ((hP k9 x hx).lt))
  have hP1 : va_P D cl ((X ++ va_pl L f) ++ [(H.size, .inl (cA, n.toNatClampNeg, .inr (.inr (.inr (.inr (fun i => if i < n.toNatClampNeg then some (H.size + 1 + i) else none))))))]) F.heap := hP0.app (fun k9 x hx => by
    have h0 : k9 < 1 := (List.getElem?_eq_some_iff.mp hx).1
    rw [show k9 = 0 by omega] at hx
    cases hx
    exact f2)
  have hP2 : va_P D cl (((X ++ va_pl L f) ++ [(H.size, .inl (cA, n.toNatClampNeg, .inr (.inr (.inr (.inr (fun i => if i < n.toNatClampNeg then some (H.size + 1 + i) else none))))))]) ++ ((List.range n.toNatClampNeg).map (fun i => H.size + 1 + i)).map (fun a => (a, .inl (cy, z)))) F.heap := hP1.app (fun k9 x hx => by
    obtain ⟨a, ha, rfl⟩ := List.mem_map.mp (List.mem_of_getElem? hx)
    obtain ⟨i, hi, rfl⟩ := List.mem_map.mp ha
    exact hrow i (List.mem_range.mp hi))
  have hD2 : va_D A (((X ++ va_pl L f) ++ [(H.size, .inl (cA, n.toNatClampNeg, .inr (.inr (.inr (.inr (fun i => if i < n.toNatClampNeg then some (H.size + 1 + i) else none))))))]) ++ ((List.range n.toNatClampNeg).map (fun i => H.size + 1 + i)).map (fun a => (a, .inl (cy, z)))) := by
    have hD1 := hD.push (e := .inl (cA, n.toNatClampNeg, .inr (.inr (.inr (.inr (fun i => if i < n.toNatClampNeg then some (H.size + 1 + i) else none)))))) hP rfl (hA _ hS.1)
    generalize hW1 : (X ++ va_pl L f) ++ [(H.size, .inl (cA, n.toNatClampNeg, .inr (.inr (.inr (.inr (fun i => if i < n.toNatClampNeg then some (H.size + 1 + i) else none))))))] = W1 at hD1 hP1 ⊢
    have hle : ∀ (k9 : Nat) (x : Nat × va_E), W1[k9]? = some x → x.1 ≤ H.size := fun k9 x hx => by
      rw [← hW1] at hx
      by_cases hl : k9 < (X ++ va_pl L f).length
      · rw [List.getElem?_append_left hl] at hx
        exact Nat.le_of_lt ((hP k9 x hx).lt)
      · rw [List.getElem?_append_right (by omega)] at hx
        have h0 : k9 - (X ++ va_pl L f).length < 1 := (List.getElem?_eq_some_iff.mp hx).1
        rw [show k9 - (X ++ va_pl L f).length = 0 by omega] at hx
        cases hx
        exact Nat.le_refl _
    have hr : ∀ (k9 : Nat) (x : Nat × va_E), (((List.range n.toNatClampNeg).map (fun i => H.size + 1 + i)).map (fun a => ((a, .inl (cy, z)) : Nat × va_E)))[k9]? = some x → x.1 = H.size + 1 + k9 := fun k9 x hx => by
      rw [List.getElem?_map, List.getElem?_map] at hx
      by_cases h9 : k9 < n.toNatClampNeg
      · rw [List.getElem?_range h9] at hx
        cases hx
        rfl
      · have hn0 : (List.range n.toNatClampNeg)[k9]? = none := List.getElem?_eq_none (by rw [List.length_range]; omega)
        rw [hn0] at hx
        cases hx
    refine ⟨fun i j x y hi hj hxy => ?_, fun k9 x hx => ?_⟩
    · by_cases h1 : i < W1.length <;> by_cases h2 : j < W1.length
      · rw [List.getElem?_append_left h1] at hi
        rw [List.getElem?_append_left h2] at hj
        exact hD1.1 i j x y hi hj hxy
      · rw [List.getElem?_append_left h1] at hi
        rw [List.getElem?_append_right (by omega)] at hj
        have := hle _ _ hi
        have := hr _ _ hj
        omega
      · rw [List.getElem?_append_right (by omega)] at hi
        rw [List.getElem?_append_left h2] at hj
        have := hle _ _ hj
        have := hr _ _ hi
        omega
      · rw [List.getElem?_append_right (by omega)] at hi hj
        have := hr _ _ hi
        have := hr _ _ hj
        omega
    · by_cases h1 : k9 < W1.length
      · rw [List.getElem?_append_left h1] at hx
        exact hD1.2 k9 x hx
      · rw [List.getElem?_append_right (by omega)] at hx
        have := hr _ _ hx
        exact hA _ (by have := hS.1; omega)
  have hAr : ArrOfT s cA (.array ty) := fun N9 z9 => by
    obtain ⟨-, k9, hk9, cm9, hkk9⟩ := (hO 0 0 0).1
    exact ⟨(fun q hq => by cases hq), k9, hk9, cm9, hkk9⟩
  have hK2 : va_K D cl (tys ++ [(cA, .array ty)]) s := ⟨hK.1, fun k9 x hx => by
    by_cases hl : k9 < tys.length
    · rw [List.getElem?_append_left hl] at hx
      exact hK.2 k9 x hx
    · rw [List.getElem?_append_right (by omega)] at hx
      have h0 : k9 - tys.length < 1 := (List.getElem?_eq_some_iff.mp hx).1
      rw [show k9 - tys.length = 0 by omega] at hx
      cases hx
      exact ⟨hAr, fA⟩⟩
  obtain ⟨t, a1, b1⟩ := kk H.size (fun i => H.size + 1 + i) cA F.heap (fun i j _ _ h => by have h9 : H.size + 1 + i = H.size + 1 + j := h; omega) hnl hK2 (by rw [← vr_rows hnm]; exact vr_lay hP2) (by rw [← vr_rows hnm]; exact vr_layD hD2) ⟨by rw [f1]; have := hS.1; omega, fun x h1 h2 => (hold x (Nat.lt_of_lt_of_le h1 hS.1)).trans (hS.2.1 x h1 h2), hS.2.2⟩ F rfl X'
  refine ⟨t, step t ?_, b1⟩
  have e : T.heap.size = H.size := by rw [hT]
  rw [e]
  exact a1
end VGM
/-! ===== END ===== -/

/-! ===== BEGIN exceptions that leave a method, and their catching by the caller (launches without stack traces) ===== -/
section VXA
/-! The laws vx_back, vx_callV, vx_callS, vx_callSW, vx_throw0, vx_throwS follow proofs of the library, with one case more: JvmDerived/Free/Laws.lean (Back.of_free), Shelf42/LK1.lean (callV, callS), Shelf/KitTraced.lean (throwNew0V, throwNewS). -/
/-- where a method has thrown q: the class by its name, the cell, what was written, the world -/
def vx_T (XC : String → State → State → Prop) (st : State) (q : Addr) (t : State) (mc ms : Nat) (free : Addr → Prop) : Prop :=
  ∃ (E : String) (ce : Cell) (L : List Loc), XC E st t ∧ t.heap[q]? = some ce ∧ ce.vm = .none ∧ st.vm.findClass E = some ce.cls ∧ st.WarmedH t.vm ∧ st.sameButNew ({ t with vm := st.vm } : State) L mc ms ∧ ∀ z ∈ L, free z.base
def vx_Q (Qc : Array Value → State → Outcome → State → Prop) (XC : String → State → State → Prop) (mc ms : Nat) (free : Addr → Prop) : Array Value → State → Outcome → State → Prop := fun a st o t =>
  (Qc a st o t ∧ ∃ L, FrameEnd st o t L mc ms ∧ ∀ q ∈ L, free q.base) ∨ ∃ q, o = .threw q ∧ vx_T XC st q t mc ms free
/-- a callee that returns or throws -/
def vx_Met (l : Launch) (y : MethodName) (ws : List Cond) (rm : Room) (Pc : Array Value → State → Prop) (Qc : Array Value → State → Outcome → State → Prop) (XC : String → State → State → Prop) (mc ms : Nat) (free : Addr → Prop) : Prop :=
  MetFree l y (headSpec ws rm) Pc (fun _ _ _ _ _ => True) (vx_Q Qc XC mc ms free)
def vx_Post (XC : String → State → State → Prop) (mc ms : Nat) (free : Addr → Prop) : Pt → Array Value → Addr → Pt → Prop := fun A a q B =>
  ∃ (g : JFrame) (mk : MethodId) (t : State) (L : List Loc) (E : String) (ce : Cell), B.U.heap = t.heap ∧ B.U.vm = t.vm ∧ XC E (A.U.calling g mk a) t ∧ t.heap[q]? = some ce ∧ ce.vm = .none ∧ A.U.vm.findClass E = some ce.cls ∧ B.locs = A.locs ++ L ∧ (∀ z ∈ L, free z.base) ∧ B.cells = A.cells + mc ∧ B.slots = A.slots + ms
def vx_Back (l : Launch) (R : Room) (p : Program) (e : Env) (below : List Frame) (s : State) (sargs : Array Value) (y : MethodName) (len W9 : Nat)
    (Pre : Pt → Array Value → Prop) (Post : Pt → Array Value → Option Value → Pt → Prop) (PostX : Pt → Array Value → Addr → Pt → Prop) : Prop :=
  ∀ (m : MethodId) (meth : Method) (c : Code) (A : Pt) (g : JFrame) (ig : Instr) (mk : MethodId) (a : Array Value),
    Stand p l e R s m sargs below meth c A.U A.locs A.cells A.slots → g.method = m → g.locals.size = c.maxLocals → decode c.code g.pc = .ok (ig, len) →
    2 * g.monitorRoom + (g.stack.map fun v => v.category).sum ≤ W9 → A.U.methodNamed? y = some mk → Pre A a →
    (∃ (v : Option Value) (B : Pt), Stand p l e R s m sargs below meth c B.U B.locs B.cells B.slots ∧ Post A a v B ∧
      Steps p.tables e below (doInvoke e (A.U.setTop g) [] mk a).1 (B.U.setTop { g with pc := g.pc + len, stack := v.toList ++ g.stack })) ∨
    (∃ (q : Addr) (B : Pt), Stand p l e R s m sargs below meth c B.U B.locs B.cells B.slots ∧ PostX A a q B ∧
      Steps p.tables e below (doInvoke e (A.U.setTop g) [] mk a).1 ((B.U.setTop g).pushFrame (.throwing q)))
section Payer
variable {l : Launch} {R : Room} {p : Program} {e : Env} {below : List Frame} {s : State} {sargs : Array Value} {y : MethodName} {len W9 : Nat}
theorem vx_back {ws : List Cond} {rm : Room} {Pc : Array Value → State → Prop} {Qc : Array Value → State → Outcome → State → Prop} {XC : String → State → State → Prop} {mc ms : Nat} {free : Addr → Prop} {bytes : ByteArray} {maxL : Nat} {ret : Option FieldType}
    (hM : vx_Met l y ws rm Pc Qc XC mc ms free) (hblind : FrameBlind Pc) (hrc : rm.cells = mc) (hrs : rm.slots = ms)
    (hframes : rm.frames + 1 ≤ R.frames) (hlocals : W9 + (maxL + 11) + rm.locals ≤ R.locals)
    (hws : ∀ w ∈ ws, ∀ a' U, s.WarmedH U.vm → w.before a' U = true) (hcode : Cond.code y bytes maxL ret ∈ ws) (hinit : ∀ a' U, s.WarmedH U.vm → (Cond.initialized y.cls).before a' U = true) :
    vx_Back l R p e below s sargs y len W9 (PreOf R mc ms Pc) (PostOf Qc mc ms free) (vx_Post XC mc ms free) := by
  intro m meth c A g ig mk a X hg hsize hdg hW hn hp
  have h1 : (headSpec ws rm).pre.before a A.U = true := atoms_intro fun w hw => hws w hw _ _ X.warmed
  have h2 : (Cond.code y bytes maxL ret).before a A.U = true := hws _ hcode _ _ X.warmed
  have h3 : (Cond.initialized y.cls).before a A.U = true := hinit _ _ X.warmed
  have h4 : A.cells + (headSpec ws rm).room.cells ≤ R.cells := by rw [show (headSpec ws rm).room.cells = mc from hrc]; exact hp.1
  have h5 : A.slots + (headSpec ws rm).room.slots ≤ R.slots := by rw [show (headSpec ws rm).room.slots = ms from hrs]; exact hp.2.1
  have hPc : Pc a (A.U.calling g mk a) := hblind _ _ _ _ hp.2.2
  obtain ⟨U, Ls, c0, s0⟩ := A
  dsimp only [Pt.U, Pt.locs, Pt.cells, Pt.slots] at h1 h2 h3 h4 h5 X hn hPc ⊢
  obtain ⟨methY, cY, hmY, hcY, -, hlY, -, -, -, -⟩ := Cond.code_spec hn h2
  obtain ⟨kY, hkY, -⟩ := className_of_methodNamed hn
  have hinitY : kY.init = .initialized := Cond.initialized_spec (findClass_of_methodNamed hn) hkY h3
  have h : At U g.method c below := by rw [hg]; exact X.here
  have hlocals9 : W9 + (maxL + 11) + (headSpec ws rm).room.locals ≤ R.locals := hlocals
  have happ : (headSpec ws rm).appliesLoose y e.platform (U.calling g mk a) = true :=
    Spec.appliesLoose_calling (g := g) h hdg hn hkY hinitY
      (X.room_calling (g := g) (R' := (headSpec ws rm).room) hsize hmY hcY hframes (by rw [hlY]; omega) h4 h5) h1
  obtain ⟨mid, hmid⟩ := h.above
  have hfr : (U.setTop g).frames = (.java g :: mid) ++ below := by rw [State.frames_setTop' g h.top, hmid]; rfl
  obtain ⟨o, s₂, hsteps, -, hend, hq⟩ := Steps.callFree hM p X.admits X.cas X.clock (acts := []) hfr happ hPc trivial
  have hq' : vx_Q Qc XC mc ms free a (U.calling g mk a) o s₂ := hq
  rw [State.frames_setTop' g h.top] at hend
  obtain ⟨g₀, hg0⟩ := Option.isSome_iff_exists.mp h.top
  obtain ⟨r, hr⟩ := State.topJava?_eq_some.mp hg0
  have hr' : (({ U with heap := s₂.heap, slotsUsed := s₂.slotsUsed } : State).setVm s₂.vm).frames = .java g₀ :: r := hr
  rcases hq' with ⟨hqc, L, hfe, hL⟩ | ⟨q, rfl, E, ce, L, hx, hce, hcv, hcl, hW₂, hsm, hL⟩
  · obtain ⟨⟨v, rfl⟩, hW₂, e2, q2, q3, q4, q5, q6⟩ := id hfe
    have e3 : s₂ = ({ (U.calling g mk a).setFrames s₂.frames with heap := s₂.heap, slotsUsed := s₂.slotsUsed } : State).setVm s₂.vm := by
      have : s₂ = ({ s₂ with vm := (U.calling g mk a).vm } : State).setVm s₂.vm := rfl
      rw [e2] at this
      exact this
    obtain ⟨c₂, i₂, len₂, hc₂, hd₂, hf₂⟩ := hend
    have hW' : U.WarmedH s₂.vm := hW₂
    have hcc : c₂ = c := by
      have h1 : s₂.code? g.method = U.code? g.method := by
        rw [State.code?_eq, State.code?_eq, hW'.alike.method?]
      exact Option.some.inj (hc₂.symm.trans (h1.trans h.code))
    subst hcc
    have hlen : len₂ = len := by rw [hdg] at hd₂; cases hd₂; rfl
    subst hlen
    have hs₂ : s₂ = (({ U with heap := s₂.heap, slotsUsed := s₂.slotsUsed } : State).setVm s₂.vm).setTop { g with pc := g.pc + len₂, stack := v.toList ++ g.stack } := by
      refine e3.trans ?_
      rw [hf₂, State.calling_eq h.top, State.setFrames_setFrames, State.setTop_of_frames _ hr', hr]
      rfl
    have hsame : U.sameButNew ({ U with heap := s₂.heap, slotsUsed := s₂.slotsUsed } : State) L mc ms := by
      refine ⟨?_, q2, q3, q4, q5, q6⟩
      obtain ⟨t, ht, -⟩ := State.frames_cons hr
      show ({ U with heap := s₂.heap, slotsUsed := s₂.slotsUsed } : State) = { U.setFrames U.frames with heap := s₂.heap, slotsUsed := s₂.slotsUsed }
      rw [State.setFrames_self ht]
    subst hg
    refine Or.inl ⟨v, ⟨(({ U with heap := s₂.heap, slotsUsed := s₂.slotsUsed } : State).setVm s₂.vm), Ls ++ L, c0 + mc, s0 + ms⟩,
      ⟨X.admits, X.cas, X.clock, X.frames, X.room, X.hears, X.method, X.code, (X.here.setHeapUsed s₂.heap s₂.slotsUsed).setVm hW'.alike, X.tail, State.WarmedH.trans X.warmed hW', X.limits, X.bytes, X.same.trans (hsame.setVm s.vm)⟩,
      ⟨g, mk, s₂, L, rfl, rfl, hqc, rfl, hL, rfl, rfl⟩, ?_⟩
    show Steps p.tables e below _ ((({ U with heap := s₂.heap, slotsUsed := s₂.slotsUsed } : State).setVm s₂.vm).setTop { g with pc := g.pc + len₂, stack := v.toList ++ g.stack })
    rw [← hs₂]
    exact hsteps
  · obtain ⟨e2, q2, q3, q4, q5, q6⟩ := id hsm
    have e3 : s₂ = ({ (U.calling g mk a).setFrames s₂.frames with heap := s₂.heap, slotsUsed := s₂.slotsUsed } : State).setVm s₂.vm := by
      have : s₂ = ({ s₂ with vm := (U.calling g mk a).vm } : State).setVm s₂.vm := rfl
      rw [e2] at this
      exact this
    have hf₂ : s₂.frames = .throwing q :: .java g :: U.frames.tail := hend
    have hW' : U.WarmedH s₂.vm := hW₂
    have hs₂ : s₂ = ((({ U with heap := s₂.heap, slotsUsed := s₂.slotsUsed } : State).setVm s₂.vm).setTop g).pushFrame (.throwing q) := by
      refine e3.trans ?_
      rw [hf₂, State.calling_eq h.top, State.setFrames_setFrames, State.pushFrame, State.frames_setTop _ hr', State.setTop_of_frames _ hr', State.setFrames_setFrames, hr]
      rfl
    have hsame : U.sameButNew ({ U with heap := s₂.heap, slotsUsed := s₂.slotsUsed } : State) L mc ms := by
      refine ⟨?_, q2, q3, q4, q5, q6⟩
      obtain ⟨t, ht, -⟩ := State.frames_cons hr
      show ({ U with heap := s₂.heap, slotsUsed := s₂.slotsUsed } : State) = { U.setFrames U.frames with heap := s₂.heap, slotsUsed := s₂.slotsUsed }
      rw [State.setFrames_self ht]
    subst hg
    refine Or.inr ⟨q, ⟨(({ U with heap := s₂.heap, slotsUsed := s₂.slotsUsed } : State).setVm s₂.vm), Ls ++ L, c0 + mc, s0 + ms⟩,
      ⟨X.admits, X.cas, X.clock, X.frames, X.room, X.hears, X.method, X.code, (X.here.setHeapUsed s₂.heap s₂.slotsUsed).setVm hW'.alike, X.tail, State.WarmedH.trans X.warmed hW', X.limits, X.bytes, X.same.trans (hsame.setVm s.vm)⟩,
      ⟨g, mk, s₂, L, E, ce, rfl, rfl, hx, hce, hcv, hcl, rfl, hL, rfl, rfl⟩, ?_⟩
    show Steps p.tables e below _ (((({ U with heap := s₂.heap, slotsUsed := s₂.slotsUsed } : State).setVm s₂.vm).setTop g).pushFrame (.throwing q))
    rw [← hs₂]
    exact hsteps
end Payer
section Calls
variable {p : Program} {l : Launch} {e : Env} {R : Room} {s : State} {m : MethodId} {args : Array Value} {below : List Frame} {meth : Method} {c : Code} {T : State} {locs : List Loc} {cells slots : Nat}
theorem vx_callV (X : Stand p l e R s m args below meth c T locs cells slots) (hexec : p.tables.exec = Jvm.exec) {own C : String} {index : Nat} {y : MethodName} {bytes : ByteArray} {maxL : Nat} {ret : Option FieldType}
    (hown : s.vm.findClass own = some m.cls) (hlink : (Cond.methodLink own index y).before args s = true) (hinst : (Cond.instanceMethod y).before args s = true) (hsel : (Cond.selects C y y).before args s = true)
    (hcode : (Cond.code y bytes maxL ret).before args s = true) (hy : y.cls ≠ "java/lang/invoke/MethodHandle" ∧ y.cls ≠ "java/lang/invoke/VarHandle")
    {W9 : Nat} {Pre : Pt → Array Value → Prop} {Post : Pt → Array Value → Option Value → Pt → Prop} {PostX : Pt → Array Value → Addr → Pt → Prop} (hK : vx_Back l R p e below s args y 3 W9 Pre Post PostX)
    {b : Addr} {cellB : Cell} (hcell : T.heap[b]? = some cellB) (hobj : cellB.vm.isStatics = false) (hcls : s.vm.findClass C = some cellB.cls)
    {g : JFrame} (hg : g.method = m) (hsize : g.locals.size = c.maxLocals) {argsL rest : List Value} (hlen : ∀ sig, parseMethodDescriptor y.desc = some sig → argsL.length = sig.parameters.length)
    (hstack : g.stack = argsL.reverse ++ .ref b :: rest) (hW : 2 * g.monitorRoom + (rest.map fun v => v.category).sum ≤ W9) (hdg : decode c.code g.pc = .ok (.invokevirtual index, 3))
    (hpre : ∀ vm₁, s.WarmedH vm₁ → Pre ⟨T.setVm vm₁, locs, cells, slots⟩ (Value.ref b :: argsL).toArray) :
    (∃ (v : Option Value) (vm₁ : Vm) (B : Pt), s.WarmedH vm₁ ∧ Stand p l e R s m args below meth c B.U B.locs B.cells B.slots ∧ Post ⟨T.setVm vm₁, locs, cells, slots⟩ (Value.ref b :: argsL).toArray v B ∧
      ∀ target, Steps p.tables e below (B.U.setTop { g with pc := g.pc + 3, stack := v.toList ++ rest }) target → Steps p.tables e below (T.setTop g) target) ∨
    (∃ (q : Addr) (vm₁ : Vm) (B : Pt), s.WarmedH vm₁ ∧ Stand p l e R s m args below meth c B.U B.locs B.cells B.slots ∧ PostX ⟨T.setVm vm₁, locs, cells, slots⟩ (Value.ref b :: argsL).toArray q B ∧
      Steps p.tables e below (T.setTop g) ((B.U.setTop { g with stack := rest }).pushFrame (.throwing q))) := by
  obtain ⟨mk, methM, hnamed, hmethM, hstM, habM⟩ := Cond.instanceMethod_spec hinst
  obtain ⟨methM', cM, hmethM', -, -, -, -, -, -, hsigM⟩ := Cond.code_spec hnamed hcode
  cases hmethM.symm.trans hmethM'
  obtain ⟨c2, r2, m2, q1, q2, q3, q4, kP, hkP, hkPi⟩ := Cond.selects_spec hsel
  cases hcls.symm.trans q1
  cases (State.methodFound?_of_named hnamed hy).symm.trans q2
  cases hnamed.symm.trans q3
  have hselP : selectMethod e.platform s.vm cellB.cls mk = .method mk := by rw [Launch.admits_selectMethod X.admits]; exact q4
  obtain ⟨vm₁, X₁, hstep₁⟩ := X.invokevirtual hexec hown hlink hnamed hmethM hstM hkP hkPi hy (a := b) (cell := cellB) hcell
    (fun z h => by rw [h] at hobj; cases hobj) hselP hmethM habM hkP hkPi (g := g) hg (argsL := argsL) (rest := rest) (hlen _ hsigM) hstack hdg
  rcases hK m meth c ⟨T.setVm vm₁, locs, cells, slots⟩ { g with stack := rest } (.invokevirtual index) mk (Value.ref b :: argsL).toArray X₁ hg hsize hdg hW (X₁.named hnamed) (hpre vm₁ X₁.warmed) with ⟨v, B, X', hpost, hsteps⟩ | ⟨q, B, X', hpost, hsteps⟩
  · exact Or.inl ⟨v, vm₁, B, X₁.warmed, X', hpost, fun target h => hstep₁ _ fun acts => by rw [doInvoke_state]; exact hsteps.trans h⟩
  · exact Or.inr ⟨q, vm₁, B, X₁.warmed, X', hpost, hstep₁ _ fun acts => by rw [doInvoke_state]; exact hsteps⟩
theorem vx_callS (X : Stand p l e R s m args below meth c T locs cells slots) (hexec : p.tables.exec = Jvm.exec) {own : String} {index : Nat} {y : MethodName} {bytes : ByteArray} {maxL : Nat} {ret : Option FieldType}
    (hown : s.vm.findClass own = some m.cls) (hlink : (Cond.methodLink own index y).before args s = true) (hstat : (Cond.static y).before args s = true) (hinit : (Cond.initialized y.cls).before args s = true)
    (hcode : (Cond.code y bytes maxL ret).before args s = true) (hy : y.cls ≠ "java/lang/invoke/MethodHandle" ∧ y.cls ≠ "java/lang/invoke/VarHandle")
    {W9 : Nat} {Pre : Pt → Array Value → Prop} {Post : Pt → Array Value → Option Value → Pt → Prop} {PostX : Pt → Array Value → Addr → Pt → Prop} (hK : vx_Back l R p e below s args y 3 W9 Pre Post PostX)
    {g : JFrame} (hg : g.method = m) (hsize : g.locals.size = c.maxLocals) {argsL rest : List Value} (hlen : ∀ sig, parseMethodDescriptor y.desc = some sig → argsL.length = sig.parameters.length)
    (hstack : g.stack = argsL.reverse ++ rest) (hW : 2 * g.monitorRoom + (rest.map fun v => v.category).sum ≤ W9) (hdg : decode c.code g.pc = .ok (.invokestatic index, 3))
    (hpre : ∀ vm₁, s.WarmedH vm₁ → Pre ⟨T.setVm vm₁, locs, cells, slots⟩ argsL.toArray) :
    (∃ (v : Option Value) (vm₁ : Vm) (B : Pt), s.WarmedH vm₁ ∧ Stand p l e R s m args below meth c B.U B.locs B.cells B.slots ∧ Post ⟨T.setVm vm₁, locs, cells, slots⟩ argsL.toArray v B ∧
      ∀ target, Steps p.tables e below (B.U.setTop { g with pc := g.pc + 3, stack := v.toList ++ rest }) target → Steps p.tables e below (T.setTop g) target) ∨
    (∃ (q : Addr) (vm₁ : Vm) (B : Pt), s.WarmedH vm₁ ∧ Stand p l e R s m args below meth c B.U B.locs B.cells B.slots ∧ PostX ⟨T.setVm vm₁, locs, cells, slots⟩ argsL.toArray q B ∧
      Steps p.tables e below (T.setTop g) ((B.U.setTop { g with stack := rest }).pushFrame (.throwing q))) := by
  obtain ⟨mk, hnamed⟩ := Cond.code_named hcode
  obtain ⟨methM, cM, hmethM, -, -, -, -, -, -, hsigM⟩ := Cond.code_spec hnamed hcode
  have hstatic : methM.isStatic = true := Cond.static_spec hnamed hmethM hstat
  obtain ⟨kP, hkP, -⟩ := className_of_methodNamed hnamed
  have hinitP : kP.init = .initialized := Cond.initialized_spec (findClass_of_methodNamed hnamed) hkP hinit
  obtain ⟨vm₁, X₁, hstep₁⟩ := X.invokestatic hexec hown hlink hnamed hmethM hstatic hkP hinitP hy (g := g) hg (argsL := argsL) (rest := rest) (hlen _ hsigM) hstack hdg
  rcases hK m meth c ⟨T.setVm vm₁, locs, cells, slots⟩ { g with stack := rest } (.invokestatic index) mk argsL.toArray X₁ hg hsize hdg hW (X₁.named hnamed) (hpre vm₁ X₁.warmed) with ⟨v, B, X', hpost, hsteps⟩ | ⟨q, B, X', hpost, hsteps⟩
  · exact Or.inl ⟨v, vm₁, B, X₁.warmed, X', hpost, fun target h => hstep₁ _ fun acts => by rw [doInvoke_state]; exact hsteps.trans h⟩
  · exact Or.inr ⟨q, vm₁, B, X₁.warmed, X', hpost, hstep₁ _ fun acts => by rw [doInvoke_state]; exact hsteps⟩
end Calls
theorem vx_cls {s : State} {T : State} {vm₁ : Vm} {E : String} {k : ClassId} (hW : s.WarmedH vm₁) (h : (T.setVm vm₁).vm.findClass E = some k) : s.vm.findClass E = some k := by
  have h1 : vm₁.findClass E = some k := h
  rw [hW.alike.findClass] at h1
  exact h1
/-- the method's frame g, with q thrown over it -/
def vx_W (p : Program) (l : Launch) (e : Env) (R : Room) (s : State) (m : MethodId) (args : Array Value) (below : List Frame) (meth : Method) (c : Code) (H : Heap) (locs : List Loc) (cells slots : Nat) (Q : State → Prop) (g : JFrame) (q : Addr) : Prop :=
  ∀ T : State, T.heap = H → Stand p l e R s m args below meth c T locs cells slots → ∃ t, Steps p.tables e below ((T.setTop g).pushFrame (.throwing q)) t ∧ Q t
def vx_Run (p : Program) (l : Launch) (e : Env) (R : Room) (s : State) (m : MethodId) (args : Array Value) (below : List Frame) (meth : Method) (c : Code) (H : Heap) (locs : List Loc) (cells slots mc ms : Nat) (g : JFrame) (rest : List Value) (Qa : State → Outcome → State → Prop) (XC : String → State → State → Prop) (free : Addr → Prop) : Prop :=
  ∀ T : State, T.heap = H → Stand p l e R s m args below meth c T locs cells slots →
    (∃ (v : Option Value) (st₀ t T' : State) (L : List Loc), st₀.heap = H ∧ Stand p l e R s m args below meth c T' (locs ++ L) (cells + mc) (slots + ms) ∧ (∀ q ∈ L, free q.base) ∧ T'.heap = t.heap ∧ T'.vm = t.vm ∧ Qa st₀ (.returned v) t ∧
      Goes p e below T g T' { g with pc := g.pc + 3, stack := v.toList ++ rest }) ∨
    (∃ (q : Addr) (st₀ t T' : State) (L : List Loc) (E : String) (ce : Cell), st₀.heap = H ∧ Stand p l e R s m args below meth c T' (locs ++ L) (cells + mc) (slots + ms) ∧ (∀ z ∈ L, free z.base) ∧ T'.heap = t.heap ∧ T'.vm = t.vm ∧ XC E st₀ t ∧ t.heap[q]? = some ce ∧ ce.vm = .none ∧ s.vm.findClass E = some ce.cls ∧
      Steps p.tables e below (T.setTop g) ((T'.setTop { g with stack := rest }).pushFrame (.throwing q)))
def vx_X {S : Type} (px : S → Prop) (B : String → S → State → Prop) (A : Nat → Prop) : String → State → State → Prop := fun E st t => ∃ u : S, px u ∧ B E u t ∧ va_F A st t
section Runs
variable {p : Program} {l : Launch} {e : Env} {R : Room} {s : State} {m : MethodId} {args : Array Value} {below : List Frame} {meth : Method} {c : Code} {H : Heap} {locs : List Loc} {cells slots : Nat}
variable {y : MethodName} {bytes cc : ByteArray} {maxL nL mc ms n index : Nat} {ret : Option FieldType} {ws : List Cond} {rm : Room} {Pc : Array Value → State → Prop} {Qc : Array Value → State → Outcome → State → Prop} {XC : String → State → State → Prop} {free : Addr → Prop} {Ts : List Cond} {own C : String} {b : Addr} {As rest : List Value} {g : JFrame}
theorem vx_callBack (cb : CallB R s args own index y bytes maxL ret ws rm mc ms n) (hM : vx_Met l y ws rm Pc Qc XC mc ms free) (hbl : FrameBlind Pc) : vx_Back l R p e below s args y 3 8 (PreOf R mc ms Pc) (PostOf Qc mc ms free) (vx_Post XC mc ms free) := by
  obtain ⟨hrc, hrs, hfr, hlo, hws, hcw, -, hini, -⟩ := cb
  exact vx_back (bytes := bytes) (maxL := maxL) (ret := ret) hM hbl hrc hrs hfr hlo hws hcw (fun a' U hW => word_at hW (Or.inl (by first | rfl | simp [Cond.onTables, Cond.keeps, Cond.steady])) hini)
theorem vx_runV (S : CallFix p m c cc nL s args Ts own) (hM : vx_Met l y ws rm Pc Qc XC mc ms free) (cw : CallW R s args own C index y bytes maxL ret ws rm mc ms n) (hp : PreV s H C b Pc As)
    (hg : g.method = m) (hn : As.length = n) (hsize : g.locals.size = nL) (hstack : g.stack = As.reverse ++ .ref b :: rest) (hW : 2 * g.monitorRoom + (rest.map fun v => v.category).sum ≤ 8) (hdg : decode cc g.pc = .ok (.invokevirtual index, 3)) (hf : cells + mc ≤ R.cells ∧ slots + ms ≤ R.slots) :
    vx_Run p l e R s m args below meth c H locs cells slots mc ms g rest (Qc (Value.ref b :: As).toArray) XC free := by
  have hK : vx_Back l R p e below s args y 3 8 (PreOf R mc ms Pc) (PostOf Qc mc ms free) (vx_Post XC mc ms free) := vx_callBack cw.1 hM hp.1
  obtain ⟨⟨-, -, -, -, -, -, hcode, -, hy, hlen, hl⟩, hin, hse⟩ := cw
  obtain ⟨hx, hb, hml, ho, -⟩ := S
  obtain ⟨-, ⟨cellB, hcB, hoB, hclB⟩, hPc⟩ := hp
  intro T hT X
  rcases vx_callV X hx (C := C) (bytes := bytes) (maxL := maxL) (ret := ret) ho hl hin hse hcode hy hK (by rw [hT]; exact hcB) hoB hclB hg (hsize.trans hml.symm) (argsL := As) (rest := rest) (fun sig h => hn.trans (hlen sig h)) hstack hW (by rw [hb]; exact hdg)
    (fun vm₁ hW₁ => ⟨hf.1, hf.2, hPc (T.setVm vm₁) hT hW₁⟩) with ⟨v, vm₁, ⟨U', l2, c2, s2⟩, hW₁, X', ⟨g', mk, t, L, e1, e2, hq, h1, hL, h2, h3⟩, st⟩ | ⟨q, vm₁, ⟨U', l2, c2, s2⟩, hW₁, X', ⟨g', mk, t, L, E, ce, e1, e2, hq, hce, hcv, hcl, h1, hL, h2, h3⟩, st⟩
  · dsimp only [Pt.U, Pt.locs, Pt.cells, Pt.slots] at X' e1 e2 h1 h2 h3 st
    subst h1; subst h2; subst h3
    exact Or.inl ⟨v, (T.setVm vm₁).calling g' mk (Value.ref b :: As).toArray, t, U', L, hT, X', hL, e1, e2, hq, st⟩
  · dsimp only [Pt.U, Pt.locs, Pt.cells, Pt.slots] at X' e1 e2 h1 h2 h3 st hcl
    subst h1; subst h2; subst h3
    exact Or.inr ⟨q, (T.setVm vm₁).calling g' mk (Value.ref b :: As).toArray, t, U', L, E, ce, hT, X', hL, e1, e2, hq, hce, hcv, vx_cls hW₁ hcl, st⟩
theorem vx_runS (S : CallFix p m c cc nL s args Ts own) (hM : vx_Met l y ws rm Pc Qc XC mc ms free) (cw : CallB R s args own index y bytes maxL ret ws rm mc ms n ∧ (Cond.static y).before args s = true) (hp : PreS s H Pc As)
    (hg : g.method = m) (hn : As.length = n) (hsize : g.locals.size = nL) (hstack : g.stack = As.reverse ++ rest) (hW : 2 * g.monitorRoom + (rest.map fun v => v.category).sum ≤ 8) (hdg : decode cc g.pc = .ok (.invokestatic index, 3)) (hf : cells + mc ≤ R.cells ∧ slots + ms ≤ R.slots) :
    vx_Run p l e R s m args below meth c H locs cells slots mc ms g rest (Qc As.toArray) XC free := by
  have hK : vx_Back l R p e below s args y 3 8 (PreOf R mc ms Pc) (PostOf Qc mc ms free) (vx_Post XC mc ms free) := vx_callBack cw.1 hM hp.1
  obtain ⟨⟨-, -, -, -, -, -, hcode, hini, hy, hlen, hl⟩, hstt⟩ := cw
  obtain ⟨hx, hb, hml, ho, -⟩ := S
  intro T hT X
  rcases vx_callS X hx (bytes := bytes) (maxL := maxL) (ret := ret) ho hl hstt hini hcode hy hK hg (hsize.trans hml.symm) (argsL := As) (rest := rest) (fun sig h => hn.trans (hlen sig h)) hstack hW (by rw [hb]; exact hdg)
    (fun vm₁ hW₁ => ⟨hf.1, hf.2, hp.2 (T.setVm vm₁) hT hW₁⟩) with ⟨v, vm₁, ⟨U', l2, c2, s2⟩, hW₁, X', ⟨g', mk, t, L, e1, e2, hq, h1, hL, h2, h3⟩, st⟩ | ⟨q, vm₁, ⟨U', l2, c2, s2⟩, hW₁, X', ⟨g', mk, t, L, E, ce, e1, e2, hq, hce, hcv, hcl, h1, hL, h2, h3⟩, st⟩
  · dsimp only [Pt.U, Pt.locs, Pt.cells, Pt.slots] at X' e1 e2 h1 h2 h3 st
    subst h1; subst h2; subst h3
    exact Or.inl ⟨v, (T.setVm vm₁).calling g' mk As.toArray, t, U', L, hT, X', hL, e1, e2, hq, st⟩
  · dsimp only [Pt.U, Pt.locs, Pt.cells, Pt.slots] at X' e1 e2 h1 h2 h3 st hcl
    subst h1; subst h2; subst h3
    exact Or.inr ⟨q, (T.setVm vm₁).calling g' mk As.toArray, t, U', L, E, ce, hT, X', hL, e1, e2, hq, hce, hcv, vx_cls hW₁ hcl, st⟩
end Runs
section Rows
variable {p : Program} {l : Launch} {e : Env} {R : Room} {s : State} {m : MethodId} {args : Array Value} {below : List Frame} {meth : Method} {c : Code} {H : Heap} {locs : List Loc} {cells slots : Nat} {Q : State → Prop}
variable {mc ms : Nat} {free : Addr → Prop} {A0 A1 : Nat → Prop} {H0 : Heap} {a : Array Value} {pc : Nat} {ls : Array Slot} {st0 rest : List Value}
theorem vx_keep {st₀ t T' : State} {L : List Loc} (h0 : st₀.heap = H) (e1 : T'.heap = t.heap) (hS : va_S A0 H0 H locs) (hA : ∀ q, q < H.size → A1 q → A0 q) (hf : ∀ q, free q → A0 q) (hL : ∀ q ∈ L, free q.base) (hF : va_F A1 st₀ t) :
    H.size ≤ T'.heap.size ∧ (∀ q : Nat, q < H.size → ¬ A1 q → T'.heap[q]? = H[q]?) ∧ va_S A0 H0 T'.heap (locs ++ L) := by
  obtain ⟨hz, hk⟩ := hF
  rw [h0] at hz hk
  exact ⟨by rw [e1]; exact hz, fun q h1 h2 => by rw [e1]; exact hk q h1 h2,
    ⟨Nat.le_trans hS.1 (by rw [e1]; exact hz), fun q h1 h2 => by rw [e1, hk q (Nat.lt_of_lt_of_le h1 hS.1) (fun z => h2 (hA q (Nat.lt_of_lt_of_le h1 hS.1) z))]; exact hS.2.1 q h1 h2, fun q hq => by
      rcases List.mem_append.mp hq with h | h
      · exact hS.2.2 q h
      · exact hf _ (hL q h)⟩⟩
theorem vx_calli {S SX : Type} {post : Int32 → S → Prop} {px : SX → Prop} {B : S → State → Prop} {BX : String → SX → State → Prop} {AX : Nat → Prop} (hr : vx_Run p l e R s m args below meth c H locs cells slots mc ms (F0 m pc ls st0) rest (va_Qi post B A1 a) (vx_X px BX AX) free) (hS : va_S A0 H0 H locs) (hA : ∀ q, q < H.size → A1 q → A0 q) (hf : ∀ q, free q → A0 q) (hAX : ∀ q, q < H.size → AX q → A0 q)
    (kx : ∀ (E : String) (ce : Cell) (q9 : Addr) (u : SX) (t : State) (H1 : Heap) (locs1 : List Loc), t.heap = H1 → s.vm.Alike t.vm → px u → BX E u t → H.size ≤ H1.size → (∀ q : Nat, q < H.size → ¬ AX q → H1[q]? = H[q]?) → va_S A0 H0 H1 locs1 → H1[q9]? = some ce → ce.vm = .none → s.vm.findClass E = some ce.cls → vx_W p l e R s m args below meth c H1 locs1 (cells + mc) (slots + ms) Q (F0 m pc ls rest) q9)
    (kk : ∀ (r : Int32) (u : S) (t : State) (H1 : Heap) (locs1 : List Loc), t.heap = H1 → s.vm.Alike t.vm → post r u → B u t → H.size ≤ H1.size → (∀ q : Nat, q < H.size → ¬ A1 q → H1[q]? = H[q]?) → va_S A0 H0 H1 locs1 → W p l e R s m args below meth c H1 locs1 (cells + mc) (slots + ms) Q (F0 m (pc + 3) ls (.int r :: rest))) : W p l e R s m args below meth c H locs cells slots Q (F0 m pc ls st0) := by
  intro T hT X
  rcases hr T hT X with ⟨v, st₀, t, T', L, h0, X', hL, e1, e2, ⟨⟨r, u, hv, hp, hb⟩, hF⟩, st⟩ | ⟨q, st₀, t, T', L, E, ce, h0, X', hL, e1, e2, ⟨u, hp, hb, hF⟩, hce, hcv, hcl, st⟩
  · cases hv
    obtain ⟨k1, k2, k3⟩ := vx_keep h0 e1 hS hA hf hL hF
    obtain ⟨t2, a1, b1⟩ := kk r u t T'.heap (locs ++ L) e1.symm (by rw [← e2]; exact X'.warmed.alike) hp hb k1 k2 k3 T' rfl X'
    exact ⟨t2, st t2 a1, b1⟩
  · obtain ⟨k1, k2, k3⟩ := vx_keep h0 e1 hS hAX hf hL hF
    obtain ⟨t2, a1, b1⟩ := kx E ce q u t T'.heap (locs ++ L) e1.symm (by rw [← e2]; exact X'.warmed.alike) hp hb k1 k2 k3 (by rw [e1]; exact hce) hcv hcl T' rfl X'
    exact ⟨t2, st.trans a1, b1⟩
theorem vx_calll {S SX : Type} {post : Int64 → S → Prop} {px : SX → Prop} {B : S → State → Prop} {BX : String → SX → State → Prop} {AX : Nat → Prop} (hr : vx_Run p l e R s m args below meth c H locs cells slots mc ms (F0 m pc ls st0) rest (va_Ql post B A1 a) (vx_X px BX AX) free) (hS : va_S A0 H0 H locs) (hA : ∀ q, q < H.size → A1 q → A0 q) (hf : ∀ q, free q → A0 q) (hAX : ∀ q, q < H.size → AX q → A0 q)
    (kx : ∀ (E : String) (ce : Cell) (q9 : Addr) (u : SX) (t : State) (H1 : Heap) (locs1 : List Loc), t.heap = H1 → s.vm.Alike t.vm → px u → BX E u t → H.size ≤ H1.size → (∀ q : Nat, q < H.size → ¬ AX q → H1[q]? = H[q]?) → va_S A0 H0 H1 locs1 → H1[q9]? = some ce → ce.vm = .none → s.vm.findClass E = some ce.cls → vx_W p l e R s m args below meth c H1 locs1 (cells + mc) (slots + ms) Q (F0 m pc ls rest) q9)
    (kk : ∀ (r : Int64) (u : S) (t : State) (H1 : Heap) (locs1 : List Loc), t.heap = H1 → s.vm.Alike t.vm → post r u → B u t → H.size ≤ H1.size → (∀ q : Nat, q < H.size → ¬ A1 q → H1[q]? = H[q]?) → va_S A0 H0 H1 locs1 → W p l e R s m args below meth c H1 locs1 (cells + mc) (slots + ms) Q (F0 m (pc + 3) ls (.long r :: rest))) : W p l e R s m args below meth c H locs cells slots Q (F0 m pc ls st0) := by
  intro T hT X
  rcases hr T hT X with ⟨v, st₀, t, T', L, h0, X', hL, e1, e2, ⟨⟨r, u, hv, hp, hb⟩, hF⟩, st⟩ | ⟨q, st₀, t, T', L, E, ce, h0, X', hL, e1, e2, ⟨u, hp, hb, hF⟩, hce, hcv, hcl, st⟩
  · cases hv
    obtain ⟨k1, k2, k3⟩ := vx_keep h0 e1 hS hA hf hL hF
    obtain ⟨t2, a1, b1⟩ := kk r u t T'.heap (locs ++ L) e1.symm (by rw [← e2]; exact X'.warmed.alike) hp hb k1 k2 k3 T' rfl X'
    exact ⟨t2, st t2 a1, b1⟩
  · obtain ⟨k1, k2, k3⟩ := vx_keep h0 e1 hS hAX hf hL hF
    obtain ⟨t2, a1, b1⟩ := kx E ce q u t T'.heap (locs ++ L) e1.symm (by rw [← e2]; exact X'.warmed.alike) hp hb k1 k2 k3 (by rw [e1]; exact hce) hcv hcl T' rfl X'
    exact ⟨t2, st.trans a1, b1⟩
theorem vx_callf {S SX : Type} {post : UInt32 → S → Prop} {px : SX → Prop} {B : S → State → Prop} {BX : String → SX → State → Prop} {AX : Nat → Prop} (hr : vx_Run p l e R s m args below meth c H locs cells slots mc ms (F0 m pc ls st0) rest (va_Qf post B A1 a) (vx_X px BX AX) free) (hS : va_S A0 H0 H locs) (hA : ∀ q, q < H.size → A1 q → A0 q) (hf : ∀ q, free q → A0 q) (hAX : ∀ q, q < H.size → AX q → A0 q)
    (kx : ∀ (E : String) (ce : Cell) (q9 : Addr) (u : SX) (t : State) (H1 : Heap) (locs1 : List Loc), t.heap = H1 → s.vm.Alike t.vm → px u → BX E u t → H.size ≤ H1.size → (∀ q : Nat, q < H.size → ¬ AX q → H1[q]? = H[q]?) → va_S A0 H0 H1 locs1 → H1[q9]? = some ce → ce.vm = .none → s.vm.findClass E = some ce.cls → vx_W p l e R s m args below meth c H1 locs1 (cells + mc) (slots + ms) Q (F0 m pc ls rest) q9)
    (kk : ∀ (r : UInt32) (u : S) (t : State) (H1 : Heap) (locs1 : List Loc), t.heap = H1 → s.vm.Alike t.vm → post r u → B u t → H.size ≤ H1.size → (∀ q : Nat, q < H.size → ¬ A1 q → H1[q]? = H[q]?) → va_S A0 H0 H1 locs1 → W p l e R s m args below meth c H1 locs1 (cells + mc) (slots + ms) Q (F0 m (pc + 3) ls (.float r :: rest))) : W p l e R s m args below meth c H locs cells slots Q (F0 m pc ls st0) := by
  intro T hT X
  rcases hr T hT X with ⟨v, st₀, t, T', L, h0, X', hL, e1, e2, ⟨⟨r, u, hv, hp, hb⟩, hF⟩, st⟩ | ⟨q, st₀, t, T', L, E, ce, h0, X', hL, e1, e2, ⟨u, hp, hb, hF⟩, hce, hcv, hcl, st⟩
  · cases hv
    obtain ⟨k1, k2, k3⟩ := vx_keep h0 e1 hS hA hf hL hF
    obtain ⟨t2, a1, b1⟩ := kk r u t T'.heap (locs ++ L) e1.symm (by rw [← e2]; exact X'.warmed.alike) hp hb k1 k2 k3 T' rfl X'
    exact ⟨t2, st t2 a1, b1⟩
  · obtain ⟨k1, k2, k3⟩ := vx_keep h0 e1 hS hAX hf hL hF
    obtain ⟨t2, a1, b1⟩ := kx E ce q u t T'.heap (locs ++ L) e1.symm (by rw [← e2]; exact X'.warmed.alike) hp hb k1 k2 k3 (by rw [e1]; exact hce) hcv hcl T' rfl X'
    exact ⟨t2, st.trans a1, b1⟩
theorem vx_calld {S SX : Type} {post : UInt64 → S → Prop} {px : SX → Prop} {B : S → State → Prop} {BX : String → SX → State → Prop} {AX : Nat → Prop} (hr : vx_Run p l e R s m args below meth c H locs cells slots mc ms (F0 m pc ls st0) rest (va_Qd post B A1 a) (vx_X px BX AX) free) (hS : va_S A0 H0 H locs) (hA : ∀ q, q < H.size → A1 q → A0 q) (hf : ∀ q, free q → A0 q) (hAX : ∀ q, q < H.size → AX q → A0 q)
    (kx : ∀ (E : String) (ce : Cell) (q9 : Addr) (u : SX) (t : State) (H1 : Heap) (locs1 : List Loc), t.heap = H1 → s.vm.Alike t.vm → px u → BX E u t → H.size ≤ H1.size → (∀ q : Nat, q < H.size → ¬ AX q → H1[q]? = H[q]?) → va_S A0 H0 H1 locs1 → H1[q9]? = some ce → ce.vm = .none → s.vm.findClass E = some ce.cls → vx_W p l e R s m args below meth c H1 locs1 (cells + mc) (slots + ms) Q (F0 m pc ls rest) q9)
    (kk : ∀ (r : UInt64) (u : S) (t : State) (H1 : Heap) (locs1 : List Loc), t.heap = H1 → s.vm.Alike t.vm → post r u → B u t → H.size ≤ H1.size → (∀ q : Nat, q < H.size → ¬ A1 q → H1[q]? = H[q]?) → va_S A0 H0 H1 locs1 → W p l e R s m args below meth c H1 locs1 (cells + mc) (slots + ms) Q (F0 m (pc + 3) ls (.double r :: rest))) : W p l e R s m args below meth c H locs cells slots Q (F0 m pc ls st0) := by
  intro T hT X
  rcases hr T hT X with ⟨v, st₀, t, T', L, h0, X', hL, e1, e2, ⟨⟨r, u, hv, hp, hb⟩, hF⟩, st⟩ | ⟨q, st₀, t, T', L, E, ce, h0, X', hL, e1, e2, ⟨u, hp, hb, hF⟩, hce, hcv, hcl, st⟩
  · cases hv
    obtain ⟨k1, k2, k3⟩ := vx_keep h0 e1 hS hA hf hL hF
    obtain ⟨t2, a1, b1⟩ := kk r u t T'.heap (locs ++ L) e1.symm (by rw [← e2]; exact X'.warmed.alike) hp hb k1 k2 k3 T' rfl X'
    exact ⟨t2, st t2 a1, b1⟩
  · obtain ⟨k1, k2, k3⟩ := vx_keep h0 e1 hS hAX hf hL hF
    obtain ⟨t2, a1, b1⟩ := kx E ce q u t T'.heap (locs ++ L) e1.symm (by rw [← e2]; exact X'.warmed.alike) hp hb k1 k2 k3 (by rw [e1]; exact hce) hcv hcl T' rfl X'
    exact ⟨t2, st.trans a1, b1⟩
theorem vx_callv {S SX : Type} {post : S → Prop} {px : SX → Prop} {B : S → State → Prop} {BX : String → SX → State → Prop} {AX : Nat → Prop} (hr : vx_Run p l e R s m args below meth c H locs cells slots mc ms (F0 m pc ls st0) rest (va_Qv post B A1 a) (vx_X px BX AX) free) (hS : va_S A0 H0 H locs) (hA : ∀ q, q < H.size → A1 q → A0 q) (hf : ∀ q, free q → A0 q) (hAX : ∀ q, q < H.size → AX q → A0 q)
    (kx : ∀ (E : String) (ce : Cell) (q9 : Addr) (u : SX) (t : State) (H1 : Heap) (locs1 : List Loc), t.heap = H1 → s.vm.Alike t.vm → px u → BX E u t → H.size ≤ H1.size → (∀ q : Nat, q < H.size → ¬ AX q → H1[q]? = H[q]?) → va_S A0 H0 H1 locs1 → H1[q9]? = some ce → ce.vm = .none → s.vm.findClass E = some ce.cls → vx_W p l e R s m args below meth c H1 locs1 (cells + mc) (slots + ms) Q (F0 m pc ls rest) q9)
    (kk : ∀ (u : S) (t : State) (H1 : Heap) (locs1 : List Loc), t.heap = H1 → s.vm.Alike t.vm → post u → B u t → H.size ≤ H1.size → (∀ q : Nat, q < H.size → ¬ A1 q → H1[q]? = H[q]?) → va_S A0 H0 H1 locs1 → W p l e R s m args below meth c H1 locs1 (cells + mc) (slots + ms) Q (F0 m (pc + 3) ls (rest))) : W p l e R s m args below meth c H locs cells slots Q (F0 m pc ls st0) := by
  intro T hT X
  rcases hr T hT X with ⟨v, st₀, t, T', L, h0, X', hL, e1, e2, ⟨⟨u, hv, hp, hb⟩, hF⟩, st⟩ | ⟨q, st₀, t, T', L, E, ce, h0, X', hL, e1, e2, ⟨u, hp, hb, hF⟩, hce, hcv, hcl, st⟩
  · cases hv
    obtain ⟨k1, k2, k3⟩ := vx_keep h0 e1 hS hA hf hL hF
    obtain ⟨t2, a1, b1⟩ := kk u t T'.heap (locs ++ L) e1.symm (by rw [← e2]; exact X'.warmed.alike) hp hb k1 k2 k3 T' rfl X'
    exact ⟨t2, st t2 a1, b1⟩
  · obtain ⟨k1, k2, k3⟩ := vx_keep h0 e1 hS hAX hf hL hF
    obtain ⟨t2, a1, b1⟩ := kx E ce q u t T'.heap (locs ++ L) e1.symm (by rw [← e2]; exact X'.warmed.alike) hp hb k1 k2 k3 (by rw [e1]; exact hce) hcv hcl T' rfl X'
    exact ⟨t2, st.trans a1, b1⟩
/-- caught by the row x of this method's table; the rows ahead don't take it -/
theorem vx_catch {own name : String} {E : String} {ce : Cell} {q : Addr} (hown : s.vm.findClass own = some m.cls) (pre : List ExceptionTableEntry) (x : ExceptionTableEntry) (suf : List ExceptionTableEntry) (hsplit : c.exceptionTable.toList = pre ++ x :: suf)
    (hpass : ∀ z ∈ pre, covers z pc = false ∨ (z.catchType ≠ 0 ∧ ∃ nm : String, (Cond.classLink own z.catchType nm).before args s = true ∧ va_Nc E nm s)) (hx : covers x pc = true) (h0 : x.catchType ≠ 0)
    (hlink : (Cond.classLink own x.catchType name).before args s = true) (hcast : (Cond.castable E name).before args s = true) (hcell : H[q]? = some ce) (hv : ce.vm = .none) (hcl : s.vm.findClass E = some ce.cls)
    (kk : W p l e R s m args below meth c H locs cells slots Q (F0 m x.handlerPc ls [.ref q])) : vx_W p l e R s m args below meth c H locs cells slots Q (F0 m pc ls rest) q := by
  intro T hT X
  have hpl : e.platform.magicAccessors = ({} : Platform).magicAccessors := by rw [X.admits.platform]
  obtain ⟨c3, c4, hc3, hc4, hasg⟩ := Cond.castable_spec hcast
  cases Option.some.inj (hc3.symm.trans hcl)
  obtain ⟨c5, hc5, hcl5⟩ := Cond.classLink_spec hown hlink e.platform hpl
  cases Option.some.inj (hc4.symm.trans hc5)
  obtain ⟨vm', X', st⟩ := X.thenCaughtThrough q (g := F0 m pc ls rest) rfl (Steps.refl _) (by rw [hT]; exact hcell) (by rw [hv]; rfl) (by obtain ⟨k9, h9, -⟩ := Vm.findClass_spec hcl; exact ⟨k9, h9⟩) pre x suf hsplit
    (fun z hz => by
      rcases hpass z hz with h | ⟨hz0, nm, hl1, hn1⟩
      · exact Or.inl h
      · obtain ⟨c6, hc6, hcl6⟩ := Cond.classLink_spec hown hl1 e.platform hpl
        obtain ⟨a8, b8, h1, h2, h3⟩ := hn1
        cases Option.some.inj (h1.symm.trans hcl)
        cases Option.some.inj (h2.symm.trans hc6)
        exact Or.inr ⟨hz0, _, hcl6, h3⟩) hx (Or.inr ⟨h0, c4, hcl5, hasg⟩)
  obtain ⟨t, a1, b1⟩ := kk (T.setVm vm') hT X'
  exact ⟨t, st.trans a1, b1⟩
end Rows
section Ends
variable {p : Program} {l : Launch} {e : Env} {R : Room} {s : State} {m : MethodId} {args : Array Value} {below : List Frame} {meth : Method} {c : Code} {H : Heap} {locs : List Loc} {cells slots : Nat} {Q : State → Prop}
variable {mc ms : Nat} {free : Addr → Prop} {A0 A1 : Nat → Prop} {H0 : Heap} {a : Array Value} {ls : Array Slot} {st0 rest : List Value}
variable {Qc : Array Value → State → Outcome → State → Prop} {XC : String → State → State → Prop}
/-- what a body that may throw owes at its end -/
def vx_MQ (below : List Frame) (Qc : Array Value → State → Outcome → State → Prop) (XC : String → State → State → Prop) (a : Array Value) (s : State) (mc ms : Nat) (free : Addr → Prop) : State → Prop := fun t =>
  ∃ o, t.status = .running ∧ Ended t below o ∧ vx_Q Qc XC mc ms free a s o t
theorem vx_ret {g : JFrame} {mc ms : Nat} (k : W p l e R s m args below meth c H locs cells slots (MQ below Qc args s mc ms free) g) : W p l e R s m args below meth c H locs cells slots (vx_MQ below Qc XC args s mc ms free) g := by
  intro T hT X
  obtain ⟨t, a1, o, b1, b2, b3, b4⟩ := k T hT X
  exact ⟨t, a1, o, b1, b2, Or.inl ⟨b3, b4⟩⟩
/-- not caught here: it goes on to the caller -/
theorem vx_widen {g : JFrame} {q : Addr} {k n : Nat} (h1 : cells ≤ k) (h2 : slots ≤ n) (kk : vx_W p l e R s m args below meth c H locs k n Q g q) : vx_W p l e R s m args below meth c H locs cells slots Q g q := fun T hT X => kk T hT (stand_widen X h1 h2)
theorem vx_out {pc : Nat} {E : String} {ce : Cell} {q : Addr} {mc ms : Nat} (hout : ∀ x ∈ c.exceptionTable.toList, covers x pc = false) (hlocks : meth.locks = false) (hcell : H[q]? = some ce) (hv : ce.vm = .none) (hcl : s.vm.findClass E = some ce.cls)
    (hx : ∀ t : State, t.heap = H → s.vm.Alike t.vm → XC E s t) (hf : ∀ z ∈ locs, free z.base) (hc : cells ≤ mc) (hs : slots ≤ ms) :
    vx_W p l e R s m args below meth c H locs cells slots (vx_MQ below Qc XC args s mc ms free) (F0 m pc ls rest) q := by
  intro T hT X
  obtain ⟨st1, hrun, hend, hW, hsm⟩ := X.leaveThrown q (g := F0 m pc ls rest) rfl rfl rfl hout hlocks
  have hcell9 : (T.setFrames (.throwing q :: below)).heap[q]? = some ce := by
    show T.heap[q]? = some ce
    rw [hT]; exact hcell
  exact ⟨_, st1, .threw q, hrun, hend, Or.inr ⟨q, rfl, E, ce, locs, hx _ hT hW.alike, hcell9, hv, hcl, hW, hsm.mono hc hs, hf⟩⟩
theorem vx_frame {U : State} {k n : Nat} (h : s.sameButNew ({ U with vm := s.vm } : State) locs k n) : s.heap.size ≤ U.heap.size ∧ ∀ q : Nat, q < s.heap.size → (∀ z ∈ locs, z.base ≠ q) → U.heap[q]? = s.heap[q]? := by
  obtain ⟨-, h2, -, -, -, h6⟩ := h
  refine ⟨h2, fun q hq hz => ?_⟩
  obtain ⟨c9, e1, e2, e3, e4⟩ := h6 q _ (Array.getElem?_eq_getElem hq)
  have hs : c9.slots = (s.heap[q]).slots := Array.ext_getElem? fun i => e4 i fun hm => hz _ hm rfl
  have h9 : c9 = s.heap[q] := by
    rw [hs] at e2
    exact e2
  have e5 : U.heap[q]? = some c9 := e1
  rw [e5, h9, Array.getElem?_eq_getElem hq]
/-- the words of a throw but the four that speak of the heap -/
def vx_no (w : Cond) : Bool := decide (w ≠ .isRef (.static Bundle.tN "UNASSIGNED_STACK" Bundle.steD)) && decide (w ≠ .isRef (.static Bundle.tN "SUPPRESSED_SENTINEL" Bundle.listD)) && decide (w ≠ .laysStatic Bundle.tN "UNASSIGNED_STACK" Bundle.steD) && decide (w ≠ .laysStatic Bundle.tN "SUPPRESSED_SENTINEL" Bundle.listD)
def vx_at0 (own : String) (ic : Nat) (X : String) (names : List String) : List Cond := (Bundle.ownAtoms0 own ic X names).filter vx_no
def vx_atS (own : String) (ic : Nat) (X : String) (names : List String) : List Cond := (Bundle.ownAtoms own ic X names).filter vx_no
/-- a word that the tables alone decide, or a good one -/
def vx_ot (w : Cond) : Bool := w.onTables || goodWord w
theorem vx_ot_at {args a' : Array Value} {s U : State} {w : Cond} (hW : s.WarmedH U.vm) (hvm : s.vm = U.vm) (hg : vx_ot w = true) (h : w.before args s = true) : w.before a' U = true := by
  simp only [vx_ot, Bool.or_eq_true] at hg
  rcases hg with hg | hg
  · exact va_tabs hg hvm h
  · exact word_at hW (good_of_word hg) h
/-- a list's words: the good ones out of the method's own list, the others by premises of their own -/
theorem vx_hat {args : Array Value} {s : State} {L B : List Cond} (h1 : ∀ w ∈ L.filter goodWord, w.before args s = true) (h2 : ∀ w ∈ L.filter (fun w => !goodWord w), w ∈ B) (h3 : ∀ w ∈ B, w.before args s = true) : ∀ w ∈ L, w.before args s = true := by
  intro w hw
  by_cases g : goodWord w = true
  · exact h1 w (List.mem_filter.mpr ⟨hw, g⟩)
  · refine h3 w (h2 w (List.mem_filter.mpr ⟨hw, ?_⟩))
    show (!goodWord w) = true
    cases hgw : goodWord w
    · rfl
    · exact absurd hgw g
theorem vx_c {args : Array Value} {s : State} {w : Cond} {B : List Cond} (h : w.before args s = true) (t : ∀ w ∈ B, w.before args s = true) : ∀ w' ∈ w :: B, w'.before args s = true := fun w' h' => (List.mem_cons.mp h').elim (fun e => by rw [e]; exact h) (t w')
theorem vx_n {args : Array Value} {s : State} : ∀ w ∈ ([] : List Cond), w.before args s = true := fun _ h => nomatch h
theorem vx_own {args : Array Value} {s : State} {L : List Cond} (h1 : ∀ w ∈ L.filter vx_no, w.before args s = true)
    (hU : (Cond.isRef (.static Bundle.tN "UNASSIGNED_STACK" Bundle.steD)).before args s = true) (hN : (Cond.isRef (.static Bundle.tN "SUPPRESSED_SENTINEL" Bundle.listD)).before args s = true)
    (lU : (Cond.laysStatic Bundle.tN "UNASSIGNED_STACK" Bundle.steD).before args s = true) (lN : (Cond.laysStatic Bundle.tN "SUPPRESSED_SENTINEL" Bundle.listD).before args s = true) : ∀ w ∈ L, w.before args s = true := by
  intro w hw
  by_cases e1 : w = .isRef (.static Bundle.tN "UNASSIGNED_STACK" Bundle.steD)
  · rw [e1]; exact hU
  · by_cases e2 : w = .isRef (.static Bundle.tN "SUPPRESSED_SENTINEL" Bundle.listD)
    · rw [e2]; exact hN
    · by_cases e3 : w = .laysStatic Bundle.tN "UNASSIGNED_STACK" Bundle.steD
      · rw [e3]; exact lU
      · by_cases e4 : w = .laysStatic Bundle.tN "SUPPRESSED_SENTINEL" Bundle.listD
        · rw [e4]; exact lN
        · exact h1 w (List.mem_filter.mpr ⟨hw, by unfold vx_no; rw [decide_eq_true e1, decide_eq_true e2, decide_eq_true e3, decide_eq_true e4]; rfl⟩)
/-- where a static field lies, its class's statics cell in H -/
def vx_L (C n d : String) (A : Nat → Prop) (U : State) (H : Heap) : Prop := ∃ (c : ClassId) (k : Class) (i : Nat) (f : Field) (a : Nat) (cell : Cell), U.vm.findClass C = some c ∧ U.fieldFound? C n d = some (c, k, i, f) ∧ f.isStatic = true ∧ k.statics = some a ∧ H[a]? = some cell ∧ cell.vm.isStatics = true ∧ cell.cls = c ∧ f.slot < cell.slots.size ∧ k.staticTypes[f.slot]? = some f.type ∧ ¬ A a
theorem vx_L.moved {C n d : String} {A : Nat → Prop} {u U : State} {H : Heap} (hvm : u.vm.Alike U.vm) (h : vx_L C n d A u H) : vx_L C n d A U H := by
  obtain ⟨c, k, i, f, a, cell, h1, h2, h3, h4, h5, h6, h7, h8, h9, h10⟩ := h
  obtain ⟨k', hi', he⟩ := State.fieldFound?_setVm hvm h2
  exact ⟨c, k', i, f, a, cell, by rw [hvm.findClass]; exact h1, hi', h3, by rw [he]; exact h4, h5, h6, h7, h8, by rw [he]; exact h9, h10⟩
theorem vx_L.kept {C n d : String} {A : Nat → Prop} {U : State} {H H1 : Heap} (h : vx_L C n d A U H) (hq : ∀ a : Nat, a < H.size → ¬ A a → H1[a]? = H[a]?) : vx_L C n d A U H1 := by
  obtain ⟨c, k, i, f, a, cell, h1, h2, h3, h4, h5, h6, h7, h8, h9, h10⟩ := h
  exact ⟨c, k, i, f, a, cell, h1, h2, h3, h4, by rw [hq a (Array.getElem?_eq_some_iff.mp h5).1 h10]; exact h5, h6, h7, h8, h9, h10⟩
theorem vx_L.narrow {C n d : String} {A B : Nat → Prop} {U : State} {H : Heap} (h : vx_L C n d A U H) (hAB : ∀ q, B q → A q) : vx_L C n d B U H := by
  obtain ⟨c, k, i, f, a, cell, h1, h2, h3, h4, h5, h6, h7, h8, h9, h10⟩ := h
  exact ⟨c, k, i, f, a, cell, h1, h2, h3, h4, h5, h6, h7, h8, h9, fun z => h10 (hAB _ z)⟩
theorem vx_L.word {C n d : String} {A : Nat → Prop} {s : State} {args : Array Value} (h : vx_L C n d A s s.heap) : (Cond.laysStatic C n d).before args s = true := by
  obtain ⟨c, k, i, f, a, cell, h1, h2, h3, h4, h5, h6, h7, h8, h9, -⟩ := h
  show (Cond.laysStatic C n d).holds args s none s [] = true
  exact Cond.laysStatic_of h1 h2 h3 h4 h5 h6 h7 h8 h9
/-- .. and what it holds: null or some reference -/
def vx_Zq (C n d : String) (A : Nat → Prop) (U : State) (H : Heap) : Prop := va_Zq C n d A U H ∧ vx_L C n d A U H
theorem vx_Zq.moved {C n d : String} {A : Nat → Prop} {u U : State} {H : Heap} (hvm : u.vm.Alike U.vm) (h : vx_Zq C n d A u H) : vx_Zq C n d A U H := ⟨va_Zq.moved hvm h.1, vx_L.moved hvm h.2⟩
theorem vx_Zq.kept {C n d : String} {A : Nat → Prop} {U : State} {H H1 : Heap} (h : vx_Zq C n d A U H) (hq : ∀ a : Nat, a < H.size → ¬ A a → H1[a]? = H[a]?) : vx_Zq C n d A U H1 := ⟨va_Zq.kept h.1 hq, vx_L.kept h.2 hq⟩
theorem vx_Zq.narrow {C n d : String} {A B : Nat → Prop} {U : State} {H : Heap} (h : vx_Zq C n d A U H) (hAB : ∀ q, B q → A q) : vx_Zq C n d B U H := ⟨va_Zq.narrow h.1 hAB, vx_L.narrow h.2 hAB⟩
theorem vx_Zqof {args : Array Value} {s : State} {C n d : String} {A : Nat → Prop} (hl : (Cond.laysStatic C n d).before args s = true) (hini : (Cond.initialized C).before args s = true) (h : (Cond.isRef (.static C n d)).before args s = true) (hA : ∀ a : Nat, a < s.heap.size → ¬ A a) : vx_Zq C n d A s s.heap := by
  refine ⟨va_Zqof hl hini h hA, ?_⟩
  obtain ⟨c, k, i, f, a, cell, h1, h2, h3, h4, h5, h6, h7, h8, h9⟩ := Cond.laysStatic_spec hl
  exact ⟨c, k, i, f, a, cell, h1, h2, h3, h4, h5, h6, h7, h8, h9, hA a (Array.getElem?_eq_some_iff.mp h5).1⟩
theorem vx_isRef {C n d : String} {v : Value} {A : Nat → Prop} {s : State} {args : Array Value} (h : va_Z C n d v A s s.heap) (hv : v.isRef = true) : (Cond.isRef (.static C n d)).before args s = true := by
  obtain ⟨cf, kf, fi, f, a, cell, h1, h2, h3, h4, h5, h6, h7, -⟩ := h
  have he : (Term.static C n d).eval args s none [] s = some v := by
    simp [Term.eval, State.fieldNamed?, h1, h2, h4, h5, h6, h7]
  simp only [Cond.before, Cond.holds, Cond.value, he]
  cases v <;> simp_all [Value.isRef]
theorem vx_isRefq {C n d : String} {A : Nat → Prop} {s : State} {args : Array Value} (h : va_Zq C n d A s s.heap) : (Cond.isRef (.static C n d)).before args s = true := by
  rcases h with h | ⟨t, h⟩
  · exact vx_isRef h rfl
  · exact vx_isRef h rfl
/-- the same frame, seen from here: as if the method were called anew in this heap -/
theorem vx_rebase {T : State} (X : Stand p l e R s m args below meth c T locs cells slots) {R' : Room} (hf : R'.frames ≤ R.frames) (hl : R'.locals ≤ R.locals) (hc : cells + R'.cells ≤ R.cells) (hs : slots + R'.slots ≤ R.slots) :
    Stand p l e R' ((T.setVm s.vm).setFrames (.invoking m args :: below)) m args below meth c T [] 0 0 := by
  have htop : (T.setVm s.vm).topJava?.isSome := X.here.top
  have hF : ((T.setVm s.vm).setFrames (.invoking m args :: below)).frames = .invoking m args :: below := State.frames_setFrames _ (State.cur_lt_of_top htop)
  obtain ⟨g₀, hg0⟩ := Option.isSome_iff_exists.mp htop
  obtain ⟨r, hr⟩ := State.topJava?_eq_some.mp hg0
  have hl9 : e.platform.stackLimits (T.setVm s.vm).me = e.platform.stackLimits s.me := X.limits
  have hb9 : (T.setVm s.vm).me.stackBytes = s.me.stackBytes := X.bytes
  refine ⟨X.admits, X.cas, X.clock, hF, ?_, X.hears, X.method, X.code, X.here, X.tail, X.warmed, ?_, ?_, ?_⟩
  · have h := X.room
    have hU : ((T.setVm s.vm).setFrames (.invoking m args :: below)).localsInUse = s.localsInUse := by
      rw [State.localsInUse_invoking hF (meth := meth) (c := c) X.method X.code, State.localsInUse_invoking X.frames X.method X.code]
    simp only [State.hasRoom, Bool.and_eq_true, decide_eq_true_eq] at h ⊢
    obtain ⟨⟨⟨⟨h1, h2, h3, h4, h5, h6⟩, h7⟩, h8⟩, h9⟩ := h
    rw [X.frames, List.length_cons] at h2 h3
    have q1 := X.heapSize
    have q2 := X.used
    simp only [hF, hU, List.length_cons, State.stackLimits_setFrames, State.stackBytes_setFrames, hl9, hb9]
    refine ⟨⟨⟨⟨by omega, by omega, by omega, by omega, by omega, h6⟩, ?_⟩, ?_⟩, X.book⟩
    · show T.heap.size + R'.cells ≤ e.platform.maxCells
      omega
    · show T.slotsUsed + R'.slots ≤ e.platform.maxSlots
      omega
  · rw [State.stackLimits_setFrames]; rfl
  · rw [State.stackBytes_setFrames]; rfl
  · refine ⟨?_, Nat.le_refl _, Nat.le_refl _, ?_, ?_, fun a c9 h9 => ⟨c9, h9, rfl, rfl, fun _ _ => rfl⟩⟩
    · obtain ⟨t, ht, -⟩ := State.frames_cons hr
      show T.setVm s.vm = { ((T.setVm s.vm).setFrames (.invoking m args :: below)).setFrames (T.setVm s.vm).frames with heap := T.heap, slotsUsed := T.slotsUsed }
      rw [State.setFrames_setFrames, State.setFrames_self ht]
      rfl
    · show T.slotsUsed = T.slotsUsed + ((T.heap.toList.drop T.heap.size).map (·.slots.size)).sum
      rw [List.drop_eq_nil_of_le (Nat.le_of_eq Array.length_toList)]
      rfl
    · show ((T.heap.toList.drop T.heap.size).map (·.slots.size)).sum ≤ 0
      rw [List.drop_eq_nil_of_le (Nat.le_of_eq Array.length_toList)]
      exact Nat.le_refl _
/-- 'throw new E()': new; dup; invokespecial; athrow -/
theorem vx_throw0 {cc : ByteArray} {pc : Nat} (hexec : p.tables.exec = Jvm.exec) (hb : c.code = cc) (hl : l.stackTraces = false) {own cls : String} {names : List String} {ik ic mc ms : Nat} {A : Nat → Prop}
    (hown : s.vm.findClass own = some m.cls) (hcls : Bundle.fit cls = true) (hnames : ∀ n ∈ names, Bundle.fit n = true)
    (hk : (Cond.classLink own ik cls).before args s = true) (hini : (Cond.initialized cls).before args s = true) (hat : ∀ w ∈ vx_at0 own ic cls names, w.before args s = true)
    (hgood : ∀ w ∈ Cond.classLink own ik cls :: Cond.initialized cls :: vx_at0 own ic cls names, vx_ot w = true)
    (hU : vx_Zq Bundle.tN "UNASSIGNED_STACK" Bundle.steD A s s.heap) (hN : vx_Zq Bundle.tN "SUPPRESSED_SENTINEL" Bundle.listD A s s.heap) (hS : va_S A s.heap H locs) (hsize : ls.size = c.maxLocals)
    (d0 : decode cc pc = .ok (.new ik, 3)) (d3 : decode cc (pc + 3) = .ok (.dup, 1)) (d4 : decode cc (pc + 4) = .ok (.invokespecial ic, 3)) (d7 : decode cc (pc + 7) = .ok (.athrow, 1))
    (hout : ∀ x ∈ c.exceptionTable.toList, covers x (pc + 7) = false)
    (hRframes : names.length + 3 < R.frames) (hRlocals : (rest.map fun v => v.category).sum + (13 * (names.length + 1) + 42) ≤ R.locals) (hRcells : cells + 1 ≤ R.cells) (hRslots : slots + 6 ≤ R.slots) (hlocks : meth.locks = false)
    (hx : ∀ t : State, s.vm.Alike t.vm → H.size ≤ t.heap.size → (∀ q : Nat, q < H.size → t.heap[q]? = H[q]?) → XC cls s t)
    (hf : ∀ z ∈ locs, free z.base) (hc : cells + 1 ≤ mc) (hs : slots + 6 ≤ ms) :
    W p l e R s m args below meth c H locs cells slots (vx_MQ below Qc XC args s mc ms free) (F0 m pc ls rest) := by
  intro T hT X
  have htr : e.platform.stackTraces = false := (show e.platform.stackTraces = l.stackTraces by rw [X.admits.platform]).trans hl
  have Y := vx_rebase X (R' := { frames := R.frames, locals := R.locals, cells := 1, slots := 6 }) (Nat.le_refl _) (Nat.le_refl _) hRcells hRslots
  obtain ⟨s', hA⟩ : ∃ z, z = (T.setVm s.vm).setFrames (.invoking m args :: below) := ⟨_, rfl⟩
  rw [← hA] at Y
  have hvm : s'.vm = s.vm := by rw [hA]; rfl
  have hhp : s'.heap = H := by rw [hA]; exact hT
  have hW0 : s.WarmedH s'.vm := by rw [hvm]; exact State.WarmedH.refl s
  have hat' : ∀ w ∈ vx_at0 own ic cls names, w.before args s' = true := fun w hw => vx_ot_at hW0 hvm.symm (hgood w (List.mem_cons_of_mem _ (List.mem_cons_of_mem _ hw))) (hat w hw)
  have hk' : (Cond.classLink own ik cls).before args s' = true := vx_ot_at hW0 hvm.symm (hgood _ List.mem_cons_self) hk
  have hini' : (Cond.initialized cls).before args s' = true := vx_ot_at hW0 hvm.symm (hgood _ (List.mem_cons_of_mem _ List.mem_cons_self)) hini
  have hU' : vx_Zq Bundle.tN "UNASSIGNED_STACK" Bundle.steD A s' s'.heap := by rw [hhp]; exact vx_Zq.moved hW0.alike (hU.kept hS.2.1)
  have hN' : vx_Zq Bundle.tN "SUPPRESSED_SENTINEL" Bundle.listD A s' s'.heap := by rw [hhp]; exact vx_Zq.moved hW0.alike (hN.kept hS.2.1)
  have h : ∀ w ∈ Bundle.ownAtoms0 own ic cls names, w.before args s' = true := vx_own hat' (vx_isRefq hU'.1) (vx_isRefq hN'.1) hU'.2.word hN'.2.word
  have hown' : s'.vm.findClass own = some m.cls := by rw [hvm]; exact hown
  have hins : (Cond.instantiable cls 6).before args s' = true := h _ (by simp [Bundle.ownAtoms0])
  obtain ⟨vm₁, cX, kX, hfX, hkX, -, -, X₁, st1⟩ := Y.newCold hexec (own := own) (C := cls) (index := ik) (n := 6) hown' hk' hins hini'
    (g := F0 m pc ls rest) rfl (by rw [hb]; exact d0) (Nat.le_refl _) (Nat.le_refl _)
  generalize hT1 : (T.setVm vm₁).pushCell { cls := cX, slots := kX.instanceTypes.map defaultValue, vm := .none } = T1 at X₁ st1
  have hcat : (Value.ref T.heap.size).category = 1 := rfl
  have hcellA : T1.heap[T.heap.size]? = some (freshCell cX kX) := by rw [← hT1]; exact State.heap_pushCell_size _ _
  have d3' : decode c.code (pc + 3) = .ok (.dup, 1) := by rw [hb]; exact d3
  obtain ⟨U, hsteps, hrun, hend, hW, hsame, ce, hce, hO⟩ := X₁.ctorThrow0 hexec htr (own := own) (cls := cls) (names := names) (ic := ic) hown' hcls hnames h (fun x hx => nomatch hx) hfX hkX hcellA (by rw [hhp, hT]; exact Nat.le_refl _)
    (g := { method := m, pc := pc + 4, locals := ls, stack := .ref T.heap.size :: .ref T.heap.size :: rest, locked := none }) rfl hsize rfl rfl (rest := rest) rfl
    (by rw [hb]; exact d4) (by rw [hb]; exact d7) hout hRframes (by simp only [List.map_cons, List.sum_cons, hcat]; omega) hlocks
  obtain ⟨f1, f2⟩ := vx_frame hsame
  rw [hhp] at f1 f2
  have hWs : s.WarmedH U.vm := State.WarmedH.trans hW0 hW
  have hcl : s.vm.findClass cls = some ce.cls := by
    have h9 := hO.cls
    rw [hvm] at h9
    exact h9
  have hall : s.sameButNew ({ U with vm := s.vm } : State) locs mc ms := by
    subst hA
    obtain ⟨e1, e2⟩ := hsame
    rw [State.setFrames_setFrames] at e1
    have h2 : (T.setVm s.vm).sameButNew ({ U with vm := s.vm } : State) [] (0 + 1) (0 + 6) := ⟨e1, e2⟩
    have h3 := X.same.trans h2
    rw [List.append_nil] at h3
    exact h3.mono hc hs
  refine ⟨U, ?_, .threw T.heap.size, hrun, hend, Or.inr ⟨T.heap.size, rfl, cls, ce, locs, hx U hWs.alike f1 (fun q hq => f2 q hq (fun z hz => nomatch hz)), hce, hO.vm, hcl, hWs, hall, hf⟩⟩
  refine st1 _ ?_
  show Steps p.tables e below (T1.setTop { method := m, pc := pc + 3, locals := ls, stack := .ref T.heap.size :: rest, locked := none }) _
  jvm_step X₁.here [X₁.here.top, hexec, d3', Value.category]
  exact hsteps
/-- 'throw new E("text")': new; dup; ldc; invokespecial; athrow -/
theorem vx_throwS {cc : ByteArray} {pc : Nat} (hexec : p.tables.exec = Jvm.exec) (hb : c.code = cc) (hl : l.stackTraces = false) {own cls text : String} {names : List String} {ik is ic mc ms sa : Nat} {A : Nat → Prop}
    (hown : s.vm.findClass own = some m.cls) (hcls : Bundle.fit cls = true) (hnames : ∀ n ∈ names, Bundle.fit n = true)
    (hk : (Cond.classLink own ik cls).before args s = true) (hini : (Cond.initialized cls).before args s = true) (hstr : vk_R own is text sa s) (hat : ∀ w ∈ vx_atS own ic cls names, w.before args s = true)
    (hgood : ∀ w ∈ Cond.classLink own ik cls :: Cond.initialized cls :: vx_atS own ic cls names, vx_ot w = true)
    (hU : vx_Zq Bundle.tN "UNASSIGNED_STACK" Bundle.steD A s s.heap) (hN : vx_Zq Bundle.tN "SUPPRESSED_SENTINEL" Bundle.listD A s s.heap) (hS : va_S A s.heap H locs) (hsize : ls.size = c.maxLocals)
    (d0 : decode cc pc = .ok (.new ik, 3)) (d3 : decode cc (pc + 3) = .ok (.dup, 1)) (d4 : decode cc (pc + 4) = .ok (.ldc is, 2)) (d6 : decode cc (pc + 6) = .ok (.invokespecial ic, 3)) (d9 : decode cc (pc + 9) = .ok (.athrow, 1))
    (hout : ∀ x ∈ c.exceptionTable.toList, covers x (pc + 9) = false)
    (hRframes : names.length + 3 < R.frames) (hRlocals : (rest.map fun v => v.category).sum + (13 * (names.length + 1) + 43) ≤ R.locals) (hRcells : cells + 1 ≤ R.cells) (hRslots : slots + 6 ≤ R.slots) (hlocks : meth.locks = false)
    (hx : ∀ t : State, s.vm.Alike t.vm → H.size ≤ t.heap.size → (∀ q : Nat, q < H.size → t.heap[q]? = H[q]?) → XC cls s t)
    (hf : ∀ z ∈ locs, free z.base) (hc : cells + 1 ≤ mc) (hs : slots + 6 ≤ ms) :
    W p l e R s m args below meth c H locs cells slots (vx_MQ below Qc XC args s mc ms free) (F0 m pc ls rest) := by
  intro T hT X
  have htr : e.platform.stackTraces = false := (show e.platform.stackTraces = l.stackTraces by rw [X.admits.platform]).trans hl
  have Y := vx_rebase X (R' := { frames := R.frames, locals := R.locals, cells := 1, slots := 6 }) (Nat.le_refl _) (Nat.le_refl _) hRcells hRslots
  obtain ⟨s', hA⟩ : ∃ z, z = (T.setVm s.vm).setFrames (.invoking m args :: below) := ⟨_, rfl⟩
  rw [← hA] at Y
  have hvm : s'.vm = s.vm := by rw [hA]; rfl
  have hhp : s'.heap = H := by rw [hA]; exact hT
  have hW0 : s.WarmedH s'.vm := by rw [hvm]; exact State.WarmedH.refl s
  have hat' : ∀ w ∈ vx_atS own ic cls names, w.before args s' = true := fun w hw => vx_ot_at hW0 hvm.symm (hgood w (List.mem_cons_of_mem _ (List.mem_cons_of_mem _ hw))) (hat w hw)
  have hk' : (Cond.classLink own ik cls).before args s' = true := vx_ot_at hW0 hvm.symm (hgood _ List.mem_cons_self) hk
  have hini' : (Cond.initialized cls).before args s' = true := vx_ot_at hW0 hvm.symm (hgood _ (List.mem_cons_of_mem _ List.mem_cons_self)) hini
  have hU' : vx_Zq Bundle.tN "UNASSIGNED_STACK" Bundle.steD A s' s'.heap := by rw [hhp]; exact vx_Zq.moved hW0.alike (hU.kept hS.2.1)
  have hN' : vx_Zq Bundle.tN "SUPPRESSED_SENTINEL" Bundle.listD A s' s'.heap := by rw [hhp]; exact vx_Zq.moved hW0.alike (hN.kept hS.2.1)
  have h : ∀ w ∈ Bundle.ownAtoms own ic cls names, w.before args s' = true := vx_own hat' (vx_isRefq hU'.1) (vx_isRefq hN'.1) hU'.2.word hN'.2.word
  have hown' : s'.vm.findClass own = some m.cls := by rw [hvm]; exact hown
  have hins : (Cond.instantiable cls 6).before args s' = true := h _ (by simp [Bundle.ownAtoms])
  obtain ⟨vm₁, cX, kX, hfX, hkX, -, -, X₁, st1⟩ := Y.newCold hexec (own := own) (C := cls) (index := ik) (n := 6) hown' hk' hins hini'
    (g := F0 m pc ls rest) rfl (by rw [hb]; exact d0) (Nat.le_refl _) (Nat.le_refl _)
  generalize hT1 : (T.setVm vm₁).pushCell { cls := cX, slots := kX.instanceTypes.map defaultValue, vm := .none } = T1 at X₁ st1
  have hcat : (Value.ref T.heap.size).category = 1 := rfl
  have hcellA : T1.heap[T.heap.size]? = some (freshCell cX kX) := by rw [← hT1]; exact State.heap_pushCell_size _ _
  have d3' : decode c.code (pc + 3) = .ok (.dup, 1) := by rw [hb]; exact d3
  have d4' : decode c.code (pc + 4) = .ok (.ldc is, 2) := by rw [hb]; exact d4
  have hstr' : vk_R own is text sa s' := vk_R.warm hW0 hstr
  obtain ⟨U, hsteps, hrun, hend, hW, hsame, ce, hce, hO⟩ := X₁.ctorThrowS hexec htr (own := own) (cls := cls) (names := names) (ic := ic) hown' hcls hnames h (fun x hx => nomatch hx) hfX hkX hcellA (by rw [hhp, hT]; exact Nat.le_refl _) (msg := .ref sa) rfl
    (g := { method := m, pc := pc + 6, locals := ls, stack := .ref sa :: .ref T.heap.size :: .ref T.heap.size :: rest, locked := none }) rfl hsize rfl rfl (rest := rest) rfl
    (by rw [hb]; exact d6) (by rw [hb]; exact d9) hout hRframes (by simp only [List.map_cons, List.sum_cons, hcat]; omega) hlocks
  obtain ⟨f1, f2⟩ := vx_frame hsame
  rw [hhp] at f1 f2
  have hWs : s.WarmedH U.vm := State.WarmedH.trans hW0 hW
  have hcl : s.vm.findClass cls = some ce.cls := by
    have h9 := hO.cls
    rw [hvm] at h9
    exact h9
  have hall : s.sameButNew ({ U with vm := s.vm } : State) locs mc ms := by
    subst hA
    obtain ⟨e1, e2⟩ := hsame
    rw [State.setFrames_setFrames] at e1
    have h2 : (T.setVm s.vm).sameButNew ({ U with vm := s.vm } : State) [] (0 + 1) (0 + 6) := ⟨e1, e2⟩
    have h3 := X.same.trans h2
    rw [List.append_nil] at h3
    exact h3.mono hc hs
  refine ⟨U, ?_, .threw T.heap.size, hrun, hend, Or.inr ⟨T.heap.size, rfl, cls, ce, locs, hx U hWs.alike f1 (fun q hq => f2 q hq (fun z hz => nomatch hz)), hce, hO.vm, hcl, hWs, hall, hf⟩⟩
  refine st1 _ ?_
  show Steps p.tables e below (T1.setTop { method := m, pc := pc + 3, locals := ls, stack := .ref T.heap.size :: rest, locked := none }) _
  jvm_step X₁.here [X₁.here.top, hexec, d3', Value.category]
  exact X₁.ldcString hexec (own := own) (text := text) (index := is) (a := sa) hown' hstr'.1 hstr'.2
    (g := { method := m, pc := pc + 4, locals := ls, stack := .ref T.heap.size :: .ref T.heap.size :: rest, locked := none }) rfl d4' _ hsteps
/-- 'throw new E("text")', the text by a wide index -/
theorem vx_throwSW {cc : ByteArray} {pc : Nat} (hexec : p.tables.exec = Jvm.exec) (hb : c.code = cc) (hl : l.stackTraces = false) {own cls text : String} {names : List String} {ik is ic mc ms sa : Nat} {A : Nat → Prop}
    (hown : s.vm.findClass own = some m.cls) (hcls : Bundle.fit cls = true) (hnames : ∀ n ∈ names, Bundle.fit n = true)
    (hk : (Cond.classLink own ik cls).before args s = true) (hini : (Cond.initialized cls).before args s = true) (hstr : vk_R own is text sa s) (hat : ∀ w ∈ vx_atS own ic cls names, w.before args s = true)
    (hgood : ∀ w ∈ Cond.classLink own ik cls :: Cond.initialized cls :: vx_atS own ic cls names, vx_ot w = true)
    (hU : vx_Zq Bundle.tN "UNASSIGNED_STACK" Bundle.steD A s s.heap) (hN : vx_Zq Bundle.tN "SUPPRESSED_SENTINEL" Bundle.listD A s s.heap) (hS : va_S A s.heap H locs) (hsize : ls.size = c.maxLocals)
    (d0 : decode cc pc = .ok (.new ik, 3)) (d3 : decode cc (pc + 3) = .ok (.dup, 1)) (d4 : decode cc (pc + 4) = .ok (.ldc_w is, 3)) (d7 : decode cc (pc + 7) = .ok (.invokespecial ic, 3)) (d10 : decode cc (pc + 10) = .ok (.athrow, 1))
    (hout : ∀ x ∈ c.exceptionTable.toList, covers x (pc + 10) = false)
    (hRframes : names.length + 3 < R.frames) (hRlocals : (rest.map fun v => v.category).sum + (13 * (names.length + 1) + 43) ≤ R.locals) (hRcells : cells + 1 ≤ R.cells) (hRslots : slots + 6 ≤ R.slots) (hlocks : meth.locks = false)
    (hx : ∀ t : State, s.vm.Alike t.vm → H.size ≤ t.heap.size → (∀ q : Nat, q < H.size → t.heap[q]? = H[q]?) → XC cls s t)
    (hf : ∀ z ∈ locs, free z.base) (hc : cells + 1 ≤ mc) (hs : slots + 6 ≤ ms) :
    W p l e R s m args below meth c H locs cells slots (vx_MQ below Qc XC args s mc ms free) (F0 m pc ls rest) := by
  intro T hT X
  have htr : e.platform.stackTraces = false := (show e.platform.stackTraces = l.stackTraces by rw [X.admits.platform]).trans hl
  have Y := vx_rebase X (R' := { frames := R.frames, locals := R.locals, cells := 1, slots := 6 }) (Nat.le_refl _) (Nat.le_refl _) hRcells hRslots
  obtain ⟨s', hA⟩ : ∃ z, z = (T.setVm s.vm).setFrames (.invoking m args :: below) := ⟨_, rfl⟩
  rw [← hA] at Y
  have hvm : s'.vm = s.vm := by rw [hA]; rfl
  have hhp : s'.heap = H := by rw [hA]; exact hT
  have hW0 : s.WarmedH s'.vm := by rw [hvm]; exact State.WarmedH.refl s
  have hat' : ∀ w ∈ vx_atS own ic cls names, w.before args s' = true := fun w hw => vx_ot_at hW0 hvm.symm (hgood w (List.mem_cons_of_mem _ (List.mem_cons_of_mem _ hw))) (hat w hw)
  have hk' : (Cond.classLink own ik cls).before args s' = true := vx_ot_at hW0 hvm.symm (hgood _ List.mem_cons_self) hk
  have hini' : (Cond.initialized cls).before args s' = true := vx_ot_at hW0 hvm.symm (hgood _ (List.mem_cons_of_mem _ List.mem_cons_self)) hini
  have hU' : vx_Zq Bundle.tN "UNASSIGNED_STACK" Bundle.steD A s' s'.heap := by rw [hhp]; exact vx_Zq.moved hW0.alike (hU.kept hS.2.1)
  have hN' : vx_Zq Bundle.tN "SUPPRESSED_SENTINEL" Bundle.listD A s' s'.heap := by rw [hhp]; exact vx_Zq.moved hW0.alike (hN.kept hS.2.1)
  have h : ∀ w ∈ Bundle.ownAtoms own ic cls names, w.before args s' = true := vx_own hat' (vx_isRefq hU'.1) (vx_isRefq hN'.1) hU'.2.word hN'.2.word
  have hown' : s'.vm.findClass own = some m.cls := by rw [hvm]; exact hown
  have hins : (Cond.instantiable cls 6).before args s' = true := h _ (by simp [Bundle.ownAtoms])
  obtain ⟨vm₁, cX, kX, hfX, hkX, -, -, X₁, st1⟩ := Y.newCold hexec (own := own) (C := cls) (index := ik) (n := 6) hown' hk' hins hini'
    (g := F0 m pc ls rest) rfl (by rw [hb]; exact d0) (Nat.le_refl _) (Nat.le_refl _)
  generalize hT1 : (T.setVm vm₁).pushCell { cls := cX, slots := kX.instanceTypes.map defaultValue, vm := .none } = T1 at X₁ st1
  have hcat : (Value.ref T.heap.size).category = 1 := rfl
  have hcellA : T1.heap[T.heap.size]? = some (freshCell cX kX) := by rw [← hT1]; exact State.heap_pushCell_size _ _
  have d3' : decode c.code (pc + 3) = .ok (.dup, 1) := by rw [hb]; exact d3
  have d4' : decode c.code (pc + 4) = .ok (.ldc_w is, 3) := by rw [hb]; exact d4
  have hstr' : vk_R own is text sa s' := vk_R.warm hW0 hstr
  obtain ⟨U, hsteps, hrun, hend, hW, hsame, ce, hce, hO⟩ := X₁.ctorThrowS hexec htr (own := own) (cls := cls) (names := names) (ic := ic) hown' hcls hnames h (fun x hx => nomatch hx) hfX hkX hcellA (by rw [hhp, hT]; exact Nat.le_refl _) (msg := .ref sa) rfl
    (g := { method := m, pc := pc + 7, locals := ls, stack := .ref sa :: .ref T.heap.size :: .ref T.heap.size :: rest, locked := none }) rfl hsize rfl rfl (rest := rest) rfl
    (by rw [hb]; exact d7) (by rw [hb]; exact d10) hout hRframes (by simp only [List.map_cons, List.sum_cons, hcat]; omega) hlocks
  obtain ⟨f1, f2⟩ := vx_frame hsame
  rw [hhp] at f1 f2
  have hWs : s.WarmedH U.vm := State.WarmedH.trans hW0 hW
  have hcl : s.vm.findClass cls = some ce.cls := by
    have h9 := hO.cls
    rw [hvm] at h9
    exact h9
  have hall : s.sameButNew ({ U with vm := s.vm } : State) locs mc ms := by
    subst hA
    obtain ⟨e1, e2⟩ := hsame
    rw [State.setFrames_setFrames] at e1
    have h2 : (T.setVm s.vm).sameButNew ({ U with vm := s.vm } : State) [] (0 + 1) (0 + 6) := ⟨e1, e2⟩
    have h3 := X.same.trans h2
    rw [List.append_nil] at h3
    exact h3.mono hc hs
  refine ⟨U, ?_, .threw T.heap.size, hrun, hend, Or.inr ⟨T.heap.size, rfl, cls, ce, locs, hx U hWs.alike f1 (fun q hq => f2 q hq (fun z hz => nomatch hz)), hce, hO.vm, hcl, hWs, hall, hf⟩⟩
  refine st1 _ ?_
  show Steps p.tables e below (T1.setTop { method := m, pc := pc + 3, locals := ls, stack := .ref T.heap.size :: rest, locked := none }) _
  jvm_step X₁.here [X₁.here.top, hexec, d3', Value.category]
  exact X₁.ldcStringW hexec (own := own) (text := text) (index := is) (a := sa) hown' hstr'.1 hstr'.2
    (g := { method := m, pc := pc + 4, locals := ls, stack := .ref T.heap.size :: .ref T.heap.size :: rest, locked := none }) rfl d4' _ hsteps
end Ends
section Bodies
variable {l : Launch}
theorem vx_ofW {y : MethodName} {ws ws' : List Cond} {rm : Room} {Pc : Array Value → State → Prop} {Qc : Array Value → State → Outcome → State → Prop} {XC : String → State → State → Prop} {mc ms : Nat} {free : Addr → Prop} {cc : ByteArray} {maxL : Nat} {ret : Option FieldType}
    (hy : plainName y.cls = true) (hw : ws = Cond.code y cc maxL ret :: ws')
    (body : ∀ p e s m args below meth c s₁, BodyLoose p l y (headSpec ws rm) cc maxL ret e s m args below meth c s₁ → c.maxLocals = maxL → (∀ x ∈ c.exceptionTable.toList, False) → Pc args s →
      W p l e (headSpec ws rm).room s m args below meth c s.heap [] 0 0 (vx_MQ below Qc XC args s mc ms free) (entryFrame m args maxL)) : vx_Met l y ws rm Pc Qc XC mc ms free := by
  refine MetFree.of_bodyS (code := cc) (maxLocals := maxL) (ret := ret) hy ?_ ?_
  · intro args s m h hn
    obtain ⟨meth, c, h1, h2, h3, h4, h5, h6, -, -⟩ := Cond.code_spec hn (atoms_spec (ws := ws) h _ (by rw [hw]; exact List.mem_cons_self))
    exact ⟨meth, c, h1, h2, h3, h4, h5, h6⟩
  · intro p e s m args below meth c s₁ B hml hP _
    have hh0 : s₁.heap = s.heap := by rw [B.state]; rfl
    have ht : ∀ x ∈ c.exceptionTable.toList, False := by
      obtain ⟨meth9, c9, h1, h2, -, -, -, -, h7, -⟩ := Cond.code_spec B.named (atoms_spec (ws := ws) B.pre _ (by rw [hw]; exact List.mem_cons_self))
      cases Option.some.inj (h1.symm.trans B.method)
      cases Option.some.inj (h2.symm.trans (Stand.of_body B).code)
      intro x hx
      rw [Array.isEmpty_iff.mp h7] at hx
      cases hx
    obtain ⟨t, a1, o, b1, b2, b3⟩ := body p e s m args below meth c s₁ B hml ht hP s₁ hh0 (Stand.of_body B)
    exact ⟨t, o, a1, b1, b2, b3⟩
/-- the table of a body with handlers -/
theorem vx_table {p : Program} {x y : MethodName} {S : Spec} {cc bytes : ByteArray} {maxL maxL' : Nat} {ret ret' : Option FieldType} {e : Env} {s s₁ : State} {m : MethodId} {args : Array Value} {below : List Frame} {meth : Method} {c : Code} {hh : List (Nat × Nat × Nat × Nat)}
    (B : BodyLoose p l y S cc maxL ret e s m args below meth c s₁) (h : (Cond.codeWith y bytes maxL' ret' hh).before args s = true) : c.exceptionTable.toList = tableOf hh := by
  obtain ⟨m9, meth9, c9, hn9, h1, h2, -, -, h6, -⟩ := Cond.codeWith_spec h
  cases Option.some.inj (hn9.symm.trans B.named)
  cases Option.some.inj (h1.symm.trans B.method)
  cases Option.some.inj (h2.symm.trans (Stand.of_body B).code)
  rw [← h6, table_eq]
end Bodies
end VXA
/-! ===== END ===== -/
/-! ===== BEGIN a static call of a method with an exception table ===== -/
section VXS
variable {p : Program} {l : Launch} {e : Env} {R : Room} {s : State} {m : MethodId} {args : Array Value} {below : List Frame} {meth : Method} {c : Code} {T : State} {H : Heap} {locs : List Loc} {cells slots : Nat}
abbrev vx_CSW (R : Room) (s : State) (args : Array Value) (own : String) (index : Nat) (y : MethodName) (bytes : ByteArray) (maxL : Nat) (ret : Option FieldType) (hh : List (Nat × Nat × Nat × Nat)) (ws : List Cond) (rm : Room) (mc ms n : Nat) : Prop :=
  (rm.cells = mc ∧ rm.slots = ms ∧ rm.frames + 1 ≤ R.frames ∧ 8 + (maxL + 11) + rm.locals ≤ R.locals ∧ (∀ w ∈ ws, ∀ (a' : Array Value) (U : State), s.WarmedH U.vm → w.before a' U = true) ∧ Cond.codeWith y bytes maxL ret hh ∈ ws) ∧
  (Cond.codeWith y bytes maxL ret hh).before args s = true ∧ (Cond.initialized y.cls).before args s = true ∧ (y.cls ≠ "java/lang/invoke/MethodHandle" ∧ y.cls ≠ "java/lang/invoke/VarHandle") ∧
  (∀ sig, parseMethodDescriptor y.desc = some sig → n = sig.parameters.length) ∧ (Cond.methodLink own index y).before args s = true ∧ (Cond.static y).before args s = true
theorem vx_cwSW {own : String} {index maxL mc ms : Nat} {y : MethodName} {bytes : ByteArray} {ret : Option FieldType} {hh : List (Nat × Nat × Nat × Nat)} {Ts ws ws' : List Cond} {rm : Room} (n : Nat) (ht : ∀ w ∈ Ts, w.before args s = true) (hT : GoodIn Ts (va_wsS own index y ws)) (hw : ws = Cond.codeWith y bytes maxL ret hh :: ws') (hrc : rm.cells = mc) (hrs : rm.slots = ms)
    (hd : y.cls ≠ "java/lang/invoke/MethodHandle" ∧ y.cls ≠ "java/lang/invoke/VarHandle" ∧ (parseMethodDescriptor y.desc).map (fun d => d.parameters.length) = some n) (hR : rm.frames + 1 ≤ R.frames ∧ 8 + (maxL + 11) + rm.locals ≤ R.locals) :
    vx_CSW R s args own index y bytes maxL ret hh ws rm mc ms n := by
  have ok : ∀ w ∈ va_wsS own index y ws, w.before args s = true := fun w h => ht w (hT w h).1
  have hG : GoodIn Ts ws := fun w h => hT w (by unfold va_wsS; exact List.mem_append_right _ h)
  have hc : Cond.codeWith y bytes maxL ret hh ∈ ws := by rw [hw]; exact List.mem_cons_self
  refine ⟨⟨hrc, hrs, hR.1, hR.2, pay_in ht hG, hc⟩, ht _ (hG _ hc).1, ok _ (by simp [va_wsS]), ⟨hd.1, hd.2.1⟩, fun sig h => ?_, ok _ (by simp [va_wsS]), ok _ (by simp [va_wsS])⟩
  have h2 := hd.2.2
  rw [h] at h2
  exact (Option.some.inj h2).symm
theorem vx_callSW (X : Stand p l e R s m args below meth c T locs cells slots) (hexec : p.tables.exec = Jvm.exec) {own : String} {index : Nat} {y : MethodName} {bytes : ByteArray} {maxL : Nat} {ret : Option FieldType} {hh : List (Nat × Nat × Nat × Nat)}
    (hown : s.vm.findClass own = some m.cls) (hlink : (Cond.methodLink own index y).before args s = true) (hstat : (Cond.static y).before args s = true) (hinit : (Cond.initialized y.cls).before args s = true)
    (hcode : (Cond.codeWith y bytes maxL ret hh).before args s = true) (hy : y.cls ≠ "java/lang/invoke/MethodHandle" ∧ y.cls ≠ "java/lang/invoke/VarHandle")
    {W9 : Nat} {Pre : Pt → Array Value → Prop} {Post : Pt → Array Value → Option Value → Pt → Prop} (hK : Back l R p e below s args y 3 W9 Pre Post)
    {g : JFrame} (hg : g.method = m) (hsize : g.locals.size = c.maxLocals) {argsL rest : List Value} (hlen : ∀ sig, parseMethodDescriptor y.desc = some sig → argsL.length = sig.parameters.length)
    (hstack : g.stack = argsL.reverse ++ rest) (hW : 2 * g.monitorRoom + (rest.map fun v => v.category).sum ≤ W9) (hdg : decode c.code g.pc = .ok (.invokestatic index, 3))
    (hpre : ∀ vm₁, s.WarmedH vm₁ → Pre ⟨T.setVm vm₁, locs, cells, slots⟩ argsL.toArray) :
    ∃ (v : Option Value) (vm₁ : Vm) (B : Pt), s.WarmedH vm₁ ∧ Stand p l e R s m args below meth c B.U B.locs B.cells B.slots ∧ Post ⟨T.setVm vm₁, locs, cells, slots⟩ argsL.toArray v B ∧
      ∀ target, Steps p.tables e below (B.U.setTop { g with pc := g.pc + 3, stack := v.toList ++ rest }) target → Steps p.tables e below (T.setTop g) target := by
  obtain ⟨mk, methM, cM, hnamed, hmethM, -, -, -, -, -, -, hsigM⟩ := Cond.codeWith_spec hcode
  have hstatic : methM.isStatic = true := Cond.static_spec hnamed hmethM hstat
  obtain ⟨kP, hkP, -⟩ := className_of_methodNamed hnamed
  have hinitP : kP.init = .initialized := Cond.initialized_spec (findClass_of_methodNamed hnamed) hkP hinit
  obtain ⟨vm₁, X₁, hstep₁⟩ := X.invokestatic hexec hown hlink hnamed hmethM hstatic hkP hinitP hy (g := g) hg (argsL := argsL) (rest := rest) (hlen _ hsigM) hstack hdg
  obtain ⟨v, B, X', hpost, hsteps⟩ := hK m meth c ⟨T.setVm vm₁, locs, cells, slots⟩ { g with stack := rest } (.invokestatic index) mk argsL.toArray X₁ hg hsize hdg hW (X₁.named hnamed) (hpre vm₁ X₁.warmed)
  exact ⟨v, vm₁, B, X₁.warmed, X', hpost, fun target h => hstep₁ _ fun acts => by rw [doInvoke_state]; exact hsteps.trans h⟩
theorem vx_runSW {y : MethodName} {bytes cc : ByteArray} {maxL nL mc ms n index : Nat} {ret : Option FieldType} {hh : List (Nat × Nat × Nat × Nat)} {ws : List Cond} {rm : Room} {Pc : Array Value → State → Prop} {Qc : Array Value → State → Outcome → State → Prop} {free : Addr → Prop} {Ts : List Cond} {own : String} {As rest : List Value} {g : JFrame}
    (S : CallFix p m c cc nL s args Ts own) (hM : Met l y ws rm Pc Qc mc ms free) (cw : vx_CSW R s args own index y bytes maxL ret hh ws rm mc ms n) (hp : PreS s H Pc As)
    (hg : g.method = m) (hn : As.length = n) (hsize : g.locals.size = nL) (hstack : g.stack = As.reverse ++ rest) (hW : 2 * g.monitorRoom + (rest.map fun v => v.category).sum ≤ 8) (hdg : decode cc g.pc = .ok (.invokestatic index, 3)) (hf : cells + mc ≤ R.cells ∧ slots + ms ≤ R.slots) :
    va_Run p l e R s m args below meth c H locs cells slots mc ms g rest (Qc As.toArray) (free) := by
  obtain ⟨⟨hrc, hrs, hfr, hlo, hws, hcw⟩, hcode, hini, hy, hlen, hl, hstt⟩ := cw
  have hK : Back l R p e below s args y 3 8 (PreOf R mc ms Pc) (PostOf Qc mc ms free) := va_backW (hh := hh) (bytes := bytes) (maxL := maxL) (ret := ret) hM hp.1 hrc hrs hfr hlo hws hcw (fun a' U hW => word_at hW (Or.inl (by first | rfl | simp [Cond.onTables, Cond.keeps, Cond.steady])) hini)
  obtain ⟨hx, hb, hml, ho, -⟩ := S
  intro T hT X
  obtain ⟨v, vm₁, ⟨U', l2, c2, s2⟩, hW₁, X', ⟨g', mk, t, L, e1, e2, hq, h1, hL, h2, h3⟩, st⟩ := vx_callSW X hx (hh := hh) (bytes := bytes) (maxL := maxL) (ret := ret) ho hl hstt hini hcode hy hK hg (hsize.trans hml.symm) (argsL := As) (rest := rest) (fun sig h => hn.trans (hlen sig h)) hstack hW (by rw [hb]; exact hdg)
    (fun vm₁ hW₁ => ⟨hf.1, hf.2, hp.2 (T.setVm vm₁) hT hW₁⟩)
  dsimp only [Pt.U, Pt.locs, Pt.cells, Pt.slots] at X' e1 e2 h1 h2 h3 st
  subst h1; subst h2; subst h3
  exact ⟨v, (T.setVm vm₁).calling g' mk As.toArray, t, U', L, hT, X', hL, e1, e2, hq, st⟩
/-- not caught here, past rows that name other classes: it goes on to the caller -/
theorem vx_outP {p : Program} {l : Launch} {e : Env} {R : Room} {s : State} {m : MethodId} {args : Array Value} {below : List Frame} {meth : Method} {c : Code} {H : Heap} {locs : List Loc} {cells slots : Nat} {free : Addr → Prop} {ls : Array Slot} {rest : List Value} {Qc : Array Value → State → Outcome → State → Prop} {XC : String → State → State → Prop}
    {pc : Nat} {own E : String} {ce : Cell} {q : Addr} {mc ms : Nat} (hown : s.vm.findClass own = some m.cls) (hlocks : meth.locks = false)
    (hpass : ∀ z ∈ c.exceptionTable.toList, covers z pc = false ∨ (z.catchType ≠ 0 ∧ ∃ nm : String, (Cond.classLink own z.catchType nm).before args s = true ∧ va_Nc E nm s)) (hcell : H[q]? = some ce) (hv : ce.vm = .none) (hcl : s.vm.findClass E = some ce.cls)
    (hx : ∀ t : State, t.heap = H → s.vm.Alike t.vm → XC E s t) (hf : ∀ z ∈ locs, free z.base) (hc : cells ≤ mc) (hs : slots ≤ ms) :
    vx_W p l e R s m args below meth c H locs cells slots (vx_MQ below Qc XC args s mc ms free) (F0 m pc ls rest) q := by
  intro T hT X
  have hpl : e.platform.magicAccessors = ({} : Platform).magicAccessors := by rw [X.admits.platform]
  obtain ⟨vm', hW', X', st⟩ := X.outThrough hlocks q (g := F0 m pc ls rest) rfl rfl rfl (cell := ce) (by rw [hT]; exact hcell) (by rw [hv]; rfl)
    (by obtain ⟨k9, h9, -⟩ := Vm.findClass_spec hcl; exact ⟨k9, h9⟩) (fun z hz => by
      rcases hpass z hz with h | ⟨hz0, nm, hl1, hn1⟩
      · exact Or.inl h
      · obtain ⟨c6, hc6, hcl6⟩ := Cond.classLink_spec hown hl1 e.platform hpl
        obtain ⟨a8, b8, h1, h2, h3⟩ := hn1
        cases Option.some.inj (h1.symm.trans hcl)
        cases Option.some.inj (h2.symm.trans hc6)
        exact Or.inr ⟨hz0, _, hcl6, h3⟩)
  obtain ⟨g₀, hfr⟩ := X'.frames_eq
  have hcell9 : ((T.setVm vm').setFrames (.throwing q :: below)).heap[q]? = some ce := by
    show T.heap[q]? = some ce
    rw [hT]; exact hcell
  have hend : Ended ((T.setVm vm').setFrames (.throwing q :: below)) below (.threw q) := State.frames_setFrames _ (State.cur_lt_of_frames hfr)
  refine ⟨(T.setVm vm').setFrames (.throwing q :: below), ?_, .threw q, X'.here.running, hend, Or.inr ⟨q, rfl, E, ce, locs, hx _ hT (X'.ends _).1.alike, hcell9, hv, hcl, (X'.ends _).1, (X'.ends _).2.mono hc hs, hf⟩⟩
  rw [X.pushThrowing_eq]
  exact st
/-- a thing of a world lies in the heap -/
theorem vx_lt {D : va_G} {cl : List vw_C} {ws : va_W} {H1 : Heap} (h : va_P D cl ws H1) {k : Nat} {q : Nat × va_E} (hk : ws[k]? = some q) : q.1 < H1.size := (h k q hk).lt
end VXS
/-! ===== END ===== -/
/-! ===== BEGIN methods with a table of their own: called by a name, returning or throwing ===== -/
section VXH
/-! vx_backW, vx_callVX, vx_callSX, vx_callVW, vx_runVW, vx_runVX, vx_runSX, vx_ofWH follow the same proofs as their sisters above (Free/Laws.lean, Shelf42/LK1.lean); vx_outP calls Shelf42/NT130.lean (outThrough). -/
section
variable {l : Launch} {R : Room} {p : Program} {e : Env} {below : List Frame} {s : State} {sargs : Array Value} {y : MethodName} {len W9 : Nat}
theorem vx_backW {ws : List Cond} {rm : Room} {Pc : Array Value → State → Prop} {Qc : Array Value → State → Outcome → State → Prop} {XC : String → State → State → Prop} {mc ms : Nat} {free : Addr → Prop} {bytes : ByteArray} {maxL : Nat} {ret : Option FieldType} {hh : List (Nat × Nat × Nat × Nat)}
    (hM : vx_Met l y ws rm Pc Qc XC mc ms free) (hblind : FrameBlind Pc) (hrc : rm.cells = mc) (hrs : rm.slots = ms)
    (hframes : rm.frames + 1 ≤ R.frames) (hlocals : W9 + (maxL + 11) + rm.locals ≤ R.locals)
    (hws : ∀ w ∈ ws, ∀ a' U, s.WarmedH U.vm → w.before a' U = true) (hcode : Cond.codeWith y bytes maxL ret hh ∈ ws) (hinit : ∀ a' U, s.WarmedH U.vm → (Cond.initialized y.cls).before a' U = true) :
    vx_Back l R p e below s sargs y len W9 (PreOf R mc ms Pc) (PostOf Qc mc ms free) (vx_Post XC mc ms free) := by
  intro m meth c A g ig mk a X hg hsize hdg hW hn hp
  have h1 : (headSpec ws rm).pre.before a A.U = true := atoms_intro fun w hw => hws w hw _ _ X.warmed
  have h2 : (Cond.codeWith y bytes maxL ret hh).before a A.U = true := hws _ hcode _ _ X.warmed
  have h3 : (Cond.initialized y.cls).before a A.U = true := hinit _ _ X.warmed
  have h4 : A.cells + (headSpec ws rm).room.cells ≤ R.cells := by rw [show (headSpec ws rm).room.cells = mc from hrc]; exact hp.1
  have h5 : A.slots + (headSpec ws rm).room.slots ≤ R.slots := by rw [show (headSpec ws rm).room.slots = ms from hrs]; exact hp.2.1
  have hPc : Pc a (A.U.calling g mk a) := hblind _ _ _ _ hp.2.2
  obtain ⟨U, Ls, c0, s0⟩ := A
  dsimp only [Pt.U, Pt.locs, Pt.cells, Pt.slots] at h1 h2 h3 h4 h5 X hn hPc ⊢
  obtain ⟨m9, methY, cY, hn9, hmY, hcY, -, hlY, -⟩ := Cond.codeWith_spec h2
  cases Option.some.inj (hn9.symm.trans hn)
  obtain ⟨kY, hkY, -⟩ := className_of_methodNamed hn
  have hinitY : kY.init = .initialized := Cond.initialized_spec (findClass_of_methodNamed hn) hkY h3
  have h : At U g.method c below := by rw [hg]; exact X.here
  have hlocals9 : W9 + (maxL + 11) + (headSpec ws rm).room.locals ≤ R.locals := hlocals
  have happ : (headSpec ws rm).appliesLoose y e.platform (U.calling g mk a) = true :=
    Spec.appliesLoose_calling (g := g) h hdg hn hkY hinitY
      (X.room_calling (g := g) (R' := (headSpec ws rm).room) hsize hmY hcY hframes (by rw [hlY]; omega) h4 h5) h1
  obtain ⟨mid, hmid⟩ := h.above
  have hfr : (U.setTop g).frames = (.java g :: mid) ++ below := by rw [State.frames_setTop' g h.top, hmid]; rfl
  obtain ⟨o, s₂, hsteps, -, hend, hq⟩ := Steps.callFree hM p X.admits X.cas X.clock (acts := []) hfr happ hPc trivial
  have hq' : vx_Q Qc XC mc ms free a (U.calling g mk a) o s₂ := hq
  rw [State.frames_setTop' g h.top] at hend
  obtain ⟨g₀, hg0⟩ := Option.isSome_iff_exists.mp h.top
  obtain ⟨r, hr⟩ := State.topJava?_eq_some.mp hg0
  have hr' : (({ U with heap := s₂.heap, slotsUsed := s₂.slotsUsed } : State).setVm s₂.vm).frames = .java g₀ :: r := hr
  rcases hq' with ⟨hqc, L, hfe, hL⟩ | ⟨q, rfl, E, ce, L, hx, hce, hcv, hcl, hW₂, hsm, hL⟩
  · obtain ⟨⟨v, rfl⟩, hW₂, e2, q2, q3, q4, q5, q6⟩ := id hfe
    have e3 : s₂ = ({ (U.calling g mk a).setFrames s₂.frames with heap := s₂.heap, slotsUsed := s₂.slotsUsed } : State).setVm s₂.vm := by
      have : s₂ = ({ s₂ with vm := (U.calling g mk a).vm } : State).setVm s₂.vm := rfl
      rw [e2] at this
      exact this
    obtain ⟨c₂, i₂, len₂, hc₂, hd₂, hf₂⟩ := hend
    have hW' : U.WarmedH s₂.vm := hW₂
    have hcc : c₂ = c := by
      have h1 : s₂.code? g.method = U.code? g.method := by
        rw [State.code?_eq, State.code?_eq, hW'.alike.method?]
      exact Option.some.inj (hc₂.symm.trans (h1.trans h.code))
    subst hcc
    have hlen : len₂ = len := by rw [hdg] at hd₂; cases hd₂; rfl
    subst hlen
    have hs₂ : s₂ = (({ U with heap := s₂.heap, slotsUsed := s₂.slotsUsed } : State).setVm s₂.vm).setTop { g with pc := g.pc + len₂, stack := v.toList ++ g.stack } := by
      refine e3.trans ?_
      rw [hf₂, State.calling_eq h.top, State.setFrames_setFrames, State.setTop_of_frames _ hr', hr]
      rfl
    have hsame : U.sameButNew ({ U with heap := s₂.heap, slotsUsed := s₂.slotsUsed } : State) L mc ms := by
      refine ⟨?_, q2, q3, q4, q5, q6⟩
      obtain ⟨t, ht, -⟩ := State.frames_cons hr
      show ({ U with heap := s₂.heap, slotsUsed := s₂.slotsUsed } : State) = { U.setFrames U.frames with heap := s₂.heap, slotsUsed := s₂.slotsUsed }
      rw [State.setFrames_self ht]
    subst hg
    refine Or.inl ⟨v, ⟨(({ U with heap := s₂.heap, slotsUsed := s₂.slotsUsed } : State).setVm s₂.vm), Ls ++ L, c0 + mc, s0 + ms⟩,
      ⟨X.admits, X.cas, X.clock, X.frames, X.room, X.hears, X.method, X.code, (X.here.setHeapUsed s₂.heap s₂.slotsUsed).setVm hW'.alike, X.tail, State.WarmedH.trans X.warmed hW', X.limits, X.bytes, X.same.trans (hsame.setVm s.vm)⟩,
      ⟨g, mk, s₂, L, rfl, rfl, hqc, rfl, hL, rfl, rfl⟩, ?_⟩
    show Steps p.tables e below _ ((({ U with heap := s₂.heap, slotsUsed := s₂.slotsUsed } : State).setVm s₂.vm).setTop { g with pc := g.pc + len₂, stack := v.toList ++ g.stack })
    rw [← hs₂]
    exact hsteps
  · obtain ⟨e2, q2, q3, q4, q5, q6⟩ := id hsm
    have e3 : s₂ = ({ (U.calling g mk a).setFrames s₂.frames with heap := s₂.heap, slotsUsed := s₂.slotsUsed } : State).setVm s₂.vm := by
      have : s₂ = ({ s₂ with vm := (U.calling g mk a).vm } : State).setVm s₂.vm := rfl
      rw [e2] at this
      exact this
    have hf₂ : s₂.frames = .throwing q :: .java g :: U.frames.tail := hend
    have hW' : U.WarmedH s₂.vm := hW₂
    have hs₂ : s₂ = ((({ U with heap := s₂.heap, slotsUsed := s₂.slotsUsed } : State).setVm s₂.vm).setTop g).pushFrame (.throwing q) := by
      refine e3.trans ?_
      rw [hf₂, State.calling_eq h.top, State.setFrames_setFrames, State.pushFrame, State.frames_setTop _ hr', State.setTop_of_frames _ hr', State.setFrames_setFrames, hr]
      rfl
    have hsame : U.sameButNew ({ U with heap := s₂.heap, slotsUsed := s₂.slotsUsed } : State) L mc ms := by
      refine ⟨?_, q2, q3, q4, q5, q6⟩
      obtain ⟨t, ht, -⟩ := State.frames_cons hr
      show ({ U with heap := s₂.heap, slotsUsed := s₂.slotsUsed } : State) = { U.setFrames U.frames with heap := s₂.heap, slotsUsed := s₂.slotsUsed }
      rw [State.setFrames_self ht]
    subst hg
    refine Or.inr ⟨q, ⟨(({ U with heap := s₂.heap, slotsUsed := s₂.slotsUsed } : State).setVm s₂.vm), Ls ++ L, c0 + mc, s0 + ms⟩,
      ⟨X.admits, X.cas, X.clock, X.frames, X.room, X.hears, X.method, X.code, (X.here.setHeapUsed s₂.heap s₂.slotsUsed).setVm hW'.alike, X.tail, State.WarmedH.trans X.warmed hW', X.limits, X.bytes, X.same.trans (hsame.setVm s.vm)⟩,
      ⟨g, mk, s₂, L, E, ce, rfl, rfl, hx, hce, hcv, hcl, rfl, hL, rfl, rfl⟩, ?_⟩
    show Steps p.tables e below _ (((({ U with heap := s₂.heap, slotsUsed := s₂.slotsUsed } : State).setVm s₂.vm).setTop g).pushFrame (.throwing q))
    rw [← hs₂]
    exact hsteps
end
variable {p : Program} {l : Launch} {e : Env} {R : Room} {s : State} {m : MethodId} {args : Array Value} {below : List Frame} {meth : Method} {c : Code} {T : State} {H : Heap} {locs : List Loc} {cells slots : Nat}
theorem vx_callVX (X : Stand p l e R s m args below meth c T locs cells slots) (hexec : p.tables.exec = Jvm.exec) {own C : String} {index : Nat} {y : MethodName} {bytes : ByteArray} {maxL : Nat} {ret : Option FieldType} {hh : List (Nat × Nat × Nat × Nat)}
    (hown : s.vm.findClass own = some m.cls) (hlink : (Cond.methodLink own index y).before args s = true) (hinst : (Cond.instanceMethod y).before args s = true) (hsel : (Cond.selects C y y).before args s = true)
    (hcode : (Cond.codeWith y bytes maxL ret hh).before args s = true) (hy : y.cls ≠ "java/lang/invoke/MethodHandle" ∧ y.cls ≠ "java/lang/invoke/VarHandle")
    {W9 : Nat} {Pre : Pt → Array Value → Prop} {Post : Pt → Array Value → Option Value → Pt → Prop} {PostX : Pt → Array Value → Addr → Pt → Prop} (hK : vx_Back l R p e below s args y 3 W9 Pre Post PostX)
    {b : Addr} {cellB : Cell} (hcell : T.heap[b]? = some cellB) (hobj : cellB.vm.isStatics = false) (hcls : s.vm.findClass C = some cellB.cls)
    {g : JFrame} (hg : g.method = m) (hsize : g.locals.size = c.maxLocals) {argsL rest : List Value} (hlen : ∀ sig, parseMethodDescriptor y.desc = some sig → argsL.length = sig.parameters.length)
    (hstack : g.stack = argsL.reverse ++ .ref b :: rest) (hW : 2 * g.monitorRoom + (rest.map fun v => v.category).sum ≤ W9) (hdg : decode c.code g.pc = .ok (.invokevirtual index, 3))
    (hpre : ∀ vm₁, s.WarmedH vm₁ → Pre ⟨T.setVm vm₁, locs, cells, slots⟩ (Value.ref b :: argsL).toArray) :
    (∃ (v : Option Value) (vm₁ : Vm) (B : Pt), s.WarmedH vm₁ ∧ Stand p l e R s m args below meth c B.U B.locs B.cells B.slots ∧ Post ⟨T.setVm vm₁, locs, cells, slots⟩ (Value.ref b :: argsL).toArray v B ∧
      ∀ target, Steps p.tables e below (B.U.setTop { g with pc := g.pc + 3, stack := v.toList ++ rest }) target → Steps p.tables e below (T.setTop g) target) ∨
    (∃ (q : Addr) (vm₁ : Vm) (B : Pt), s.WarmedH vm₁ ∧ Stand p l e R s m args below meth c B.U B.locs B.cells B.slots ∧ PostX ⟨T.setVm vm₁, locs, cells, slots⟩ (Value.ref b :: argsL).toArray q B ∧
      Steps p.tables e below (T.setTop g) ((B.U.setTop { g with stack := rest }).pushFrame (.throwing q))) := by
  obtain ⟨mk, methM, hnamed, hmethM, hstM, habM⟩ := Cond.instanceMethod_spec hinst
  obtain ⟨m8, methM', cM, hn8, hmethM', -, -, -, -, -, -, hsigM⟩ := Cond.codeWith_spec hcode
  cases Option.some.inj (hn8.symm.trans hnamed)
  cases hmethM.symm.trans hmethM'
  obtain ⟨c2, r2, m2, q1, q2, q3, q4, kP, hkP, hkPi⟩ := Cond.selects_spec hsel
  cases hcls.symm.trans q1
  cases (State.methodFound?_of_named hnamed hy).symm.trans q2
  cases hnamed.symm.trans q3
  have hselP : selectMethod e.platform s.vm cellB.cls mk = .method mk := by rw [Launch.admits_selectMethod X.admits]; exact q4
  obtain ⟨vm₁, X₁, hstep₁⟩ := X.invokevirtual hexec hown hlink hnamed hmethM hstM hkP hkPi hy (a := b) (cell := cellB) hcell
    (fun z h => by rw [h] at hobj; cases hobj) hselP hmethM habM hkP hkPi (g := g) hg (argsL := argsL) (rest := rest) (hlen _ hsigM) hstack hdg
  rcases hK m meth c ⟨T.setVm vm₁, locs, cells, slots⟩ { g with stack := rest } (.invokevirtual index) mk (Value.ref b :: argsL).toArray X₁ hg hsize hdg hW (X₁.named hnamed) (hpre vm₁ X₁.warmed) with ⟨v, B, X', hpost, hsteps⟩ | ⟨q, B, X', hpost, hsteps⟩
  · exact Or.inl ⟨v, vm₁, B, X₁.warmed, X', hpost, fun target h => hstep₁ _ fun acts => by rw [doInvoke_state]; exact hsteps.trans h⟩
  · exact Or.inr ⟨q, vm₁, B, X₁.warmed, X', hpost, hstep₁ _ fun acts => by rw [doInvoke_state]; exact hsteps⟩
theorem vx_callSX (X : Stand p l e R s m args below meth c T locs cells slots) (hexec : p.tables.exec = Jvm.exec) {own : String} {index : Nat} {y : MethodName} {bytes : ByteArray} {maxL : Nat} {ret : Option FieldType} {hh : List (Nat × Nat × Nat × Nat)}
    (hown : s.vm.findClass own = some m.cls) (hlink : (Cond.methodLink own index y).before args s = true) (hstat : (Cond.static y).before args s = true) (hinit : (Cond.initialized y.cls).before args s = true)
    (hcode : (Cond.codeWith y bytes maxL ret hh).before args s = true) (hy : y.cls ≠ "java/lang/invoke/MethodHandle" ∧ y.cls ≠ "java/lang/invoke/VarHandle")
    {W9 : Nat} {Pre : Pt → Array Value → Prop} {Post : Pt → Array Value → Option Value → Pt → Prop} {PostX : Pt → Array Value → Addr → Pt → Prop} (hK : vx_Back l R p e below s args y 3 W9 Pre Post PostX)
    {g : JFrame} (hg : g.method = m) (hsize : g.locals.size = c.maxLocals) {argsL rest : List Value} (hlen : ∀ sig, parseMethodDescriptor y.desc = some sig → argsL.length = sig.parameters.length)
    (hstack : g.stack = argsL.reverse ++ rest) (hW : 2 * g.monitorRoom + (rest.map fun v => v.category).sum ≤ W9) (hdg : decode c.code g.pc = .ok (.invokestatic index, 3))
    (hpre : ∀ vm₁, s.WarmedH vm₁ → Pre ⟨T.setVm vm₁, locs, cells, slots⟩ argsL.toArray) :
    (∃ (v : Option Value) (vm₁ : Vm) (B : Pt), s.WarmedH vm₁ ∧ Stand p l e R s m args below meth c B.U B.locs B.cells B.slots ∧ Post ⟨T.setVm vm₁, locs, cells, slots⟩ argsL.toArray v B ∧
      ∀ target, Steps p.tables e below (B.U.setTop { g with pc := g.pc + 3, stack := v.toList ++ rest }) target → Steps p.tables e below (T.setTop g) target) ∨
    (∃ (q : Addr) (vm₁ : Vm) (B : Pt), s.WarmedH vm₁ ∧ Stand p l e R s m args below meth c B.U B.locs B.cells B.slots ∧ PostX ⟨T.setVm vm₁, locs, cells, slots⟩ argsL.toArray q B ∧
      Steps p.tables e below (T.setTop g) ((B.U.setTop { g with stack := rest }).pushFrame (.throwing q))) := by
  obtain ⟨mk, methM, cM, hnamed, hmethM, -, -, -, -, -, -, hsigM⟩ := Cond.codeWith_spec hcode
  have hstatic : methM.isStatic = true := Cond.static_spec hnamed hmethM hstat
  obtain ⟨kP, hkP, -⟩ := className_of_methodNamed hnamed
  have hinitP : kP.init = .initialized := Cond.initialized_spec (findClass_of_methodNamed hnamed) hkP hinit
  obtain ⟨vm₁, X₁, hstep₁⟩ := X.invokestatic hexec hown hlink hnamed hmethM hstatic hkP hinitP hy (g := g) hg (argsL := argsL) (rest := rest) (hlen _ hsigM) hstack hdg
  rcases hK m meth c ⟨T.setVm vm₁, locs, cells, slots⟩ { g with stack := rest } (.invokestatic index) mk argsL.toArray X₁ hg hsize hdg hW (X₁.named hnamed) (hpre vm₁ X₁.warmed) with ⟨v, B, X', hpost, hsteps⟩ | ⟨q, B, X', hpost, hsteps⟩
  · exact Or.inl ⟨v, vm₁, B, X₁.warmed, X', hpost, fun target h => hstep₁ _ fun acts => by rw [doInvoke_state]; exact hsteps.trans h⟩
  · exact Or.inr ⟨q, vm₁, B, X₁.warmed, X', hpost, hstep₁ _ fun acts => by rw [doInvoke_state]; exact hsteps⟩
theorem vx_callVW (X : Stand p l e R s m args below meth c T locs cells slots) (hexec : p.tables.exec = Jvm.exec) {own C : String} {index : Nat} {y : MethodName} {bytes : ByteArray} {maxL : Nat} {ret : Option FieldType} {hh : List (Nat × Nat × Nat × Nat)}
    (hown : s.vm.findClass own = some m.cls) (hlink : (Cond.methodLink own index y).before args s = true) (hinst : (Cond.instanceMethod y).before args s = true) (hsel : (Cond.selects C y y).before args s = true)
    (hcode : (Cond.codeWith y bytes maxL ret hh).before args s = true) (hy : y.cls ≠ "java/lang/invoke/MethodHandle" ∧ y.cls ≠ "java/lang/invoke/VarHandle")
    {W9 : Nat} {Pre : Pt → Array Value → Prop} {Post : Pt → Array Value → Option Value → Pt → Prop} (hK : Back l R p e below s args y 3 W9 Pre Post)
    {b : Addr} {cellB : Cell} (hcell : T.heap[b]? = some cellB) (hobj : cellB.vm.isStatics = false) (hcls : s.vm.findClass C = some cellB.cls)
    {g : JFrame} (hg : g.method = m) (hsize : g.locals.size = c.maxLocals) {argsL rest : List Value} (hlen : ∀ sig, parseMethodDescriptor y.desc = some sig → argsL.length = sig.parameters.length)
    (hstack : g.stack = argsL.reverse ++ .ref b :: rest) (hW : 2 * g.monitorRoom + (rest.map fun v => v.category).sum ≤ W9) (hdg : decode c.code g.pc = .ok (.invokevirtual index, 3))
    (hpre : ∀ vm₁, s.WarmedH vm₁ → Pre ⟨T.setVm vm₁, locs, cells, slots⟩ (Value.ref b :: argsL).toArray) :
    ∃ (v : Option Value) (vm₁ : Vm) (B : Pt), s.WarmedH vm₁ ∧ Stand p l e R s m args below meth c B.U B.locs B.cells B.slots ∧ Post ⟨T.setVm vm₁, locs, cells, slots⟩ (Value.ref b :: argsL).toArray v B ∧
      ∀ target, Steps p.tables e below (B.U.setTop { g with pc := g.pc + 3, stack := v.toList ++ rest }) target → Steps p.tables e below (T.setTop g) target := by
  obtain ⟨mk, methM, hnamed, hmethM, hstM, habM⟩ := Cond.instanceMethod_spec hinst
  obtain ⟨m8, methM', cM, hn8, hmethM', -, -, -, -, -, -, hsigM⟩ := Cond.codeWith_spec hcode
  cases Option.some.inj (hn8.symm.trans hnamed)
  cases hmethM.symm.trans hmethM'
  obtain ⟨c2, r2, m2, q1, q2, q3, q4, kP, hkP, hkPi⟩ := Cond.selects_spec hsel
  cases hcls.symm.trans q1
  cases (State.methodFound?_of_named hnamed hy).symm.trans q2
  cases hnamed.symm.trans q3
  have hselP : selectMethod e.platform s.vm cellB.cls mk = .method mk := by rw [Launch.admits_selectMethod X.admits]; exact q4
  obtain ⟨vm₁, X₁, hstep₁⟩ := X.invokevirtual hexec hown hlink hnamed hmethM hstM hkP hkPi hy (a := b) (cell := cellB) hcell
    (fun z h => by rw [h] at hobj; cases hobj) hselP hmethM habM hkP hkPi (g := g) hg (argsL := argsL) (rest := rest) (hlen _ hsigM) hstack hdg
  obtain ⟨v, B, X', hpost, hsteps⟩ := hK m meth c ⟨T.setVm vm₁, locs, cells, slots⟩ { g with stack := rest } (.invokevirtual index) mk (Value.ref b :: argsL).toArray X₁ hg hsize hdg hW (X₁.named hnamed) (hpre vm₁ X₁.warmed)
  exact ⟨v, vm₁, B, X₁.warmed, X', hpost, fun target h => hstep₁ _ fun acts => by rw [doInvoke_state]; exact hsteps.trans h⟩
abbrev vx_CVW (R : Room) (s : State) (args : Array Value) (own C : String) (index : Nat) (y : MethodName) (bytes : ByteArray) (maxL : Nat) (ret : Option FieldType) (hh : List (Nat × Nat × Nat × Nat)) (ws : List Cond) (rm : Room) (mc ms n : Nat) : Prop :=
  (rm.cells = mc ∧ rm.slots = ms ∧ rm.frames + 1 ≤ R.frames ∧ 8 + (maxL + 11) + rm.locals ≤ R.locals ∧ (∀ w ∈ ws, ∀ (a' : Array Value) (U : State), s.WarmedH U.vm → w.before a' U = true) ∧ Cond.codeWith y bytes maxL ret hh ∈ ws) ∧
  (Cond.codeWith y bytes maxL ret hh).before args s = true ∧ (Cond.initialized y.cls).before args s = true ∧ (y.cls ≠ "java/lang/invoke/MethodHandle" ∧ y.cls ≠ "java/lang/invoke/VarHandle") ∧
  (∀ sig, parseMethodDescriptor y.desc = some sig → n = sig.parameters.length) ∧ (Cond.methodLink own index y).before args s = true ∧ (Cond.instanceMethod y).before args s = true ∧ (Cond.selects C y y).before args s = true
theorem vx_cwVW {own C : String} {index maxL mc ms : Nat} {y : MethodName} {bytes : ByteArray} {ret : Option FieldType} {hh : List (Nat × Nat × Nat × Nat)} {Ts ws ws' : List Cond} {rm : Room} (n : Nat) (ht : ∀ w ∈ Ts, w.before args s = true) (hT : GoodIn Ts (wsV own index C y ws)) (hw : ws = Cond.codeWith y bytes maxL ret hh :: ws') (hrc : rm.cells = mc) (hrs : rm.slots = ms)
    (hd : y.cls = C ∧ y.cls ≠ "java/lang/invoke/MethodHandle" ∧ y.cls ≠ "java/lang/invoke/VarHandle" ∧ (parseMethodDescriptor y.desc).map (fun d => d.parameters.length) = some n) (hR : rm.frames + 1 ≤ R.frames ∧ 8 + (maxL + 11) + rm.locals ≤ R.locals) :
    vx_CVW R s args own C index y bytes maxL ret hh ws rm mc ms n := by
  obtain ⟨hC, hd⟩ := hd
  subst hC
  have ok : ∀ w ∈ wsV own index y.cls y ws, w.before args s = true := fun w h => ht w (hT w h).1
  have hG : GoodIn Ts ws := fun w h => hT w (by unfold wsV; exact List.mem_append_right _ h)
  have hc : Cond.codeWith y bytes maxL ret hh ∈ ws := by rw [hw]; exact List.mem_cons_self
  refine ⟨⟨hrc, hrs, hR.1, hR.2, pay_in ht hG, hc⟩, ht _ (hG _ hc).1, ok _ (by simp [wsV]), ⟨hd.1, hd.2.1⟩, fun sig h => ?_, ok _ (by simp [wsV]), ok _ (by simp [wsV]), ok _ (by simp [wsV])⟩
  have h2 := hd.2.2
  rw [h] at h2
  exact (Option.some.inj h2).symm
theorem vx_runVW {y : MethodName} {bytes cc : ByteArray} {maxL nL mc ms n index : Nat} {ret : Option FieldType} {hh : List (Nat × Nat × Nat × Nat)} {ws : List Cond} {rm : Room} {Pc : Array Value → State → Prop} {Qc : Array Value → State → Outcome → State → Prop} {free : Addr → Prop} {Ts : List Cond} {own C : String} {b : Addr} {As rest : List Value} {g : JFrame}
    (S : CallFix p m c cc nL s args Ts own) (hM : Met l y ws rm Pc Qc mc ms free) (cw : vx_CVW R s args own C index y bytes maxL ret hh ws rm mc ms n) (hp : PreV s H C b Pc As)
    (hg : g.method = m) (hn : As.length = n) (hsize : g.locals.size = nL) (hstack : g.stack = As.reverse ++ .ref b :: rest) (hW : 2 * g.monitorRoom + (rest.map fun v => v.category).sum ≤ 8) (hdg : decode cc g.pc = .ok (.invokevirtual index, 3)) (hf : cells + mc ≤ R.cells ∧ slots + ms ≤ R.slots) :
    va_Run p l e R s m args below meth c H locs cells slots mc ms g rest (Qc (Value.ref b :: As).toArray) free := by
  obtain ⟨⟨hrc, hrs, hfr, hlo, hws, hcw⟩, hcode, hini, hy, hlen, hl, hin, hse⟩ := cw
  have hK : Back l R p e below s args y 3 8 (PreOf R mc ms Pc) (PostOf Qc mc ms free) := va_backW (hh := hh) (bytes := bytes) (maxL := maxL) (ret := ret) hM hp.1 hrc hrs hfr hlo hws hcw (fun a' U hW => word_at hW (Or.inl (by first | rfl | simp [Cond.onTables, Cond.keeps, Cond.steady])) hini)
  obtain ⟨hx, hb, hml, ho, -⟩ := S
  obtain ⟨-, ⟨cellB, hcB, hoB, hclB⟩, hPc⟩ := hp
  intro T hT X
  obtain ⟨v, vm₁, ⟨U', l2, c2, s2⟩, hW₁, X', ⟨g', mk, t, L, e1, e2, hq, h1, hL, h2, h3⟩, st⟩ := vx_callVW X hx (C := C) (hh := hh) (bytes := bytes) (maxL := maxL) (ret := ret) ho hl hin hse hcode hy hK (by rw [hT]; exact hcB) hoB hclB hg (hsize.trans hml.symm) (argsL := As) (rest := rest) (fun sig h => hn.trans (hlen sig h)) hstack hW (by rw [hb]; exact hdg)
    (fun vm₁ hW₁ => ⟨hf.1, hf.2, hPc (T.setVm vm₁) hT hW₁⟩)
  dsimp only [Pt.U, Pt.locs, Pt.cells, Pt.slots] at X' e1 e2 h1 h2 h3 st
  subst h1; subst h2; subst h3
  exact ⟨v, (T.setVm vm₁).calling g' mk (Value.ref b :: As).toArray, t, U', L, hT, X', hL, e1, e2, hq, st⟩
section
variable {y : MethodName} {bytes cc : ByteArray} {maxL nL mc ms n index : Nat} {ret : Option FieldType} {ws : List Cond} {rm : Room} {Pc : Array Value → State → Prop} {Qc : Array Value → State → Outcome → State → Prop} {XC : String → State → State → Prop} {free : Addr → Prop} {Ts : List Cond} {own C : String} {b : Addr} {As rest : List Value} {g : JFrame}
theorem vx_runVX {hh : List (Nat × Nat × Nat × Nat)} (S : CallFix p m c cc nL s args Ts own) (hM : vx_Met l y ws rm Pc Qc XC mc ms free) (cw : vx_CVW R s args own C index y bytes maxL ret hh ws rm mc ms n) (hp : PreV s H C b Pc As)
    (hg : g.method = m) (hn : As.length = n) (hsize : g.locals.size = nL) (hstack : g.stack = As.reverse ++ .ref b :: rest) (hW : 2 * g.monitorRoom + (rest.map fun v => v.category).sum ≤ 8) (hdg : decode cc g.pc = .ok (.invokevirtual index, 3)) (hf : cells + mc ≤ R.cells ∧ slots + ms ≤ R.slots) :
    vx_Run p l e R s m args below meth c H locs cells slots mc ms g rest (Qc (Value.ref b :: As).toArray) XC free := by
  obtain ⟨⟨hrc, hrs, hfr, hlo, hws, hcw⟩, hcode, hini, hy, hlen, hl, hin, hse⟩ := cw
  have hK : vx_Back l R p e below s args y 3 8 (PreOf R mc ms Pc) (PostOf Qc mc ms free) (vx_Post XC mc ms free) := vx_backW (hh := hh) (bytes := bytes) (maxL := maxL) (ret := ret) hM hp.1 hrc hrs hfr hlo hws hcw (fun a' U hW => word_at hW (Or.inl (by first | rfl | simp [Cond.onTables, Cond.keeps, Cond.steady])) hini)
  obtain ⟨hx, hb, hml, ho, -⟩ := S
  obtain ⟨-, ⟨cellB, hcB, hoB, hclB⟩, hPc⟩ := hp
  intro T hT X
  rcases vx_callVX X hx (C := C) (hh := hh) (bytes := bytes) (maxL := maxL) (ret := ret) ho hl hin hse hcode hy hK (by rw [hT]; exact hcB) hoB hclB hg (hsize.trans hml.symm) (argsL := As) (rest := rest) (fun sig h => hn.trans (hlen sig h)) hstack hW (by rw [hb]; exact hdg)
    (fun vm₁ hW₁ => ⟨hf.1, hf.2, hPc (T.setVm vm₁) hT hW₁⟩) with ⟨v, vm₁, ⟨U', l2, c2, s2⟩, hW₁, X', ⟨g', mk, t, L, e1, e2, hq, h1, hL, h2, h3⟩, st⟩ | ⟨q, vm₁, ⟨U', l2, c2, s2⟩, hW₁, X', ⟨g', mk, t, L, E, ce, e1, e2, hq, hce, hcv, hcl, h1, hL, h2, h3⟩, st⟩
  · dsimp only [Pt.U, Pt.locs, Pt.cells, Pt.slots] at X' e1 e2 h1 h2 h3 st
    subst h1; subst h2; subst h3
    exact Or.inl ⟨v, (T.setVm vm₁).calling g' mk (Value.ref b :: As).toArray, t, U', L, hT, X', hL, e1, e2, hq, st⟩
  · dsimp only [Pt.U, Pt.locs, Pt.cells, Pt.slots] at X' e1 e2 h1 h2 h3 st hcl
    subst h1; subst h2; subst h3
    exact Or.inr ⟨q, (T.setVm vm₁).calling g' mk (Value.ref b :: As).toArray, t, U', L, E, ce, hT, X', hL, e1, e2, hq, hce, hcv, vx_cls hW₁ hcl, st⟩
theorem vx_runSX {hh : List (Nat × Nat × Nat × Nat)} (S : CallFix p m c cc nL s args Ts own) (hM : vx_Met l y ws rm Pc Qc XC mc ms free) (cw : vx_CSW R s args own index y bytes maxL ret hh ws rm mc ms n) (hp : PreS s H Pc As)
    (hg : g.method = m) (hn : As.length = n) (hsize : g.locals.size = nL) (hstack : g.stack = As.reverse ++ rest) (hW : 2 * g.monitorRoom + (rest.map fun v => v.category).sum ≤ 8) (hdg : decode cc g.pc = .ok (.invokestatic index, 3)) (hf : cells + mc ≤ R.cells ∧ slots + ms ≤ R.slots) :
    vx_Run p l e R s m args below meth c H locs cells slots mc ms g rest (Qc As.toArray) XC free := by
  obtain ⟨⟨hrc, hrs, hfr, hlo, hws, hcw⟩, hcode, hini, hy, hlen, hl, hstt⟩ := cw
  have hK : vx_Back l R p e below s args y 3 8 (PreOf R mc ms Pc) (PostOf Qc mc ms free) (vx_Post XC mc ms free) := vx_backW (hh := hh) (bytes := bytes) (maxL := maxL) (ret := ret) hM hp.1 hrc hrs hfr hlo hws hcw (fun a' U hW => word_at hW (Or.inl (by first | rfl | simp [Cond.onTables, Cond.keeps, Cond.steady])) hini)
  obtain ⟨hx, hb, hml, ho, -⟩ := S
  intro T hT X
  rcases vx_callSX X hx (hh := hh) (bytes := bytes) (maxL := maxL) (ret := ret) ho hl hstt hini hcode hy hK hg (hsize.trans hml.symm) (argsL := As) (rest := rest) (fun sig h => hn.trans (hlen sig h)) hstack hW (by rw [hb]; exact hdg)
    (fun vm₁ hW₁ => ⟨hf.1, hf.2, hp.2 (T.setVm vm₁) hT hW₁⟩) with ⟨v, vm₁, ⟨U', l2, c2, s2⟩, hW₁, X', ⟨g', mk, t, L, e1, e2, hq, h1, hL, h2, h3⟩, st⟩ | ⟨q, vm₁, ⟨U', l2, c2, s2⟩, hW₁, X', ⟨g', mk, t, L, E, ce, e1, e2, hq, hce, hcv, hcl, h1, hL, h2, h3⟩, st⟩
  · dsimp only [Pt.U, Pt.locs, Pt.cells, Pt.slots] at X' e1 e2 h1 h2 h3 st
    subst h1; subst h2; subst h3
    exact Or.inl ⟨v, (T.setVm vm₁).calling g' mk As.toArray, t, U', L, hT, X', hL, e1, e2, hq, st⟩
  · dsimp only [Pt.U, Pt.locs, Pt.cells, Pt.slots] at X' e1 e2 h1 h2 h3 st hcl
    subst h1; subst h2; subst h3
    exact Or.inr ⟨q, (T.setVm vm₁).calling g' mk As.toArray, t, U', L, E, ce, hT, X', hL, e1, e2, hq, hce, hcv, vx_cls hW₁ hcl, st⟩
end
end VXH
theorem vx_ofWH {l : Launch} {y : MethodName} {ws ws' : List Cond} {rm : Room} {Pc : Array Value → State → Prop} {Qc : Array Value → State → Outcome → State → Prop} {XC : String → State → State → Prop} {mc ms : Nat} {free : Addr → Prop} {cc : ByteArray} {maxL : Nat} {ret : Option FieldType} {hh : List (Nat × Nat × Nat × Nat)}
    (hy : plainName y.cls = true) (hw : ws = Cond.codeWith y cc maxL ret hh :: ws')
    (body : ∀ p e s m args below meth c s₁, BodyLoose p l y (headSpec ws rm) cc maxL ret e s m args below meth c s₁ → c.maxLocals = maxL → Pc args s →
      W p l e (headSpec ws rm).room s m args below meth c s.heap [] 0 0 (vx_MQ below Qc XC args s mc ms free) (entryFrame m args maxL)) : vx_Met l y ws rm Pc Qc XC mc ms free := by
  refine MetFree.of_bodyS (code := cc) (maxLocals := maxL) (ret := ret) hy ?_ ?_
  · intro args s m h hn
    obtain ⟨m9, meth, c, hn9, h1, h2, h3, h4, -, h5, h6, -⟩ := Cond.codeWith_spec (atoms_spec (ws := ws) h _ (by rw [hw]; exact List.mem_cons_self))
    cases hn.symm.trans hn9
    exact ⟨meth, c, h1, h2, h3, h4, h5, h6⟩
  · intro p e s m args below meth c s₁ B hml hP _
    have hh0 : s₁.heap = s.heap := by rw [B.state]; rfl
    obtain ⟨t, a1, o, b1, b2, b3⟩ := body p e s m args below meth c s₁ B hml hP s₁ hh0 (Stand.of_body B)
    exact ⟨t, o, a1, b1, b2, b3⟩
/-! ===== END ===== -/
end
section
/-! ===== BEGIN printed: names, fields, word lists, decode rows ===== -/
def RX0 : String := "PlanetaryGearbox$Design"
def TX0 : u_T := fun k => match k with
  | 0 => ("PlanetaryGearbox$Design", "sun", "[I", true)
  | 1 => ("PlanetaryGearbox$Design", "ring", "[I", true)
  | 2 => ("PlanetaryGearbox$Design", "carrier", "[I", true)
  | 3 => ("PlanetaryGearbox$Design", "sunTeeth", "[I", true)
  | 4 => ("PlanetaryGearbox$Design", "ringTeeth", "[I", true)
  | 5 => ("PlanetaryGearbox$Design", "sets", "I", false)
  | 6 => ("PlanetaryGearbox$Design", "firstShaft", "[I", true)
  | 7 => ("PlanetaryGearbox$Design", "secondShaft", "[I", true)
  | 8 => ("PlanetaryGearbox$Design", "capacities", "[I", true)
  | 9 => ("PlanetaryGearbox$Design", "elements", "I", false)
  | _ => ("PlanetaryGearbox$Design", "engagedElements", "I", false)
def tyX0 : Nat → FieldType := fun k => match k with
  | 0 => .array .int
  | 1 => .array .int
  | 2 => .array .int
  | 3 => .array .int
  | 4 => .array .int
  | 5 => .int
  | 6 => .array .int
  | 7 => .array .int
  | 8 => .array .int
  | 9 => .int
  | _ => .int
abbrev wsX00 : List Cond := u_ws RX0 TX0 11
theorem nmX0 : ∀ a, a < 11 → ∀ b, b < 11 → a ≠ b → (TX0 a).2.1 ≠ (TX0 b).2.1 := by decide +kernel
theorem tyX0_ok : ∀ k, k < 11 → parseFieldDescriptor (TX0 k).2.2.1 = some (tyX0 k) := by decide +kernel
abbrev cX0_init : ByteArray := prog_2_method_1_code
def yX0_init : MethodName := ⟨RX0, "<init>", "()V"⟩
abbrev cX0_setCount : ByteArray := prog_2_method_2_code
def yX0_setCount : MethodName := ⟨RX0, "setCount", "()I"⟩
abbrev cX0_elementCount : ByteArray := prog_2_method_3_code
def yX0_elementCount : MethodName := ⟨RX0, "elementCount", "()I"⟩
abbrev cX0_hasElement : ByteArray := prog_2_method_4_code
def yX0_hasElement : MethodName := ⟨RX0, "hasElement", "(I)Z"⟩
abbrev cX0_hasElements : ByteArray := prog_2_method_5_code
def yX0_hasElements : MethodName := ⟨RX0, "hasElements", "(I)Z"⟩
abbrev cX0_appendSet : ByteArray := prog_2_method_6_code
def yX0_appendSet : MethodName := ⟨RX0, "appendSet", "(IIIII)V"⟩
abbrev cX0_appendElement : ByteArray := prog_2_method_7_code
def yX0_appendElement : MethodName := ⟨RX0, "appendElement", "(II)I"⟩
abbrev cX0_capacityOf : ByteArray := prog_2_method_8_code
def yX0_capacityOf : MethodName := ⟨RX0, "capacityOf", "(I)I"⟩
abbrev cX0_changeCapacity : ByteArray := prog_2_method_9_code
def yX0_changeCapacity : MethodName := ⟨RX0, "changeCapacity", "(II)V"⟩
abbrev cX0_isClutch : ByteArray := prog_2_method_10_code
def yX0_isClutch : MethodName := ⟨RX0, "isClutch", "(I)Z"⟩
abbrev cX0_isEngaged : ByteArray := prog_2_method_11_code
def yX0_isEngaged : MethodName := ⟨RX0, "isEngaged", "(I)Z"⟩
abbrev cX0_engagedMask : ByteArray := prog_2_method_12_code
def yX0_engagedMask : MethodName := ⟨RX0, "engagedMask", "()I"⟩
abbrev cX0_changeEngagedMask : ByteArray := prog_2_method_13_code
def yX0_changeEngagedMask : MethodName := ⟨RX0, "changeEngagedMask", "(I)V"⟩
abbrev cX0_copyFrom : ByteArray := prog_2_method_14_code
def yX0_copyFrom : MethodName := ⟨RX0, "copyFrom", "(LPlanetaryGearbox$Design;)V"⟩
abbrev cX0_writeSetSpeeds : ByteArray := prog_2_method_15_code
def yX0_writeSetSpeeds : MethodName := ⟨RX0, "writeSetSpeeds", "(LPlanetaryGearbox$Equations;I)V"⟩
abbrev cX0_writeElementSpeeds : ByteArray := prog_2_method_16_code
def yX0_writeElementSpeeds : MethodName := ⟨RX0, "writeElementSpeeds", "(LPlanetaryGearbox$Equations;II)V"⟩
abbrev cX0_writeSetTorques : ByteArray := prog_2_method_17_code
def yX0_writeSetTorques : MethodName := ⟨RX0, "writeSetTorques", "(LPlanetaryGearbox$Equations;I)V"⟩
abbrev cX0_writeElementTorques : ByteArray := prog_2_method_18_code
def yX0_writeElementTorques : MethodName := ⟨RX0, "writeElementTorques", "(LPlanetaryGearbox$Equations;II)V"⟩
abbrev cX0_isIn : ByteArray := prog_2_method_19_code
def yX0_isIn : MethodName := ⟨RX0, "isIn", "(II)Z"⟩
def RX1 : String := "PlanetaryGearbox$Equations"
def TX1 : u_T := fun k => match k with
  | 0 => ("PlanetaryGearbox$Equations", "cells", "[[J", true)
  | 1 => ("PlanetaryGearbox$Equations", "pivotRow", "[I", true)
  | 2 => ("PlanetaryGearbox$Equations", "isPivotRow", "[Z", true)
  | _ => ("PlanetaryGearbox$Equations", "solvable", "Z", false)
def tyX1 : Nat → FieldType := fun k => match k with
  | 0 => .array (.array .long)
  | 1 => .array .int
  | 2 => .array .boolean
  | _ => .boolean
abbrev wsX10 : List Cond := u_ws RX1 TX1 4
theorem nmX1 : ∀ a, a < 4 → ∀ b, b < 4 → a ≠ b → (TX1 a).2.1 ≠ (TX1 b).2.1 := by decide +kernel
theorem tyX1_ok : ∀ k, k < 4 → parseFieldDescriptor (TX1 k).2.2.1 = some (tyX1 k) := by decide +kernel
abbrev cX1_init : ByteArray := prog_3_method_1_code
def yX1_init : MethodName := ⟨RX1, "<init>", "()V"⟩
abbrev cX1_clear : ByteArray := prog_3_method_2_code
def yX1_clear : MethodName := ⟨RX1, "clear", "()V"⟩
abbrev cX1_add : ByteArray := prog_3_method_3_code
def yX1_add : MethodName := ⟨RX1, "add", "(IIJ)V"⟩
abbrev cX1_reduce : ByteArray := prog_3_method_4_code
def yX1_reduce : MethodName := ⟨RX1, "reduce", "()V"⟩
abbrev cX1_isDetermined : ByteArray := prog_3_method_5_code
def yX1_isDetermined : MethodName := ⟨RX1, "isDetermined", "(I)Z"⟩
abbrev cX1_isSolvable : ByteArray := prog_3_method_6_code
def yX1_isSolvable : MethodName := ⟨RX1, "isSolvable", "()Z"⟩
abbrev cX1_valuePart : ByteArray := prog_3_method_7_code
def yX1_valuePart : MethodName := ⟨RX1, "valuePart", "(II)J"⟩
abbrev cX1_freeRowWith : ByteArray := prog_3_method_8_code
def yX1_freeRowWith : MethodName := ⟨RX1, "freeRowWith", "(I)I"⟩
abbrev cX1_eliminate : ByteArray := prog_3_method_9_code
def yX1_eliminate : MethodName := ⟨RX1, "eliminate", "(III)V"⟩
abbrev cX1_areRowsLeftEmpty : ByteArray := prog_3_method_10_code
def yX1_areRowsLeftEmpty : MethodName := ⟨RX1, "areRowsLeftEmpty", "()Z"⟩
abbrev cX1_commonFactor : ByteArray := prog_3_method_11_code
def yX1_commonFactor : MethodName := ⟨RX1, "commonFactor", "(JJ)J"⟩
def RX2 : String := "PlanetaryGearbox$GearTable"
def TX2 : u_T := fun k => match k with
  | 0 => ("PlanetaryGearbox$GearTable", "masks", "[I", true)
  | 1 => ("PlanetaryGearbox$GearTable", "numerators", "[J", true)
  | 2 => ("PlanetaryGearbox$GearTable", "denominators", "[J", true)
  | 3 => ("PlanetaryGearbox$GearTable", "neutral", "[Z", true)
  | 4 => ("PlanetaryGearbox$GearTable", "distance", "[I", true)
  | 5 => ("PlanetaryGearbox$GearTable", "size", "I", false)
  | _ => ("PlanetaryGearbox$GearTable", "fresh", "Z", false)
def tyX2 : Nat → FieldType := fun k => match k with
  | 0 => .array .int
  | 1 => .array .long
  | 2 => .array .long
  | 3 => .array .boolean
  | 4 => .array .int
  | 5 => .int
  | _ => .boolean
abbrev wsX20 : List Cond := u_ws RX2 TX2 7
theorem nmX2 : ∀ a, a < 7 → ∀ b, b < 7 → a ≠ b → (TX2 a).2.1 ≠ (TX2 b).2.1 := by decide +kernel
theorem tyX2_ok : ∀ k, k < 7 → parseFieldDescriptor (TX2 k).2.2.1 = some (tyX2 k) := by decide +kernel
abbrev cX2_init : ByteArray := prog_4_method_1_code
def yX2_init : MethodName := ⟨RX2, "<init>", "()V"⟩
abbrev cX2_forget : ByteArray := prog_4_method_2_code
def yX2_forget : MethodName := ⟨RX2, "forget", "()V"⟩
abbrev cX2_refresh : ByteArray := prog_4_method_3_code
def yX2_refresh : MethodName := ⟨RX2, "refresh", "(LPlanetaryGearbox$Design;LPlanetaryGearbox$Speeds;)V"⟩
abbrev cX2_size : ByteArray := prog_4_method_4_code
def yX2_size : MethodName := ⟨RX2, "size", "()I"⟩
abbrev cX2_hasGear : ByteArray := prog_4_method_5_code
def yX2_hasGear : MethodName := ⟨RX2, "hasGear", "(I)Z"⟩
abbrev cX2_maskOf : ByteArray := prog_4_method_6_code
def yX2_maskOf : MethodName := ⟨RX2, "maskOf", "(I)I"⟩
abbrev cX2_find : ByteArray := prog_4_method_7_code
def yX2_find : MethodName := ⟨RX2, "find", "(I)I"⟩
abbrev cX2_ratioPart : ByteArray := prog_4_method_8_code
def yX2_ratioPart : MethodName := ⟨RX2, "ratioPart", "(II)J"⟩
abbrev cX2_measure : ByteArray := prog_4_method_9_code
def yX2_measure : MethodName := ⟨RX2, "measure", "(I)V"⟩
abbrev cX2_shiftsLeft : ByteArray := prog_4_method_10_code
def yX2_shiftsLeft : MethodName := ⟨RX2, "shiftsLeft", "(I)I"⟩
abbrev cX2_onTheWay : ByteArray := prog_4_method_11_code
def yX2_onTheWay : MethodName := ⟨RX2, "onTheWay", "(II)I"⟩
abbrev cX2_areSmallerNeutral : ByteArray := prog_4_method_12_code
def yX2_areSmallerNeutral : MethodName := ⟨RX2, "areSmallerNeutral", "(I)Z"⟩
abbrev cX2_insert : ByteArray := prog_4_method_13_code
def yX2_insert : MethodName := ⟨RX2, "insert", "(IJJ)V"⟩
abbrev cX2_neighbourAt : ByteArray := prog_4_method_14_code
def yX2_neighbourAt : MethodName := ⟨RX2, "neighbourAt", "(II)I"⟩
abbrev cX2_areNeighbours : ByteArray := prog_4_method_15_code
def yX2_areNeighbours : MethodName := ⟨RX2, "areNeighbours", "(II)Z"⟩
def RX3 : String := "PlanetaryGearbox$History"
def TX3 : u_T := fun k => match k with
  | 0 => ("PlanetaryGearbox$History", "masks", "[I", true)
  | _ => ("PlanetaryGearbox$History", "size", "I", false)
def tyX3 : Nat → FieldType := fun k => match k with
  | 0 => .array .int
  | _ => .int
abbrev wsX30 : List Cond := u_ws RX3 TX3 2
theorem nmX3 : ∀ a, a < 2 → ∀ b, b < 2 → a ≠ b → (TX3 a).2.1 ≠ (TX3 b).2.1 := by decide +kernel
theorem tyX3_ok : ∀ k, k < 2 → parseFieldDescriptor (TX3 k).2.2.1 = some (tyX3 k) := by decide +kernel
abbrev cX3_init : ByteArray := prog_5_method_1_code
def yX3_init : MethodName := ⟨RX3, "<init>", "()V"⟩
abbrev cX3_isEmpty : ByteArray := prog_5_method_2_code
def yX3_isEmpty : MethodName := ⟨RX3, "isEmpty", "()Z"⟩
abbrev cX3_clear : ByteArray := prog_5_method_3_code
def yX3_clear : MethodName := ⟨RX3, "clear", "()V"⟩
abbrev cX3_add : ByteArray := prog_5_method_4_code
def yX3_add : MethodName := ⟨RX3, "add", "(I)V"⟩
abbrev cX3_takeLatest : ByteArray := prog_5_method_5_code
def yX3_takeLatest : MethodName := ⟨RX3, "takeLatest", "()I"⟩
def RX4 : String := "PlanetaryGearbox$Speeds"
def TX4 : u_T := fun k => match k with
  | _ => ("PlanetaryGearbox$Speeds", "equations", "LPlanetaryGearbox$Equations;", true)
def tyX4 : Nat → FieldType := fun k => match k with
  | _ => .object "PlanetaryGearbox$Equations"
abbrev wsX40 : List Cond := u_ws RX4 TX4 1
theorem nmX4 : ∀ a, a < 1 → ∀ b, b < 1 → a ≠ b → (TX4 a).2.1 ≠ (TX4 b).2.1 := by decide +kernel
theorem tyX4_ok : ∀ k, k < 1 → parseFieldDescriptor (TX4 k).2.2.1 = some (tyX4 k) := by decide +kernel
abbrev cX4_init : ByteArray := prog_6_method_1_code
def yX4_init : MethodName := ⟨RX4, "<init>", "()V"⟩
abbrev cX4_solve : ByteArray := prog_6_method_2_code
def yX4_solve : MethodName := ⟨RX4, "solve", "(LPlanetaryGearbox$Design;I)V"⟩
abbrev cX4_stateFound : ByteArray := prog_6_method_3_code
def yX4_stateFound : MethodName := ⟨RX4, "stateFound", "()I"⟩
abbrev cX4_isDetermined : ByteArray := prog_6_method_4_code
def yX4_isDetermined : MethodName := ⟨RX4, "isDetermined", "(I)Z"⟩
abbrev cX4_speedPart : ByteArray := prog_6_method_5_code
def yX4_speedPart : MethodName := ⟨RX4, "speedPart", "(II)J"⟩
abbrev cX4_ratioPart : ByteArray := prog_6_method_6_code
def yX4_ratioPart : MethodName := ⟨RX4, "ratioPart", "(I)J"⟩
def RX5 : String := "PlanetaryGearbox$Torques"
def TX5 : u_T := fun k => match k with
  | _ => ("PlanetaryGearbox$Torques", "equations", "LPlanetaryGearbox$Equations;", true)
def tyX5 : Nat → FieldType := fun k => match k with
  | _ => .object "PlanetaryGearbox$Equations"
abbrev wsX50 : List Cond := u_ws RX5 TX5 1
theorem nmX5 : ∀ a, a < 1 → ∀ b, b < 1 → a ≠ b → (TX5 a).2.1 ≠ (TX5 b).2.1 := by decide +kernel
theorem tyX5_ok : ∀ k, k < 1 → parseFieldDescriptor (TX5 k).2.2.1 = some (tyX5 k) := by decide +kernel
abbrev cX5_init : ByteArray := prog_7_method_1_code
def yX5_init : MethodName := ⟨RX5, "<init>", "()V"⟩
abbrev cX5_solve : ByteArray := prog_7_method_2_code
def yX5_solve : MethodName := ⟨RX5, "solve", "(LPlanetaryGearbox$Design;I)V"⟩
abbrev cX5_isOutputDetermined : ByteArray := prog_7_method_3_code
def yX5_isOutputDetermined : MethodName := ⟨RX5, "isOutputDetermined", "()Z"⟩
abbrev cX5_outputPart : ByteArray := prog_7_method_4_code
def yX5_outputPart : MethodName := ⟨RX5, "outputPart", "(I)J"⟩
abbrev cX5_isDetermined : ByteArray := prog_7_method_5_code
def yX5_isDetermined : MethodName := ⟨RX5, "isDetermined", "(I)Z"⟩
abbrev cX5_elementPart : ByteArray := prog_7_method_6_code
def yX5_elementPart : MethodName := ⟨RX5, "elementPart", "(II)J"⟩
abbrev cX5_holdsUpTo : ByteArray := prog_7_method_7_code
def yX5_holdsUpTo : MethodName := ⟨RX5, "holdsUpTo", "(II)I"⟩
def RX6 : String := "PlanetaryGearbox"
def TX6 : u_T := fun k => match k with
  | 0 => ("PlanetaryGearbox", "design", "LPlanetaryGearbox$Design;", true)
  | 1 => ("PlanetaryGearbox", "firstSlot", "LPlanetaryGearbox$Design;", true)
  | 2 => ("PlanetaryGearbox", "secondSlot", "LPlanetaryGearbox$Design;", true)
  | 3 => ("PlanetaryGearbox", "firstSlotUsed", "Z", false)
  | 4 => ("PlanetaryGearbox", "secondSlotUsed", "Z", false)
  | 5 => ("PlanetaryGearbox", "history", "LPlanetaryGearbox$History;", true)
  | 6 => ("PlanetaryGearbox", "speeds", "LPlanetaryGearbox$Speeds;", true)
  | 7 => ("PlanetaryGearbox", "torques", "LPlanetaryGearbox$Torques;", true)
  | _ => ("PlanetaryGearbox", "gears", "LPlanetaryGearbox$GearTable;", true)
def tyX6 : Nat → FieldType := fun k => match k with
  | 0 => .object "PlanetaryGearbox$Design"
  | 1 => .object "PlanetaryGearbox$Design"
  | 2 => .object "PlanetaryGearbox$Design"
  | 3 => .boolean
  | 4 => .boolean
  | 5 => .object "PlanetaryGearbox$History"
  | 6 => .object "PlanetaryGearbox$Speeds"
  | 7 => .object "PlanetaryGearbox$Torques"
  | _ => .object "PlanetaryGearbox$GearTable"
abbrev wsX60 : List Cond := u_ws RX6 TX6 9
theorem nmX6 : ∀ a, a < 9 → ∀ b, b < 9 → a ≠ b → (TX6 a).2.1 ≠ (TX6 b).2.1 := by decide +kernel
theorem tyX6_ok : ∀ k, k < 9 → parseFieldDescriptor (TX6 k).2.2.1 = some (tyX6 k) := by decide +kernel
abbrev cX6_init : ByteArray := prog_1_method_1_code
def yX6_init : MethodName := ⟨RX6, "<init>", "()V"⟩
abbrev cX6_addSet : ByteArray := prog_1_method_2_code
def yX6_addSet : MethodName := ⟨RX6, "addSet", "(IIIII)I"⟩
abbrev cX6_addBrake : ByteArray := prog_1_method_3_code
def yX6_addBrake : MethodName := ⟨RX6, "addBrake", "(I)I"⟩
abbrev cX6_addClutch : ByteArray := prog_1_method_4_code
def yX6_addClutch : MethodName := ⟨RX6, "addClutch", "(II)I"⟩
abbrev cX6_setCapacity : ByteArray := prog_1_method_5_code
def yX6_setCapacity : MethodName := ⟨RX6, "setCapacity", "(II)I"⟩
abbrev cX6_count : ByteArray := prog_1_method_6_code
def yX6_count : MethodName := ⟨RX6, "count", "(I)I"⟩
abbrev cX6_engage : ByteArray := prog_1_method_7_code
def yX6_engage : MethodName := ⟨RX6, "engage", "(I)Z"⟩
abbrev cX6_release : ByteArray := prog_1_method_8_code
def yX6_release : MethodName := ⟨RX6, "release", "(I)Z"⟩
abbrev cX6_select : ByteArray := prog_1_method_9_code
def yX6_select : MethodName := ⟨RX6, "select", "(I)I"⟩
abbrev cX6_undo : ByteArray := prog_1_method_10_code
def yX6_undo : MethodName := ⟨RX6, "undo", "()Z"⟩
abbrev cX6_engaged : ByteArray := prog_1_method_11_code
def yX6_engaged : MethodName := ⟨RX6, "engaged", "()I"⟩
abbrev cX6_brakesOnly : ByteArray := prog_1_method_12_code
def yX6_brakesOnly : MethodName := ⟨RX6, "brakesOnly", "()Z"⟩
abbrev cX6_state : ByteArray := prog_1_method_13_code
def yX6_state : MethodName := ⟨RX6, "state", "()I"⟩
abbrev cX6_speed : ByteArray := prog_1_method_14_code
def yX6_speed : MethodName := ⟨RX6, "speed", "(II)J"⟩
abbrev cX6_ratio : ByteArray := prog_1_method_15_code
def yX6_ratio : MethodName := ⟨RX6, "ratio", "(I)J"⟩
abbrev cX6_ratioAsFloat : ByteArray := prog_1_method_16_code
def yX6_ratioAsFloat : MethodName := ⟨RX6, "ratioAsFloat", "()F"⟩
abbrev cX6_outputTorque : ByteArray := prog_1_method_17_code
def yX6_outputTorque : MethodName := ⟨RX6, "outputTorque", "(I)J"⟩
abbrev cX6_torque : ByteArray := prog_1_method_18_code
def yX6_torque : MethodName := ⟨RX6, "torque", "(II)J"⟩
abbrev cX6_slipping : ByteArray := prog_1_method_19_code
def yX6_slipping : MethodName := ⟨RX6, "slipping", "(I)I"⟩
abbrev cX6_greatestTorque : ByteArray := prog_1_method_20_code
def yX6_greatestTorque : MethodName := ⟨RX6, "greatestTorque", "()I"⟩
abbrev cX6_gear : ByteArray := prog_1_method_21_code
def yX6_gear : MethodName := ⟨RX6, "gear", "(I)I"⟩
abbrev cX6_indexOf : ByteArray := prog_1_method_22_code
def yX6_indexOf : MethodName := ⟨RX6, "indexOf", "(I)I"⟩
abbrev cX6_gearRatio : ByteArray := prog_1_method_23_code
def yX6_gearRatio : MethodName := ⟨RX6, "gearRatio", "(II)J"⟩
abbrev cX6_step : ByteArray := prog_1_method_24_code
def yX6_step : MethodName := ⟨RX6, "step", "(I)F"⟩
abbrev cX6_fewestShifts : ByteArray := prog_1_method_25_code
def yX6_fewestShifts : MethodName := ⟨RX6, "fewestShifts", "(II)I"⟩
abbrev cX6_shift : ByteArray := prog_1_method_26_code
def yX6_shift : MethodName := ⟨RX6, "shift", "(III)I"⟩
abbrev cX6_save : ByteArray := prog_1_method_27_code
def yX6_save : MethodName := ⟨RX6, "save", "(I)V"⟩
abbrev cX6_restore : ByteArray := prog_1_method_28_code
def yX6_restore : MethodName := ⟨RX6, "restore", "(I)V"⟩
abbrev cX6_isShaft : ByteArray := prog_1_method_29_code
def yX6_isShaft : MethodName := ⟨RX6, "isShaft", "(I)Z"⟩
abbrev cX6_isPart : ByteArray := prog_1_method_30_code
def yX6_isPart : MethodName := ⟨RX6, "isPart", "(I)Z"⟩
abbrev cX6_floatQuotient : ByteArray := prog_1_method_31_code
def yX6_floatQuotient : MethodName := ⟨RX6, "floatQuotient", "(JJ)F"⟩
abbrev cX6_ratioOfGear : ByteArray := prog_1_method_32_code
def yX6_ratioOfGear : MethodName := ⟨RX6, "ratioOfGear", "(I)F"⟩
abbrev cX6_changeEngaged : ByteArray := prog_1_method_33_code
def yX6_changeEngaged : MethodName := ⟨RX6, "changeEngaged", "(I)Z"⟩
def RX7 : String := "PlanetaryGearboxModel"
def TX7 : u_T := fun k => match k with
  | 0 => ("PlanetaryGearboxModel", "at", "[I", true)
  | 1 => ("PlanetaryGearboxModel", "slots", "[I", true)
  | 2 => ("PlanetaryGearboxModel", "isSaved", "[Z", true)
  | 3 => ("PlanetaryGearboxModel", "before", "[I", true)
  | 4 => ("PlanetaryGearboxModel", "changes", "I", false)
  | 5 => ("PlanetaryGearboxModel", "thrown", "I", false)
  | 6 => ("PlanetaryGearboxModel", "cell", "[J", true)
  | 7 => ("PlanetaryGearboxModel", "rows", "I", false)
  | 8 => ("PlanetaryGearboxModel", "columns", "I", false)
  | 9 => ("PlanetaryGearboxModel", "pivot", "[I", true)
  | 10 => ("PlanetaryGearboxModel", "isSolved", "Z", false)
  | 11 => ("PlanetaryGearboxModel", "states", "[I", true)
  | 12 => ("PlanetaryGearboxModel", "gears", "I", false)
  | 13 => ("PlanetaryGearboxModel", "gearMask", "[I", true)
  | 14 => ("PlanetaryGearboxModel", "gearUp", "[J", true)
  | 15 => ("PlanetaryGearboxModel", "gearLow", "[J", true)
  | _ => ("PlanetaryGearboxModel", "away", "[I", true)
def tyX7 : Nat → FieldType := fun k => match k with
  | 0 => .array .int
  | 1 => .array .int
  | 2 => .array .boolean
  | 3 => .array .int
  | 4 => .int
  | 5 => .int
  | 6 => .array .long
  | 7 => .int
  | 8 => .int
  | 9 => .array .int
  | 10 => .boolean
  | 11 => .array .int
  | 12 => .int
  | 13 => .array .int
  | 14 => .array .long
  | 15 => .array .long
  | _ => .array .int
abbrev wsX70 : List Cond := u_ws RX7 TX7 17
theorem nmX7 : ∀ a, a < 17 → ∀ b, b < 17 → a ≠ b → (TX7 a).2.1 ≠ (TX7 b).2.1 := by decide +kernel
theorem tyX7_ok : ∀ k, k < 17 → parseFieldDescriptor (TX7 k).2.2.1 = some (tyX7 k) := by decide +kernel
abbrev cX7_init : ByteArray := prog_9_method_1_code
def yX7_init : MethodName := ⟨RX7, "<init>", "()V"⟩
abbrev cX7_thrown : ByteArray := prog_9_method_2_code
def yX7_thrown : MethodName := ⟨RX7, "thrown", "()I"⟩
abbrev cX7_in : ByteArray := prog_9_method_3_code
def yX7_in : MethodName := ⟨RX7, "in", "(III)Z"⟩
abbrev cX7_isShaft : ByteArray := prog_9_method_4_code
def yX7_isShaft : MethodName := ⟨RX7, "isShaft", "(I)Z"⟩
abbrev cX7_isPart : ByteArray := prog_9_method_5_code
def yX7_isPart : MethodName := ⟨RX7, "isPart", "(I)Z"⟩
abbrev cX7_isElement : ByteArray := prog_9_method_6_code
def yX7_isElement : MethodName := ⟨RX7, "isElement", "(I)Z"⟩
abbrev cX7_isMask : ByteArray := prog_9_method_7_code
def yX7_isMask : MethodName := ⟨RX7, "isMask", "(I)Z"⟩
abbrev cX7_has : ByteArray := prog_9_method_8_code
def yX7_has : MethodName := ⟨RX7, "has", "(II)Z"⟩
abbrev cX7_addSet : ByteArray := prog_9_method_9_code
def yX7_addSet : MethodName := ⟨RX7, "addSet", "(IIIII)I"⟩
abbrev cX7_addElement : ByteArray := prog_9_method_10_code
def yX7_addElement : MethodName := ⟨RX7, "addElement", "(II)I"⟩
abbrev cX7_addBrake : ByteArray := prog_9_method_11_code
def yX7_addBrake : MethodName := ⟨RX7, "addBrake", "(I)I"⟩
abbrev cX7_addClutch : ByteArray := prog_9_method_12_code
def yX7_addClutch : MethodName := ⟨RX7, "addClutch", "(II)I"⟩
abbrev cX7_setCapacity : ByteArray := prog_9_method_13_code
def yX7_setCapacity : MethodName := ⟨RX7, "setCapacity", "(II)I"⟩
abbrev cX7_count : ByteArray := prog_9_method_14_code
def yX7_count : MethodName := ⟨RX7, "count", "(I)I"⟩
abbrev cX7_become : ByteArray := prog_9_method_15_code
def yX7_become : MethodName := ⟨RX7, "become", "(I)V"⟩
abbrev cX7_engage : ByteArray := prog_9_method_16_code
def yX7_engage : MethodName := ⟨RX7, "engage", "(I)Z"⟩
abbrev cX7_release : ByteArray := prog_9_method_17_code
def yX7_release : MethodName := ⟨RX7, "release", "(I)Z"⟩
abbrev cX7_select : ByteArray := prog_9_method_18_code
def yX7_select : MethodName := ⟨RX7, "select", "(I)I"⟩
abbrev cX7_undo : ByteArray := prog_9_method_19_code
def yX7_undo : MethodName := ⟨RX7, "undo", "()Z"⟩
abbrev cX7_engaged : ByteArray := prog_9_method_20_code
def yX7_engaged : MethodName := ⟨RX7, "engaged", "()I"⟩
abbrev cX7_brakesOnly : ByteArray := prog_9_method_21_code
def yX7_brakesOnly : MethodName := ⟨RX7, "brakesOnly", "()Z"⟩
abbrev cX7_clearRows : ByteArray := prog_9_method_22_code
def yX7_clearRows : MethodName := ⟨RX7, "clearRows", "(II)V"⟩
abbrev cX7_divisor : ByteArray := prog_9_method_23_code
def yX7_divisor : MethodName := ⟨RX7, "divisor", "(JJ)J"⟩
abbrev cX7_lessen : ByteArray := prog_9_method_24_code
def yX7_lessen : MethodName := ⟨RX7, "lessen", "(I)V"⟩
abbrev cX7_swap : ByteArray := prog_9_method_25_code
def yX7_swap : MethodName := ⟨RX7, "swap", "(II)V"⟩
abbrev cX7_takeOff : ByteArray := prog_9_method_26_code
def yX7_takeOff : MethodName := ⟨RX7, "takeOff", "(III)V"⟩
abbrev cX7_solve : ByteArray := prog_9_method_27_code
def yX7_solve : MethodName := ⟨RX7, "solve", "()V"⟩
abbrev cX7_isDetermined : ByteArray := prog_9_method_28_code
def yX7_isDetermined : MethodName := ⟨RX7, "isDetermined", "(I)Z"⟩
abbrev cX7_upper : ByteArray := prog_9_method_29_code
def yX7_upper : MethodName := ⟨RX7, "upper", "(I)J"⟩
abbrev cX7_lower : ByteArray := prog_9_method_30_code
def yX7_lower : MethodName := ⟨RX7, "lower", "(I)J"⟩
abbrev cX7_part : ByteArray := prog_9_method_31_code
def yX7_part : MethodName := ⟨RX7, "part", "(JJI)J"⟩
abbrev cX7_laySpeeds : ByteArray := prog_9_method_32_code
def yX7_laySpeeds : MethodName := ⟨RX7, "laySpeeds", "(I)V"⟩
abbrev cX7_stateOf : ByteArray := prog_9_method_33_code
def yX7_stateOf : MethodName := ⟨RX7, "stateOf", "(I)I"⟩
abbrev cX7_state : ByteArray := prog_9_method_34_code
def yX7_state : MethodName := ⟨RX7, "state", "()I"⟩
abbrev cX7_speed : ByteArray := prog_9_method_35_code
def yX7_speed : MethodName := ⟨RX7, "speed", "(II)J"⟩
abbrev cX7_ratioPart : ByteArray := prog_9_method_36_code
def yX7_ratioPart : MethodName := ⟨RX7, "ratioPart", "(I)J"⟩
abbrev cX7_ratio : ByteArray := prog_9_method_37_code
def yX7_ratio : MethodName := ⟨RX7, "ratio", "(I)J"⟩
abbrev cX7_ratioAsFloat : ByteArray := prog_9_method_38_code
def yX7_ratioAsFloat : MethodName := ⟨RX7, "ratioAsFloat", "()F"⟩
abbrev cX7_layTorques : ByteArray := prog_9_method_39_code
def yX7_layTorques : MethodName := ⟨RX7, "layTorques", "()V"⟩
abbrev cX7_outputTorque : ByteArray := prog_9_method_40_code
def yX7_outputTorque : MethodName := ⟨RX7, "outputTorque", "(I)J"⟩
abbrev cX7_torque : ByteArray := prog_9_method_41_code
def yX7_torque : MethodName := ⟨RX7, "torque", "(II)J"⟩
abbrev cX7_slips : ByteArray := prog_9_method_42_code
def yX7_slips : MethodName := ⟨RX7, "slips", "(I)I"⟩
abbrev cX7_slipping : ByteArray := prog_9_method_43_code
def yX7_slipping : MethodName := ⟨RX7, "slipping", "(I)I"⟩
abbrev cX7_greatestTorque : ByteArray := prog_9_method_44_code
def yX7_greatestTorque : MethodName := ⟨RX7, "greatestTorque", "()I"⟩
abbrev cX7_isGear : ByteArray := prog_9_method_45_code
def yX7_isGear : MethodName := ⟨RX7, "isGear", "(I)Z"⟩
abbrev cX7_layGears : ByteArray := prog_9_method_46_code
def yX7_layGears : MethodName := ⟨RX7, "layGears", "()V"⟩
abbrev cX7_isNumber : ByteArray := prog_9_method_47_code
def yX7_isNumber : MethodName := ⟨RX7, "isNumber", "(I)Z"⟩
abbrev cX7_gear : ByteArray := prog_9_method_48_code
def yX7_gear : MethodName := ⟨RX7, "gear", "(I)I"⟩
abbrev cX7_indexOf : ByteArray := prog_9_method_49_code
def yX7_indexOf : MethodName := ⟨RX7, "indexOf", "(I)I"⟩
abbrev cX7_gearRatio : ByteArray := prog_9_method_50_code
def yX7_gearRatio : MethodName := ⟨RX7, "gearRatio", "(II)J"⟩
abbrev cX7_ratioOf : ByteArray := prog_9_method_51_code
def yX7_ratioOf : MethodName := ⟨RX7, "ratioOf", "(I)F"⟩
abbrev cX7_step : ByteArray := prog_9_method_52_code
def yX7_step : MethodName := ⟨RX7, "step", "(I)F"⟩
abbrev cX7_bits : ByteArray := prog_9_method_53_code
def yX7_bits : MethodName := ⟨RX7, "bits", "(I)I"⟩
abbrev cX7_areNeighbours : ByteArray := prog_9_method_54_code
def yX7_areNeighbours : MethodName := ⟨RX7, "areNeighbours", "(II)Z"⟩
abbrev cX7_layAway : ByteArray := prog_9_method_55_code
def yX7_layAway : MethodName := ⟨RX7, "layAway", "(I)V"⟩
abbrev cX7_fewestShifts : ByteArray := prog_9_method_56_code
def yX7_fewestShifts : MethodName := ⟨RX7, "fewestShifts", "(II)I"⟩
abbrev cX7_shift : ByteArray := prog_9_method_57_code
def yX7_shift : MethodName := ⟨RX7, "shift", "(III)I"⟩
abbrev cX7_save : ByteArray := prog_9_method_58_code
def yX7_save : MethodName := ⟨RX7, "save", "(I)V"⟩
abbrev cX7_restore : ByteArray := prog_9_method_59_code
def yX7_restore : MethodName := ⟨RX7, "restore", "(I)V"⟩
def RJ6 : String := "java/lang/Integer"
def TJ6 : u_T := fun k => match k with
  | _ => ("", "", "", false)
def tyJ6 : Nat → FieldType := fun k => match k with
  | _ => .int
abbrev wsJ60 : List Cond := u_ws RJ6 TJ6 0
theorem nmJ6 : ∀ a, a < 0 → ∀ b, b < 0 → a ≠ b → (TJ6 a).2.1 ≠ (TJ6 b).2.1 := by decide +kernel
theorem tyJ6_ok : ∀ k, k < 0 → parseFieldDescriptor (TJ6 k).2.2.1 = some (tyJ6 k) := by decide +kernel
abbrev cJ6_bitCount_0f7a4 : ByteArray := prog_14_method_49_code
def yJ6_bitCount_0f7a4 : MethodName := ⟨RJ6, "bitCount", "(I)I"⟩
def RJ9 : String := "java/lang/Math"
def TJ9 : u_T := fun k => match k with
  | _ => ("", "", "", false)
def tyJ9 : Nat → FieldType := fun k => match k with
  | _ => .int
abbrev wsJ90 : List Cond := u_ws RJ9 TJ9 0
theorem nmJ9 : ∀ a, a < 0 → ∀ b, b < 0 → a ≠ b → (TJ9 a).2.1 ≠ (TJ9 b).2.1 := by decide +kernel
theorem tyJ9_ok : ∀ k, k < 0 → parseFieldDescriptor (TJ9 k).2.2.1 = some (tyJ9 k) := by decide +kernel
abbrev cJ9_abs_067f4 : ByteArray := prog_15_method_61_code
def yJ9_abs_067f4 : MethodName := ⟨RJ9, "abs", "(J)J"⟩
abbrev cJ9_min_7cf53 : ByteArray := prog_15_method_69_code
def yJ9_min_7cf53 : MethodName := ⟨RJ9, "min", "(II)I"⟩
abbrev cJ9_min_f86c9 : ByteArray := prog_15_method_70_code
def yJ9_min_f86c9 : MethodName := ⟨RJ9, "min", "(JJ)J"⟩
def RJ0 : String := "java/lang/String"
def TJ0 : u_T := fun k => match k with
  | _ => ("", "", "", false)
def tyJ0 : Nat → FieldType := fun k => match k with
  | _ => .int
abbrev wsJ00 : List Cond := u_ws RJ0 TJ0 0
theorem nmJ0 : ∀ a, a < 0 → ∀ b, b < 0 → a ≠ b → (TJ0 a).2.1 ≠ (TJ0 b).2.1 := by decide +kernel
theorem tyJ0_ok : ∀ k, k < 0 → parseFieldDescriptor (TJ0 k).2.2.1 = some (tyJ0 k) := by decide +kernel
def RL : String := "PlanetaryGearboxLaw"
abbrev cL_addSet : ByteArray := method_3_code
def yL_addSet : MethodName := ⟨RL, "addSet", "(LPlanetaryGearbox;IIIII[J)I"⟩
abbrev cL_addBrake : ByteArray := method_4_code
def yL_addBrake : MethodName := ⟨RL, "addBrake", "(LPlanetaryGearbox;I[J)I"⟩
abbrev cL_addClutch : ByteArray := method_5_code
def yL_addClutch : MethodName := ⟨RL, "addClutch", "(LPlanetaryGearbox;II[J)I"⟩
abbrev cL_setCapacity : ByteArray := method_6_code
def yL_setCapacity : MethodName := ⟨RL, "setCapacity", "(LPlanetaryGearbox;II[J)I"⟩
abbrev cL_count : ByteArray := method_7_code
def yL_count : MethodName := ⟨RL, "count", "(LPlanetaryGearbox;I[J)I"⟩
abbrev cL_engage : ByteArray := method_8_code
def yL_engage : MethodName := ⟨RL, "engage", "(LPlanetaryGearbox;I[J)I"⟩
abbrev cL_release : ByteArray := method_9_code
def yL_release : MethodName := ⟨RL, "release", "(LPlanetaryGearbox;I[J)I"⟩
abbrev cL_select : ByteArray := method_10_code
def yL_select : MethodName := ⟨RL, "select", "(LPlanetaryGearbox;I[J)I"⟩
abbrev cL_speed : ByteArray := method_11_code
def yL_speed : MethodName := ⟨RL, "speed", "(LPlanetaryGearbox;II[J)I"⟩
abbrev cL_ratio : ByteArray := method_12_code
def yL_ratio : MethodName := ⟨RL, "ratio", "(LPlanetaryGearbox;I[J)I"⟩
abbrev cL_ratioAsFloat : ByteArray := method_13_code
def yL_ratioAsFloat : MethodName := ⟨RL, "ratioAsFloat", "(LPlanetaryGearbox;[D)I"⟩
abbrev cL_outputTorque : ByteArray := method_14_code
def yL_outputTorque : MethodName := ⟨RL, "outputTorque", "(LPlanetaryGearbox;I[J)I"⟩
abbrev cL_torque : ByteArray := method_15_code
def yL_torque : MethodName := ⟨RL, "torque", "(LPlanetaryGearbox;II[J)I"⟩
abbrev cL_slipping : ByteArray := method_16_code
def yL_slipping : MethodName := ⟨RL, "slipping", "(LPlanetaryGearbox;I[J)I"⟩
abbrev cL_greatestTorque : ByteArray := method_17_code
def yL_greatestTorque : MethodName := ⟨RL, "greatestTorque", "(LPlanetaryGearbox;[J)I"⟩
abbrev cL_gear : ByteArray := method_18_code
def yL_gear : MethodName := ⟨RL, "gear", "(LPlanetaryGearbox;I[J)I"⟩
abbrev cL_indexOf : ByteArray := method_19_code
def yL_indexOf : MethodName := ⟨RL, "indexOf", "(LPlanetaryGearbox;I[J)I"⟩
abbrev cL_gearRatio : ByteArray := method_20_code
def yL_gearRatio : MethodName := ⟨RL, "gearRatio", "(LPlanetaryGearbox;II[J)I"⟩
abbrev cL_step : ByteArray := method_21_code
def yL_step : MethodName := ⟨RL, "step", "(LPlanetaryGearbox;I[D)I"⟩
abbrev cL_fewestShifts : ByteArray := method_22_code
def yL_fewestShifts : MethodName := ⟨RL, "fewestShifts", "(LPlanetaryGearbox;II[J)I"⟩
abbrev cL_shift : ByteArray := method_23_code
def yL_shift : MethodName := ⟨RL, "shift", "(LPlanetaryGearbox;III[J)I"⟩
abbrev cL_save : ByteArray := method_24_code
def yL_save : MethodName := ⟨RL, "save", "(LPlanetaryGearbox;I)I"⟩
abbrev cL_restore : ByteArray := method_25_code
def yL_restore : MethodName := ⟨RL, "restore", "(LPlanetaryGearbox;I)I"⟩
abbrev cL_law : ByteArray := code
def yL_law : MethodName := ⟨RL, "law", "([I)Z"⟩
abbrev vwCl : List vw_C := [(RX0, TX0, 11), (RX1, TX1, 4), (RX2, TX2, 7), (RX3, TX3, 2), (RX4, TX4, 1), (RX5, TX5, 1), (RX6, TX6, 9), (RX7, TX7, 17)]
end
section
/-! the tables' words that are good, as one list: every method's words -/
def TB : List Cond := lw_tbl.filter goodWord
theorem mTB {w : Cond} (h : w ∈ lw_tbl) (g : goodWord w = true) : w ∈ TB := List.mem_filter.mpr ⟨h, g⟩
theorem TB_tbl {w : Cond} (h : w ∈ TB) : w ∈ lw_tbl := (List.mem_filter.mp h).1
theorem TB_good {w : Cond} (h : w ∈ TB) : goodWord w = true := (List.mem_filter.mp h).2
theorem tb_0 : ∀ w ∈ k2_sels lw_privs, w ∈ lw_tbl := fun _ h => List.mem_append_left _ h
theorem tb_1 : ∀ w ∈ tables_1_1, w ∈ lw_tbl := fun _ h => List.mem_append_right _ (List.mem_append_left _ h)
theorem tb_2 : ∀ w ∈ tables_1_2, w ∈ lw_tbl := fun _ h => List.mem_append_right _ (List.mem_append_right _ (List.mem_append_left _ h))
theorem tb_3 : ∀ w ∈ tables_1_3, w ∈ lw_tbl := fun _ h => List.mem_append_right _ (List.mem_append_right _ (List.mem_append_right _ (List.mem_append_left _ h)))
theorem tb_4 : ∀ w ∈ tables_1_4, w ∈ lw_tbl := fun _ h => List.mem_append_right _ (List.mem_append_right _ (List.mem_append_right _ (List.mem_append_right _ (List.mem_append_left _ h))))
theorem tb_5 : ∀ w ∈ tables_1_5, w ∈ lw_tbl := fun _ h => List.mem_append_right _ (List.mem_append_right _ (List.mem_append_right _ (List.mem_append_right _ (List.mem_append_right _ h))))
theorem TB_in {Ts : List Cond} (h : ∀ w ∈ TB, w ∈ Ts) {y : MethodName} {b : ByteArray} {n : Nat} {r : Option FieldType} (hc : Cond.code y b n r ∈ TB) : GoodIn Ts (.code y b n r :: TB) := fun w hw => (List.mem_cons.mp hw).elim (fun q => by subst q; exact ⟨h _ hc, good_of_word (TB_good hc)⟩) (fun q => ⟨h _ q, good_of_word (TB_good q)⟩)
theorem TB_V {own C : String} {idx : Nat} {y : MethodName} {b : ByteArray} {n : Nat} {r : Option FieldType} (h1 : Cond.methodLink own idx y ∈ TB) (h2 : Cond.instanceMethod y ∈ TB) (h3 : Cond.selects C y y ∈ TB) (h4 : Cond.initialized C ∈ TB) (hc : Cond.code y b n r ∈ TB) {Ts : List Cond} (h : ∀ w ∈ TB, w ∈ Ts) : GoodIn Ts (wsV own idx C y (.code y b n r :: TB)) := fun w hw => by
  have g : ∀ {z : Cond}, z ∈ TB → z ∈ Ts ∧ ((z.onTables && z.keeps) = true ∨ ∃ ty, z = .arrayClass ty) := fun hz => ⟨h _ hz, good_of_word (TB_good hz)⟩
  rcases List.mem_append.mp hw with q | q
  · rcases List.mem_cons.mp q with rfl | q
    · exact g h1
    rcases List.mem_cons.mp q with rfl | q
    · exact g h2
    rcases List.mem_cons.mp q with rfl | q
    · exact g h3
    rcases List.mem_cons.mp q with rfl | q
    · exact g h4
    exact absurd q List.not_mem_nil
  · exact TB_in h hc w q
theorem TB_S {own : String} {idx : Nat} {y : MethodName} {b : ByteArray} {n : Nat} {r : Option FieldType} (h1 : Cond.methodLink own idx y ∈ TB) (h2 : Cond.static y ∈ TB) (h4 : Cond.initialized y.cls ∈ TB) (hc : Cond.code y b n r ∈ TB) {Ts : List Cond} (h : ∀ w ∈ TB, w ∈ Ts) : GoodIn Ts (va_wsS own idx y (.code y b n r :: TB)) := fun w hw => by
  have g : ∀ {z : Cond}, z ∈ TB → z ∈ Ts ∧ ((z.onTables && z.keeps) = true ∨ ∃ ty, z = .arrayClass ty) := fun hz => ⟨h _ hz, good_of_word (TB_good hz)⟩
  rcases List.mem_append.mp hw with q | q
  · rcases List.mem_cons.mp q with rfl | q
    · exact g h1
    rcases List.mem_cons.mp q with rfl | q
    · exact g h2
    rcases List.mem_cons.mp q with rfl | q
    · exact g h4
    exact absurd q List.not_mem_nil
  · exact TB_in h hc w q
theorem k_cl_L_8 : (Cond.classLink RL 8 RX6) ∈ TB := mTB (tb_1 _ (List.mem_of_getElem? (i := 17) rfl)) (by decide +kernel)
theorem k_il_X6 : (Cond.instantiable RX6 9) ∈ TB := mTB (tb_1 _ (List.mem_of_getElem? (i := 18) rfl)) (by decide +kernel)
theorem k_in_X6 : (Cond.initialized RX6) ∈ TB := mTB (tb_1 _ (List.mem_of_getElem? (i := 1) rfl)) (by decide +kernel)
theorem k_cl_L_96 : (Cond.classLink RL 96 RX7) ∈ TB := mTB (tb_4 _ (List.mem_of_getElem? (i := 35) rfl)) (by decide +kernel)
theorem k_il_X7 : (Cond.instantiable RX7 17) ∈ TB := mTB (tb_4 _ (List.mem_of_getElem? (i := 36) rfl)) (by decide +kernel)
theorem k_in_X7 : (Cond.initialized RX7) ∈ TB := mTB (tb_1 _ (List.mem_of_getElem? (i := 8) rfl)) (by decide +kernel)
theorem k_ac__long : (Cond.arrayClass .long) ∈ TB := mTB (tb_1 _ (List.mem_of_getElem? (i := 106) rfl)) (by decide +kernel)
theorem k_ac__double : (Cond.arrayClass .double) ∈ TB := mTB (tb_5 _ (List.mem_of_getElem? (i := 79) rfl)) (by decide +kernel)
theorem k_m_L_95 : (Cond.methodLink RL 95 yX6_init) ∈ TB := mTB (tb_1 _ (List.mem_of_getElem? (i := 19) rfl)) (by decide +kernel)
theorem k_im_X6_init : (Cond.instanceMethod yX6_init) ∈ TB := mTB (tb_1 _ (List.mem_of_getElem? (i := 20) rfl)) (by decide +kernel)
theorem k_co_X6_init : (Cond.code yX6_init cX6_init 1 none) ∈ TB := mTB (tb_1 _ (List.mem_of_getElem? (i := 21) rfl)) (by decide +kernel)
theorem k_m_X6_3 : (Cond.methodLink RX6 3 objectInit) ∈ TB := mTB (tb_1 _ (List.mem_of_getElem? (i := 22) rfl)) (by decide +kernel)
theorem k_im_objectInit : (Cond.instanceMethod objectInit) ∈ TB := mTB (tb_1 _ (List.mem_of_getElem? (i := 23) rfl)) (by decide +kernel)
theorem k_co_objectInit : (Cond.code objectInit ⟨#[0xb1]⟩ 1 none) ∈ TB := mTB (tb_1 _ (List.mem_of_getElem? (i := 24) rfl)) (by decide +kernel)
theorem k_cl_X6_9 : (Cond.classLink RX6 9 RX0) ∈ TB := mTB (tb_1 _ (List.mem_of_getElem? (i := 25) rfl)) (by decide +kernel)
theorem k_il_X0 : (Cond.instantiable RX0 11) ∈ TB := mTB (tb_1 _ (List.mem_of_getElem? (i := 26) rfl)) (by decide +kernel)
theorem k_in_X0 : (Cond.initialized RX0) ∈ TB := mTB (tb_1 _ (List.mem_of_getElem? (i := 2) rfl)) (by decide +kernel)
theorem k_f_X6_12 : (Cond.fieldLink RX6 12 "PlanetaryGearbox" "design" "LPlanetaryGearbox$Design;") ∈ TB := mTB (tb_1 _ (List.mem_of_getElem? (i := 152) rfl)) (by decide +kernel)
theorem k_f_X6_16 : (Cond.fieldLink RX6 16 "PlanetaryGearbox" "firstSlot" "LPlanetaryGearbox$Design;") ∈ TB := mTB (tb_1 _ (List.mem_of_getElem? (i := 153) rfl)) (by decide +kernel)
theorem k_f_X6_19 : (Cond.fieldLink RX6 19 "PlanetaryGearbox" "secondSlot" "LPlanetaryGearbox$Design;") ∈ TB := mTB (tb_1 _ (List.mem_of_getElem? (i := 154) rfl)) (by decide +kernel)
theorem k_cl_X6_22 : (Cond.classLink RX6 22 RX3) ∈ TB := mTB (tb_1 _ (List.mem_of_getElem? (i := 66) rfl)) (by decide +kernel)
theorem k_il_X3 : (Cond.instantiable RX3 2) ∈ TB := mTB (tb_1 _ (List.mem_of_getElem? (i := 67) rfl)) (by decide +kernel)
theorem k_in_X3 : (Cond.initialized RX3) ∈ TB := mTB (tb_1 _ (List.mem_of_getElem? (i := 3) rfl)) (by decide +kernel)
theorem k_f_X6_25 : (Cond.fieldLink RX6 25 "PlanetaryGearbox" "history" "LPlanetaryGearbox$History;") ∈ TB := mTB (tb_1 _ (List.mem_of_getElem? (i := 157) rfl)) (by decide +kernel)
theorem k_cl_X6_29 : (Cond.classLink RX6 29 RX4) ∈ TB := mTB (tb_1 _ (List.mem_of_getElem? (i := 79) rfl)) (by decide +kernel)
theorem k_il_X4 : (Cond.instantiable RX4 1) ∈ TB := mTB (tb_1 _ (List.mem_of_getElem? (i := 80) rfl)) (by decide +kernel)
theorem k_in_X4 : (Cond.initialized RX4) ∈ TB := mTB (tb_1 _ (List.mem_of_getElem? (i := 4) rfl)) (by decide +kernel)
theorem k_f_X6_32 : (Cond.fieldLink RX6 32 "PlanetaryGearbox" "speeds" "LPlanetaryGearbox$Speeds;") ∈ TB := mTB (tb_1 _ (List.mem_of_getElem? (i := 158) rfl)) (by decide +kernel)
theorem k_cl_X6_36 : (Cond.classLink RX6 36 RX5) ∈ TB := mTB (tb_1 _ (List.mem_of_getElem? (i := 112) rfl)) (by decide +kernel)
theorem k_il_X5 : (Cond.instantiable RX5 1) ∈ TB := mTB (tb_1 _ (List.mem_of_getElem? (i := 113) rfl)) (by decide +kernel)
theorem k_in_X5 : (Cond.initialized RX5) ∈ TB := mTB (tb_1 _ (List.mem_of_getElem? (i := 6) rfl)) (by decide +kernel)
theorem k_f_X6_39 : (Cond.fieldLink RX6 39 "PlanetaryGearbox" "torques" "LPlanetaryGearbox$Torques;") ∈ TB := mTB (tb_1 _ (List.mem_of_getElem? (i := 159) rfl)) (by decide +kernel)
theorem k_cl_X6_43 : (Cond.classLink RX6 43 RX2) ∈ TB := mTB (tb_1 _ (List.mem_of_getElem? (i := 124) rfl)) (by decide +kernel)
theorem k_il_X2 : (Cond.instantiable RX2 7) ∈ TB := mTB (tb_1 _ (List.mem_of_getElem? (i := 125) rfl)) (by decide +kernel)
theorem k_in_X2 : (Cond.initialized RX2) ∈ TB := mTB (tb_1 _ (List.mem_of_getElem? (i := 7) rfl)) (by decide +kernel)
theorem k_f_X6_46 : (Cond.fieldLink RX6 46 "PlanetaryGearbox" "gears" "LPlanetaryGearbox$GearTable;") ∈ TB := mTB (tb_1 _ (List.mem_of_getElem? (i := 160) rfl)) (by decide +kernel)
theorem k_im_X0_init : (Cond.instanceMethod yX0_init) ∈ TB := mTB (tb_1 _ (List.mem_of_getElem? (i := 28) rfl)) (by decide +kernel)
theorem k_co_X0_init : (Cond.code yX0_init cX0_init 1 none) ∈ TB := mTB (tb_1 _ (List.mem_of_getElem? (i := 29) rfl)) (by decide +kernel)
theorem k_m_X0_3 : (Cond.methodLink RX0 3 objectInit) ∈ TB := mTB (tb_1 _ (List.mem_of_getElem? (i := 30) rfl)) (by decide +kernel)
theorem k_ac__int : (Cond.arrayClass .int) ∈ TB := mTB (tb_1 _ (List.mem_of_getElem? (i := 65) rfl)) (by decide +kernel)
theorem k_f_X0_9 : (Cond.fieldLink RX0 9 "PlanetaryGearbox$Design" "sun" "[I") ∈ TB := mTB (tb_1 _ (List.mem_of_getElem? (i := 31) rfl)) (by decide +kernel)
theorem k_f_X0_15 : (Cond.fieldLink RX0 15 "PlanetaryGearbox$Design" "ring" "[I") ∈ TB := mTB (tb_1 _ (List.mem_of_getElem? (i := 32) rfl)) (by decide +kernel)
theorem k_f_X0_18 : (Cond.fieldLink RX0 18 "PlanetaryGearbox$Design" "carrier" "[I") ∈ TB := mTB (tb_1 _ (List.mem_of_getElem? (i := 33) rfl)) (by decide +kernel)
theorem k_f_X0_21 : (Cond.fieldLink RX0 21 "PlanetaryGearbox$Design" "sunTeeth" "[I") ∈ TB := mTB (tb_1 _ (List.mem_of_getElem? (i := 34) rfl)) (by decide +kernel)
theorem k_f_X0_24 : (Cond.fieldLink RX0 24 "PlanetaryGearbox$Design" "ringTeeth" "[I") ∈ TB := mTB (tb_1 _ (List.mem_of_getElem? (i := 35) rfl)) (by decide +kernel)
theorem k_f_X0_27 : (Cond.fieldLink RX0 27 "PlanetaryGearbox$Design" "firstShaft" "[I") ∈ TB := mTB (tb_1 _ (List.mem_of_getElem? (i := 37) rfl)) (by decide +kernel)
theorem k_f_X0_30 : (Cond.fieldLink RX0 30 "PlanetaryGearbox$Design" "secondShaft" "[I") ∈ TB := mTB (tb_1 _ (List.mem_of_getElem? (i := 38) rfl)) (by decide +kernel)
theorem k_f_X0_33 : (Cond.fieldLink RX0 33 "PlanetaryGearbox$Design" "capacities" "[I") ∈ TB := mTB (tb_1 _ (List.mem_of_getElem? (i := 39) rfl)) (by decide +kernel)
theorem k_im_X3_init : (Cond.instanceMethod yX3_init) ∈ TB := mTB (tb_1 _ (List.mem_of_getElem? (i := 69) rfl)) (by decide +kernel)
theorem k_co_X3_init : (Cond.code yX3_init cX3_init 1 none) ∈ TB := mTB (tb_1 _ (List.mem_of_getElem? (i := 70) rfl)) (by decide +kernel)
theorem k_m_X3_3 : (Cond.methodLink RX3 3 objectInit) ∈ TB := mTB (tb_1 _ (List.mem_of_getElem? (i := 71) rfl)) (by decide +kernel)
theorem k_f_X3_9 : (Cond.fieldLink RX3 9 "PlanetaryGearbox$History" "masks" "[I") ∈ TB := mTB (tb_1 _ (List.mem_of_getElem? (i := 72) rfl)) (by decide +kernel)
theorem k_im_X4_init : (Cond.instanceMethod yX4_init) ∈ TB := mTB (tb_1 _ (List.mem_of_getElem? (i := 82) rfl)) (by decide +kernel)
theorem k_co_X4_init : (Cond.code yX4_init cX4_init 1 none) ∈ TB := mTB (tb_1 _ (List.mem_of_getElem? (i := 83) rfl)) (by decide +kernel)
theorem k_m_X4_5 : (Cond.methodLink RX4 5 objectInit) ∈ TB := mTB (tb_1 _ (List.mem_of_getElem? (i := 84) rfl)) (by decide +kernel)
theorem k_cl_X4_11 : (Cond.classLink RX4 11 RX1) ∈ TB := mTB (tb_1 _ (List.mem_of_getElem? (i := 85) rfl)) (by decide +kernel)
theorem k_il_X1 : (Cond.instantiable RX1 4) ∈ TB := mTB (tb_1 _ (List.mem_of_getElem? (i := 86) rfl)) (by decide +kernel)
theorem k_in_X1 : (Cond.initialized RX1) ∈ TB := mTB (tb_1 _ (List.mem_of_getElem? (i := 5) rfl)) (by decide +kernel)
theorem k_f_X4_14 : (Cond.fieldLink RX4 14 "PlanetaryGearbox$Speeds" "equations" "LPlanetaryGearbox$Equations;") ∈ TB := mTB (tb_1 _ (List.mem_of_getElem? (i := 108) rfl)) (by decide +kernel)
theorem k_im_X1_init : (Cond.instanceMethod yX1_init) ∈ TB := mTB (tb_1 _ (List.mem_of_getElem? (i := 88) rfl)) (by decide +kernel)
theorem k_co_X1_init : (Cond.code yX1_init cX1_init 1 none) ∈ TB := mTB (tb_1 _ (List.mem_of_getElem? (i := 89) rfl)) (by decide +kernel)
theorem k_m_X1_5 : (Cond.methodLink RX1 5 objectInit) ∈ TB := mTB (tb_1 _ (List.mem_of_getElem? (i := 90) rfl)) (by decide +kernel)
theorem k_cl_X1_11 : (Cond.classLink RX1 11 "[[J") ∈ TB := mTB (tb_1 _ (List.mem_of_getElem? (i := 91) rfl)) (by decide +kernel)
theorem k_f_X1_13 : (Cond.fieldLink RX1 13 "PlanetaryGearbox$Equations" "cells" "[[J") ∈ TB := mTB (tb_1 _ (List.mem_of_getElem? (i := 93) rfl)) (by decide +kernel)
theorem k_f_X1_16 : (Cond.fieldLink RX1 16 "PlanetaryGearbox$Equations" "pivotRow" "[I") ∈ TB := mTB (tb_1 _ (List.mem_of_getElem? (i := 94) rfl)) (by decide +kernel)
theorem k_ac__boolean : (Cond.arrayClass .boolean) ∈ TB := mTB (tb_1 _ (List.mem_of_getElem? (i := 107) rfl)) (by decide +kernel)
theorem k_f_X1_20 : (Cond.fieldLink RX1 20 "PlanetaryGearbox$Equations" "isPivotRow" "[Z") ∈ TB := mTB (tb_1 _ (List.mem_of_getElem? (i := 95) rfl)) (by decide +kernel)
theorem k_im_X5_init : (Cond.instanceMethod yX5_init) ∈ TB := mTB (tb_1 _ (List.mem_of_getElem? (i := 115) rfl)) (by decide +kernel)
theorem k_co_X5_init : (Cond.code yX5_init cX5_init 1 none) ∈ TB := mTB (tb_1 _ (List.mem_of_getElem? (i := 116) rfl)) (by decide +kernel)
theorem k_m_X5_5 : (Cond.methodLink RX5 5 objectInit) ∈ TB := mTB (tb_1 _ (List.mem_of_getElem? (i := 117) rfl)) (by decide +kernel)
theorem k_cl_X5_11 : (Cond.classLink RX5 11 RX1) ∈ TB := mTB (tb_1 _ (List.mem_of_getElem? (i := 118) rfl)) (by decide +kernel)
theorem k_f_X5_14 : (Cond.fieldLink RX5 14 "PlanetaryGearbox$Torques" "equations" "LPlanetaryGearbox$Equations;") ∈ TB := mTB (tb_1 _ (List.mem_of_getElem? (i := 120) rfl)) (by decide +kernel)
theorem k_im_X2_init : (Cond.instanceMethod yX2_init) ∈ TB := mTB (tb_1 _ (List.mem_of_getElem? (i := 127) rfl)) (by decide +kernel)
theorem k_co_X2_init : (Cond.code yX2_init cX2_init 1 none) ∈ TB := mTB (tb_1 _ (List.mem_of_getElem? (i := 128) rfl)) (by decide +kernel)
theorem k_m_X2_3 : (Cond.methodLink RX2 3 objectInit) ∈ TB := mTB (tb_1 _ (List.mem_of_getElem? (i := 129) rfl)) (by decide +kernel)
theorem k_f_X2_9 : (Cond.fieldLink RX2 9 "PlanetaryGearbox$GearTable" "masks" "[I") ∈ TB := mTB (tb_1 _ (List.mem_of_getElem? (i := 130) rfl)) (by decide +kernel)
theorem k_f_X2_15 : (Cond.fieldLink RX2 15 "PlanetaryGearbox$GearTable" "numerators" "[J") ∈ TB := mTB (tb_1 _ (List.mem_of_getElem? (i := 131) rfl)) (by decide +kernel)
theorem k_f_X2_19 : (Cond.fieldLink RX2 19 "PlanetaryGearbox$GearTable" "denominators" "[J") ∈ TB := mTB (tb_1 _ (List.mem_of_getElem? (i := 132) rfl)) (by decide +kernel)
theorem k_f_X2_22 : (Cond.fieldLink RX2 22 "PlanetaryGearbox$GearTable" "neutral" "[Z") ∈ TB := mTB (tb_1 _ (List.mem_of_getElem? (i := 133) rfl)) (by decide +kernel)
theorem k_f_X2_26 : (Cond.fieldLink RX2 26 "PlanetaryGearbox$GearTable" "distance" "[I") ∈ TB := mTB (tb_1 _ (List.mem_of_getElem? (i := 134) rfl)) (by decide +kernel)
theorem k_m_L_98 : (Cond.methodLink RL 98 yX7_init) ∈ TB := mTB (tb_4 _ (List.mem_of_getElem? (i := 37) rfl)) (by decide +kernel)
theorem k_im_X7_init : (Cond.instanceMethod yX7_init) ∈ TB := mTB (tb_4 _ (List.mem_of_getElem? (i := 38) rfl)) (by decide +kernel)
theorem k_co_X7_init : (Cond.code yX7_init cX7_init 1 none) ∈ TB := mTB (tb_4 _ (List.mem_of_getElem? (i := 39) rfl)) (by decide +kernel)
theorem k_m_X7_1 : (Cond.methodLink RX7 1 objectInit) ∈ TB := mTB (tb_4 _ (List.mem_of_getElem? (i := 40) rfl)) (by decide +kernel)
theorem k_f_X7_7 : (Cond.fieldLink RX7 7 "PlanetaryGearboxModel" "at" "[I") ∈ TB := mTB (tb_4 _ (List.mem_of_getElem? (i := 41) rfl)) (by decide +kernel)
theorem k_f_X7_13 : (Cond.fieldLink RX7 13 "PlanetaryGearboxModel" "slots" "[I") ∈ TB := mTB (tb_4 _ (List.mem_of_getElem? (i := 42) rfl)) (by decide +kernel)
theorem k_f_X7_16 : (Cond.fieldLink RX7 16 "PlanetaryGearboxModel" "isSaved" "[Z") ∈ TB := mTB (tb_4 _ (List.mem_of_getElem? (i := 43) rfl)) (by decide +kernel)
theorem k_f_X7_20 : (Cond.fieldLink RX7 20 "PlanetaryGearboxModel" "before" "[I") ∈ TB := mTB (tb_4 _ (List.mem_of_getElem? (i := 44) rfl)) (by decide +kernel)
theorem k_f_X7_23 : (Cond.fieldLink RX7 23 "PlanetaryGearboxModel" "cell" "[J") ∈ TB := mTB (tb_4 _ (List.mem_of_getElem? (i := 47) rfl)) (by decide +kernel)
theorem k_f_X7_27 : (Cond.fieldLink RX7 27 "PlanetaryGearboxModel" "pivot" "[I") ∈ TB := mTB (tb_4 _ (List.mem_of_getElem? (i := 50) rfl)) (by decide +kernel)
theorem k_f_X7_30 : (Cond.fieldLink RX7 30 "PlanetaryGearboxModel" "states" "[I") ∈ TB := mTB (tb_4 _ (List.mem_of_getElem? (i := 52) rfl)) (by decide +kernel)
theorem k_f_X7_33 : (Cond.fieldLink RX7 33 "PlanetaryGearboxModel" "gearMask" "[I") ∈ TB := mTB (tb_4 _ (List.mem_of_getElem? (i := 54) rfl)) (by decide +kernel)
theorem k_f_X7_36 : (Cond.fieldLink RX7 36 "PlanetaryGearboxModel" "gearUp" "[J") ∈ TB := mTB (tb_4 _ (List.mem_of_getElem? (i := 55) rfl)) (by decide +kernel)
theorem k_f_X7_39 : (Cond.fieldLink RX7 39 "PlanetaryGearboxModel" "gearLow" "[J") ∈ TB := mTB (tb_4 _ (List.mem_of_getElem? (i := 56) rfl)) (by decide +kernel)
theorem k_f_X7_42 : (Cond.fieldLink RX7 42 "PlanetaryGearboxModel" "away" "[I") ∈ TB := mTB (tb_4 _ (List.mem_of_getElem? (i := 57) rfl)) (by decide +kernel)
theorem k_m_L_99 : (Cond.methodLink RL 99 yL_addSet) ∈ TB := mTB (tb_2 _ (List.mem_of_getElem? (i := 44) rfl)) (by decide +kernel)
theorem k_st_L_addSet : (Cond.static yL_addSet) ∈ TB := mTB (tb_2 _ (List.mem_of_getElem? (i := 45) rfl)) (by decide +kernel)
theorem k_in_L : (Cond.initialized RL) ∈ TB := mTB (tb_1 _ (List.mem_of_getElem? (i := 0) rfl)) (by decide +kernel)
theorem k_co_L_addSet : (Cond.codeWith yL_addSet cL_addSet 8 (some .int) [(0, 16, 19, 13), (0, 16, 23, 15), (0, 16, 27, 17)]) ∈ TB := mTB (tb_2 _ (List.mem_of_getElem? (i := 46) rfl)) (by decide +kernel)
theorem k_cl_L_13 : (Cond.classLink RL 13 "java/lang/IndexOutOfBoundsException") ∈ TB := mTB (tb_2 _ (List.mem_of_getElem? (i := 47) rfl)) (by decide +kernel)
theorem k_cl_L_15 : (Cond.classLink RL 15 "java/lang/IllegalArgumentException") ∈ TB := mTB (tb_2 _ (List.mem_of_getElem? (i := 48) rfl)) (by decide +kernel)
theorem k_cl_L_17 : (Cond.classLink RL 17 "java/lang/IllegalStateException") ∈ TB := mTB (tb_2 _ (List.mem_of_getElem? (i := 49) rfl)) (by decide +kernel)
theorem k_m_L_7 : (Cond.methodLink RL 7 yX6_addSet) ∈ TB := mTB (tb_2 _ (List.mem_of_getElem? (i := 50) rfl)) (by decide +kernel)
theorem k_im_X6_addSet : (Cond.instanceMethod yX6_addSet) ∈ TB := mTB (tb_2 _ (List.mem_of_getElem? (i := 51) rfl)) (by decide +kernel)
theorem k_se_X6_addSet : (Cond.selects RX6 yX6_addSet yX6_addSet) ∈ TB := mTB (tb_2 _ (List.mem_of_getElem? (i := 52) rfl)) (by decide +kernel)
theorem k_co_X6_addSet : (Cond.code yX6_addSet cX6_addSet 6 (some .int)) ∈ TB := mTB (tb_2 _ (List.mem_of_getElem? (i := 53) rfl)) (by decide +kernel)
theorem k_cl_X6_54 : (Cond.classLink RX6 54 "java/lang/IndexOutOfBoundsException") ∈ TB := mTB (tb_2 _ (List.mem_of_getElem? (i := 57) rfl)) (by decide +kernel)
theorem k_in_ng_IndexOutOfBoundsException : (Cond.initialized "java/lang/IndexOutOfBoundsException") ∈ TB := mTB (tb_1 _ (List.mem_of_getElem? (i := 12) rfl)) (by decide +kernel)
theorem k_cl_X6_61 : (Cond.classLink RX6 61 "java/lang/IllegalArgumentException") ∈ TB := mTB (tb_2 _ (List.mem_of_getElem? (i := 125) rfl)) (by decide +kernel)
theorem k_in_ang_IllegalArgumentException : (Cond.initialized "java/lang/IllegalArgumentException") ∈ TB := mTB (tb_1 _ (List.mem_of_getElem? (i := 13) rfl)) (by decide +kernel)
theorem k_cl_X6_74 : (Cond.classLink RX6 74 "java/lang/IllegalStateException") ∈ TB := mTB (tb_2 _ (List.mem_of_getElem? (i := 147) rfl)) (by decide +kernel)
theorem k_in_a_lang_IllegalStateException : (Cond.initialized "java/lang/IllegalStateException") ∈ TB := mTB (tb_1 _ (List.mem_of_getElem? (i := 14) rfl)) (by decide +kernel)
theorem k_m_X6_50 : (Cond.methodLink RX6 50 yX6_isShaft) ∈ TB := mTB (tb_2 _ (List.mem_of_getElem? (i := 54) rfl)) (by decide +kernel)
theorem k_st_X6_isShaft : (Cond.static yX6_isShaft) ∈ TB := mTB (tb_2 _ (List.mem_of_getElem? (i := 55) rfl)) (by decide +kernel)
theorem k_co_X6_isShaft : (Cond.code yX6_isShaft cX6_isShaft 1 (some .boolean)) ∈ TB := mTB (tb_2 _ (List.mem_of_getElem? (i := 56) rfl)) (by decide +kernel)
theorem k_m_X6_70 : (Cond.methodLink RX6 70 yX0_setCount) ∈ TB := mTB (tb_2 _ (List.mem_of_getElem? (i := 143) rfl)) (by decide +kernel)
theorem k_im_X0_setCount : (Cond.instanceMethod yX0_setCount) ∈ TB := mTB (tb_2 _ (List.mem_of_getElem? (i := 144) rfl)) (by decide +kernel)
theorem k_se_X0_setCount : (Cond.selects RX0 yX0_setCount yX0_setCount) ∈ TB := mTB (tb_2 _ (List.mem_of_getElem? (i := 145) rfl)) (by decide +kernel)
theorem k_co_X0_setCount : (Cond.code yX0_setCount cX0_setCount 1 (some .int)) ∈ TB := mTB (tb_2 _ (List.mem_of_getElem? (i := 146) rfl)) (by decide +kernel)
theorem k_f_X0_36 : (Cond.fieldLink RX0 36 "PlanetaryGearbox$Design" "sets" "I") ∈ TB := mTB (tb_1 _ (List.mem_of_getElem? (i := 36) rfl)) (by decide +kernel)
theorem k_m_X6_79 : (Cond.methodLink RX6 79 yX2_forget) ∈ TB := mTB (tb_2 _ (List.mem_of_getElem? (i := 163) rfl)) (by decide +kernel)
theorem k_im_X2_forget : (Cond.instanceMethod yX2_forget) ∈ TB := mTB (tb_2 _ (List.mem_of_getElem? (i := 164) rfl)) (by decide +kernel)
theorem k_se_X2_forget : (Cond.selects RX2 yX2_forget yX2_forget) ∈ TB := mTB (tb_2 _ (List.mem_of_getElem? (i := 165) rfl)) (by decide +kernel)
theorem k_co_X2_forget : (Cond.code yX2_forget cX2_forget 1 none) ∈ TB := mTB (tb_2 _ (List.mem_of_getElem? (i := 166) rfl)) (by decide +kernel)
theorem k_f_X2_29 : (Cond.fieldLink RX2 29 "PlanetaryGearbox$GearTable" "fresh" "Z") ∈ TB := mTB (tb_1 _ (List.mem_of_getElem? (i := 136) rfl)) (by decide +kernel)
theorem k_m_X6_82 : (Cond.methodLink RX6 82 yX0_appendSet) ∈ TB := mTB (tb_2 _ (List.mem_of_getElem? (i := 167) rfl)) (by decide +kernel)
theorem k_im_X0_appendSet : (Cond.instanceMethod yX0_appendSet) ∈ TB := mTB (tb_2 _ (List.mem_of_getElem? (i := 168) rfl)) (by decide +kernel)
theorem k_se_X0_appendSet : (Cond.selects RX0 yX0_appendSet yX0_appendSet) ∈ TB := mTB (tb_2 _ (List.mem_of_getElem? (i := 169) rfl)) (by decide +kernel)
theorem k_co_X0_appendSet : (Cond.code yX0_appendSet cX0_appendSet 6 none) ∈ TB := mTB (tb_2 _ (List.mem_of_getElem? (i := 170) rfl)) (by decide +kernel)
theorem k_m_L_104 : (Cond.methodLink RL 104 yX7_addSet) ∈ TB := mTB (tb_4 _ (List.mem_of_getElem? (i := 97) rfl)) (by decide +kernel)
theorem k_im_X7_addSet : (Cond.instanceMethod yX7_addSet) ∈ TB := mTB (tb_4 _ (List.mem_of_getElem? (i := 98) rfl)) (by decide +kernel)
theorem k_se_X7_addSet : (Cond.selects RX7 yX7_addSet yX7_addSet) ∈ TB := mTB (tb_4 _ (List.mem_of_getElem? (i := 99) rfl)) (by decide +kernel)
theorem k_co_X7_addSet : (Cond.code yX7_addSet cX7_addSet 8 (some .int)) ∈ TB := mTB (tb_4 _ (List.mem_of_getElem? (i := 100) rfl)) (by decide +kernel)
theorem k_f_X7_45 : (Cond.fieldLink RX7 45 "PlanetaryGearboxModel" "thrown" "I") ∈ TB := mTB (tb_4 _ (List.mem_of_getElem? (i := 46) rfl)) (by decide +kernel)
theorem k_m_X7_49 : (Cond.methodLink RX7 49 yX7_in) ∈ TB := mTB (tb_4 _ (List.mem_of_getElem? (i := 101) rfl)) (by decide +kernel)
theorem k_st_X7_in : (Cond.static yX7_in) ∈ TB := mTB (tb_4 _ (List.mem_of_getElem? (i := 102) rfl)) (by decide +kernel)
theorem k_co_X7_in : (Cond.code yX7_in cX7_in 3 (some .boolean)) ∈ TB := mTB (tb_4 _ (List.mem_of_getElem? (i := 103) rfl)) (by decide +kernel)
theorem k_m_X7_53 : (Cond.methodLink RX7 53 yX7_isShaft) ∈ TB := mTB (tb_4 _ (List.mem_of_getElem? (i := 104) rfl)) (by decide +kernel)
theorem k_st_X7_isShaft : (Cond.static yX7_isShaft) ∈ TB := mTB (tb_4 _ (List.mem_of_getElem? (i := 105) rfl)) (by decide +kernel)
theorem k_co_X7_isShaft : (Cond.code yX7_isShaft cX7_isShaft 1 (some .boolean)) ∈ TB := mTB (tb_4 _ (List.mem_of_getElem? (i := 106) rfl)) (by decide +kernel)
theorem k_m_L_105 : (Cond.methodLink RL 105 yX7_thrown) ∈ TB := mTB (tb_4 _ (List.mem_of_getElem? (i := 93) rfl)) (by decide +kernel)
theorem k_im_X7_thrown : (Cond.instanceMethod yX7_thrown) ∈ TB := mTB (tb_4 _ (List.mem_of_getElem? (i := 94) rfl)) (by decide +kernel)
theorem k_se_X7_thrown : (Cond.selects RX7 yX7_thrown yX7_thrown) ∈ TB := mTB (tb_4 _ (List.mem_of_getElem? (i := 95) rfl)) (by decide +kernel)
theorem k_co_X7_thrown : (Cond.code yX7_thrown cX7_thrown 1 (some .int)) ∈ TB := mTB (tb_4 _ (List.mem_of_getElem? (i := 96) rfl)) (by decide +kernel)
theorem k_m_L_108 : (Cond.methodLink RL 108 yL_addBrake) ∈ TB := mTB (tb_2 _ (List.mem_of_getElem? (i := 171) rfl)) (by decide +kernel)
theorem k_st_L_addBrake : (Cond.static yL_addBrake) ∈ TB := mTB (tb_2 _ (List.mem_of_getElem? (i := 172) rfl)) (by decide +kernel)
theorem k_co_L_addBrake : (Cond.codeWith yL_addBrake cL_addBrake 4 (some .int) [(0, 9, 12, 13), (0, 9, 15, 17)]) ∈ TB := mTB (tb_2 _ (List.mem_of_getElem? (i := 173) rfl)) (by decide +kernel)
theorem k_m_L_19 : (Cond.methodLink RL 19 yX6_addBrake) ∈ TB := mTB (tb_2 _ (List.mem_of_getElem? (i := 174) rfl)) (by decide +kernel)
theorem k_im_X6_addBrake : (Cond.instanceMethod yX6_addBrake) ∈ TB := mTB (tb_2 _ (List.mem_of_getElem? (i := 175) rfl)) (by decide +kernel)
theorem k_se_X6_addBrake : (Cond.selects RX6 yX6_addBrake yX6_addBrake) ∈ TB := mTB (tb_2 _ (List.mem_of_getElem? (i := 176) rfl)) (by decide +kernel)
theorem k_co_X6_addBrake : (Cond.code yX6_addBrake cX6_addBrake 2 (some .int)) ∈ TB := mTB (tb_2 _ (List.mem_of_getElem? (i := 177) rfl)) (by decide +kernel)
theorem k_m_X6_88 : (Cond.methodLink RX6 88 yX0_elementCount) ∈ TB := mTB (tb_2 _ (List.mem_of_getElem? (i := 179) rfl)) (by decide +kernel)
theorem k_im_X0_elementCount : (Cond.instanceMethod yX0_elementCount) ∈ TB := mTB (tb_2 _ (List.mem_of_getElem? (i := 180) rfl)) (by decide +kernel)
theorem k_se_X0_elementCount : (Cond.selects RX0 yX0_elementCount yX0_elementCount) ∈ TB := mTB (tb_2 _ (List.mem_of_getElem? (i := 181) rfl)) (by decide +kernel)
theorem k_co_X0_elementCount : (Cond.code yX0_elementCount cX0_elementCount 1 (some .int)) ∈ TB := mTB (tb_2 _ (List.mem_of_getElem? (i := 182) rfl)) (by decide +kernel)
theorem k_f_X0_40 : (Cond.fieldLink RX0 40 "PlanetaryGearbox$Design" "elements" "I") ∈ TB := mTB (tb_1 _ (List.mem_of_getElem? (i := 40) rfl)) (by decide +kernel)
theorem k_m_X6_93 : (Cond.methodLink RX6 93 yX0_appendElement) ∈ TB := mTB (tb_2 _ (List.mem_of_getElem? (i := 184) rfl)) (by decide +kernel)
theorem k_im_X0_appendElement : (Cond.instanceMethod yX0_appendElement) ∈ TB := mTB (tb_2 _ (List.mem_of_getElem? (i := 185) rfl)) (by decide +kernel)
theorem k_se_X0_appendElement : (Cond.selects RX0 yX0_appendElement yX0_appendElement) ∈ TB := mTB (tb_2 _ (List.mem_of_getElem? (i := 186) rfl)) (by decide +kernel)
theorem k_co_X0_appendElement : (Cond.code yX0_appendElement cX0_appendElement 3 (some .int)) ∈ TB := mTB (tb_2 _ (List.mem_of_getElem? (i := 187) rfl)) (by decide +kernel)
theorem k_m_L_111 : (Cond.methodLink RL 111 yX7_addBrake) ∈ TB := mTB (tb_4 _ (List.mem_of_getElem? (i := 107) rfl)) (by decide +kernel)
theorem k_im_X7_addBrake : (Cond.instanceMethod yX7_addBrake) ∈ TB := mTB (tb_4 _ (List.mem_of_getElem? (i := 108) rfl)) (by decide +kernel)
theorem k_se_X7_addBrake : (Cond.selects RX7 yX7_addBrake yX7_addBrake) ∈ TB := mTB (tb_4 _ (List.mem_of_getElem? (i := 109) rfl)) (by decide +kernel)
theorem k_co_X7_addBrake : (Cond.code yX7_addBrake cX7_addBrake 2 (some .int)) ∈ TB := mTB (tb_4 _ (List.mem_of_getElem? (i := 110) rfl)) (by decide +kernel)
theorem k_m_X7_57 : (Cond.methodLink RX7 57 yX7_addElement) ∈ TB := mTB (tb_4 _ (List.mem_of_getElem? (i := 111) rfl)) (by decide +kernel)
theorem k_im_X7_addElement : (Cond.instanceMethod yX7_addElement) ∈ TB := mTB (tb_4 _ (List.mem_of_getElem? (i := 113) rfl)) (by decide +kernel)
theorem k_se_X7_addElement : (Cond.selects RX7 yX7_addElement yX7_addElement) ∈ TB := mTB (tb_0 _ (List.mem_of_getElem? (i := 9) rfl)) (by decide +kernel)
theorem k_co_X7_addElement : (Cond.code yX7_addElement cX7_addElement 4 (some .int)) ∈ TB := mTB (tb_4 _ (List.mem_of_getElem? (i := 114) rfl)) (by decide +kernel)
theorem k_m_L_112 : (Cond.methodLink RL 112 yL_addClutch) ∈ TB := mTB (tb_2 _ (List.mem_of_getElem? (i := 188) rfl)) (by decide +kernel)
theorem k_st_L_addClutch : (Cond.static yL_addClutch) ∈ TB := mTB (tb_2 _ (List.mem_of_getElem? (i := 189) rfl)) (by decide +kernel)
theorem k_co_L_addClutch : (Cond.codeWith yL_addClutch cL_addClutch 5 (some .int) [(0, 10, 13, 13), (0, 10, 17, 15), (0, 10, 21, 17)]) ∈ TB := mTB (tb_2 _ (List.mem_of_getElem? (i := 190) rfl)) (by decide +kernel)
theorem k_m_L_23 : (Cond.methodLink RL 23 yX6_addClutch) ∈ TB := mTB (tb_2 _ (List.mem_of_getElem? (i := 191) rfl)) (by decide +kernel)
theorem k_im_X6_addClutch : (Cond.instanceMethod yX6_addClutch) ∈ TB := mTB (tb_2 _ (List.mem_of_getElem? (i := 192) rfl)) (by decide +kernel)
theorem k_se_X6_addClutch : (Cond.selects RX6 yX6_addClutch yX6_addClutch) ∈ TB := mTB (tb_2 _ (List.mem_of_getElem? (i := 193) rfl)) (by decide +kernel)
theorem k_co_X6_addClutch : (Cond.code yX6_addClutch cX6_addClutch 3 (some .int)) ∈ TB := mTB (tb_2 _ (List.mem_of_getElem? (i := 194) rfl)) (by decide +kernel)
theorem k_m_L_115 : (Cond.methodLink RL 115 yX7_addClutch) ∈ TB := mTB (tb_4 _ (List.mem_of_getElem? (i := 115) rfl)) (by decide +kernel)
theorem k_im_X7_addClutch : (Cond.instanceMethod yX7_addClutch) ∈ TB := mTB (tb_4 _ (List.mem_of_getElem? (i := 116) rfl)) (by decide +kernel)
theorem k_se_X7_addClutch : (Cond.selects RX7 yX7_addClutch yX7_addClutch) ∈ TB := mTB (tb_4 _ (List.mem_of_getElem? (i := 117) rfl)) (by decide +kernel)
theorem k_co_X7_addClutch : (Cond.code yX7_addClutch cX7_addClutch 3 (some .int)) ∈ TB := mTB (tb_4 _ (List.mem_of_getElem? (i := 118) rfl)) (by decide +kernel)
theorem k_m_L_116 : (Cond.methodLink RL 116 yL_setCapacity) ∈ TB := mTB (tb_2 _ (List.mem_of_getElem? (i := 196) rfl)) (by decide +kernel)
theorem k_st_L_setCapacity : (Cond.static yL_setCapacity) ∈ TB := mTB (tb_2 _ (List.mem_of_getElem? (i := 197) rfl)) (by decide +kernel)
theorem k_co_L_setCapacity : (Cond.codeWith yL_setCapacity cL_setCapacity 5 (some .int) [(0, 10, 13, 13), (0, 10, 17, 15)]) ∈ TB := mTB (tb_2 _ (List.mem_of_getElem? (i := 198) rfl)) (by decide +kernel)
theorem k_m_L_27 : (Cond.methodLink RL 27 yX6_setCapacity) ∈ TB := mTB (tb_2 _ (List.mem_of_getElem? (i := 199) rfl)) (by decide +kernel)
theorem k_im_X6_setCapacity : (Cond.instanceMethod yX6_setCapacity) ∈ TB := mTB (tb_2 _ (List.mem_of_getElem? (i := 200) rfl)) (by decide +kernel)
theorem k_se_X6_setCapacity : (Cond.selects RX6 yX6_setCapacity yX6_setCapacity) ∈ TB := mTB (tb_2 _ (List.mem_of_getElem? (i := 201) rfl)) (by decide +kernel)
theorem k_co_X6_setCapacity : (Cond.code yX6_setCapacity cX6_setCapacity 4 (some .int)) ∈ TB := mTB (tb_2 _ (List.mem_of_getElem? (i := 202) rfl)) (by decide +kernel)
theorem k_m_X6_99 : (Cond.methodLink RX6 99 yX0_hasElement) ∈ TB := mTB (tb_2 _ (List.mem_of_getElem? (i := 203) rfl)) (by decide +kernel)
theorem k_im_X0_hasElement : (Cond.instanceMethod yX0_hasElement) ∈ TB := mTB (tb_1 _ (List.mem_of_getElem? (i := 213) rfl)) (by decide +kernel)
theorem k_se_X0_hasElement : (Cond.selects RX0 yX0_hasElement yX0_hasElement) ∈ TB := mTB (tb_1 _ (List.mem_of_getElem? (i := 214) rfl)) (by decide +kernel)
theorem k_co_X0_hasElement : (Cond.code yX0_hasElement cX0_hasElement 2 (some .boolean)) ∈ TB := mTB (tb_1 _ (List.mem_of_getElem? (i := 215) rfl)) (by decide +kernel)
theorem k_m_X6_106 : (Cond.methodLink RX6 106 yX0_capacityOf) ∈ TB := mTB (tb_2 _ (List.mem_of_getElem? (i := 206) rfl)) (by decide +kernel)
theorem k_im_X0_capacityOf : (Cond.instanceMethod yX0_capacityOf) ∈ TB := mTB (tb_2 _ (List.mem_of_getElem? (i := 207) rfl)) (by decide +kernel)
theorem k_se_X0_capacityOf : (Cond.selects RX0 yX0_capacityOf yX0_capacityOf) ∈ TB := mTB (tb_2 _ (List.mem_of_getElem? (i := 208) rfl)) (by decide +kernel)
theorem k_co_X0_capacityOf : (Cond.code yX0_capacityOf cX0_capacityOf 2 (some .int)) ∈ TB := mTB (tb_2 _ (List.mem_of_getElem? (i := 209) rfl)) (by decide +kernel)
theorem k_m_X0_43 : (Cond.methodLink RX0 43 yX0_hasElement) ∈ TB := mTB (tb_1 _ (List.mem_of_getElem? (i := 212) rfl)) (by decide +kernel)
theorem k_m_X6_110 : (Cond.methodLink RX6 110 yX0_changeCapacity) ∈ TB := mTB (tb_2 _ (List.mem_of_getElem? (i := 210) rfl)) (by decide +kernel)
theorem k_im_X0_changeCapacity : (Cond.instanceMethod yX0_changeCapacity) ∈ TB := mTB (tb_2 _ (List.mem_of_getElem? (i := 211) rfl)) (by decide +kernel)
theorem k_se_X0_changeCapacity : (Cond.selects RX0 yX0_changeCapacity yX0_changeCapacity) ∈ TB := mTB (tb_2 _ (List.mem_of_getElem? (i := 212) rfl)) (by decide +kernel)
theorem k_co_X0_changeCapacity : (Cond.code yX0_changeCapacity cX0_changeCapacity 3 none) ∈ TB := mTB (tb_2 _ (List.mem_of_getElem? (i := 213) rfl)) (by decide +kernel)
theorem k_m_L_118 : (Cond.methodLink RL 118 yX7_setCapacity) ∈ TB := mTB (tb_4 _ (List.mem_of_getElem? (i := 119) rfl)) (by decide +kernel)
theorem k_im_X7_setCapacity : (Cond.instanceMethod yX7_setCapacity) ∈ TB := mTB (tb_4 _ (List.mem_of_getElem? (i := 120) rfl)) (by decide +kernel)
theorem k_se_X7_setCapacity : (Cond.selects RX7 yX7_setCapacity yX7_setCapacity) ∈ TB := mTB (tb_4 _ (List.mem_of_getElem? (i := 121) rfl)) (by decide +kernel)
theorem k_co_X7_setCapacity : (Cond.code yX7_setCapacity cX7_setCapacity 4 (some .int)) ∈ TB := mTB (tb_4 _ (List.mem_of_getElem? (i := 122) rfl)) (by decide +kernel)
theorem k_m_X7_61 : (Cond.methodLink RX7 61 yX7_isElement) ∈ TB := mTB (tb_4 _ (List.mem_of_getElem? (i := 123) rfl)) (by decide +kernel)
theorem k_im_X7_isElement : (Cond.instanceMethod yX7_isElement) ∈ TB := mTB (tb_4 _ (List.mem_of_getElem? (i := 125) rfl)) (by decide +kernel)
theorem k_se_X7_isElement : (Cond.selects RX7 yX7_isElement yX7_isElement) ∈ TB := mTB (tb_0 _ (List.mem_of_getElem? (i := 10) rfl)) (by decide +kernel)
theorem k_co_X7_isElement : (Cond.code yX7_isElement cX7_isElement 2 (some .boolean)) ∈ TB := mTB (tb_4 _ (List.mem_of_getElem? (i := 126) rfl)) (by decide +kernel)
theorem k_m_L_119 : (Cond.methodLink RL 119 yL_count) ∈ TB := mTB (tb_2 _ (List.mem_of_getElem? (i := 214) rfl)) (by decide +kernel)
theorem k_st_L_count : (Cond.static yL_count) ∈ TB := mTB (tb_2 _ (List.mem_of_getElem? (i := 215) rfl)) (by decide +kernel)
theorem k_co_L_count : (Cond.codeWith yL_count cL_count 4 (some .int) [(0, 9, 12, 15)]) ∈ TB := mTB (tb_2 _ (List.mem_of_getElem? (i := 216) rfl)) (by decide +kernel)
theorem k_m_L_30 : (Cond.methodLink RL 30 yX6_count) ∈ TB := mTB (tb_2 _ (List.mem_of_getElem? (i := 217) rfl)) (by decide +kernel)
theorem k_im_X6_count : (Cond.instanceMethod yX6_count) ∈ TB := mTB (tb_2 _ (List.mem_of_getElem? (i := 218) rfl)) (by decide +kernel)
theorem k_se_X6_count : (Cond.selects RX6 yX6_count yX6_count) ∈ TB := mTB (tb_2 _ (List.mem_of_getElem? (i := 219) rfl)) (by decide +kernel)
theorem k_co_X6_count : (Cond.code yX6_count cX6_count 2 (some .int)) ∈ TB := mTB (tb_2 _ (List.mem_of_getElem? (i := 220) rfl)) (by decide +kernel)
theorem k_m_X6_116 : (Cond.methodLink RX6 116 yX2_refresh) ∈ TB := mTB (tb_2 _ (List.mem_of_getElem? (i := 222) rfl)) (by decide +kernel)
theorem k_im_X2_refresh : (Cond.instanceMethod yX2_refresh) ∈ TB := mTB (tb_2 _ (List.mem_of_getElem? (i := 223) rfl)) (by decide +kernel)
theorem k_se_X2_refresh : (Cond.selects RX2 yX2_refresh yX2_refresh) ∈ TB := mTB (tb_2 _ (List.mem_of_getElem? (i := 224) rfl)) (by decide +kernel)
theorem k_co_X2_refresh : (Cond.code yX2_refresh cX2_refresh 5 none) ∈ TB := mTB (tb_2 _ (List.mem_of_getElem? (i := 225) rfl)) (by decide +kernel)
theorem k_f_X2_33 : (Cond.fieldLink RX2 33 "PlanetaryGearbox$GearTable" "size" "I") ∈ TB := mTB (tb_1 _ (List.mem_of_getElem? (i := 135) rfl)) (by decide +kernel)
theorem k_m_X2_37 : (Cond.methodLink RX2 37 yX0_hasElements) ∈ TB := mTB (tb_2 _ (List.mem_of_getElem? (i := 226) rfl)) (by decide +kernel)
theorem k_im_X0_hasElements : (Cond.instanceMethod yX0_hasElements) ∈ TB := mTB (tb_2 _ (List.mem_of_getElem? (i := 227) rfl)) (by decide +kernel)
theorem k_se_X0_hasElements : (Cond.selects RX0 yX0_hasElements yX0_hasElements) ∈ TB := mTB (tb_2 _ (List.mem_of_getElem? (i := 228) rfl)) (by decide +kernel)
theorem k_co_X0_hasElements : (Cond.code yX0_hasElements cX0_hasElements 2 (some .boolean)) ∈ TB := mTB (tb_2 _ (List.mem_of_getElem? (i := 229) rfl)) (by decide +kernel)
theorem k_m_X2_43 : (Cond.methodLink RX2 43 yX2_areSmallerNeutral) ∈ TB := mTB (tb_2 _ (List.mem_of_getElem? (i := 230) rfl)) (by decide +kernel)
theorem k_im_X2_areSmallerNeutral : (Cond.instanceMethod yX2_areSmallerNeutral) ∈ TB := mTB (tb_2 _ (List.mem_of_getElem? (i := 232) rfl)) (by decide +kernel)
theorem k_se_X2_areSmallerNeutral : (Cond.selects RX2 yX2_areSmallerNeutral yX2_areSmallerNeutral) ∈ TB := mTB (tb_0 _ (List.mem_of_getElem? (i := 4) rfl)) (by decide +kernel)
theorem k_co_X2_areSmallerNeutral : (Cond.code yX2_areSmallerNeutral cX2_areSmallerNeutral 4 (some .boolean)) ∈ TB := mTB (tb_2 _ (List.mem_of_getElem? (i := 233) rfl)) (by decide +kernel)
theorem k_m_X2_46 : (Cond.methodLink RX2 46 yX4_solve) ∈ TB := mTB (tb_2 _ (List.mem_of_getElem? (i := 234) rfl)) (by decide +kernel)
theorem k_im_X4_solve : (Cond.instanceMethod yX4_solve) ∈ TB := mTB (tb_1 _ (List.mem_of_getElem? (i := 228) rfl)) (by decide +kernel)
theorem k_se_X4_solve : (Cond.selects RX4 yX4_solve yX4_solve) ∈ TB := mTB (tb_1 _ (List.mem_of_getElem? (i := 229) rfl)) (by decide +kernel)
theorem k_co_X4_solve : (Cond.code yX4_solve cX4_solve 3 none) ∈ TB := mTB (tb_1 _ (List.mem_of_getElem? (i := 230) rfl)) (by decide +kernel)
theorem k_m_X4_18 : (Cond.methodLink RX4 18 yX1_clear) ∈ TB := mTB (tb_1 _ (List.mem_of_getElem? (i := 231) rfl)) (by decide +kernel)
theorem k_im_X1_clear : (Cond.instanceMethod yX1_clear) ∈ TB := mTB (tb_1 _ (List.mem_of_getElem? (i := 232) rfl)) (by decide +kernel)
theorem k_se_X1_clear : (Cond.selects RX1 yX1_clear yX1_clear) ∈ TB := mTB (tb_1 _ (List.mem_of_getElem? (i := 233) rfl)) (by decide +kernel)
theorem k_co_X1_clear : (Cond.code yX1_clear cX1_clear 3 none) ∈ TB := mTB (tb_1 _ (List.mem_of_getElem? (i := 234) rfl)) (by decide +kernel)
theorem k_m_X4_21 : (Cond.methodLink RX4 21 yX1_add) ∈ TB := mTB (tb_1 _ (List.mem_of_getElem? (i := 235) rfl)) (by decide +kernel)
theorem k_im_X1_add : (Cond.instanceMethod yX1_add) ∈ TB := mTB (tb_1 _ (List.mem_of_getElem? (i := 236) rfl)) (by decide +kernel)
theorem k_se_X1_add : (Cond.selects RX1 yX1_add yX1_add) ∈ TB := mTB (tb_1 _ (List.mem_of_getElem? (i := 237) rfl)) (by decide +kernel)
theorem k_co_X1_add : (Cond.code yX1_add cX1_add 5 none) ∈ TB := mTB (tb_1 _ (List.mem_of_getElem? (i := 238) rfl)) (by decide +kernel)
theorem k_m_X4_25 : (Cond.methodLink RX4 25 yX0_writeSetSpeeds) ∈ TB := mTB (tb_1 _ (List.mem_of_getElem? (i := 239) rfl)) (by decide +kernel)
theorem k_im_X0_writeSetSpeeds : (Cond.instanceMethod yX0_writeSetSpeeds) ∈ TB := mTB (tb_2 _ (List.mem_of_getElem? (i := 0) rfl)) (by decide +kernel)
theorem k_se_X0_writeSetSpeeds : (Cond.selects RX0 yX0_writeSetSpeeds yX0_writeSetSpeeds) ∈ TB := mTB (tb_2 _ (List.mem_of_getElem? (i := 1) rfl)) (by decide +kernel)
theorem k_co_X0_writeSetSpeeds : (Cond.code yX0_writeSetSpeeds cX0_writeSetSpeeds 5 none) ∈ TB := mTB (tb_2 _ (List.mem_of_getElem? (i := 2) rfl)) (by decide +kernel)
theorem k_m_X0_54 : (Cond.methodLink RX0 54 yX1_add) ∈ TB := mTB (tb_2 _ (List.mem_of_getElem? (i := 3) rfl)) (by decide +kernel)
theorem k_m_X4_31 : (Cond.methodLink RX4 31 yX0_writeElementSpeeds) ∈ TB := mTB (tb_2 _ (List.mem_of_getElem? (i := 4) rfl)) (by decide +kernel)
theorem k_im_X0_writeElementSpeeds : (Cond.instanceMethod yX0_writeElementSpeeds) ∈ TB := mTB (tb_2 _ (List.mem_of_getElem? (i := 5) rfl)) (by decide +kernel)
theorem k_se_X0_writeElementSpeeds : (Cond.selects RX0 yX0_writeElementSpeeds yX0_writeElementSpeeds) ∈ TB := mTB (tb_2 _ (List.mem_of_getElem? (i := 6) rfl)) (by decide +kernel)
theorem k_co_X0_writeElementSpeeds : (Cond.code yX0_writeElementSpeeds cX0_writeElementSpeeds 5 none) ∈ TB := mTB (tb_2 _ (List.mem_of_getElem? (i := 7) rfl)) (by decide +kernel)
theorem k_kl_X0_60 : (Cond.constantLong RX0 60 (-1)) ∈ TB := mTB (tb_2 _ (List.mem_of_getElem? (i := 8) rfl)) (by decide +kernel)
theorem k_m_X0_50 : (Cond.methodLink RX0 50 yX0_isIn) ∈ TB := mTB (tb_1 _ (List.mem_of_getElem? (i := 216) rfl)) (by decide +kernel)
theorem k_st_X0_isIn : (Cond.static yX0_isIn) ∈ TB := mTB (tb_1 _ (List.mem_of_getElem? (i := 217) rfl)) (by decide +kernel)
theorem k_co_X0_isIn : (Cond.code yX0_isIn cX0_isIn 2 (some .boolean)) ∈ TB := mTB (tb_1 _ (List.mem_of_getElem? (i := 218) rfl)) (by decide +kernel)
theorem k_m_X4_35 : (Cond.methodLink RX4 35 yX1_reduce) ∈ TB := mTB (tb_2 _ (List.mem_of_getElem? (i := 9) rfl)) (by decide +kernel)
theorem k_im_X1_reduce : (Cond.instanceMethod yX1_reduce) ∈ TB := mTB (tb_2 _ (List.mem_of_getElem? (i := 10) rfl)) (by decide +kernel)
theorem k_se_X1_reduce : (Cond.selects RX1 yX1_reduce yX1_reduce) ∈ TB := mTB (tb_2 _ (List.mem_of_getElem? (i := 11) rfl)) (by decide +kernel)
theorem k_co_X1_reduce : (Cond.code yX1_reduce cX1_reduce 4 none) ∈ TB := mTB (tb_2 _ (List.mem_of_getElem? (i := 12) rfl)) (by decide +kernel)
theorem k_f_X1_36 : (Cond.fieldLink RX1 36 "PlanetaryGearbox$Equations" "solvable" "Z") ∈ TB := mTB (tb_1 _ (List.mem_of_getElem? (i := 96) rfl)) (by decide +kernel)
theorem k_m_X1_24 : (Cond.methodLink RX1 24 yX1_freeRowWith) ∈ TB := mTB (tb_2 _ (List.mem_of_getElem? (i := 13) rfl)) (by decide +kernel)
theorem k_im_X1_freeRowWith : (Cond.instanceMethod yX1_freeRowWith) ∈ TB := mTB (tb_2 _ (List.mem_of_getElem? (i := 15) rfl)) (by decide +kernel)
theorem k_se_X1_freeRowWith : (Cond.selects RX1 yX1_freeRowWith yX1_freeRowWith) ∈ TB := mTB (tb_0 _ (List.mem_of_getElem? (i := 0) rfl)) (by decide +kernel)
theorem k_co_X1_freeRowWith : (Cond.code yX1_freeRowWith cX1_freeRowWith 3 (some .int)) ∈ TB := mTB (tb_2 _ (List.mem_of_getElem? (i := 16) rfl)) (by decide +kernel)
theorem k_m_X1_28 : (Cond.methodLink RX1 28 yX1_eliminate) ∈ TB := mTB (tb_2 _ (List.mem_of_getElem? (i := 17) rfl)) (by decide +kernel)
theorem k_im_X1_eliminate : (Cond.instanceMethod yX1_eliminate) ∈ TB := mTB (tb_2 _ (List.mem_of_getElem? (i := 19) rfl)) (by decide +kernel)
theorem k_se_X1_eliminate : (Cond.selects RX1 yX1_eliminate yX1_eliminate) ∈ TB := mTB (tb_0 _ (List.mem_of_getElem? (i := 1) rfl)) (by decide +kernel)
theorem k_co_X1_eliminate : (Cond.code yX1_eliminate cX1_eliminate 11 none) ∈ TB := mTB (tb_2 _ (List.mem_of_getElem? (i := 20) rfl)) (by decide +kernel)
theorem k_m_X1_40 : (Cond.methodLink RX1 40 yX1_commonFactor) ∈ TB := mTB (tb_2 _ (List.mem_of_getElem? (i := 21) rfl)) (by decide +kernel)
theorem k_st_X1_commonFactor : (Cond.static yX1_commonFactor) ∈ TB := mTB (tb_2 _ (List.mem_of_getElem? (i := 22) rfl)) (by decide +kernel)
theorem k_co_X1_commonFactor : (Cond.code yX1_commonFactor cX1_commonFactor 11 (some .long)) ∈ TB := mTB (tb_2 _ (List.mem_of_getElem? (i := 23) rfl)) (by decide +kernel)
theorem k_m_X1_32 : (Cond.methodLink RX1 32 yX1_areRowsLeftEmpty) ∈ TB := mTB (tb_2 _ (List.mem_of_getElem? (i := 24) rfl)) (by decide +kernel)
theorem k_im_X1_areRowsLeftEmpty : (Cond.instanceMethod yX1_areRowsLeftEmpty) ∈ TB := mTB (tb_2 _ (List.mem_of_getElem? (i := 26) rfl)) (by decide +kernel)
theorem k_se_X1_areRowsLeftEmpty : (Cond.selects RX1 yX1_areRowsLeftEmpty yX1_areRowsLeftEmpty) ∈ TB := mTB (tb_0 _ (List.mem_of_getElem? (i := 2) rfl)) (by decide +kernel)
theorem k_co_X1_areRowsLeftEmpty : (Cond.code yX1_areRowsLeftEmpty cX1_areRowsLeftEmpty 2 (some .boolean)) ∈ TB := mTB (tb_2 _ (List.mem_of_getElem? (i := 27) rfl)) (by decide +kernel)
theorem k_m_X2_52 : (Cond.methodLink RX2 52 yX4_stateFound) ∈ TB := mTB (tb_2 _ (List.mem_of_getElem? (i := 235) rfl)) (by decide +kernel)
theorem k_im_X4_stateFound : (Cond.instanceMethod yX4_stateFound) ∈ TB := mTB (tb_2 _ (List.mem_of_getElem? (i := 29) rfl)) (by decide +kernel)
theorem k_se_X4_stateFound : (Cond.selects RX4 yX4_stateFound yX4_stateFound) ∈ TB := mTB (tb_2 _ (List.mem_of_getElem? (i := 30) rfl)) (by decide +kernel)
theorem k_co_X4_stateFound : (Cond.code yX4_stateFound cX4_stateFound 1 (some .int)) ∈ TB := mTB (tb_2 _ (List.mem_of_getElem? (i := 31) rfl)) (by decide +kernel)
theorem k_m_X4_38 : (Cond.methodLink RX4 38 yX1_isSolvable) ∈ TB := mTB (tb_2 _ (List.mem_of_getElem? (i := 32) rfl)) (by decide +kernel)
theorem k_im_X1_isSolvable : (Cond.instanceMethod yX1_isSolvable) ∈ TB := mTB (tb_2 _ (List.mem_of_getElem? (i := 33) rfl)) (by decide +kernel)
theorem k_se_X1_isSolvable : (Cond.selects RX1 yX1_isSolvable yX1_isSolvable) ∈ TB := mTB (tb_2 _ (List.mem_of_getElem? (i := 34) rfl)) (by decide +kernel)
theorem k_co_X1_isSolvable : (Cond.code yX1_isSolvable cX1_isSolvable 1 (some .boolean)) ∈ TB := mTB (tb_2 _ (List.mem_of_getElem? (i := 35) rfl)) (by decide +kernel)
theorem k_m_X4_42 : (Cond.methodLink RX4 42 yX1_isDetermined) ∈ TB := mTB (tb_2 _ (List.mem_of_getElem? (i := 36) rfl)) (by decide +kernel)
theorem k_im_X1_isDetermined : (Cond.instanceMethod yX1_isDetermined) ∈ TB := mTB (tb_2 _ (List.mem_of_getElem? (i := 37) rfl)) (by decide +kernel)
theorem k_se_X1_isDetermined : (Cond.selects RX1 yX1_isDetermined yX1_isDetermined) ∈ TB := mTB (tb_2 _ (List.mem_of_getElem? (i := 38) rfl)) (by decide +kernel)
theorem k_co_X1_isDetermined : (Cond.code yX1_isDetermined cX1_isDetermined 4 (some .boolean)) ∈ TB := mTB (tb_2 _ (List.mem_of_getElem? (i := 39) rfl)) (by decide +kernel)
theorem k_m_X4_46 : (Cond.methodLink RX4 46 yX1_valuePart) ∈ TB := mTB (tb_2 _ (List.mem_of_getElem? (i := 40) rfl)) (by decide +kernel)
theorem k_im_X1_valuePart : (Cond.instanceMethod yX1_valuePart) ∈ TB := mTB (tb_2 _ (List.mem_of_getElem? (i := 41) rfl)) (by decide +kernel)
theorem k_se_X1_valuePart : (Cond.selects RX1 yX1_valuePart yX1_valuePart) ∈ TB := mTB (tb_2 _ (List.mem_of_getElem? (i := 42) rfl)) (by decide +kernel)
theorem k_co_X1_valuePart : (Cond.code yX1_valuePart cX1_valuePart 12 (some .long)) ∈ TB := mTB (tb_2 _ (List.mem_of_getElem? (i := 43) rfl)) (by decide +kernel)
theorem k_m_X2_56 : (Cond.methodLink RX2 56 yX4_ratioPart) ∈ TB := mTB (tb_2 _ (List.mem_of_getElem? (i := 236) rfl)) (by decide +kernel)
theorem k_im_X4_ratioPart : (Cond.instanceMethod yX4_ratioPart) ∈ TB := mTB (tb_2 _ (List.mem_of_getElem? (i := 237) rfl)) (by decide +kernel)
theorem k_se_X4_ratioPart : (Cond.selects RX4 yX4_ratioPart yX4_ratioPart) ∈ TB := mTB (tb_2 _ (List.mem_of_getElem? (i := 238) rfl)) (by decide +kernel)
theorem k_co_X4_ratioPart : (Cond.code yX4_ratioPart cX4_ratioPart 6 (some .long)) ∈ TB := mTB (tb_2 _ (List.mem_of_getElem? (i := 239) rfl)) (by decide +kernel)
theorem k_m_X2_60 : (Cond.methodLink RX2 60 yX2_insert) ∈ TB := mTB (tb_3 _ (List.mem_of_getElem? (i := 0) rfl)) (by decide +kernel)
theorem k_im_X2_insert : (Cond.instanceMethod yX2_insert) ∈ TB := mTB (tb_3 _ (List.mem_of_getElem? (i := 2) rfl)) (by decide +kernel)
theorem k_se_X2_insert : (Cond.selects RX2 yX2_insert yX2_insert) ∈ TB := mTB (tb_0 _ (List.mem_of_getElem? (i := 5) rfl)) (by decide +kernel)
theorem k_co_X2_insert : (Cond.code yX2_insert cX2_insert 8 none) ∈ TB := mTB (tb_3 _ (List.mem_of_getElem? (i := 3) rfl)) (by decide +kernel)
theorem k_m_X6_120 : (Cond.methodLink RX6 120 yX2_size) ∈ TB := mTB (tb_3 _ (List.mem_of_getElem? (i := 4) rfl)) (by decide +kernel)
theorem k_im_X2_size : (Cond.instanceMethod yX2_size) ∈ TB := mTB (tb_3 _ (List.mem_of_getElem? (i := 5) rfl)) (by decide +kernel)
theorem k_se_X2_size : (Cond.selects RX2 yX2_size yX2_size) ∈ TB := mTB (tb_3 _ (List.mem_of_getElem? (i := 6) rfl)) (by decide +kernel)
theorem k_co_X2_size : (Cond.code yX2_size cX2_size 1 (some .int)) ∈ TB := mTB (tb_3 _ (List.mem_of_getElem? (i := 7) rfl)) (by decide +kernel)
theorem k_m_L_121 : (Cond.methodLink RL 121 yX7_count) ∈ TB := mTB (tb_4 _ (List.mem_of_getElem? (i := 127) rfl)) (by decide +kernel)
theorem k_im_X7_count : (Cond.instanceMethod yX7_count) ∈ TB := mTB (tb_4 _ (List.mem_of_getElem? (i := 128) rfl)) (by decide +kernel)
theorem k_se_X7_count : (Cond.selects RX7 yX7_count yX7_count) ∈ TB := mTB (tb_4 _ (List.mem_of_getElem? (i := 129) rfl)) (by decide +kernel)
theorem k_co_X7_count : (Cond.code yX7_count cX7_count 2 (some .int)) ∈ TB := mTB (tb_4 _ (List.mem_of_getElem? (i := 130) rfl)) (by decide +kernel)
theorem k_f_X7_67 : (Cond.fieldLink RX7 67 "PlanetaryGearboxModel" "gears" "I") ∈ TB := mTB (tb_4 _ (List.mem_of_getElem? (i := 53) rfl)) (by decide +kernel)
theorem k_m_X7_64 : (Cond.methodLink RX7 64 yX7_layGears) ∈ TB := mTB (tb_4 _ (List.mem_of_getElem? (i := 131) rfl)) (by decide +kernel)
theorem k_im_X7_layGears : (Cond.instanceMethod yX7_layGears) ∈ TB := mTB (tb_4 _ (List.mem_of_getElem? (i := 133) rfl)) (by decide +kernel)
theorem k_se_X7_layGears : (Cond.selects RX7 yX7_layGears yX7_layGears) ∈ TB := mTB (tb_0 _ (List.mem_of_getElem? (i := 11) rfl)) (by decide +kernel)
theorem k_co_X7_layGears : (Cond.code yX7_layGears cX7_layGears 8 none) ∈ TB := mTB (tb_4 _ (List.mem_of_getElem? (i := 134) rfl)) (by decide +kernel)
theorem k_m_X7_127 : (Cond.methodLink RX7 127 yX7_stateOf) ∈ TB := mTB (tb_4 _ (List.mem_of_getElem? (i := 135) rfl)) (by decide +kernel)
theorem k_im_X7_stateOf : (Cond.instanceMethod yX7_stateOf) ∈ TB := mTB (tb_4 _ (List.mem_of_getElem? (i := 137) rfl)) (by decide +kernel)
theorem k_se_X7_stateOf : (Cond.selects RX7 yX7_stateOf yX7_stateOf) ∈ TB := mTB (tb_0 _ (List.mem_of_getElem? (i := 12) rfl)) (by decide +kernel)
theorem k_co_X7_stateOf : (Cond.code yX7_stateOf cX7_stateOf 2 (some .int)) ∈ TB := mTB (tb_4 _ (List.mem_of_getElem? (i := 138) rfl)) (by decide +kernel)
theorem k_f_X7_105 : (Cond.fieldLink RX7 105 "PlanetaryGearboxModel" "isSolved" "Z") ∈ TB := mTB (tb_4 _ (List.mem_of_getElem? (i := 51) rfl)) (by decide +kernel)
theorem k_m_X7_117 : (Cond.methodLink RX7 117 yX7_laySpeeds) ∈ TB := mTB (tb_4 _ (List.mem_of_getElem? (i := 139) rfl)) (by decide +kernel)
theorem k_im_X7_laySpeeds : (Cond.instanceMethod yX7_laySpeeds) ∈ TB := mTB (tb_4 _ (List.mem_of_getElem? (i := 141) rfl)) (by decide +kernel)
theorem k_se_X7_laySpeeds : (Cond.selects RX7 yX7_laySpeeds yX7_laySpeeds) ∈ TB := mTB (tb_0 _ (List.mem_of_getElem? (i := 13) rfl)) (by decide +kernel)
theorem k_co_X7_laySpeeds : (Cond.code yX7_laySpeeds cX7_laySpeeds 5 none) ∈ TB := mTB (tb_4 _ (List.mem_of_getElem? (i := 142) rfl)) (by decide +kernel)
theorem k_kl_X7_112 : (Cond.constantLong RX7 112 (-1)) ∈ TB := mTB (tb_4 _ (List.mem_of_getElem? (i := 150) rfl)) (by decide +kernel)
theorem k_m_X7_109 : (Cond.methodLink RX7 109 yX7_clearRows) ∈ TB := mTB (tb_4 _ (List.mem_of_getElem? (i := 143) rfl)) (by decide +kernel)
theorem k_im_X7_clearRows : (Cond.instanceMethod yX7_clearRows) ∈ TB := mTB (tb_4 _ (List.mem_of_getElem? (i := 145) rfl)) (by decide +kernel)
theorem k_se_X7_clearRows : (Cond.selects RX7 yX7_clearRows yX7_clearRows) ∈ TB := mTB (tb_0 _ (List.mem_of_getElem? (i := 14) rfl)) (by decide +kernel)
theorem k_co_X7_clearRows : (Cond.code yX7_clearRows cX7_clearRows 4 none) ∈ TB := mTB (tb_4 _ (List.mem_of_getElem? (i := 146) rfl)) (by decide +kernel)
theorem k_f_X7_84 : (Cond.fieldLink RX7 84 "PlanetaryGearboxModel" "rows" "I") ∈ TB := mTB (tb_4 _ (List.mem_of_getElem? (i := 48) rfl)) (by decide +kernel)
theorem k_f_X7_87 : (Cond.fieldLink RX7 87 "PlanetaryGearboxModel" "columns" "I") ∈ TB := mTB (tb_4 _ (List.mem_of_getElem? (i := 49) rfl)) (by decide +kernel)
theorem k_m_X7_73 : (Cond.methodLink RX7 73 yX7_has) ∈ TB := mTB (tb_4 _ (List.mem_of_getElem? (i := 147) rfl)) (by decide +kernel)
theorem k_st_X7_has : (Cond.static yX7_has) ∈ TB := mTB (tb_4 _ (List.mem_of_getElem? (i := 148) rfl)) (by decide +kernel)
theorem k_co_X7_has : (Cond.code yX7_has cX7_has 2 (some .boolean)) ∈ TB := mTB (tb_4 _ (List.mem_of_getElem? (i := 149) rfl)) (by decide +kernel)
theorem k_m_X7_114 : (Cond.methodLink RX7 114 yX7_solve) ∈ TB := mTB (tb_4 _ (List.mem_of_getElem? (i := 151) rfl)) (by decide +kernel)
theorem k_im_X7_solve : (Cond.instanceMethod yX7_solve) ∈ TB := mTB (tb_4 _ (List.mem_of_getElem? (i := 153) rfl)) (by decide +kernel)
theorem k_se_X7_solve : (Cond.selects RX7 yX7_solve yX7_solve) ∈ TB := mTB (tb_0 _ (List.mem_of_getElem? (i := 15) rfl)) (by decide +kernel)
theorem k_co_X7_solve : (Cond.code yX7_solve cX7_solve 5 none) ∈ TB := mTB (tb_4 _ (List.mem_of_getElem? (i := 154) rfl)) (by decide +kernel)
theorem k_m_X7_97 : (Cond.methodLink RX7 97 yX7_swap) ∈ TB := mTB (tb_4 _ (List.mem_of_getElem? (i := 155) rfl)) (by decide +kernel)
theorem k_im_X7_swap : (Cond.instanceMethod yX7_swap) ∈ TB := mTB (tb_4 _ (List.mem_of_getElem? (i := 157) rfl)) (by decide +kernel)
theorem k_se_X7_swap : (Cond.selects RX7 yX7_swap yX7_swap) ∈ TB := mTB (tb_0 _ (List.mem_of_getElem? (i := 16) rfl)) (by decide +kernel)
theorem k_co_X7_swap : (Cond.code yX7_swap cX7_swap 6 none) ∈ TB := mTB (tb_4 _ (List.mem_of_getElem? (i := 158) rfl)) (by decide +kernel)
theorem k_m_X7_101 : (Cond.methodLink RX7 101 yX7_takeOff) ∈ TB := mTB (tb_4 _ (List.mem_of_getElem? (i := 159) rfl)) (by decide +kernel)
theorem k_im_X7_takeOff : (Cond.instanceMethod yX7_takeOff) ∈ TB := mTB (tb_4 _ (List.mem_of_getElem? (i := 161) rfl)) (by decide +kernel)
theorem k_se_X7_takeOff : (Cond.selects RX7 yX7_takeOff yX7_takeOff) ∈ TB := mTB (tb_0 _ (List.mem_of_getElem? (i := 17) rfl)) (by decide +kernel)
theorem k_co_X7_takeOff : (Cond.code yX7_takeOff cX7_takeOff 9 none) ∈ TB := mTB (tb_4 _ (List.mem_of_getElem? (i := 162) rfl)) (by decide +kernel)
theorem k_m_X7_94 : (Cond.methodLink RX7 94 yX7_lessen) ∈ TB := mTB (tb_4 _ (List.mem_of_getElem? (i := 163) rfl)) (by decide +kernel)
theorem k_im_X7_lessen : (Cond.instanceMethod yX7_lessen) ∈ TB := mTB (tb_4 _ (List.mem_of_getElem? (i := 165) rfl)) (by decide +kernel)
theorem k_se_X7_lessen : (Cond.selects RX7 yX7_lessen yX7_lessen) ∈ TB := mTB (tb_0 _ (List.mem_of_getElem? (i := 18) rfl)) (by decide +kernel)
theorem k_co_X7_lessen : (Cond.code yX7_lessen cX7_lessen 5 none) ∈ TB := mTB (tb_4 _ (List.mem_of_getElem? (i := 166) rfl)) (by decide +kernel)
theorem k_m_X7_90 : (Cond.methodLink RX7 90 yX7_divisor) ∈ TB := mTB (tb_4 _ (List.mem_of_getElem? (i := 167) rfl)) (by decide +kernel)
theorem k_st_X7_divisor : (Cond.static yX7_divisor) ∈ TB := mTB (tb_4 _ (List.mem_of_getElem? (i := 168) rfl)) (by decide +kernel)
theorem k_co_X7_divisor : (Cond.code yX7_divisor cX7_divisor 10 (some .long)) ∈ TB := mTB (tb_4 _ (List.mem_of_getElem? (i := 169) rfl)) (by decide +kernel)
theorem k_m_X7_120 : (Cond.methodLink RX7 120 yX7_isDetermined) ∈ TB := mTB (tb_4 _ (List.mem_of_getElem? (i := 170) rfl)) (by decide +kernel)
theorem k_im_X7_isDetermined : (Cond.instanceMethod yX7_isDetermined) ∈ TB := mTB (tb_4 _ (List.mem_of_getElem? (i := 172) rfl)) (by decide +kernel)
theorem k_se_X7_isDetermined : (Cond.selects RX7 yX7_isDetermined yX7_isDetermined) ∈ TB := mTB (tb_0 _ (List.mem_of_getElem? (i := 19) rfl)) (by decide +kernel)
theorem k_co_X7_isDetermined : (Cond.code yX7_isDetermined cX7_isDetermined 4 (some .boolean)) ∈ TB := mTB (tb_4 _ (List.mem_of_getElem? (i := 173) rfl)) (by decide +kernel)
theorem k_m_X7_123 : (Cond.methodLink RX7 123 yX7_upper) ∈ TB := mTB (tb_4 _ (List.mem_of_getElem? (i := 174) rfl)) (by decide +kernel)
theorem k_im_X7_upper : (Cond.instanceMethod yX7_upper) ∈ TB := mTB (tb_4 _ (List.mem_of_getElem? (i := 176) rfl)) (by decide +kernel)
theorem k_se_X7_upper : (Cond.selects RX7 yX7_upper yX7_upper) ∈ TB := mTB (tb_0 _ (List.mem_of_getElem? (i := 20) rfl)) (by decide +kernel)
theorem k_co_X7_upper : (Cond.code yX7_upper cX7_upper 4 (some .long)) ∈ TB := mTB (tb_4 _ (List.mem_of_getElem? (i := 177) rfl)) (by decide +kernel)
theorem k_m_X7_150 : (Cond.methodLink RX7 150 yX7_isGear) ∈ TB := mTB (tb_4 _ (List.mem_of_getElem? (i := 178) rfl)) (by decide +kernel)
theorem k_im_X7_isGear : (Cond.instanceMethod yX7_isGear) ∈ TB := mTB (tb_4 _ (List.mem_of_getElem? (i := 180) rfl)) (by decide +kernel)
theorem k_se_X7_isGear : (Cond.selects RX7 yX7_isGear yX7_isGear) ∈ TB := mTB (tb_0 _ (List.mem_of_getElem? (i := 21) rfl)) (by decide +kernel)
theorem k_co_X7_isGear : (Cond.code yX7_isGear cX7_isGear 4 (some .boolean)) ∈ TB := mTB (tb_4 _ (List.mem_of_getElem? (i := 181) rfl)) (by decide +kernel)
theorem k_m_X7_141 : (Cond.methodLink RX7 141 yX7_ratioPart) ∈ TB := mTB (tb_4 _ (List.mem_of_getElem? (i := 182) rfl)) (by decide +kernel)
theorem k_im_X7_ratioPart : (Cond.instanceMethod yX7_ratioPart) ∈ TB := mTB (tb_4 _ (List.mem_of_getElem? (i := 184) rfl)) (by decide +kernel)
theorem k_se_X7_ratioPart : (Cond.selects RX7 yX7_ratioPart yX7_ratioPart) ∈ TB := mTB (tb_0 _ (List.mem_of_getElem? (i := 22) rfl)) (by decide +kernel)
theorem k_co_X7_ratioPart : (Cond.code yX7_ratioPart cX7_ratioPart 6 (some .long)) ∈ TB := mTB (tb_4 _ (List.mem_of_getElem? (i := 185) rfl)) (by decide +kernel)
theorem k_m_X7_134 : (Cond.methodLink RX7 134 yX7_lower) ∈ TB := mTB (tb_4 _ (List.mem_of_getElem? (i := 186) rfl)) (by decide +kernel)
theorem k_im_X7_lower : (Cond.instanceMethod yX7_lower) ∈ TB := mTB (tb_4 _ (List.mem_of_getElem? (i := 188) rfl)) (by decide +kernel)
theorem k_se_X7_lower : (Cond.selects RX7 yX7_lower yX7_lower) ∈ TB := mTB (tb_0 _ (List.mem_of_getElem? (i := 23) rfl)) (by decide +kernel)
theorem k_co_X7_lower : (Cond.code yX7_lower cX7_lower 4 (some .long)) ∈ TB := mTB (tb_4 _ (List.mem_of_getElem? (i := 189) rfl)) (by decide +kernel)
theorem k_m_X7_137 : (Cond.methodLink RX7 137 yX7_part) ∈ TB := mTB (tb_4 _ (List.mem_of_getElem? (i := 190) rfl)) (by decide +kernel)
theorem k_st_X7_part : (Cond.static yX7_part) ∈ TB := mTB (tb_4 _ (List.mem_of_getElem? (i := 191) rfl)) (by decide +kernel)
theorem k_co_X7_part : (Cond.code yX7_part cX7_part 7 (some .long)) ∈ TB := mTB (tb_4 _ (List.mem_of_getElem? (i := 192) rfl)) (by decide +kernel)
theorem k_m_L_122 : (Cond.methodLink RL 122 yL_engage) ∈ TB := mTB (tb_3 _ (List.mem_of_getElem? (i := 8) rfl)) (by decide +kernel)
theorem k_st_L_engage : (Cond.static yL_engage) ∈ TB := mTB (tb_3 _ (List.mem_of_getElem? (i := 9) rfl)) (by decide +kernel)
theorem k_co_L_engage : (Cond.codeWith yL_engage cL_engage 4 (some .int) [(0, 16, 19, 13)]) ∈ TB := mTB (tb_3 _ (List.mem_of_getElem? (i := 10) rfl)) (by decide +kernel)
theorem k_m_L_33 : (Cond.methodLink RL 33 yX6_engage) ∈ TB := mTB (tb_3 _ (List.mem_of_getElem? (i := 11) rfl)) (by decide +kernel)
theorem k_im_X6_engage : (Cond.instanceMethod yX6_engage) ∈ TB := mTB (tb_3 _ (List.mem_of_getElem? (i := 12) rfl)) (by decide +kernel)
theorem k_se_X6_engage : (Cond.selects RX6 yX6_engage yX6_engage) ∈ TB := mTB (tb_3 _ (List.mem_of_getElem? (i := 13) rfl)) (by decide +kernel)
theorem k_co_X6_engage : (Cond.code yX6_engage cX6_engage 2 (some .boolean)) ∈ TB := mTB (tb_3 _ (List.mem_of_getElem? (i := 14) rfl)) (by decide +kernel)
theorem k_m_X6_123 : (Cond.methodLink RX6 123 yX0_engagedMask) ∈ TB := mTB (tb_1 _ (List.mem_of_getElem? (i := 200) rfl)) (by decide +kernel)
theorem k_im_X0_engagedMask : (Cond.instanceMethod yX0_engagedMask) ∈ TB := mTB (tb_1 _ (List.mem_of_getElem? (i := 201) rfl)) (by decide +kernel)
theorem k_se_X0_engagedMask : (Cond.selects RX0 yX0_engagedMask yX0_engagedMask) ∈ TB := mTB (tb_1 _ (List.mem_of_getElem? (i := 202) rfl)) (by decide +kernel)
theorem k_co_X0_engagedMask : (Cond.code yX0_engagedMask cX0_engagedMask 1 (some .int)) ∈ TB := mTB (tb_1 _ (List.mem_of_getElem? (i := 203) rfl)) (by decide +kernel)
theorem k_f_X0_47 : (Cond.fieldLink RX0 47 "PlanetaryGearbox$Design" "engagedElements" "I") ∈ TB := mTB (tb_1 _ (List.mem_of_getElem? (i := 41) rfl)) (by decide +kernel)
theorem k_m_X6_126 : (Cond.methodLink RX6 126 yX6_changeEngaged) ∈ TB := mTB (tb_3 _ (List.mem_of_getElem? (i := 15) rfl)) (by decide +kernel)
theorem k_im_X6_changeEngaged : (Cond.instanceMethod yX6_changeEngaged) ∈ TB := mTB (tb_3 _ (List.mem_of_getElem? (i := 17) rfl)) (by decide +kernel)
theorem k_se_X6_changeEngaged : (Cond.selects RX6 yX6_changeEngaged yX6_changeEngaged) ∈ TB := mTB (tb_0 _ (List.mem_of_getElem? (i := 6) rfl)) (by decide +kernel)
theorem k_co_X6_changeEngaged : (Cond.code yX6_changeEngaged cX6_changeEngaged 3 (some .boolean)) ∈ TB := mTB (tb_3 _ (List.mem_of_getElem? (i := 18) rfl)) (by decide +kernel)
theorem k_m_X6_255 : (Cond.methodLink RX6 255 yX3_add) ∈ TB := mTB (tb_3 _ (List.mem_of_getElem? (i := 19) rfl)) (by decide +kernel)
theorem k_im_X3_add : (Cond.instanceMethod yX3_add) ∈ TB := mTB (tb_3 _ (List.mem_of_getElem? (i := 20) rfl)) (by decide +kernel)
theorem k_se_X3_add : (Cond.selects RX3 yX3_add yX3_add) ∈ TB := mTB (tb_3 _ (List.mem_of_getElem? (i := 21) rfl)) (by decide +kernel)
theorem k_co_X3_add : (Cond.code yX3_add cX3_add 3 none) ∈ TB := mTB (tb_3 _ (List.mem_of_getElem? (i := 22) rfl)) (by decide +kernel)
theorem k_f_X3_15 : (Cond.fieldLink RX3 15 "PlanetaryGearbox$History" "size" "I") ∈ TB := mTB (tb_1 _ (List.mem_of_getElem? (i := 73) rfl)) (by decide +kernel)
theorem k_m_X6_141 : (Cond.methodLink RX6 141 yX0_changeEngagedMask) ∈ TB := mTB (tb_1 _ (List.mem_of_getElem? (i := 192) rfl)) (by decide +kernel)
theorem k_im_X0_changeEngagedMask : (Cond.instanceMethod yX0_changeEngagedMask) ∈ TB := mTB (tb_1 _ (List.mem_of_getElem? (i := 193) rfl)) (by decide +kernel)
theorem k_se_X0_changeEngagedMask : (Cond.selects RX0 yX0_changeEngagedMask yX0_changeEngagedMask) ∈ TB := mTB (tb_1 _ (List.mem_of_getElem? (i := 194) rfl)) (by decide +kernel)
theorem k_co_X0_changeEngagedMask : (Cond.code yX0_changeEngagedMask cX0_changeEngagedMask 2 none) ∈ TB := mTB (tb_1 _ (List.mem_of_getElem? (i := 195) rfl)) (by decide +kernel)
theorem k_m_L_124 : (Cond.methodLink RL 124 yX7_engage) ∈ TB := mTB (tb_4 _ (List.mem_of_getElem? (i := 193) rfl)) (by decide +kernel)
theorem k_im_X7_engage : (Cond.instanceMethod yX7_engage) ∈ TB := mTB (tb_4 _ (List.mem_of_getElem? (i := 194) rfl)) (by decide +kernel)
theorem k_se_X7_engage : (Cond.selects RX7 yX7_engage yX7_engage) ∈ TB := mTB (tb_4 _ (List.mem_of_getElem? (i := 195) rfl)) (by decide +kernel)
theorem k_co_X7_engage : (Cond.code yX7_engage cX7_engage 2 (some .boolean)) ∈ TB := mTB (tb_4 _ (List.mem_of_getElem? (i := 196) rfl)) (by decide +kernel)
theorem k_m_X7_77 : (Cond.methodLink RX7 77 yX7_become) ∈ TB := mTB (tb_4 _ (List.mem_of_getElem? (i := 197) rfl)) (by decide +kernel)
theorem k_im_X7_become : (Cond.instanceMethod yX7_become) ∈ TB := mTB (tb_4 _ (List.mem_of_getElem? (i := 199) rfl)) (by decide +kernel)
theorem k_se_X7_become : (Cond.selects RX7 yX7_become yX7_become) ∈ TB := mTB (tb_0 _ (List.mem_of_getElem? (i := 24) rfl)) (by decide +kernel)
theorem k_co_X7_become : (Cond.code yX7_become cX7_become 3 none) ∈ TB := mTB (tb_4 _ (List.mem_of_getElem? (i := 200) rfl)) (by decide +kernel)
theorem k_f_X7_70 : (Cond.fieldLink RX7 70 "PlanetaryGearboxModel" "changes" "I") ∈ TB := mTB (tb_4 _ (List.mem_of_getElem? (i := 45) rfl)) (by decide +kernel)
theorem k_m_L_125 : (Cond.methodLink RL 125 yL_release) ∈ TB := mTB (tb_3 _ (List.mem_of_getElem? (i := 23) rfl)) (by decide +kernel)
theorem k_st_L_release : (Cond.static yL_release) ∈ TB := mTB (tb_3 _ (List.mem_of_getElem? (i := 24) rfl)) (by decide +kernel)
theorem k_co_L_release : (Cond.codeWith yL_release cL_release 4 (some .int) [(0, 16, 19, 13)]) ∈ TB := mTB (tb_3 _ (List.mem_of_getElem? (i := 25) rfl)) (by decide +kernel)
theorem k_m_L_37 : (Cond.methodLink RL 37 yX6_release) ∈ TB := mTB (tb_3 _ (List.mem_of_getElem? (i := 26) rfl)) (by decide +kernel)
theorem k_im_X6_release : (Cond.instanceMethod yX6_release) ∈ TB := mTB (tb_3 _ (List.mem_of_getElem? (i := 27) rfl)) (by decide +kernel)
theorem k_se_X6_release : (Cond.selects RX6 yX6_release yX6_release) ∈ TB := mTB (tb_3 _ (List.mem_of_getElem? (i := 28) rfl)) (by decide +kernel)
theorem k_co_X6_release : (Cond.code yX6_release cX6_release 2 (some .boolean)) ∈ TB := mTB (tb_3 _ (List.mem_of_getElem? (i := 29) rfl)) (by decide +kernel)
theorem k_m_L_127 : (Cond.methodLink RL 127 yX7_release) ∈ TB := mTB (tb_4 _ (List.mem_of_getElem? (i := 201) rfl)) (by decide +kernel)
theorem k_im_X7_release : (Cond.instanceMethod yX7_release) ∈ TB := mTB (tb_4 _ (List.mem_of_getElem? (i := 202) rfl)) (by decide +kernel)
theorem k_se_X7_release : (Cond.selects RX7 yX7_release yX7_release) ∈ TB := mTB (tb_4 _ (List.mem_of_getElem? (i := 203) rfl)) (by decide +kernel)
theorem k_co_X7_release : (Cond.code yX7_release cX7_release 2 (some .boolean)) ∈ TB := mTB (tb_4 _ (List.mem_of_getElem? (i := 204) rfl)) (by decide +kernel)
theorem k_m_L_128 : (Cond.methodLink RL 128 yL_select) ∈ TB := mTB (tb_3 _ (List.mem_of_getElem? (i := 30) rfl)) (by decide +kernel)
theorem k_st_L_select : (Cond.static yL_select) ∈ TB := mTB (tb_3 _ (List.mem_of_getElem? (i := 31) rfl)) (by decide +kernel)
theorem k_co_L_select : (Cond.codeWith yL_select cL_select 4 (some .int) [(0, 9, 12, 15)]) ∈ TB := mTB (tb_3 _ (List.mem_of_getElem? (i := 32) rfl)) (by decide +kernel)
theorem k_m_L_40 : (Cond.methodLink RL 40 yX6_select) ∈ TB := mTB (tb_3 _ (List.mem_of_getElem? (i := 33) rfl)) (by decide +kernel)
theorem k_im_X6_select : (Cond.instanceMethod yX6_select) ∈ TB := mTB (tb_3 _ (List.mem_of_getElem? (i := 34) rfl)) (by decide +kernel)
theorem k_se_X6_select : (Cond.selects RX6 yX6_select yX6_select) ∈ TB := mTB (tb_3 _ (List.mem_of_getElem? (i := 35) rfl)) (by decide +kernel)
theorem k_co_X6_select : (Cond.code yX6_select cX6_select 3 (some .int)) ∈ TB := mTB (tb_3 _ (List.mem_of_getElem? (i := 36) rfl)) (by decide +kernel)
theorem k_m_X6_129 : (Cond.methodLink RX6 129 yX0_hasElements) ∈ TB := mTB (tb_3 _ (List.mem_of_getElem? (i := 37) rfl)) (by decide +kernel)
theorem k_m_L_130 : (Cond.methodLink RL 130 yX7_select) ∈ TB := mTB (tb_4 _ (List.mem_of_getElem? (i := 205) rfl)) (by decide +kernel)
theorem k_im_X7_select : (Cond.instanceMethod yX7_select) ∈ TB := mTB (tb_4 _ (List.mem_of_getElem? (i := 206) rfl)) (by decide +kernel)
theorem k_se_X7_select : (Cond.selects RX7 yX7_select yX7_select) ∈ TB := mTB (tb_4 _ (List.mem_of_getElem? (i := 207) rfl)) (by decide +kernel)
theorem k_co_X7_select : (Cond.code yX7_select cX7_select 3 (some .int)) ∈ TB := mTB (tb_4 _ (List.mem_of_getElem? (i := 208) rfl)) (by decide +kernel)
theorem k_m_X7_81 : (Cond.methodLink RX7 81 yX7_isMask) ∈ TB := mTB (tb_4 _ (List.mem_of_getElem? (i := 209) rfl)) (by decide +kernel)
theorem k_im_X7_isMask : (Cond.instanceMethod yX7_isMask) ∈ TB := mTB (tb_4 _ (List.mem_of_getElem? (i := 211) rfl)) (by decide +kernel)
theorem k_se_X7_isMask : (Cond.selects RX7 yX7_isMask yX7_isMask) ∈ TB := mTB (tb_0 _ (List.mem_of_getElem? (i := 25) rfl)) (by decide +kernel)
theorem k_co_X7_isMask : (Cond.code yX7_isMask cX7_isMask 2 (some .boolean)) ∈ TB := mTB (tb_4 _ (List.mem_of_getElem? (i := 212) rfl)) (by decide +kernel)
theorem k_m_L_131 : (Cond.methodLink RL 131 yX6_undo) ∈ TB := mTB (tb_1 _ (List.mem_of_getElem? (i := 180) rfl)) (by decide +kernel)
theorem k_im_X6_undo : (Cond.instanceMethod yX6_undo) ∈ TB := mTB (tb_1 _ (List.mem_of_getElem? (i := 181) rfl)) (by decide +kernel)
theorem k_se_X6_undo : (Cond.selects RX6 yX6_undo yX6_undo) ∈ TB := mTB (tb_1 _ (List.mem_of_getElem? (i := 182) rfl)) (by decide +kernel)
theorem k_co_X6_undo : (Cond.code yX6_undo cX6_undo 1 (some .boolean)) ∈ TB := mTB (tb_1 _ (List.mem_of_getElem? (i := 183) rfl)) (by decide +kernel)
theorem k_m_X6_134 : (Cond.methodLink RX6 134 yX3_isEmpty) ∈ TB := mTB (tb_1 _ (List.mem_of_getElem? (i := 184) rfl)) (by decide +kernel)
theorem k_im_X3_isEmpty : (Cond.instanceMethod yX3_isEmpty) ∈ TB := mTB (tb_1 _ (List.mem_of_getElem? (i := 185) rfl)) (by decide +kernel)
theorem k_se_X3_isEmpty : (Cond.selects RX3 yX3_isEmpty yX3_isEmpty) ∈ TB := mTB (tb_1 _ (List.mem_of_getElem? (i := 186) rfl)) (by decide +kernel)
theorem k_co_X3_isEmpty : (Cond.code yX3_isEmpty cX3_isEmpty 1 (some .boolean)) ∈ TB := mTB (tb_1 _ (List.mem_of_getElem? (i := 187) rfl)) (by decide +kernel)
theorem k_m_X6_138 : (Cond.methodLink RX6 138 yX3_takeLatest) ∈ TB := mTB (tb_1 _ (List.mem_of_getElem? (i := 188) rfl)) (by decide +kernel)
theorem k_im_X3_takeLatest : (Cond.instanceMethod yX3_takeLatest) ∈ TB := mTB (tb_1 _ (List.mem_of_getElem? (i := 189) rfl)) (by decide +kernel)
theorem k_se_X3_takeLatest : (Cond.selects RX3 yX3_takeLatest yX3_takeLatest) ∈ TB := mTB (tb_1 _ (List.mem_of_getElem? (i := 190) rfl)) (by decide +kernel)
theorem k_co_X3_takeLatest : (Cond.code yX3_takeLatest cX3_takeLatest 1 (some .int)) ∈ TB := mTB (tb_1 _ (List.mem_of_getElem? (i := 191) rfl)) (by decide +kernel)
theorem k_m_L_135 : (Cond.methodLink RL 135 yX7_undo) ∈ TB := mTB (tb_4 _ (List.mem_of_getElem? (i := 213) rfl)) (by decide +kernel)
theorem k_im_X7_undo : (Cond.instanceMethod yX7_undo) ∈ TB := mTB (tb_4 _ (List.mem_of_getElem? (i := 214) rfl)) (by decide +kernel)
theorem k_se_X7_undo : (Cond.selects RX7 yX7_undo yX7_undo) ∈ TB := mTB (tb_4 _ (List.mem_of_getElem? (i := 215) rfl)) (by decide +kernel)
theorem k_co_X7_undo : (Cond.code yX7_undo cX7_undo 1 (some .boolean)) ∈ TB := mTB (tb_4 _ (List.mem_of_getElem? (i := 216) rfl)) (by decide +kernel)
theorem k_m_L_136 : (Cond.methodLink RL 136 yX6_engaged) ∈ TB := mTB (tb_1 _ (List.mem_of_getElem? (i := 196) rfl)) (by decide +kernel)
theorem k_im_X6_engaged : (Cond.instanceMethod yX6_engaged) ∈ TB := mTB (tb_1 _ (List.mem_of_getElem? (i := 197) rfl)) (by decide +kernel)
theorem k_se_X6_engaged : (Cond.selects RX6 yX6_engaged yX6_engaged) ∈ TB := mTB (tb_1 _ (List.mem_of_getElem? (i := 198) rfl)) (by decide +kernel)
theorem k_co_X6_engaged : (Cond.code yX6_engaged cX6_engaged 1 (some .int)) ∈ TB := mTB (tb_1 _ (List.mem_of_getElem? (i := 199) rfl)) (by decide +kernel)
theorem k_m_L_139 : (Cond.methodLink RL 139 yX7_engaged) ∈ TB := mTB (tb_4 _ (List.mem_of_getElem? (i := 217) rfl)) (by decide +kernel)
theorem k_im_X7_engaged : (Cond.instanceMethod yX7_engaged) ∈ TB := mTB (tb_4 _ (List.mem_of_getElem? (i := 218) rfl)) (by decide +kernel)
theorem k_se_X7_engaged : (Cond.selects RX7 yX7_engaged yX7_engaged) ∈ TB := mTB (tb_4 _ (List.mem_of_getElem? (i := 219) rfl)) (by decide +kernel)
theorem k_co_X7_engaged : (Cond.code yX7_engaged cX7_engaged 1 (some .int)) ∈ TB := mTB (tb_4 _ (List.mem_of_getElem? (i := 220) rfl)) (by decide +kernel)
theorem k_m_L_140 : (Cond.methodLink RL 140 yX6_brakesOnly) ∈ TB := mTB (tb_1 _ (List.mem_of_getElem? (i := 204) rfl)) (by decide +kernel)
theorem k_im_X6_brakesOnly : (Cond.instanceMethod yX6_brakesOnly) ∈ TB := mTB (tb_1 _ (List.mem_of_getElem? (i := 205) rfl)) (by decide +kernel)
theorem k_se_X6_brakesOnly : (Cond.selects RX6 yX6_brakesOnly yX6_brakesOnly) ∈ TB := mTB (tb_1 _ (List.mem_of_getElem? (i := 206) rfl)) (by decide +kernel)
theorem k_co_X6_brakesOnly : (Cond.code yX6_brakesOnly cX6_brakesOnly 2 (some .boolean)) ∈ TB := mTB (tb_1 _ (List.mem_of_getElem? (i := 207) rfl)) (by decide +kernel)
theorem k_m_X6_145 : (Cond.methodLink RX6 145 yX0_isEngaged) ∈ TB := mTB (tb_1 _ (List.mem_of_getElem? (i := 208) rfl)) (by decide +kernel)
theorem k_im_X0_isEngaged : (Cond.instanceMethod yX0_isEngaged) ∈ TB := mTB (tb_1 _ (List.mem_of_getElem? (i := 209) rfl)) (by decide +kernel)
theorem k_se_X0_isEngaged : (Cond.selects RX0 yX0_isEngaged yX0_isEngaged) ∈ TB := mTB (tb_1 _ (List.mem_of_getElem? (i := 210) rfl)) (by decide +kernel)
theorem k_co_X0_isEngaged : (Cond.code yX0_isEngaged cX0_isEngaged 2 (some .boolean)) ∈ TB := mTB (tb_1 _ (List.mem_of_getElem? (i := 211) rfl)) (by decide +kernel)
theorem k_m_X6_148 : (Cond.methodLink RX6 148 yX0_isClutch) ∈ TB := mTB (tb_1 _ (List.mem_of_getElem? (i := 219) rfl)) (by decide +kernel)
theorem k_im_X0_isClutch : (Cond.instanceMethod yX0_isClutch) ∈ TB := mTB (tb_1 _ (List.mem_of_getElem? (i := 220) rfl)) (by decide +kernel)
theorem k_se_X0_isClutch : (Cond.selects RX0 yX0_isClutch yX0_isClutch) ∈ TB := mTB (tb_1 _ (List.mem_of_getElem? (i := 221) rfl)) (by decide +kernel)
theorem k_co_X0_isClutch : (Cond.code yX0_isClutch cX0_isClutch 2 (some .boolean)) ∈ TB := mTB (tb_1 _ (List.mem_of_getElem? (i := 222) rfl)) (by decide +kernel)
theorem k_m_L_143 : (Cond.methodLink RL 143 yX7_brakesOnly) ∈ TB := mTB (tb_4 _ (List.mem_of_getElem? (i := 221) rfl)) (by decide +kernel)
theorem k_im_X7_brakesOnly : (Cond.instanceMethod yX7_brakesOnly) ∈ TB := mTB (tb_4 _ (List.mem_of_getElem? (i := 222) rfl)) (by decide +kernel)
theorem k_se_X7_brakesOnly : (Cond.selects RX7 yX7_brakesOnly yX7_brakesOnly) ∈ TB := mTB (tb_4 _ (List.mem_of_getElem? (i := 223) rfl)) (by decide +kernel)
theorem k_co_X7_brakesOnly : (Cond.code yX7_brakesOnly cX7_brakesOnly 3 (some .boolean)) ∈ TB := mTB (tb_4 _ (List.mem_of_getElem? (i := 224) rfl)) (by decide +kernel)
theorem k_m_L_144 : (Cond.methodLink RL 144 yX6_state) ∈ TB := mTB (tb_1 _ (List.mem_of_getElem? (i := 223) rfl)) (by decide +kernel)
theorem k_im_X6_state : (Cond.instanceMethod yX6_state) ∈ TB := mTB (tb_1 _ (List.mem_of_getElem? (i := 224) rfl)) (by decide +kernel)
theorem k_se_X6_state : (Cond.selects RX6 yX6_state yX6_state) ∈ TB := mTB (tb_1 _ (List.mem_of_getElem? (i := 225) rfl)) (by decide +kernel)
theorem k_co_X6_state : (Cond.code yX6_state cX6_state 1 (some .int)) ∈ TB := mTB (tb_1 _ (List.mem_of_getElem? (i := 226) rfl)) (by decide +kernel)
theorem k_m_X6_151 : (Cond.methodLink RX6 151 yX4_solve) ∈ TB := mTB (tb_1 _ (List.mem_of_getElem? (i := 227) rfl)) (by decide +kernel)
theorem k_m_X6_155 : (Cond.methodLink RX6 155 yX4_stateFound) ∈ TB := mTB (tb_2 _ (List.mem_of_getElem? (i := 28) rfl)) (by decide +kernel)
theorem k_m_L_147 : (Cond.methodLink RL 147 yX7_state) ∈ TB := mTB (tb_4 _ (List.mem_of_getElem? (i := 225) rfl)) (by decide +kernel)
theorem k_im_X7_state : (Cond.instanceMethod yX7_state) ∈ TB := mTB (tb_4 _ (List.mem_of_getElem? (i := 226) rfl)) (by decide +kernel)
theorem k_se_X7_state : (Cond.selects RX7 yX7_state yX7_state) ∈ TB := mTB (tb_4 _ (List.mem_of_getElem? (i := 227) rfl)) (by decide +kernel)
theorem k_co_X7_state : (Cond.code yX7_state cX7_state 1 (some .int)) ∈ TB := mTB (tb_4 _ (List.mem_of_getElem? (i := 228) rfl)) (by decide +kernel)
theorem k_m_L_148 : (Cond.methodLink RL 148 yL_speed) ∈ TB := mTB (tb_3 _ (List.mem_of_getElem? (i := 39) rfl)) (by decide +kernel)
theorem k_st_L_speed : (Cond.static yL_speed) ∈ TB := mTB (tb_3 _ (List.mem_of_getElem? (i := 40) rfl)) (by decide +kernel)
theorem k_co_L_speed : (Cond.codeWith yL_speed cL_speed 5 (some .int) [(0, 9, 12, 13), (0, 9, 16, 15), (0, 9, 20, 17)]) ∈ TB := mTB (tb_3 _ (List.mem_of_getElem? (i := 41) rfl)) (by decide +kernel)
theorem k_m_L_43 : (Cond.methodLink RL 43 yX6_speed) ∈ TB := mTB (tb_3 _ (List.mem_of_getElem? (i := 42) rfl)) (by decide +kernel)
theorem k_im_X6_speed : (Cond.instanceMethod yX6_speed) ∈ TB := mTB (tb_3 _ (List.mem_of_getElem? (i := 43) rfl)) (by decide +kernel)
theorem k_se_X6_speed : (Cond.selects RX6 yX6_speed yX6_speed) ∈ TB := mTB (tb_3 _ (List.mem_of_getElem? (i := 44) rfl)) (by decide +kernel)
theorem k_co_X6_speed : (Cond.code yX6_speed cX6_speed 3 (some .long)) ∈ TB := mTB (tb_3 _ (List.mem_of_getElem? (i := 45) rfl)) (by decide +kernel)
theorem k_m_X6_158 : (Cond.methodLink RX6 158 yX6_isPart) ∈ TB := mTB (tb_3 _ (List.mem_of_getElem? (i := 46) rfl)) (by decide +kernel)
theorem k_st_X6_isPart : (Cond.static yX6_isPart) ∈ TB := mTB (tb_3 _ (List.mem_of_getElem? (i := 47) rfl)) (by decide +kernel)
theorem k_co_X6_isPart : (Cond.code yX6_isPart cX6_isPart 1 (some .boolean)) ∈ TB := mTB (tb_3 _ (List.mem_of_getElem? (i := 48) rfl)) (by decide +kernel)
theorem k_m_X6_163 : (Cond.methodLink RX6 163 yX4_isDetermined) ∈ TB := mTB (tb_3 _ (List.mem_of_getElem? (i := 50) rfl)) (by decide +kernel)
theorem k_im_X4_isDetermined : (Cond.instanceMethod yX4_isDetermined) ∈ TB := mTB (tb_3 _ (List.mem_of_getElem? (i := 51) rfl)) (by decide +kernel)
theorem k_se_X4_isDetermined : (Cond.selects RX4 yX4_isDetermined yX4_isDetermined) ∈ TB := mTB (tb_3 _ (List.mem_of_getElem? (i := 52) rfl)) (by decide +kernel)
theorem k_co_X4_isDetermined : (Cond.code yX4_isDetermined cX4_isDetermined 2 (some .boolean)) ∈ TB := mTB (tb_3 _ (List.mem_of_getElem? (i := 53) rfl)) (by decide +kernel)
theorem k_m_X6_168 : (Cond.methodLink RX6 168 yX4_speedPart) ∈ TB := mTB (tb_3 _ (List.mem_of_getElem? (i := 55) rfl)) (by decide +kernel)
theorem k_im_X4_speedPart : (Cond.instanceMethod yX4_speedPart) ∈ TB := mTB (tb_3 _ (List.mem_of_getElem? (i := 56) rfl)) (by decide +kernel)
theorem k_se_X4_speedPart : (Cond.selects RX4 yX4_speedPart yX4_speedPart) ∈ TB := mTB (tb_3 _ (List.mem_of_getElem? (i := 57) rfl)) (by decide +kernel)
theorem k_co_X4_speedPart : (Cond.code yX4_speedPart cX4_speedPart 3 (some .long)) ∈ TB := mTB (tb_3 _ (List.mem_of_getElem? (i := 58) rfl)) (by decide +kernel)
theorem k_m_L_150 : (Cond.methodLink RL 150 yX7_speed) ∈ TB := mTB (tb_4 _ (List.mem_of_getElem? (i := 229) rfl)) (by decide +kernel)
theorem k_im_X7_speed : (Cond.instanceMethod yX7_speed) ∈ TB := mTB (tb_4 _ (List.mem_of_getElem? (i := 230) rfl)) (by decide +kernel)
theorem k_se_X7_speed : (Cond.selects RX7 yX7_speed yX7_speed) ∈ TB := mTB (tb_4 _ (List.mem_of_getElem? (i := 231) rfl)) (by decide +kernel)
theorem k_co_X7_speed : (Cond.code yX7_speed cX7_speed 3 (some .long)) ∈ TB := mTB (tb_4 _ (List.mem_of_getElem? (i := 232) rfl)) (by decide +kernel)
theorem k_m_X7_131 : (Cond.methodLink RX7 131 yX7_isPart) ∈ TB := mTB (tb_4 _ (List.mem_of_getElem? (i := 233) rfl)) (by decide +kernel)
theorem k_st_X7_isPart : (Cond.static yX7_isPart) ∈ TB := mTB (tb_4 _ (List.mem_of_getElem? (i := 234) rfl)) (by decide +kernel)
theorem k_co_X7_isPart : (Cond.code yX7_isPart cX7_isPart 1 (some .boolean)) ∈ TB := mTB (tb_4 _ (List.mem_of_getElem? (i := 235) rfl)) (by decide +kernel)
theorem k_m_L_151 : (Cond.methodLink RL 151 yL_ratio) ∈ TB := mTB (tb_3 _ (List.mem_of_getElem? (i := 59) rfl)) (by decide +kernel)
theorem k_st_L_ratio : (Cond.static yL_ratio) ∈ TB := mTB (tb_3 _ (List.mem_of_getElem? (i := 60) rfl)) (by decide +kernel)
theorem k_co_L_ratio : (Cond.codeWith yL_ratio cL_ratio 4 (some .int) [(0, 8, 11, 15), (0, 8, 14, 17)]) ∈ TB := mTB (tb_3 _ (List.mem_of_getElem? (i := 61) rfl)) (by decide +kernel)
theorem k_m_L_47 : (Cond.methodLink RL 47 yX6_ratio) ∈ TB := mTB (tb_3 _ (List.mem_of_getElem? (i := 62) rfl)) (by decide +kernel)
theorem k_im_X6_ratio : (Cond.instanceMethod yX6_ratio) ∈ TB := mTB (tb_3 _ (List.mem_of_getElem? (i := 63) rfl)) (by decide +kernel)
theorem k_se_X6_ratio : (Cond.selects RX6 yX6_ratio yX6_ratio) ∈ TB := mTB (tb_3 _ (List.mem_of_getElem? (i := 64) rfl)) (by decide +kernel)
theorem k_co_X6_ratio : (Cond.code yX6_ratio cX6_ratio 2 (some .long)) ∈ TB := mTB (tb_3 _ (List.mem_of_getElem? (i := 65) rfl)) (by decide +kernel)
theorem k_m_X6_174 : (Cond.methodLink RX6 174 yX4_ratioPart) ∈ TB := mTB (tb_3 _ (List.mem_of_getElem? (i := 67) rfl)) (by decide +kernel)
theorem k_m_L_153 : (Cond.methodLink RL 153 yX7_ratio) ∈ TB := mTB (tb_4 _ (List.mem_of_getElem? (i := 236) rfl)) (by decide +kernel)
theorem k_im_X7_ratio : (Cond.instanceMethod yX7_ratio) ∈ TB := mTB (tb_4 _ (List.mem_of_getElem? (i := 237) rfl)) (by decide +kernel)
theorem k_se_X7_ratio : (Cond.selects RX7 yX7_ratio yX7_ratio) ∈ TB := mTB (tb_4 _ (List.mem_of_getElem? (i := 238) rfl)) (by decide +kernel)
theorem k_co_X7_ratio : (Cond.code yX7_ratio cX7_ratio 2 (some .long)) ∈ TB := mTB (tb_4 _ (List.mem_of_getElem? (i := 239) rfl)) (by decide +kernel)
theorem k_m_L_154 : (Cond.methodLink RL 154 yL_ratioAsFloat) ∈ TB := mTB (tb_3 _ (List.mem_of_getElem? (i := 68) rfl)) (by decide +kernel)
theorem k_st_L_ratioAsFloat : (Cond.static yL_ratioAsFloat) ∈ TB := mTB (tb_3 _ (List.mem_of_getElem? (i := 69) rfl)) (by decide +kernel)
theorem k_co_L_ratioAsFloat : (Cond.codeWith yL_ratioAsFloat cL_ratioAsFloat 3 (some .int) [(0, 8, 11, 17)]) ∈ TB := mTB (tb_3 _ (List.mem_of_getElem? (i := 70) rfl)) (by decide +kernel)
theorem k_m_L_51 : (Cond.methodLink RL 51 yX6_ratioAsFloat) ∈ TB := mTB (tb_3 _ (List.mem_of_getElem? (i := 71) rfl)) (by decide +kernel)
theorem k_im_X6_ratioAsFloat : (Cond.instanceMethod yX6_ratioAsFloat) ∈ TB := mTB (tb_3 _ (List.mem_of_getElem? (i := 72) rfl)) (by decide +kernel)
theorem k_se_X6_ratioAsFloat : (Cond.selects RX6 yX6_ratioAsFloat yX6_ratioAsFloat) ∈ TB := mTB (tb_3 _ (List.mem_of_getElem? (i := 73) rfl)) (by decide +kernel)
theorem k_co_X6_ratioAsFloat : (Cond.code yX6_ratioAsFloat cX6_ratioAsFloat 1 (some .float)) ∈ TB := mTB (tb_3 _ (List.mem_of_getElem? (i := 74) rfl)) (by decide +kernel)
theorem k_m_X6_178 : (Cond.methodLink RX6 178 yX6_floatQuotient) ∈ TB := mTB (tb_3 _ (List.mem_of_getElem? (i := 75) rfl)) (by decide +kernel)
theorem k_st_X6_floatQuotient : (Cond.static yX6_floatQuotient) ∈ TB := mTB (tb_3 _ (List.mem_of_getElem? (i := 76) rfl)) (by decide +kernel)
theorem k_co_X6_floatQuotient : (Cond.code yX6_floatQuotient cX6_floatQuotient 4 (some .float)) ∈ TB := mTB (tb_3 _ (List.mem_of_getElem? (i := 77) rfl)) (by decide +kernel)
theorem k_m_L_157 : (Cond.methodLink RL 157 yX7_ratioAsFloat) ∈ TB := mTB (tb_5 _ (List.mem_of_getElem? (i := 0) rfl)) (by decide +kernel)
theorem k_im_X7_ratioAsFloat : (Cond.instanceMethod yX7_ratioAsFloat) ∈ TB := mTB (tb_5 _ (List.mem_of_getElem? (i := 1) rfl)) (by decide +kernel)
theorem k_se_X7_ratioAsFloat : (Cond.selects RX7 yX7_ratioAsFloat yX7_ratioAsFloat) ∈ TB := mTB (tb_5 _ (List.mem_of_getElem? (i := 2) rfl)) (by decide +kernel)
theorem k_co_X7_ratioAsFloat : (Cond.code yX7_ratioAsFloat cX7_ratioAsFloat 1 (some .float)) ∈ TB := mTB (tb_5 _ (List.mem_of_getElem? (i := 3) rfl)) (by decide +kernel)
theorem k_m_L_158 : (Cond.methodLink RL 158 yL_outputTorque) ∈ TB := mTB (tb_3 _ (List.mem_of_getElem? (i := 78) rfl)) (by decide +kernel)
theorem k_st_L_outputTorque : (Cond.static yL_outputTorque) ∈ TB := mTB (tb_3 _ (List.mem_of_getElem? (i := 79) rfl)) (by decide +kernel)
theorem k_co_L_outputTorque : (Cond.codeWith yL_outputTorque cL_outputTorque 4 (some .int) [(0, 8, 11, 15), (0, 8, 14, 17)]) ∈ TB := mTB (tb_3 _ (List.mem_of_getElem? (i := 80) rfl)) (by decide +kernel)
theorem k_m_L_55 : (Cond.methodLink RL 55 yX6_outputTorque) ∈ TB := mTB (tb_3 _ (List.mem_of_getElem? (i := 81) rfl)) (by decide +kernel)
theorem k_im_X6_outputTorque : (Cond.instanceMethod yX6_outputTorque) ∈ TB := mTB (tb_3 _ (List.mem_of_getElem? (i := 82) rfl)) (by decide +kernel)
theorem k_se_X6_outputTorque : (Cond.selects RX6 yX6_outputTorque yX6_outputTorque) ∈ TB := mTB (tb_3 _ (List.mem_of_getElem? (i := 83) rfl)) (by decide +kernel)
theorem k_co_X6_outputTorque : (Cond.code yX6_outputTorque cX6_outputTorque 2 (some .long)) ∈ TB := mTB (tb_3 _ (List.mem_of_getElem? (i := 84) rfl)) (by decide +kernel)
theorem k_m_X6_182 : (Cond.methodLink RX6 182 yX5_solve) ∈ TB := mTB (tb_3 _ (List.mem_of_getElem? (i := 85) rfl)) (by decide +kernel)
theorem k_im_X5_solve : (Cond.instanceMethod yX5_solve) ∈ TB := mTB (tb_3 _ (List.mem_of_getElem? (i := 86) rfl)) (by decide +kernel)
theorem k_se_X5_solve : (Cond.selects RX5 yX5_solve yX5_solve) ∈ TB := mTB (tb_3 _ (List.mem_of_getElem? (i := 87) rfl)) (by decide +kernel)
theorem k_co_X5_solve : (Cond.code yX5_solve cX5_solve 3 none) ∈ TB := mTB (tb_3 _ (List.mem_of_getElem? (i := 88) rfl)) (by decide +kernel)
theorem k_kl_X5_21 : (Cond.constantLong RX5 21 (-1)) ∈ TB := mTB (tb_3 _ (List.mem_of_getElem? (i := 90) rfl)) (by decide +kernel)
theorem k_m_X5_18 : (Cond.methodLink RX5 18 yX1_clear) ∈ TB := mTB (tb_3 _ (List.mem_of_getElem? (i := 89) rfl)) (by decide +kernel)
theorem k_m_X5_23 : (Cond.methodLink RX5 23 yX1_add) ∈ TB := mTB (tb_3 _ (List.mem_of_getElem? (i := 91) rfl)) (by decide +kernel)
theorem k_m_X5_27 : (Cond.methodLink RX5 27 yX0_writeSetTorques) ∈ TB := mTB (tb_3 _ (List.mem_of_getElem? (i := 92) rfl)) (by decide +kernel)
theorem k_im_X0_writeSetTorques : (Cond.instanceMethod yX0_writeSetTorques) ∈ TB := mTB (tb_3 _ (List.mem_of_getElem? (i := 93) rfl)) (by decide +kernel)
theorem k_se_X0_writeSetTorques : (Cond.selects RX0 yX0_writeSetTorques yX0_writeSetTorques) ∈ TB := mTB (tb_3 _ (List.mem_of_getElem? (i := 94) rfl)) (by decide +kernel)
theorem k_co_X0_writeSetTorques : (Cond.code yX0_writeSetTorques cX0_writeSetTorques 5 none) ∈ TB := mTB (tb_3 _ (List.mem_of_getElem? (i := 95) rfl)) (by decide +kernel)
theorem k_m_X5_33 : (Cond.methodLink RX5 33 yX0_writeElementTorques) ∈ TB := mTB (tb_3 _ (List.mem_of_getElem? (i := 96) rfl)) (by decide +kernel)
theorem k_im_X0_writeElementTorques : (Cond.instanceMethod yX0_writeElementTorques) ∈ TB := mTB (tb_3 _ (List.mem_of_getElem? (i := 97) rfl)) (by decide +kernel)
theorem k_se_X0_writeElementTorques : (Cond.selects RX0 yX0_writeElementTorques yX0_writeElementTorques) ∈ TB := mTB (tb_3 _ (List.mem_of_getElem? (i := 98) rfl)) (by decide +kernel)
theorem k_co_X0_writeElementTorques : (Cond.code yX0_writeElementTorques cX0_writeElementTorques 5 none) ∈ TB := mTB (tb_3 _ (List.mem_of_getElem? (i := 99) rfl)) (by decide +kernel)
theorem k_m_X5_37 : (Cond.methodLink RX5 37 yX1_reduce) ∈ TB := mTB (tb_3 _ (List.mem_of_getElem? (i := 100) rfl)) (by decide +kernel)
theorem k_m_X6_183 : (Cond.methodLink RX6 183 yX5_isOutputDetermined) ∈ TB := mTB (tb_3 _ (List.mem_of_getElem? (i := 101) rfl)) (by decide +kernel)
theorem k_im_X5_isOutputDetermined : (Cond.instanceMethod yX5_isOutputDetermined) ∈ TB := mTB (tb_3 _ (List.mem_of_getElem? (i := 102) rfl)) (by decide +kernel)
theorem k_se_X5_isOutputDetermined : (Cond.selects RX5 yX5_isOutputDetermined yX5_isOutputDetermined) ∈ TB := mTB (tb_3 _ (List.mem_of_getElem? (i := 103) rfl)) (by decide +kernel)
theorem k_co_X5_isOutputDetermined : (Cond.code yX5_isOutputDetermined cX5_isOutputDetermined 1 (some .boolean)) ∈ TB := mTB (tb_3 _ (List.mem_of_getElem? (i := 104) rfl)) (by decide +kernel)
theorem k_m_X5_40 : (Cond.methodLink RX5 40 yX1_isDetermined) ∈ TB := mTB (tb_3 _ (List.mem_of_getElem? (i := 105) rfl)) (by decide +kernel)
theorem k_m_X6_188 : (Cond.methodLink RX6 188 yX5_outputPart) ∈ TB := mTB (tb_3 _ (List.mem_of_getElem? (i := 107) rfl)) (by decide +kernel)
theorem k_im_X5_outputPart : (Cond.instanceMethod yX5_outputPart) ∈ TB := mTB (tb_3 _ (List.mem_of_getElem? (i := 108) rfl)) (by decide +kernel)
theorem k_se_X5_outputPart : (Cond.selects RX5 yX5_outputPart yX5_outputPart) ∈ TB := mTB (tb_3 _ (List.mem_of_getElem? (i := 109) rfl)) (by decide +kernel)
theorem k_co_X5_outputPart : (Cond.code yX5_outputPart cX5_outputPart 2 (some .long)) ∈ TB := mTB (tb_3 _ (List.mem_of_getElem? (i := 110) rfl)) (by decide +kernel)
theorem k_m_X5_44 : (Cond.methodLink RX5 44 yX1_valuePart) ∈ TB := mTB (tb_3 _ (List.mem_of_getElem? (i := 111) rfl)) (by decide +kernel)
theorem k_m_L_160 : (Cond.methodLink RL 160 yX7_outputTorque) ∈ TB := mTB (tb_5 _ (List.mem_of_getElem? (i := 4) rfl)) (by decide +kernel)
theorem k_im_X7_outputTorque : (Cond.instanceMethod yX7_outputTorque) ∈ TB := mTB (tb_5 _ (List.mem_of_getElem? (i := 5) rfl)) (by decide +kernel)
theorem k_se_X7_outputTorque : (Cond.selects RX7 yX7_outputTorque yX7_outputTorque) ∈ TB := mTB (tb_5 _ (List.mem_of_getElem? (i := 6) rfl)) (by decide +kernel)
theorem k_co_X7_outputTorque : (Cond.code yX7_outputTorque cX7_outputTorque 2 (some .long)) ∈ TB := mTB (tb_5 _ (List.mem_of_getElem? (i := 7) rfl)) (by decide +kernel)
theorem k_m_X7_144 : (Cond.methodLink RX7 144 yX7_layTorques) ∈ TB := mTB (tb_5 _ (List.mem_of_getElem? (i := 8) rfl)) (by decide +kernel)
theorem k_im_X7_layTorques : (Cond.instanceMethod yX7_layTorques) ∈ TB := mTB (tb_5 _ (List.mem_of_getElem? (i := 10) rfl)) (by decide +kernel)
theorem k_se_X7_layTorques : (Cond.selects RX7 yX7_layTorques yX7_layTorques) ∈ TB := mTB (tb_0 _ (List.mem_of_getElem? (i := 26) rfl)) (by decide +kernel)
theorem k_co_X7_layTorques : (Cond.code yX7_layTorques cX7_layTorques 3 none) ∈ TB := mTB (tb_5 _ (List.mem_of_getElem? (i := 11) rfl)) (by decide +kernel)
theorem k_m_L_161 : (Cond.methodLink RL 161 yL_torque) ∈ TB := mTB (tb_3 _ (List.mem_of_getElem? (i := 112) rfl)) (by decide +kernel)
theorem k_st_L_torque : (Cond.static yL_torque) ∈ TB := mTB (tb_3 _ (List.mem_of_getElem? (i := 113) rfl)) (by decide +kernel)
theorem k_co_L_torque : (Cond.codeWith yL_torque cL_torque 5 (some .int) [(0, 9, 12, 13), (0, 9, 16, 15), (0, 9, 20, 17)]) ∈ TB := mTB (tb_3 _ (List.mem_of_getElem? (i := 114) rfl)) (by decide +kernel)
theorem k_m_L_58 : (Cond.methodLink RL 58 yX6_torque) ∈ TB := mTB (tb_3 _ (List.mem_of_getElem? (i := 115) rfl)) (by decide +kernel)
theorem k_im_X6_torque : (Cond.instanceMethod yX6_torque) ∈ TB := mTB (tb_3 _ (List.mem_of_getElem? (i := 116) rfl)) (by decide +kernel)
theorem k_se_X6_torque : (Cond.selects RX6 yX6_torque yX6_torque) ∈ TB := mTB (tb_3 _ (List.mem_of_getElem? (i := 117) rfl)) (by decide +kernel)
theorem k_co_X6_torque : (Cond.code yX6_torque cX6_torque 3 (some .long)) ∈ TB := mTB (tb_3 _ (List.mem_of_getElem? (i := 118) rfl)) (by decide +kernel)
theorem k_m_X6_193 : (Cond.methodLink RX6 193 yX5_isDetermined) ∈ TB := mTB (tb_3 _ (List.mem_of_getElem? (i := 120) rfl)) (by decide +kernel)
theorem k_im_X5_isDetermined : (Cond.instanceMethod yX5_isDetermined) ∈ TB := mTB (tb_3 _ (List.mem_of_getElem? (i := 121) rfl)) (by decide +kernel)
theorem k_se_X5_isDetermined : (Cond.selects RX5 yX5_isDetermined yX5_isDetermined) ∈ TB := mTB (tb_3 _ (List.mem_of_getElem? (i := 122) rfl)) (by decide +kernel)
theorem k_co_X5_isDetermined : (Cond.code yX5_isDetermined cX5_isDetermined 2 (some .boolean)) ∈ TB := mTB (tb_3 _ (List.mem_of_getElem? (i := 123) rfl)) (by decide +kernel)
theorem k_m_X6_194 : (Cond.methodLink RX6 194 yX5_elementPart) ∈ TB := mTB (tb_3 _ (List.mem_of_getElem? (i := 124) rfl)) (by decide +kernel)
theorem k_im_X5_elementPart : (Cond.instanceMethod yX5_elementPart) ∈ TB := mTB (tb_3 _ (List.mem_of_getElem? (i := 125) rfl)) (by decide +kernel)
theorem k_se_X5_elementPart : (Cond.selects RX5 yX5_elementPart yX5_elementPart) ∈ TB := mTB (tb_3 _ (List.mem_of_getElem? (i := 126) rfl)) (by decide +kernel)
theorem k_co_X5_elementPart : (Cond.code yX5_elementPart cX5_elementPart 3 (some .long)) ∈ TB := mTB (tb_3 _ (List.mem_of_getElem? (i := 127) rfl)) (by decide +kernel)
theorem k_m_L_163 : (Cond.methodLink RL 163 yX7_torque) ∈ TB := mTB (tb_5 _ (List.mem_of_getElem? (i := 12) rfl)) (by decide +kernel)
theorem k_im_X7_torque : (Cond.instanceMethod yX7_torque) ∈ TB := mTB (tb_5 _ (List.mem_of_getElem? (i := 13) rfl)) (by decide +kernel)
theorem k_se_X7_torque : (Cond.selects RX7 yX7_torque yX7_torque) ∈ TB := mTB (tb_5 _ (List.mem_of_getElem? (i := 14) rfl)) (by decide +kernel)
theorem k_co_X7_torque : (Cond.code yX7_torque cX7_torque 3 (some .long)) ∈ TB := mTB (tb_5 _ (List.mem_of_getElem? (i := 15) rfl)) (by decide +kernel)
theorem k_m_L_164 : (Cond.methodLink RL 164 yL_slipping) ∈ TB := mTB (tb_3 _ (List.mem_of_getElem? (i := 128) rfl)) (by decide +kernel)
theorem k_st_L_slipping : (Cond.static yL_slipping) ∈ TB := mTB (tb_3 _ (List.mem_of_getElem? (i := 129) rfl)) (by decide +kernel)
theorem k_co_L_slipping : (Cond.codeWith yL_slipping cL_slipping 4 (some .int) [(0, 9, 12, 15)]) ∈ TB := mTB (tb_3 _ (List.mem_of_getElem? (i := 130) rfl)) (by decide +kernel)
theorem k_m_L_61 : (Cond.methodLink RL 61 yX6_slipping) ∈ TB := mTB (tb_3 _ (List.mem_of_getElem? (i := 131) rfl)) (by decide +kernel)
theorem k_im_X6_slipping : (Cond.instanceMethod yX6_slipping) ∈ TB := mTB (tb_3 _ (List.mem_of_getElem? (i := 132) rfl)) (by decide +kernel)
theorem k_se_X6_slipping : (Cond.selects RX6 yX6_slipping yX6_slipping) ∈ TB := mTB (tb_3 _ (List.mem_of_getElem? (i := 133) rfl)) (by decide +kernel)
theorem k_co_X6_slipping : (Cond.code yX6_slipping cX6_slipping 4 (some .int)) ∈ TB := mTB (tb_3 _ (List.mem_of_getElem? (i := 134) rfl)) (by decide +kernel)
theorem k_m_X6_199 : (Cond.methodLink RX6 199 yX5_holdsUpTo) ∈ TB := mTB (tb_3 _ (List.mem_of_getElem? (i := 136) rfl)) (by decide +kernel)
theorem k_im_X5_holdsUpTo : (Cond.instanceMethod yX5_holdsUpTo) ∈ TB := mTB (tb_3 _ (List.mem_of_getElem? (i := 137) rfl)) (by decide +kernel)
theorem k_se_X5_holdsUpTo : (Cond.selects RX5 yX5_holdsUpTo yX5_holdsUpTo) ∈ TB := mTB (tb_3 _ (List.mem_of_getElem? (i := 138) rfl)) (by decide +kernel)
theorem k_co_X5_holdsUpTo : (Cond.code yX5_holdsUpTo cX5_holdsUpTo 7 (some .int)) ∈ TB := mTB (tb_3 _ (List.mem_of_getElem? (i := 139) rfl)) (by decide +kernel)
theorem k_m_X5_52 : (Cond.methodLink RX5 52 Lib.MathLoose.abs_long.x) ∈ TB := mTB (tb_3 _ (List.mem_of_getElem? (i := 142) rfl)) (by decide +kernel)
theorem k_st_Lib_MathLoose_abs_long_x : (Cond.static Lib.MathLoose.abs_long.x) ∈ TB := mTB (tb_3 _ (List.mem_of_getElem? (i := 143) rfl)) (by decide +kernel)
theorem k_in_java_lang_Math : (Cond.initialized "java/lang/Math") ∈ TB := mTB (tb_1 _ (List.mem_of_getElem? (i := 15) rfl)) (by decide +kernel)
theorem k_co_Lib_MathLoose_abs_long_x : (Cond.code Lib.MathLoose.abs_long.x Lib.MathLoose.abs_long.code 2 (some .long)) ∈ TB := mTB (tb_3 _ (List.mem_of_getElem? (i := 144) rfl)) (by decide +kernel)
theorem k_kl_X5_58 : (Cond.constantLong RX5 58 (10000)) ∈ TB := mTB (tb_3 _ (List.mem_of_getElem? (i := 145) rfl)) (by decide +kernel)
theorem k_m_X5_60 : (Cond.methodLink RX5 60 Lib.MathLoose.min_long.x) ∈ TB := mTB (tb_3 _ (List.mem_of_getElem? (i := 146) rfl)) (by decide +kernel)
theorem k_st_Lib_MathLoose_min_long_x : (Cond.static Lib.MathLoose.min_long.x) ∈ TB := mTB (tb_3 _ (List.mem_of_getElem? (i := 147) rfl)) (by decide +kernel)
theorem k_co_Lib_MathLoose_min_long_x : (Cond.code Lib.MathLoose.min_long.x Lib.MathLoose.min_long.code 4 (some .long)) ∈ TB := mTB (tb_3 _ (List.mem_of_getElem? (i := 148) rfl)) (by decide +kernel)
theorem k_m_X5_48 : (Cond.methodLink RX5 48 yX5_isDetermined) ∈ TB := mTB (tb_3 _ (List.mem_of_getElem? (i := 140) rfl)) (by decide +kernel)
theorem k_m_X5_49 : (Cond.methodLink RX5 49 yX5_elementPart) ∈ TB := mTB (tb_3 _ (List.mem_of_getElem? (i := 141) rfl)) (by decide +kernel)
theorem k_m_L_166 : (Cond.methodLink RL 166 yX7_slipping) ∈ TB := mTB (tb_5 _ (List.mem_of_getElem? (i := 16) rfl)) (by decide +kernel)
theorem k_im_X7_slipping : (Cond.instanceMethod yX7_slipping) ∈ TB := mTB (tb_5 _ (List.mem_of_getElem? (i := 17) rfl)) (by decide +kernel)
theorem k_se_X7_slipping : (Cond.selects RX7 yX7_slipping yX7_slipping) ∈ TB := mTB (tb_5 _ (List.mem_of_getElem? (i := 18) rfl)) (by decide +kernel)
theorem k_co_X7_slipping : (Cond.code yX7_slipping cX7_slipping 2 (some .int)) ∈ TB := mTB (tb_5 _ (List.mem_of_getElem? (i := 19) rfl)) (by decide +kernel)
theorem k_m_X7_147 : (Cond.methodLink RX7 147 yX7_slips) ∈ TB := mTB (tb_5 _ (List.mem_of_getElem? (i := 20) rfl)) (by decide +kernel)
theorem k_im_X7_slips : (Cond.instanceMethod yX7_slips) ∈ TB := mTB (tb_5 _ (List.mem_of_getElem? (i := 22) rfl)) (by decide +kernel)
theorem k_se_X7_slips : (Cond.selects RX7 yX7_slips yX7_slips) ∈ TB := mTB (tb_0 _ (List.mem_of_getElem? (i := 27) rfl)) (by decide +kernel)
theorem k_co_X7_slips : (Cond.code yX7_slips cX7_slips 6 (some .int)) ∈ TB := mTB (tb_5 _ (List.mem_of_getElem? (i := 23) rfl)) (by decide +kernel)
theorem k_m_L_167 : (Cond.methodLink RL 167 yL_greatestTorque) ∈ TB := mTB (tb_3 _ (List.mem_of_getElem? (i := 149) rfl)) (by decide +kernel)
theorem k_st_L_greatestTorque : (Cond.static yL_greatestTorque) ∈ TB := mTB (tb_3 _ (List.mem_of_getElem? (i := 150) rfl)) (by decide +kernel)
theorem k_co_L_greatestTorque : (Cond.codeWith yL_greatestTorque cL_greatestTorque 3 (some .int) [(0, 8, 11, 17)]) ∈ TB := mTB (tb_3 _ (List.mem_of_getElem? (i := 151) rfl)) (by decide +kernel)
theorem k_m_L_64 : (Cond.methodLink RL 64 yX6_greatestTorque) ∈ TB := mTB (tb_3 _ (List.mem_of_getElem? (i := 152) rfl)) (by decide +kernel)
theorem k_im_X6_greatestTorque : (Cond.instanceMethod yX6_greatestTorque) ∈ TB := mTB (tb_3 _ (List.mem_of_getElem? (i := 153) rfl)) (by decide +kernel)
theorem k_se_X6_greatestTorque : (Cond.selects RX6 yX6_greatestTorque yX6_greatestTorque) ∈ TB := mTB (tb_3 _ (List.mem_of_getElem? (i := 154) rfl)) (by decide +kernel)
theorem k_co_X6_greatestTorque : (Cond.code yX6_greatestTorque cX6_greatestTorque 3 (some .int)) ∈ TB := mTB (tb_3 _ (List.mem_of_getElem? (i := 155) rfl)) (by decide +kernel)
theorem k_m_L_170 : (Cond.methodLink RL 170 yX7_greatestTorque) ∈ TB := mTB (tb_5 _ (List.mem_of_getElem? (i := 24) rfl)) (by decide +kernel)
theorem k_im_X7_greatestTorque : (Cond.instanceMethod yX7_greatestTorque) ∈ TB := mTB (tb_5 _ (List.mem_of_getElem? (i := 25) rfl)) (by decide +kernel)
theorem k_se_X7_greatestTorque : (Cond.selects RX7 yX7_greatestTorque yX7_greatestTorque) ∈ TB := mTB (tb_5 _ (List.mem_of_getElem? (i := 26) rfl)) (by decide +kernel)
theorem k_co_X7_greatestTorque : (Cond.code yX7_greatestTorque cX7_greatestTorque 2 (some .int)) ∈ TB := mTB (tb_5 _ (List.mem_of_getElem? (i := 27) rfl)) (by decide +kernel)
theorem k_m_L_171 : (Cond.methodLink RL 171 yL_gear) ∈ TB := mTB (tb_3 _ (List.mem_of_getElem? (i := 159) rfl)) (by decide +kernel)
theorem k_st_L_gear : (Cond.static yL_gear) ∈ TB := mTB (tb_3 _ (List.mem_of_getElem? (i := 160) rfl)) (by decide +kernel)
theorem k_co_L_gear : (Cond.codeWith yL_gear cL_gear 4 (some .int) [(0, 9, 12, 13)]) ∈ TB := mTB (tb_3 _ (List.mem_of_getElem? (i := 161) rfl)) (by decide +kernel)
theorem k_m_L_68 : (Cond.methodLink RL 68 yX6_gear) ∈ TB := mTB (tb_3 _ (List.mem_of_getElem? (i := 162) rfl)) (by decide +kernel)
theorem k_im_X6_gear : (Cond.instanceMethod yX6_gear) ∈ TB := mTB (tb_3 _ (List.mem_of_getElem? (i := 163) rfl)) (by decide +kernel)
theorem k_se_X6_gear : (Cond.selects RX6 yX6_gear yX6_gear) ∈ TB := mTB (tb_3 _ (List.mem_of_getElem? (i := 164) rfl)) (by decide +kernel)
theorem k_co_X6_gear : (Cond.code yX6_gear cX6_gear 2 (some .int)) ∈ TB := mTB (tb_3 _ (List.mem_of_getElem? (i := 165) rfl)) (by decide +kernel)
theorem k_m_X6_207 : (Cond.methodLink RX6 207 yX2_hasGear) ∈ TB := mTB (tb_3 _ (List.mem_of_getElem? (i := 166) rfl)) (by decide +kernel)
theorem k_im_X2_hasGear : (Cond.instanceMethod yX2_hasGear) ∈ TB := mTB (tb_3 _ (List.mem_of_getElem? (i := 167) rfl)) (by decide +kernel)
theorem k_se_X2_hasGear : (Cond.selects RX2 yX2_hasGear yX2_hasGear) ∈ TB := mTB (tb_3 _ (List.mem_of_getElem? (i := 168) rfl)) (by decide +kernel)
theorem k_co_X2_hasGear : (Cond.code yX2_hasGear cX2_hasGear 2 (some .boolean)) ∈ TB := mTB (tb_3 _ (List.mem_of_getElem? (i := 169) rfl)) (by decide +kernel)
theorem k_m_X6_212 : (Cond.methodLink RX6 212 yX2_maskOf) ∈ TB := mTB (tb_3 _ (List.mem_of_getElem? (i := 171) rfl)) (by decide +kernel)
theorem k_im_X2_maskOf : (Cond.instanceMethod yX2_maskOf) ∈ TB := mTB (tb_3 _ (List.mem_of_getElem? (i := 172) rfl)) (by decide +kernel)
theorem k_se_X2_maskOf : (Cond.selects RX2 yX2_maskOf yX2_maskOf) ∈ TB := mTB (tb_3 _ (List.mem_of_getElem? (i := 173) rfl)) (by decide +kernel)
theorem k_co_X2_maskOf : (Cond.code yX2_maskOf cX2_maskOf 2 (some .int)) ∈ TB := mTB (tb_3 _ (List.mem_of_getElem? (i := 174) rfl)) (by decide +kernel)
theorem k_m_X2_64 : (Cond.methodLink RX2 64 yX2_hasGear) ∈ TB := mTB (tb_3 _ (List.mem_of_getElem? (i := 175) rfl)) (by decide +kernel)
theorem k_m_L_173 : (Cond.methodLink RL 173 yX7_gear) ∈ TB := mTB (tb_5 _ (List.mem_of_getElem? (i := 28) rfl)) (by decide +kernel)
theorem k_im_X7_gear : (Cond.instanceMethod yX7_gear) ∈ TB := mTB (tb_5 _ (List.mem_of_getElem? (i := 29) rfl)) (by decide +kernel)
theorem k_se_X7_gear : (Cond.selects RX7 yX7_gear yX7_gear) ∈ TB := mTB (tb_5 _ (List.mem_of_getElem? (i := 30) rfl)) (by decide +kernel)
theorem k_co_X7_gear : (Cond.code yX7_gear cX7_gear 2 (some .int)) ∈ TB := mTB (tb_5 _ (List.mem_of_getElem? (i := 31) rfl)) (by decide +kernel)
theorem k_m_X7_153 : (Cond.methodLink RX7 153 yX7_isNumber) ∈ TB := mTB (tb_5 _ (List.mem_of_getElem? (i := 32) rfl)) (by decide +kernel)
theorem k_im_X7_isNumber : (Cond.instanceMethod yX7_isNumber) ∈ TB := mTB (tb_5 _ (List.mem_of_getElem? (i := 34) rfl)) (by decide +kernel)
theorem k_se_X7_isNumber : (Cond.selects RX7 yX7_isNumber yX7_isNumber) ∈ TB := mTB (tb_0 _ (List.mem_of_getElem? (i := 28) rfl)) (by decide +kernel)
theorem k_co_X7_isNumber : (Cond.code yX7_isNumber cX7_isNumber 2 (some .boolean)) ∈ TB := mTB (tb_5 _ (List.mem_of_getElem? (i := 35) rfl)) (by decide +kernel)
theorem k_m_L_174 : (Cond.methodLink RL 174 yL_indexOf) ∈ TB := mTB (tb_3 _ (List.mem_of_getElem? (i := 176) rfl)) (by decide +kernel)
theorem k_st_L_indexOf : (Cond.static yL_indexOf) ∈ TB := mTB (tb_3 _ (List.mem_of_getElem? (i := 177) rfl)) (by decide +kernel)
theorem k_co_L_indexOf : (Cond.codeWith yL_indexOf cL_indexOf 4 (some .int) [(0, 9, 12, 15)]) ∈ TB := mTB (tb_3 _ (List.mem_of_getElem? (i := 178) rfl)) (by decide +kernel)
theorem k_m_L_71 : (Cond.methodLink RL 71 yX6_indexOf) ∈ TB := mTB (tb_3 _ (List.mem_of_getElem? (i := 179) rfl)) (by decide +kernel)
theorem k_im_X6_indexOf : (Cond.instanceMethod yX6_indexOf) ∈ TB := mTB (tb_3 _ (List.mem_of_getElem? (i := 180) rfl)) (by decide +kernel)
theorem k_se_X6_indexOf : (Cond.selects RX6 yX6_indexOf yX6_indexOf) ∈ TB := mTB (tb_3 _ (List.mem_of_getElem? (i := 181) rfl)) (by decide +kernel)
theorem k_co_X6_indexOf : (Cond.code yX6_indexOf cX6_indexOf 2 (some .int)) ∈ TB := mTB (tb_3 _ (List.mem_of_getElem? (i := 182) rfl)) (by decide +kernel)
theorem k_m_X6_215 : (Cond.methodLink RX6 215 yX2_find) ∈ TB := mTB (tb_3 _ (List.mem_of_getElem? (i := 183) rfl)) (by decide +kernel)
theorem k_im_X2_find : (Cond.instanceMethod yX2_find) ∈ TB := mTB (tb_3 _ (List.mem_of_getElem? (i := 184) rfl)) (by decide +kernel)
theorem k_se_X2_find : (Cond.selects RX2 yX2_find yX2_find) ∈ TB := mTB (tb_3 _ (List.mem_of_getElem? (i := 185) rfl)) (by decide +kernel)
theorem k_co_X2_find : (Cond.code yX2_find cX2_find 3 (some .int)) ∈ TB := mTB (tb_3 _ (List.mem_of_getElem? (i := 186) rfl)) (by decide +kernel)
theorem k_m_L_176 : (Cond.methodLink RL 176 yX7_indexOf) ∈ TB := mTB (tb_5 _ (List.mem_of_getElem? (i := 36) rfl)) (by decide +kernel)
theorem k_im_X7_indexOf : (Cond.instanceMethod yX7_indexOf) ∈ TB := mTB (tb_5 _ (List.mem_of_getElem? (i := 37) rfl)) (by decide +kernel)
theorem k_se_X7_indexOf : (Cond.selects RX7 yX7_indexOf yX7_indexOf) ∈ TB := mTB (tb_5 _ (List.mem_of_getElem? (i := 38) rfl)) (by decide +kernel)
theorem k_co_X7_indexOf : (Cond.code yX7_indexOf cX7_indexOf 4 (some .int)) ∈ TB := mTB (tb_5 _ (List.mem_of_getElem? (i := 39) rfl)) (by decide +kernel)
theorem k_m_L_177 : (Cond.methodLink RL 177 yL_gearRatio) ∈ TB := mTB (tb_3 _ (List.mem_of_getElem? (i := 187) rfl)) (by decide +kernel)
theorem k_st_L_gearRatio : (Cond.static yL_gearRatio) ∈ TB := mTB (tb_3 _ (List.mem_of_getElem? (i := 188) rfl)) (by decide +kernel)
theorem k_co_L_gearRatio : (Cond.codeWith yL_gearRatio cL_gearRatio 5 (some .int) [(0, 9, 12, 13), (0, 9, 16, 15)]) ∈ TB := mTB (tb_3 _ (List.mem_of_getElem? (i := 189) rfl)) (by decide +kernel)
theorem k_m_L_74 : (Cond.methodLink RL 74 yX6_gearRatio) ∈ TB := mTB (tb_3 _ (List.mem_of_getElem? (i := 190) rfl)) (by decide +kernel)
theorem k_im_X6_gearRatio : (Cond.instanceMethod yX6_gearRatio) ∈ TB := mTB (tb_3 _ (List.mem_of_getElem? (i := 191) rfl)) (by decide +kernel)
theorem k_se_X6_gearRatio : (Cond.selects RX6 yX6_gearRatio yX6_gearRatio) ∈ TB := mTB (tb_3 _ (List.mem_of_getElem? (i := 192) rfl)) (by decide +kernel)
theorem k_co_X6_gearRatio : (Cond.code yX6_gearRatio cX6_gearRatio 3 (some .long)) ∈ TB := mTB (tb_3 _ (List.mem_of_getElem? (i := 193) rfl)) (by decide +kernel)
theorem k_m_X6_218 : (Cond.methodLink RX6 218 yX2_ratioPart) ∈ TB := mTB (tb_3 _ (List.mem_of_getElem? (i := 194) rfl)) (by decide +kernel)
theorem k_im_X2_ratioPart : (Cond.instanceMethod yX2_ratioPart) ∈ TB := mTB (tb_3 _ (List.mem_of_getElem? (i := 195) rfl)) (by decide +kernel)
theorem k_se_X2_ratioPart : (Cond.selects RX2 yX2_ratioPart yX2_ratioPart) ∈ TB := mTB (tb_3 _ (List.mem_of_getElem? (i := 196) rfl)) (by decide +kernel)
theorem k_co_X2_ratioPart : (Cond.code yX2_ratioPart cX2_ratioPart 3 (some .long)) ∈ TB := mTB (tb_3 _ (List.mem_of_getElem? (i := 197) rfl)) (by decide +kernel)
theorem k_m_L_179 : (Cond.methodLink RL 179 yX7_gearRatio) ∈ TB := mTB (tb_5 _ (List.mem_of_getElem? (i := 40) rfl)) (by decide +kernel)
theorem k_im_X7_gearRatio : (Cond.instanceMethod yX7_gearRatio) ∈ TB := mTB (tb_5 _ (List.mem_of_getElem? (i := 41) rfl)) (by decide +kernel)
theorem k_se_X7_gearRatio : (Cond.selects RX7 yX7_gearRatio yX7_gearRatio) ∈ TB := mTB (tb_5 _ (List.mem_of_getElem? (i := 42) rfl)) (by decide +kernel)
theorem k_co_X7_gearRatio : (Cond.code yX7_gearRatio cX7_gearRatio 3 (some .long)) ∈ TB := mTB (tb_5 _ (List.mem_of_getElem? (i := 43) rfl)) (by decide +kernel)
theorem k_m_L_180 : (Cond.methodLink RL 180 yL_step) ∈ TB := mTB (tb_3 _ (List.mem_of_getElem? (i := 198) rfl)) (by decide +kernel)
theorem k_st_L_step : (Cond.static yL_step) ∈ TB := mTB (tb_3 _ (List.mem_of_getElem? (i := 199) rfl)) (by decide +kernel)
theorem k_co_L_step : (Cond.codeWith yL_step cL_step 4 (some .int) [(0, 9, 12, 13)]) ∈ TB := mTB (tb_3 _ (List.mem_of_getElem? (i := 200) rfl)) (by decide +kernel)
theorem k_m_L_77 : (Cond.methodLink RL 77 yX6_step) ∈ TB := mTB (tb_3 _ (List.mem_of_getElem? (i := 201) rfl)) (by decide +kernel)
theorem k_im_X6_step : (Cond.instanceMethod yX6_step) ∈ TB := mTB (tb_3 _ (List.mem_of_getElem? (i := 202) rfl)) (by decide +kernel)
theorem k_se_X6_step : (Cond.selects RX6 yX6_step yX6_step) ∈ TB := mTB (tb_3 _ (List.mem_of_getElem? (i := 203) rfl)) (by decide +kernel)
theorem k_co_X6_step : (Cond.code yX6_step cX6_step 3 (some .float)) ∈ TB := mTB (tb_3 _ (List.mem_of_getElem? (i := 204) rfl)) (by decide +kernel)
theorem k_m_X6_222 : (Cond.methodLink RX6 222 yX6_ratioOfGear) ∈ TB := mTB (tb_3 _ (List.mem_of_getElem? (i := 206) rfl)) (by decide +kernel)
theorem k_im_X6_ratioOfGear : (Cond.instanceMethod yX6_ratioOfGear) ∈ TB := mTB (tb_3 _ (List.mem_of_getElem? (i := 208) rfl)) (by decide +kernel)
theorem k_se_X6_ratioOfGear : (Cond.selects RX6 yX6_ratioOfGear yX6_ratioOfGear) ∈ TB := mTB (tb_0 _ (List.mem_of_getElem? (i := 7) rfl)) (by decide +kernel)
theorem k_co_X6_ratioOfGear : (Cond.code yX6_ratioOfGear cX6_ratioOfGear 2 (some .float)) ∈ TB := mTB (tb_3 _ (List.mem_of_getElem? (i := 209) rfl)) (by decide +kernel)
theorem k_m_L_183 : (Cond.methodLink RL 183 yX7_step) ∈ TB := mTB (tb_5 _ (List.mem_of_getElem? (i := 44) rfl)) (by decide +kernel)
theorem k_im_X7_step : (Cond.instanceMethod yX7_step) ∈ TB := mTB (tb_5 _ (List.mem_of_getElem? (i := 45) rfl)) (by decide +kernel)
theorem k_se_X7_step : (Cond.selects RX7 yX7_step yX7_step) ∈ TB := mTB (tb_5 _ (List.mem_of_getElem? (i := 46) rfl)) (by decide +kernel)
theorem k_co_X7_step : (Cond.code yX7_step cX7_step 2 (some .float)) ∈ TB := mTB (tb_5 _ (List.mem_of_getElem? (i := 47) rfl)) (by decide +kernel)
theorem k_m_X7_156 : (Cond.methodLink RX7 156 yX7_ratioOf) ∈ TB := mTB (tb_5 _ (List.mem_of_getElem? (i := 48) rfl)) (by decide +kernel)
theorem k_im_X7_ratioOf : (Cond.instanceMethod yX7_ratioOf) ∈ TB := mTB (tb_5 _ (List.mem_of_getElem? (i := 50) rfl)) (by decide +kernel)
theorem k_se_X7_ratioOf : (Cond.selects RX7 yX7_ratioOf yX7_ratioOf) ∈ TB := mTB (tb_0 _ (List.mem_of_getElem? (i := 29) rfl)) (by decide +kernel)
theorem k_co_X7_ratioOf : (Cond.code yX7_ratioOf cX7_ratioOf 2 (some .float)) ∈ TB := mTB (tb_5 _ (List.mem_of_getElem? (i := 51) rfl)) (by decide +kernel)
theorem k_m_L_184 : (Cond.methodLink RL 184 yL_fewestShifts) ∈ TB := mTB (tb_3 _ (List.mem_of_getElem? (i := 210) rfl)) (by decide +kernel)
theorem k_st_L_fewestShifts : (Cond.static yL_fewestShifts) ∈ TB := mTB (tb_3 _ (List.mem_of_getElem? (i := 211) rfl)) (by decide +kernel)
theorem k_co_L_fewestShifts : (Cond.codeWith yL_fewestShifts cL_fewestShifts 5 (some .int) [(0, 10, 13, 13)]) ∈ TB := mTB (tb_3 _ (List.mem_of_getElem? (i := 212) rfl)) (by decide +kernel)
theorem k_m_L_81 : (Cond.methodLink RL 81 yX6_fewestShifts) ∈ TB := mTB (tb_3 _ (List.mem_of_getElem? (i := 213) rfl)) (by decide +kernel)
theorem k_im_X6_fewestShifts : (Cond.instanceMethod yX6_fewestShifts) ∈ TB := mTB (tb_3 _ (List.mem_of_getElem? (i := 214) rfl)) (by decide +kernel)
theorem k_se_X6_fewestShifts : (Cond.selects RX6 yX6_fewestShifts yX6_fewestShifts) ∈ TB := mTB (tb_3 _ (List.mem_of_getElem? (i := 215) rfl)) (by decide +kernel)
theorem k_co_X6_fewestShifts : (Cond.code yX6_fewestShifts cX6_fewestShifts 3 (some .int)) ∈ TB := mTB (tb_3 _ (List.mem_of_getElem? (i := 216) rfl)) (by decide +kernel)
theorem k_m_X6_228 : (Cond.methodLink RX6 228 yX2_measure) ∈ TB := mTB (tb_3 _ (List.mem_of_getElem? (i := 218) rfl)) (by decide +kernel)
theorem k_im_X2_measure : (Cond.instanceMethod yX2_measure) ∈ TB := mTB (tb_3 _ (List.mem_of_getElem? (i := 219) rfl)) (by decide +kernel)
theorem k_se_X2_measure : (Cond.selects RX2 yX2_measure yX2_measure) ∈ TB := mTB (tb_3 _ (List.mem_of_getElem? (i := 220) rfl)) (by decide +kernel)
theorem k_co_X2_measure : (Cond.code yX2_measure cX2_measure 4 none) ∈ TB := mTB (tb_3 _ (List.mem_of_getElem? (i := 221) rfl)) (by decide +kernel)
theorem k_m_X2_67 : (Cond.methodLink RX2 67 yX2_neighbourAt) ∈ TB := mTB (tb_3 _ (List.mem_of_getElem? (i := 222) rfl)) (by decide +kernel)
theorem k_im_X2_neighbourAt : (Cond.instanceMethod yX2_neighbourAt) ∈ TB := mTB (tb_3 _ (List.mem_of_getElem? (i := 224) rfl)) (by decide +kernel)
theorem k_se_X2_neighbourAt : (Cond.selects RX2 yX2_neighbourAt yX2_neighbourAt) ∈ TB := mTB (tb_0 _ (List.mem_of_getElem? (i := 8) rfl)) (by decide +kernel)
theorem k_co_X2_neighbourAt : (Cond.code yX2_neighbourAt cX2_neighbourAt 4 (some .int)) ∈ TB := mTB (tb_3 _ (List.mem_of_getElem? (i := 225) rfl)) (by decide +kernel)
theorem k_m_X2_75 : (Cond.methodLink RX2 75 yX2_areNeighbours) ∈ TB := mTB (tb_3 _ (List.mem_of_getElem? (i := 226) rfl)) (by decide +kernel)
theorem k_st_X2_areNeighbours : (Cond.static yX2_areNeighbours) ∈ TB := mTB (tb_3 _ (List.mem_of_getElem? (i := 227) rfl)) (by decide +kernel)
theorem k_co_X2_areNeighbours : (Cond.code yX2_areNeighbours cX2_areNeighbours 2 (some .boolean)) ∈ TB := mTB (tb_3 _ (List.mem_of_getElem? (i := 228) rfl)) (by decide +kernel)
theorem k_m_X2_79 : (Cond.methodLink RX2 79 yJ6_bitCount_0f7a4) ∈ TB := mTB (tb_3 _ (List.mem_of_getElem? (i := 229) rfl)) (by decide +kernel)
theorem k_st_J6_bitCount_0f7a4 : (Cond.static yJ6_bitCount_0f7a4) ∈ TB := mTB (tb_3 _ (List.mem_of_getElem? (i := 230) rfl)) (by decide +kernel)
theorem k_in_J6 : (Cond.initialized RJ6) ∈ TB := mTB (tb_1 _ (List.mem_of_getElem? (i := 16) rfl)) (by decide +kernel)
theorem k_co_J6_bitCount_0f7a4 : (Cond.code yJ6_bitCount_0f7a4 cJ6_bitCount_0f7a4 1 (some .int)) ∈ TB := mTB (tb_3 _ (List.mem_of_getElem? (i := 231) rfl)) (by decide +kernel)
theorem k_kc_J6_265 : (Cond.constant RJ6 265 (1431655765)) ∈ TB := mTB (tb_3 _ (List.mem_of_getElem? (i := 232) rfl)) (by decide +kernel)
theorem k_kc_J6_266 : (Cond.constant RJ6 266 (858993459)) ∈ TB := mTB (tb_3 _ (List.mem_of_getElem? (i := 233) rfl)) (by decide +kernel)
theorem k_kc_J6_267 : (Cond.constant RJ6 267 (252645135)) ∈ TB := mTB (tb_3 _ (List.mem_of_getElem? (i := 234) rfl)) (by decide +kernel)
theorem k_m_X6_231 : (Cond.methodLink RX6 231 yX2_shiftsLeft) ∈ TB := mTB (tb_3 _ (List.mem_of_getElem? (i := 235) rfl)) (by decide +kernel)
theorem k_im_X2_shiftsLeft : (Cond.instanceMethod yX2_shiftsLeft) ∈ TB := mTB (tb_3 _ (List.mem_of_getElem? (i := 236) rfl)) (by decide +kernel)
theorem k_se_X2_shiftsLeft : (Cond.selects RX2 yX2_shiftsLeft yX2_shiftsLeft) ∈ TB := mTB (tb_3 _ (List.mem_of_getElem? (i := 237) rfl)) (by decide +kernel)
theorem k_co_X2_shiftsLeft : (Cond.code yX2_shiftsLeft cX2_shiftsLeft 2 (some .int)) ∈ TB := mTB (tb_3 _ (List.mem_of_getElem? (i := 238) rfl)) (by decide +kernel)
theorem k_m_L_186 : (Cond.methodLink RL 186 yX7_fewestShifts) ∈ TB := mTB (tb_5 _ (List.mem_of_getElem? (i := 52) rfl)) (by decide +kernel)
theorem k_im_X7_fewestShifts : (Cond.instanceMethod yX7_fewestShifts) ∈ TB := mTB (tb_5 _ (List.mem_of_getElem? (i := 53) rfl)) (by decide +kernel)
theorem k_se_X7_fewestShifts : (Cond.selects RX7 yX7_fewestShifts yX7_fewestShifts) ∈ TB := mTB (tb_5 _ (List.mem_of_getElem? (i := 54) rfl)) (by decide +kernel)
theorem k_co_X7_fewestShifts : (Cond.code yX7_fewestShifts cX7_fewestShifts 3 (some .int)) ∈ TB := mTB (tb_5 _ (List.mem_of_getElem? (i := 55) rfl)) (by decide +kernel)
theorem k_m_X7_166 : (Cond.methodLink RX7 166 yX7_layAway) ∈ TB := mTB (tb_5 _ (List.mem_of_getElem? (i := 56) rfl)) (by decide +kernel)
theorem k_im_X7_layAway : (Cond.instanceMethod yX7_layAway) ∈ TB := mTB (tb_5 _ (List.mem_of_getElem? (i := 58) rfl)) (by decide +kernel)
theorem k_se_X7_layAway : (Cond.selects RX7 yX7_layAway yX7_layAway) ∈ TB := mTB (tb_0 _ (List.mem_of_getElem? (i := 30) rfl)) (by decide +kernel)
theorem k_co_X7_layAway : (Cond.code yX7_layAway cX7_layAway 5 none) ∈ TB := mTB (tb_5 _ (List.mem_of_getElem? (i := 59) rfl)) (by decide +kernel)
theorem k_m_X7_163 : (Cond.methodLink RX7 163 yX7_areNeighbours) ∈ TB := mTB (tb_5 _ (List.mem_of_getElem? (i := 60) rfl)) (by decide +kernel)
theorem k_im_X7_areNeighbours : (Cond.instanceMethod yX7_areNeighbours) ∈ TB := mTB (tb_5 _ (List.mem_of_getElem? (i := 62) rfl)) (by decide +kernel)
theorem k_se_X7_areNeighbours : (Cond.selects RX7 yX7_areNeighbours yX7_areNeighbours) ∈ TB := mTB (tb_0 _ (List.mem_of_getElem? (i := 31) rfl)) (by decide +kernel)
theorem k_co_X7_areNeighbours : (Cond.code yX7_areNeighbours cX7_areNeighbours 3 (some .boolean)) ∈ TB := mTB (tb_5 _ (List.mem_of_getElem? (i := 63) rfl)) (by decide +kernel)
theorem k_m_X7_160 : (Cond.methodLink RX7 160 yX7_bits) ∈ TB := mTB (tb_5 _ (List.mem_of_getElem? (i := 64) rfl)) (by decide +kernel)
theorem k_st_X7_bits : (Cond.static yX7_bits) ∈ TB := mTB (tb_5 _ (List.mem_of_getElem? (i := 65) rfl)) (by decide +kernel)
theorem k_co_X7_bits : (Cond.code yX7_bits cX7_bits 3 (some .int)) ∈ TB := mTB (tb_5 _ (List.mem_of_getElem? (i := 66) rfl)) (by decide +kernel)
theorem k_m_L_187 : (Cond.methodLink RL 187 yL_shift) ∈ TB := mTB (tb_3 _ (List.mem_of_getElem? (i := 239) rfl)) (by decide +kernel)
theorem k_st_L_shift : (Cond.static yL_shift) ∈ TB := mTB (tb_4 _ (List.mem_of_getElem? (i := 0) rfl)) (by decide +kernel)
theorem k_co_L_shift : (Cond.codeWith yL_shift cL_shift 6 (some .int) [(0, 12, 15, 13)]) ∈ TB := mTB (tb_4 _ (List.mem_of_getElem? (i := 1) rfl)) (by decide +kernel)
theorem k_m_L_84 : (Cond.methodLink RL 84 yX6_shift) ∈ TB := mTB (tb_4 _ (List.mem_of_getElem? (i := 2) rfl)) (by decide +kernel)
theorem k_im_X6_shift : (Cond.instanceMethod yX6_shift) ∈ TB := mTB (tb_4 _ (List.mem_of_getElem? (i := 3) rfl)) (by decide +kernel)
theorem k_se_X6_shift : (Cond.selects RX6 yX6_shift yX6_shift) ∈ TB := mTB (tb_4 _ (List.mem_of_getElem? (i := 4) rfl)) (by decide +kernel)
theorem k_co_X6_shift : (Cond.code yX6_shift cX6_shift 4 (some .int)) ∈ TB := mTB (tb_4 _ (List.mem_of_getElem? (i := 5) rfl)) (by decide +kernel)
theorem k_m_X6_234 : (Cond.methodLink RX6 234 yX2_onTheWay) ∈ TB := mTB (tb_4 _ (List.mem_of_getElem? (i := 6) rfl)) (by decide +kernel)
theorem k_im_X2_onTheWay : (Cond.instanceMethod yX2_onTheWay) ∈ TB := mTB (tb_4 _ (List.mem_of_getElem? (i := 7) rfl)) (by decide +kernel)
theorem k_se_X2_onTheWay : (Cond.selects RX2 yX2_onTheWay yX2_onTheWay) ∈ TB := mTB (tb_4 _ (List.mem_of_getElem? (i := 8) rfl)) (by decide +kernel)
theorem k_co_X2_onTheWay : (Cond.code yX2_onTheWay cX2_onTheWay 6 (some .int)) ∈ TB := mTB (tb_4 _ (List.mem_of_getElem? (i := 9) rfl)) (by decide +kernel)
theorem k_m_X2_71 : (Cond.methodLink RX2 71 yX2_shiftsLeft) ∈ TB := mTB (tb_4 _ (List.mem_of_getElem? (i := 10) rfl)) (by decide +kernel)
theorem k_m_L_190 : (Cond.methodLink RL 190 yX7_shift) ∈ TB := mTB (tb_5 _ (List.mem_of_getElem? (i := 67) rfl)) (by decide +kernel)
theorem k_im_X7_shift : (Cond.instanceMethod yX7_shift) ∈ TB := mTB (tb_5 _ (List.mem_of_getElem? (i := 68) rfl)) (by decide +kernel)
theorem k_se_X7_shift : (Cond.selects RX7 yX7_shift yX7_shift) ∈ TB := mTB (tb_5 _ (List.mem_of_getElem? (i := 69) rfl)) (by decide +kernel)
theorem k_co_X7_shift : (Cond.code yX7_shift cX7_shift 7 (some .int)) ∈ TB := mTB (tb_5 _ (List.mem_of_getElem? (i := 70) rfl)) (by decide +kernel)
theorem k_m_L_191 : (Cond.methodLink RL 191 yL_save) ∈ TB := mTB (tb_4 _ (List.mem_of_getElem? (i := 11) rfl)) (by decide +kernel)
theorem k_st_L_save : (Cond.static yL_save) ∈ TB := mTB (tb_4 _ (List.mem_of_getElem? (i := 12) rfl)) (by decide +kernel)
theorem k_co_L_save : (Cond.codeWith yL_save cL_save 3 (some .int) [(0, 5, 8, 15)]) ∈ TB := mTB (tb_4 _ (List.mem_of_getElem? (i := 13) rfl)) (by decide +kernel)
theorem k_m_L_88 : (Cond.methodLink RL 88 yX6_save) ∈ TB := mTB (tb_4 _ (List.mem_of_getElem? (i := 14) rfl)) (by decide +kernel)
theorem k_im_X6_save : (Cond.instanceMethod yX6_save) ∈ TB := mTB (tb_4 _ (List.mem_of_getElem? (i := 15) rfl)) (by decide +kernel)
theorem k_se_X6_save : (Cond.selects RX6 yX6_save yX6_save) ∈ TB := mTB (tb_4 _ (List.mem_of_getElem? (i := 16) rfl)) (by decide +kernel)
theorem k_co_X6_save : (Cond.code yX6_save cX6_save 2 none) ∈ TB := mTB (tb_4 _ (List.mem_of_getElem? (i := 17) rfl)) (by decide +kernel)
theorem k_f_X6_243 : (Cond.fieldLink RX6 243 "PlanetaryGearbox" "firstSlotUsed" "Z") ∈ TB := mTB (tb_1 _ (List.mem_of_getElem? (i := 155) rfl)) (by decide +kernel)
theorem k_f_X6_247 : (Cond.fieldLink RX6 247 "PlanetaryGearbox" "secondSlotUsed" "Z") ∈ TB := mTB (tb_1 _ (List.mem_of_getElem? (i := 156) rfl)) (by decide +kernel)
theorem k_m_X6_239 : (Cond.methodLink RX6 239 yX0_copyFrom) ∈ TB := mTB (tb_4 _ (List.mem_of_getElem? (i := 19) rfl)) (by decide +kernel)
theorem k_im_X0_copyFrom : (Cond.instanceMethod yX0_copyFrom) ∈ TB := mTB (tb_4 _ (List.mem_of_getElem? (i := 20) rfl)) (by decide +kernel)
theorem k_se_X0_copyFrom : (Cond.selects RX0 yX0_copyFrom yX0_copyFrom) ∈ TB := mTB (tb_4 _ (List.mem_of_getElem? (i := 21) rfl)) (by decide +kernel)
theorem k_co_X0_copyFrom : (Cond.code yX0_copyFrom cX0_copyFrom 3 none) ∈ TB := mTB (tb_4 _ (List.mem_of_getElem? (i := 22) rfl)) (by decide +kernel)
theorem k_m_L_194 : (Cond.methodLink RL 194 yX7_save) ∈ TB := mTB (tb_5 _ (List.mem_of_getElem? (i := 71) rfl)) (by decide +kernel)
theorem k_im_X7_save : (Cond.instanceMethod yX7_save) ∈ TB := mTB (tb_5 _ (List.mem_of_getElem? (i := 72) rfl)) (by decide +kernel)
theorem k_se_X7_save : (Cond.selects RX7 yX7_save yX7_save) ∈ TB := mTB (tb_5 _ (List.mem_of_getElem? (i := 73) rfl)) (by decide +kernel)
theorem k_co_X7_save : (Cond.code yX7_save cX7_save 3 none) ∈ TB := mTB (tb_5 _ (List.mem_of_getElem? (i := 74) rfl)) (by decide +kernel)
theorem k_m_L_195 : (Cond.methodLink RL 195 yL_restore) ∈ TB := mTB (tb_4 _ (List.mem_of_getElem? (i := 23) rfl)) (by decide +kernel)
theorem k_st_L_restore : (Cond.static yL_restore) ∈ TB := mTB (tb_4 _ (List.mem_of_getElem? (i := 24) rfl)) (by decide +kernel)
theorem k_co_L_restore : (Cond.codeWith yL_restore cL_restore 3 (some .int) [(0, 5, 8, 15), (0, 5, 11, 17)]) ∈ TB := mTB (tb_4 _ (List.mem_of_getElem? (i := 25) rfl)) (by decide +kernel)
theorem k_m_L_92 : (Cond.methodLink RL 92 yX6_restore) ∈ TB := mTB (tb_4 _ (List.mem_of_getElem? (i := 26) rfl)) (by decide +kernel)
theorem k_im_X6_restore : (Cond.instanceMethod yX6_restore) ∈ TB := mTB (tb_4 _ (List.mem_of_getElem? (i := 27) rfl)) (by decide +kernel)
theorem k_se_X6_restore : (Cond.selects RX6 yX6_restore yX6_restore) ∈ TB := mTB (tb_4 _ (List.mem_of_getElem? (i := 28) rfl)) (by decide +kernel)
theorem k_co_X6_restore : (Cond.code yX6_restore cX6_restore 2 none) ∈ TB := mTB (tb_4 _ (List.mem_of_getElem? (i := 29) rfl)) (by decide +kernel)
theorem k_m_X6_252 : (Cond.methodLink RX6 252 yX3_clear) ∈ TB := mTB (tb_4 _ (List.mem_of_getElem? (i := 31) rfl)) (by decide +kernel)
theorem k_im_X3_clear : (Cond.instanceMethod yX3_clear) ∈ TB := mTB (tb_4 _ (List.mem_of_getElem? (i := 32) rfl)) (by decide +kernel)
theorem k_se_X3_clear : (Cond.selects RX3 yX3_clear yX3_clear) ∈ TB := mTB (tb_4 _ (List.mem_of_getElem? (i := 33) rfl)) (by decide +kernel)
theorem k_co_X3_clear : (Cond.code yX3_clear cX3_clear 1 none) ∈ TB := mTB (tb_4 _ (List.mem_of_getElem? (i := 34) rfl)) (by decide +kernel)
theorem k_m_L_197 : (Cond.methodLink RL 197 yX7_restore) ∈ TB := mTB (tb_5 _ (List.mem_of_getElem? (i := 75) rfl)) (by decide +kernel)
theorem k_im_X7_restore : (Cond.instanceMethod yX7_restore) ∈ TB := mTB (tb_5 _ (List.mem_of_getElem? (i := 76) rfl)) (by decide +kernel)
theorem k_se_X7_restore : (Cond.selects RX7 yX7_restore yX7_restore) ∈ TB := mTB (tb_5 _ (List.mem_of_getElem? (i := 77) rfl)) (by decide +kernel)
theorem k_co_X7_restore : (Cond.code yX7_restore cX7_restore 3 none) ∈ TB := mTB (tb_5 _ (List.mem_of_getElem? (i := 78) rfl)) (by decide +kernel)
theorem iX0 : ∀ w ∈ wsX00, w ∈ TB := List.forall_mem_cons.mpr ⟨mTB (tb_1 _ (List.mem_of_getElem? (i := 42) rfl)) (by decide +kernel), List.forall_mem_cons.mpr ⟨mTB (tb_1 _ (List.mem_of_getElem? (i := 44) rfl)) (by decide +kernel), List.forall_mem_cons.mpr ⟨mTB (tb_1 _ (List.mem_of_getElem? (i := 46) rfl)) (by decide +kernel), List.forall_mem_cons.mpr ⟨mTB (tb_1 _ (List.mem_of_getElem? (i := 48) rfl)) (by decide +kernel), List.forall_mem_cons.mpr ⟨mTB (tb_1 _ (List.mem_of_getElem? (i := 50) rfl)) (by decide +kernel), List.forall_mem_cons.mpr ⟨mTB (tb_1 _ (List.mem_of_getElem? (i := 52) rfl)) (by decide +kernel), List.forall_mem_cons.mpr ⟨mTB (tb_1 _ (List.mem_of_getElem? (i := 54) rfl)) (by decide +kernel), List.forall_mem_cons.mpr ⟨mTB (tb_1 _ (List.mem_of_getElem? (i := 56) rfl)) (by decide +kernel), List.forall_mem_cons.mpr ⟨mTB (tb_1 _ (List.mem_of_getElem? (i := 58) rfl)) (by decide +kernel), List.forall_mem_cons.mpr ⟨mTB (tb_1 _ (List.mem_of_getElem? (i := 60) rfl)) (by decide +kernel), List.forall_mem_cons.mpr ⟨mTB (tb_1 _ (List.mem_of_getElem? (i := 62) rfl)) (by decide +kernel), fun _ h => absurd h List.not_mem_nil⟩⟩⟩⟩⟩⟩⟩⟩⟩⟩⟩
theorem iX1 : ∀ w ∈ wsX10, w ∈ TB := List.forall_mem_cons.mpr ⟨mTB (tb_1 _ (List.mem_of_getElem? (i := 97) rfl)) (by decide +kernel), List.forall_mem_cons.mpr ⟨mTB (tb_1 _ (List.mem_of_getElem? (i := 99) rfl)) (by decide +kernel), List.forall_mem_cons.mpr ⟨mTB (tb_1 _ (List.mem_of_getElem? (i := 101) rfl)) (by decide +kernel), List.forall_mem_cons.mpr ⟨mTB (tb_1 _ (List.mem_of_getElem? (i := 103) rfl)) (by decide +kernel), fun _ h => absurd h List.not_mem_nil⟩⟩⟩⟩
theorem iX2 : ∀ w ∈ wsX20, w ∈ TB := List.forall_mem_cons.mpr ⟨mTB (tb_1 _ (List.mem_of_getElem? (i := 137) rfl)) (by decide +kernel), List.forall_mem_cons.mpr ⟨mTB (tb_1 _ (List.mem_of_getElem? (i := 139) rfl)) (by decide +kernel), List.forall_mem_cons.mpr ⟨mTB (tb_1 _ (List.mem_of_getElem? (i := 141) rfl)) (by decide +kernel), List.forall_mem_cons.mpr ⟨mTB (tb_1 _ (List.mem_of_getElem? (i := 143) rfl)) (by decide +kernel), List.forall_mem_cons.mpr ⟨mTB (tb_1 _ (List.mem_of_getElem? (i := 145) rfl)) (by decide +kernel), List.forall_mem_cons.mpr ⟨mTB (tb_1 _ (List.mem_of_getElem? (i := 147) rfl)) (by decide +kernel), List.forall_mem_cons.mpr ⟨mTB (tb_1 _ (List.mem_of_getElem? (i := 149) rfl)) (by decide +kernel), fun _ h => absurd h List.not_mem_nil⟩⟩⟩⟩⟩⟩⟩
theorem iX3 : ∀ w ∈ wsX30, w ∈ TB := List.forall_mem_cons.mpr ⟨mTB (tb_1 _ (List.mem_of_getElem? (i := 74) rfl)) (by decide +kernel), List.forall_mem_cons.mpr ⟨mTB (tb_1 _ (List.mem_of_getElem? (i := 76) rfl)) (by decide +kernel), fun _ h => absurd h List.not_mem_nil⟩⟩
theorem iX4 : ∀ w ∈ wsX40, w ∈ TB := List.forall_mem_cons.mpr ⟨mTB (tb_1 _ (List.mem_of_getElem? (i := 109) rfl)) (by decide +kernel), fun _ h => absurd h List.not_mem_nil⟩
theorem iX5 : ∀ w ∈ wsX50, w ∈ TB := List.forall_mem_cons.mpr ⟨mTB (tb_1 _ (List.mem_of_getElem? (i := 121) rfl)) (by decide +kernel), fun _ h => absurd h List.not_mem_nil⟩
theorem iX6 : ∀ w ∈ wsX60, w ∈ TB := List.forall_mem_cons.mpr ⟨mTB (tb_1 _ (List.mem_of_getElem? (i := 161) rfl)) (by decide +kernel), List.forall_mem_cons.mpr ⟨mTB (tb_1 _ (List.mem_of_getElem? (i := 163) rfl)) (by decide +kernel), List.forall_mem_cons.mpr ⟨mTB (tb_1 _ (List.mem_of_getElem? (i := 165) rfl)) (by decide +kernel), List.forall_mem_cons.mpr ⟨mTB (tb_1 _ (List.mem_of_getElem? (i := 167) rfl)) (by decide +kernel), List.forall_mem_cons.mpr ⟨mTB (tb_1 _ (List.mem_of_getElem? (i := 169) rfl)) (by decide +kernel), List.forall_mem_cons.mpr ⟨mTB (tb_1 _ (List.mem_of_getElem? (i := 171) rfl)) (by decide +kernel), List.forall_mem_cons.mpr ⟨mTB (tb_1 _ (List.mem_of_getElem? (i := 173) rfl)) (by decide +kernel), List.forall_mem_cons.mpr ⟨mTB (tb_1 _ (List.mem_of_getElem? (i := 175) rfl)) (by decide +kernel), List.forall_mem_cons.mpr ⟨mTB (tb_1 _ (List.mem_of_getElem? (i := 177) rfl)) (by decide +kernel), fun _ h => absurd h List.not_mem_nil⟩⟩⟩⟩⟩⟩⟩⟩⟩
theorem iX7 : ∀ w ∈ wsX70, w ∈ TB := List.forall_mem_cons.mpr ⟨mTB (tb_4 _ (List.mem_of_getElem? (i := 58) rfl)) (by decide +kernel), List.forall_mem_cons.mpr ⟨mTB (tb_4 _ (List.mem_of_getElem? (i := 60) rfl)) (by decide +kernel), List.forall_mem_cons.mpr ⟨mTB (tb_4 _ (List.mem_of_getElem? (i := 62) rfl)) (by decide +kernel), List.forall_mem_cons.mpr ⟨mTB (tb_4 _ (List.mem_of_getElem? (i := 64) rfl)) (by decide +kernel), List.forall_mem_cons.mpr ⟨mTB (tb_4 _ (List.mem_of_getElem? (i := 66) rfl)) (by decide +kernel), List.forall_mem_cons.mpr ⟨mTB (tb_4 _ (List.mem_of_getElem? (i := 68) rfl)) (by decide +kernel), List.forall_mem_cons.mpr ⟨mTB (tb_4 _ (List.mem_of_getElem? (i := 70) rfl)) (by decide +kernel), List.forall_mem_cons.mpr ⟨mTB (tb_4 _ (List.mem_of_getElem? (i := 72) rfl)) (by decide +kernel), List.forall_mem_cons.mpr ⟨mTB (tb_4 _ (List.mem_of_getElem? (i := 74) rfl)) (by decide +kernel), List.forall_mem_cons.mpr ⟨mTB (tb_4 _ (List.mem_of_getElem? (i := 76) rfl)) (by decide +kernel), List.forall_mem_cons.mpr ⟨mTB (tb_4 _ (List.mem_of_getElem? (i := 78) rfl)) (by decide +kernel), List.forall_mem_cons.mpr ⟨mTB (tb_4 _ (List.mem_of_getElem? (i := 80) rfl)) (by decide +kernel), List.forall_mem_cons.mpr ⟨mTB (tb_4 _ (List.mem_of_getElem? (i := 82) rfl)) (by decide +kernel), List.forall_mem_cons.mpr ⟨mTB (tb_4 _ (List.mem_of_getElem? (i := 84) rfl)) (by decide +kernel), List.forall_mem_cons.mpr ⟨mTB (tb_4 _ (List.mem_of_getElem? (i := 86) rfl)) (by decide +kernel), List.forall_mem_cons.mpr ⟨mTB (tb_4 _ (List.mem_of_getElem? (i := 88) rfl)) (by decide +kernel), List.forall_mem_cons.mpr ⟨mTB (tb_4 _ (List.mem_of_getElem? (i := 90) rfl)) (by decide +kernel), fun _ h => absurd h List.not_mem_nil⟩⟩⟩⟩⟩⟩⟩⟩⟩⟩⟩⟩⟩⟩⟩⟩⟩
end
section
theorem dX0_init_0 : decode cX0_init 0 = .ok (.aload_n 0, 1) := by decide +kernel
theorem dX0_init_1 : decode cX0_init 1 = .ok (.invokespecial 3, 3) := by decide +kernel
theorem dX0_init_4 : decode cX0_init 4 = .ok (.aload_n 0, 1) := by decide +kernel
theorem dX0_init_5 : decode cX0_init 5 = .ok (.iconst 3, 1) := by decide +kernel
theorem dX0_init_6 : decode cX0_init 6 = .ok (.newarray .int, 2) := by decide +kernel
theorem dX0_init_8 : decode cX0_init 8 = .ok (.putfield 9, 3) := by decide +kernel
theorem dX0_init_11 : decode cX0_init 11 = .ok (.aload_n 0, 1) := by decide +kernel
theorem dX0_init_12 : decode cX0_init 12 = .ok (.iconst 3, 1) := by decide +kernel
theorem dX0_init_13 : decode cX0_init 13 = .ok (.newarray .int, 2) := by decide +kernel
theorem dX0_init_15 : decode cX0_init 15 = .ok (.putfield 15, 3) := by decide +kernel
theorem dX0_init_18 : decode cX0_init 18 = .ok (.aload_n 0, 1) := by decide +kernel
theorem dX0_init_19 : decode cX0_init 19 = .ok (.iconst 3, 1) := by decide +kernel
theorem dX0_init_20 : decode cX0_init 20 = .ok (.newarray .int, 2) := by decide +kernel
theorem dX0_init_22 : decode cX0_init 22 = .ok (.putfield 18, 3) := by decide +kernel
theorem dX0_init_25 : decode cX0_init 25 = .ok (.aload_n 0, 1) := by decide +kernel
theorem dX0_init_26 : decode cX0_init 26 = .ok (.iconst 3, 1) := by decide +kernel
theorem dX0_init_27 : decode cX0_init 27 = .ok (.newarray .int, 2) := by decide +kernel
theorem dX0_init_29 : decode cX0_init 29 = .ok (.putfield 21, 3) := by decide +kernel
theorem dX0_init_32 : decode cX0_init 32 = .ok (.aload_n 0, 1) := by decide +kernel
theorem dX0_init_33 : decode cX0_init 33 = .ok (.iconst 3, 1) := by decide +kernel
theorem dX0_init_34 : decode cX0_init 34 = .ok (.newarray .int, 2) := by decide +kernel
theorem dX0_init_36 : decode cX0_init 36 = .ok (.putfield 24, 3) := by decide +kernel
theorem dX0_init_39 : decode cX0_init 39 = .ok (.aload_n 0, 1) := by decide +kernel
theorem dX0_init_40 : decode cX0_init 40 = .ok (.bipush 6, 2) := by decide +kernel
theorem dX0_init_42 : decode cX0_init 42 = .ok (.newarray .int, 2) := by decide +kernel
theorem dX0_init_44 : decode cX0_init 44 = .ok (.putfield 27, 3) := by decide +kernel
theorem dX0_init_47 : decode cX0_init 47 = .ok (.aload_n 0, 1) := by decide +kernel
theorem dX0_init_48 : decode cX0_init 48 = .ok (.bipush 6, 2) := by decide +kernel
theorem dX0_init_50 : decode cX0_init 50 = .ok (.newarray .int, 2) := by decide +kernel
theorem dX0_init_52 : decode cX0_init 52 = .ok (.putfield 30, 3) := by decide +kernel
theorem dX0_init_55 : decode cX0_init 55 = .ok (.aload_n 0, 1) := by decide +kernel
theorem dX0_init_56 : decode cX0_init 56 = .ok (.bipush 6, 2) := by decide +kernel
theorem dX0_init_58 : decode cX0_init 58 = .ok (.newarray .int, 2) := by decide +kernel
theorem dX0_init_60 : decode cX0_init 60 = .ok (.putfield 33, 3) := by decide +kernel
theorem dX0_init_63 : decode cX0_init 63 = .ok (.return_, 1) := by decide +kernel
theorem dX0_setCount_0 : decode cX0_setCount 0 = .ok (.aload_n 0, 1) := by decide +kernel
theorem dX0_setCount_1 : decode cX0_setCount 1 = .ok (.getfield 36, 3) := by decide +kernel
theorem dX0_setCount_4 : decode cX0_setCount 4 = .ok (.ireturn, 1) := by decide +kernel
theorem dX0_elementCount_0 : decode cX0_elementCount 0 = .ok (.aload_n 0, 1) := by decide +kernel
theorem dX0_elementCount_1 : decode cX0_elementCount 1 = .ok (.getfield 40, 3) := by decide +kernel
theorem dX0_elementCount_4 : decode cX0_elementCount 4 = .ok (.ireturn, 1) := by decide +kernel
theorem dX0_hasElement_0 : decode cX0_hasElement 0 = .ok (.iload_n 1, 1) := by decide +kernel
theorem dX0_hasElement_1 : decode cX0_hasElement 1 = .ok (.ifCond .lt 21, 3) := by decide +kernel
theorem dX0_hasElement_4 : decode cX0_hasElement 4 = .ok (.iload_n 1, 1) := by decide +kernel
theorem dX0_hasElement_5 : decode cX0_hasElement 5 = .ok (.aload_n 0, 1) := by decide +kernel
theorem dX0_hasElement_6 : decode cX0_hasElement 6 = .ok (.getfield 40, 3) := by decide +kernel
theorem dX0_hasElement_9 : decode cX0_hasElement 9 = .ok (.if_icmp .ge 13, 3) := by decide +kernel
theorem dX0_hasElement_12 : decode cX0_hasElement 12 = .ok (.iload_n 1, 1) := by decide +kernel
theorem dX0_hasElement_13 : decode cX0_hasElement 13 = .ok (.bipush 6, 2) := by decide +kernel
theorem dX0_hasElement_15 : decode cX0_hasElement 15 = .ok (.if_icmp .ge 7, 3) := by decide +kernel
theorem dX0_hasElement_18 : decode cX0_hasElement 18 = .ok (.iconst 1, 1) := by decide +kernel
theorem dX0_hasElement_19 : decode cX0_hasElement 19 = .ok (.goto 4, 3) := by decide +kernel
theorem dX0_hasElement_22 : decode cX0_hasElement 22 = .ok (.iconst 0, 1) := by decide +kernel
theorem dX0_hasElement_23 : decode cX0_hasElement 23 = .ok (.ireturn, 1) := by decide +kernel
theorem dX0_hasElements_0 : decode cX0_hasElements 0 = .ok (.iload_n 1, 1) := by decide +kernel
theorem dX0_hasElements_1 : decode cX0_hasElements 1 = .ok (.ifCond .lt 16, 3) := by decide +kernel
theorem dX0_hasElements_4 : decode cX0_hasElements 4 = .ok (.iload_n 1, 1) := by decide +kernel
theorem dX0_hasElements_5 : decode cX0_hasElements 5 = .ok (.aload_n 0, 1) := by decide +kernel
theorem dX0_hasElements_6 : decode cX0_hasElements 6 = .ok (.getfield 40, 3) := by decide +kernel
theorem dX0_hasElements_9 : decode cX0_hasElements 9 = .ok (.ishr, 1) := by decide +kernel
theorem dX0_hasElements_10 : decode cX0_hasElements 10 = .ok (.ifCond .ne 7, 3) := by decide +kernel
theorem dX0_hasElements_13 : decode cX0_hasElements 13 = .ok (.iconst 1, 1) := by decide +kernel
theorem dX0_hasElements_14 : decode cX0_hasElements 14 = .ok (.goto 4, 3) := by decide +kernel
theorem dX0_hasElements_17 : decode cX0_hasElements 17 = .ok (.iconst 0, 1) := by decide +kernel
theorem dX0_hasElements_18 : decode cX0_hasElements 18 = .ok (.ireturn, 1) := by decide +kernel
theorem dX0_appendSet_0 : decode cX0_appendSet 0 = .ok (.aload_n 0, 1) := by decide +kernel
theorem dX0_appendSet_1 : decode cX0_appendSet 1 = .ok (.getfield 36, 3) := by decide +kernel
theorem dX0_appendSet_4 : decode cX0_appendSet 4 = .ok (.ifCond .lt 11, 3) := by decide +kernel
theorem dX0_appendSet_7 : decode cX0_appendSet 7 = .ok (.aload_n 0, 1) := by decide +kernel
theorem dX0_appendSet_8 : decode cX0_appendSet 8 = .ok (.getfield 36, 3) := by decide +kernel
theorem dX0_appendSet_11 : decode cX0_appendSet 11 = .ok (.iconst 3, 1) := by decide +kernel
theorem dX0_appendSet_12 : decode cX0_appendSet 12 = .ok (.if_icmp .lt 4, 3) := by decide +kernel
theorem dX0_appendSet_15 : decode cX0_appendSet 15 = .ok (.return_, 1) := by decide +kernel
theorem dX0_appendSet_16 : decode cX0_appendSet 16 = .ok (.aload_n 0, 1) := by decide +kernel
theorem dX0_appendSet_17 : decode cX0_appendSet 17 = .ok (.getfield 9, 3) := by decide +kernel
theorem dX0_appendSet_20 : decode cX0_appendSet 20 = .ok (.aload_n 0, 1) := by decide +kernel
theorem dX0_appendSet_21 : decode cX0_appendSet 21 = .ok (.getfield 36, 3) := by decide +kernel
theorem dX0_appendSet_24 : decode cX0_appendSet 24 = .ok (.iload_n 1, 1) := by decide +kernel
theorem dX0_appendSet_25 : decode cX0_appendSet 25 = .ok (.iastore, 1) := by decide +kernel
theorem dX0_appendSet_26 : decode cX0_appendSet 26 = .ok (.aload_n 0, 1) := by decide +kernel
theorem dX0_appendSet_27 : decode cX0_appendSet 27 = .ok (.getfield 15, 3) := by decide +kernel
theorem dX0_appendSet_30 : decode cX0_appendSet 30 = .ok (.aload_n 0, 1) := by decide +kernel
theorem dX0_appendSet_31 : decode cX0_appendSet 31 = .ok (.getfield 36, 3) := by decide +kernel
theorem dX0_appendSet_34 : decode cX0_appendSet 34 = .ok (.iload_n 2, 1) := by decide +kernel
theorem dX0_appendSet_35 : decode cX0_appendSet 35 = .ok (.iastore, 1) := by decide +kernel
theorem dX0_appendSet_36 : decode cX0_appendSet 36 = .ok (.aload_n 0, 1) := by decide +kernel
theorem dX0_appendSet_37 : decode cX0_appendSet 37 = .ok (.getfield 18, 3) := by decide +kernel
theorem dX0_appendSet_40 : decode cX0_appendSet 40 = .ok (.aload_n 0, 1) := by decide +kernel
theorem dX0_appendSet_41 : decode cX0_appendSet 41 = .ok (.getfield 36, 3) := by decide +kernel
theorem dX0_appendSet_44 : decode cX0_appendSet 44 = .ok (.iload_n 3, 1) := by decide +kernel
theorem dX0_appendSet_45 : decode cX0_appendSet 45 = .ok (.iastore, 1) := by decide +kernel
theorem dX0_appendSet_46 : decode cX0_appendSet 46 = .ok (.aload_n 0, 1) := by decide +kernel
theorem dX0_appendSet_47 : decode cX0_appendSet 47 = .ok (.getfield 21, 3) := by decide +kernel
theorem dX0_appendSet_50 : decode cX0_appendSet 50 = .ok (.aload_n 0, 1) := by decide +kernel
theorem dX0_appendSet_51 : decode cX0_appendSet 51 = .ok (.getfield 36, 3) := by decide +kernel
theorem dX0_appendSet_54 : decode cX0_appendSet 54 = .ok (.iload 4, 2) := by decide +kernel
theorem dX0_appendSet_56 : decode cX0_appendSet 56 = .ok (.iastore, 1) := by decide +kernel
theorem dX0_appendSet_57 : decode cX0_appendSet 57 = .ok (.aload_n 0, 1) := by decide +kernel
theorem dX0_appendSet_58 : decode cX0_appendSet 58 = .ok (.getfield 24, 3) := by decide +kernel
theorem dX0_appendSet_61 : decode cX0_appendSet 61 = .ok (.aload_n 0, 1) := by decide +kernel
theorem dX0_appendSet_62 : decode cX0_appendSet 62 = .ok (.getfield 36, 3) := by decide +kernel
theorem dX0_appendSet_65 : decode cX0_appendSet 65 = .ok (.iload 5, 2) := by decide +kernel
theorem dX0_appendSet_67 : decode cX0_appendSet 67 = .ok (.iastore, 1) := by decide +kernel
theorem dX0_appendSet_68 : decode cX0_appendSet 68 = .ok (.aload_n 0, 1) := by decide +kernel
theorem dX0_appendSet_69 : decode cX0_appendSet 69 = .ok (.dup, 1) := by decide +kernel
theorem dX0_appendSet_70 : decode cX0_appendSet 70 = .ok (.getfield 36, 3) := by decide +kernel
theorem dX0_appendSet_73 : decode cX0_appendSet 73 = .ok (.iconst 1, 1) := by decide +kernel
theorem dX0_appendSet_74 : decode cX0_appendSet 74 = .ok (.iadd, 1) := by decide +kernel
theorem dX0_appendSet_75 : decode cX0_appendSet 75 = .ok (.putfield 36, 3) := by decide +kernel
theorem dX0_appendSet_78 : decode cX0_appendSet 78 = .ok (.return_, 1) := by decide +kernel
theorem dX0_appendElement_0 : decode cX0_appendElement 0 = .ok (.aload_n 0, 1) := by decide +kernel
theorem dX0_appendElement_1 : decode cX0_appendElement 1 = .ok (.getfield 40, 3) := by decide +kernel
theorem dX0_appendElement_4 : decode cX0_appendElement 4 = .ok (.ifCond .lt 12, 3) := by decide +kernel
theorem dX0_appendElement_7 : decode cX0_appendElement 7 = .ok (.aload_n 0, 1) := by decide +kernel
theorem dX0_appendElement_8 : decode cX0_appendElement 8 = .ok (.getfield 40, 3) := by decide +kernel
theorem dX0_appendElement_11 : decode cX0_appendElement 11 = .ok (.bipush 6, 2) := by decide +kernel
theorem dX0_appendElement_13 : decode cX0_appendElement 13 = .ok (.if_icmp .lt 5, 3) := by decide +kernel
theorem dX0_appendElement_16 : decode cX0_appendElement 16 = .ok (.iconst (-1), 1) := by decide +kernel
theorem dX0_appendElement_17 : decode cX0_appendElement 17 = .ok (.ireturn, 1) := by decide +kernel
theorem dX0_appendElement_18 : decode cX0_appendElement 18 = .ok (.aload_n 0, 1) := by decide +kernel
theorem dX0_appendElement_19 : decode cX0_appendElement 19 = .ok (.getfield 27, 3) := by decide +kernel
theorem dX0_appendElement_22 : decode cX0_appendElement 22 = .ok (.aload_n 0, 1) := by decide +kernel
theorem dX0_appendElement_23 : decode cX0_appendElement 23 = .ok (.getfield 40, 3) := by decide +kernel
theorem dX0_appendElement_26 : decode cX0_appendElement 26 = .ok (.iload_n 1, 1) := by decide +kernel
theorem dX0_appendElement_27 : decode cX0_appendElement 27 = .ok (.iastore, 1) := by decide +kernel
theorem dX0_appendElement_28 : decode cX0_appendElement 28 = .ok (.aload_n 0, 1) := by decide +kernel
theorem dX0_appendElement_29 : decode cX0_appendElement 29 = .ok (.getfield 30, 3) := by decide +kernel
theorem dX0_appendElement_32 : decode cX0_appendElement 32 = .ok (.aload_n 0, 1) := by decide +kernel
theorem dX0_appendElement_33 : decode cX0_appendElement 33 = .ok (.getfield 40, 3) := by decide +kernel
theorem dX0_appendElement_36 : decode cX0_appendElement 36 = .ok (.iload_n 2, 1) := by decide +kernel
theorem dX0_appendElement_37 : decode cX0_appendElement 37 = .ok (.iastore, 1) := by decide +kernel
theorem dX0_appendElement_38 : decode cX0_appendElement 38 = .ok (.aload_n 0, 1) := by decide +kernel
theorem dX0_appendElement_39 : decode cX0_appendElement 39 = .ok (.getfield 33, 3) := by decide +kernel
theorem dX0_appendElement_42 : decode cX0_appendElement 42 = .ok (.aload_n 0, 1) := by decide +kernel
theorem dX0_appendElement_43 : decode cX0_appendElement 43 = .ok (.getfield 40, 3) := by decide +kernel
theorem dX0_appendElement_46 : decode cX0_appendElement 46 = .ok (.sipush 1000, 3) := by decide +kernel
theorem dX0_appendElement_49 : decode cX0_appendElement 49 = .ok (.iastore, 1) := by decide +kernel
theorem dX0_appendElement_50 : decode cX0_appendElement 50 = .ok (.aload_n 0, 1) := by decide +kernel
theorem dX0_appendElement_51 : decode cX0_appendElement 51 = .ok (.dup, 1) := by decide +kernel
theorem dX0_appendElement_52 : decode cX0_appendElement 52 = .ok (.getfield 40, 3) := by decide +kernel
theorem dX0_appendElement_55 : decode cX0_appendElement 55 = .ok (.iconst 1, 1) := by decide +kernel
theorem dX0_appendElement_56 : decode cX0_appendElement 56 = .ok (.iadd, 1) := by decide +kernel
theorem dX0_appendElement_57 : decode cX0_appendElement 57 = .ok (.putfield 40, 3) := by decide +kernel
theorem dX0_appendElement_60 : decode cX0_appendElement 60 = .ok (.aload_n 0, 1) := by decide +kernel
theorem dX0_appendElement_61 : decode cX0_appendElement 61 = .ok (.getfield 40, 3) := by decide +kernel
theorem dX0_appendElement_64 : decode cX0_appendElement 64 = .ok (.iconst 1, 1) := by decide +kernel
theorem dX0_appendElement_65 : decode cX0_appendElement 65 = .ok (.isub, 1) := by decide +kernel
theorem dX0_appendElement_66 : decode cX0_appendElement 66 = .ok (.ireturn, 1) := by decide +kernel
theorem dX0_capacityOf_0 : decode cX0_capacityOf 0 = .ok (.aload_n 0, 1) := by decide +kernel
theorem dX0_capacityOf_1 : decode cX0_capacityOf 1 = .ok (.iload_n 1, 1) := by decide +kernel
theorem dX0_capacityOf_2 : decode cX0_capacityOf 2 = .ok (.invokevirtual 43, 3) := by decide +kernel
theorem dX0_capacityOf_5 : decode cX0_capacityOf 5 = .ok (.ifCond .eq 12, 3) := by decide +kernel
theorem dX0_capacityOf_8 : decode cX0_capacityOf 8 = .ok (.aload_n 0, 1) := by decide +kernel
theorem dX0_capacityOf_9 : decode cX0_capacityOf 9 = .ok (.getfield 33, 3) := by decide +kernel
theorem dX0_capacityOf_12 : decode cX0_capacityOf 12 = .ok (.iload_n 1, 1) := by decide +kernel
theorem dX0_capacityOf_13 : decode cX0_capacityOf 13 = .ok (.iaload, 1) := by decide +kernel
theorem dX0_capacityOf_14 : decode cX0_capacityOf 14 = .ok (.goto 4, 3) := by decide +kernel
theorem dX0_capacityOf_17 : decode cX0_capacityOf 17 = .ok (.iconst 0, 1) := by decide +kernel
theorem dX0_capacityOf_18 : decode cX0_capacityOf 18 = .ok (.ireturn, 1) := by decide +kernel
theorem dX0_changeCapacity_0 : decode cX0_changeCapacity 0 = .ok (.aload_n 0, 1) := by decide +kernel
theorem dX0_changeCapacity_1 : decode cX0_changeCapacity 1 = .ok (.iload_n 1, 1) := by decide +kernel
theorem dX0_changeCapacity_2 : decode cX0_changeCapacity 2 = .ok (.invokevirtual 43, 3) := by decide +kernel
theorem dX0_changeCapacity_5 : decode cX0_changeCapacity 5 = .ok (.ifCond .eq 10, 3) := by decide +kernel
theorem dX0_changeCapacity_8 : decode cX0_changeCapacity 8 = .ok (.aload_n 0, 1) := by decide +kernel
theorem dX0_changeCapacity_9 : decode cX0_changeCapacity 9 = .ok (.getfield 33, 3) := by decide +kernel
theorem dX0_changeCapacity_12 : decode cX0_changeCapacity 12 = .ok (.iload_n 1, 1) := by decide +kernel
theorem dX0_changeCapacity_13 : decode cX0_changeCapacity 13 = .ok (.iload_n 2, 1) := by decide +kernel
theorem dX0_changeCapacity_14 : decode cX0_changeCapacity 14 = .ok (.iastore, 1) := by decide +kernel
theorem dX0_changeCapacity_15 : decode cX0_changeCapacity 15 = .ok (.return_, 1) := by decide +kernel
theorem dX0_isClutch_0 : decode cX0_isClutch 0 = .ok (.aload_n 0, 1) := by decide +kernel
theorem dX0_isClutch_1 : decode cX0_isClutch 1 = .ok (.iload_n 1, 1) := by decide +kernel
theorem dX0_isClutch_2 : decode cX0_isClutch 2 = .ok (.invokevirtual 43, 3) := by decide +kernel
theorem dX0_isClutch_5 : decode cX0_isClutch 5 = .ok (.ifCond .eq 17, 3) := by decide +kernel
theorem dX0_isClutch_8 : decode cX0_isClutch 8 = .ok (.aload_n 0, 1) := by decide +kernel
theorem dX0_isClutch_9 : decode cX0_isClutch 9 = .ok (.getfield 30, 3) := by decide +kernel
theorem dX0_isClutch_12 : decode cX0_isClutch 12 = .ok (.iload_n 1, 1) := by decide +kernel
theorem dX0_isClutch_13 : decode cX0_isClutch 13 = .ok (.iaload, 1) := by decide +kernel
theorem dX0_isClutch_14 : decode cX0_isClutch 14 = .ok (.iconst (-1), 1) := by decide +kernel
theorem dX0_isClutch_15 : decode cX0_isClutch 15 = .ok (.if_icmp .eq 7, 3) := by decide +kernel
theorem dX0_isClutch_18 : decode cX0_isClutch 18 = .ok (.iconst 1, 1) := by decide +kernel
theorem dX0_isClutch_19 : decode cX0_isClutch 19 = .ok (.goto 4, 3) := by decide +kernel
theorem dX0_isClutch_22 : decode cX0_isClutch 22 = .ok (.iconst 0, 1) := by decide +kernel
theorem dX0_isClutch_23 : decode cX0_isClutch 23 = .ok (.ireturn, 1) := by decide +kernel
theorem dX0_isEngaged_0 : decode cX0_isEngaged 0 = .ok (.aload_n 0, 1) := by decide +kernel
theorem dX0_isEngaged_1 : decode cX0_isEngaged 1 = .ok (.iload_n 1, 1) := by decide +kernel
theorem dX0_isEngaged_2 : decode cX0_isEngaged 2 = .ok (.invokevirtual 43, 3) := by decide +kernel
theorem dX0_isEngaged_5 : decode cX0_isEngaged 5 = .ok (.ifCond .eq 18, 3) := by decide +kernel
theorem dX0_isEngaged_8 : decode cX0_isEngaged 8 = .ok (.iload_n 1, 1) := by decide +kernel
theorem dX0_isEngaged_9 : decode cX0_isEngaged 9 = .ok (.aload_n 0, 1) := by decide +kernel
theorem dX0_isEngaged_10 : decode cX0_isEngaged 10 = .ok (.getfield 47, 3) := by decide +kernel
theorem dX0_isEngaged_13 : decode cX0_isEngaged 13 = .ok (.invokestatic 50, 3) := by decide +kernel
theorem dX0_isEngaged_16 : decode cX0_isEngaged 16 = .ok (.ifCond .eq 7, 3) := by decide +kernel
theorem dX0_isEngaged_19 : decode cX0_isEngaged 19 = .ok (.iconst 1, 1) := by decide +kernel
theorem dX0_isEngaged_20 : decode cX0_isEngaged 20 = .ok (.goto 4, 3) := by decide +kernel
theorem dX0_isEngaged_23 : decode cX0_isEngaged 23 = .ok (.iconst 0, 1) := by decide +kernel
theorem dX0_isEngaged_24 : decode cX0_isEngaged 24 = .ok (.ireturn, 1) := by decide +kernel
theorem dX0_engagedMask_0 : decode cX0_engagedMask 0 = .ok (.aload_n 0, 1) := by decide +kernel
theorem dX0_engagedMask_1 : decode cX0_engagedMask 1 = .ok (.getfield 47, 3) := by decide +kernel
theorem dX0_engagedMask_4 : decode cX0_engagedMask 4 = .ok (.ireturn, 1) := by decide +kernel
theorem dX0_changeEngagedMask_0 : decode cX0_changeEngagedMask 0 = .ok (.aload_n 0, 1) := by decide +kernel
theorem dX0_changeEngagedMask_1 : decode cX0_changeEngagedMask 1 = .ok (.iload_n 1, 1) := by decide +kernel
theorem dX0_changeEngagedMask_2 : decode cX0_changeEngagedMask 2 = .ok (.putfield 47, 3) := by decide +kernel
theorem dX0_changeEngagedMask_5 : decode cX0_changeEngagedMask 5 = .ok (.return_, 1) := by decide +kernel
theorem dX0_copyFrom_0 : decode cX0_copyFrom 0 = .ok (.iconst 0, 1) := by decide +kernel
theorem dX0_copyFrom_1 : decode cX0_copyFrom 1 = .ok (.istore_n 2, 1) := by decide +kernel
theorem dX0_copyFrom_2 : decode cX0_copyFrom 2 = .ok (.iload_n 2, 1) := by decide +kernel
theorem dX0_copyFrom_3 : decode cX0_copyFrom 3 = .ok (.iconst 3, 1) := by decide +kernel
theorem dX0_copyFrom_4 : decode cX0_copyFrom 4 = .ok (.if_icmp .ge 69, 3) := by decide +kernel
theorem dX0_copyFrom_7 : decode cX0_copyFrom 7 = .ok (.aload_n 0, 1) := by decide +kernel
theorem dX0_copyFrom_8 : decode cX0_copyFrom 8 = .ok (.getfield 9, 3) := by decide +kernel
theorem dX0_copyFrom_11 : decode cX0_copyFrom 11 = .ok (.iload_n 2, 1) := by decide +kernel
theorem dX0_copyFrom_12 : decode cX0_copyFrom 12 = .ok (.aload_n 1, 1) := by decide +kernel
theorem dX0_copyFrom_13 : decode cX0_copyFrom 13 = .ok (.getfield 9, 3) := by decide +kernel
theorem dX0_copyFrom_16 : decode cX0_copyFrom 16 = .ok (.iload_n 2, 1) := by decide +kernel
theorem dX0_copyFrom_17 : decode cX0_copyFrom 17 = .ok (.iaload, 1) := by decide +kernel
theorem dX0_copyFrom_18 : decode cX0_copyFrom 18 = .ok (.iastore, 1) := by decide +kernel
theorem dX0_copyFrom_19 : decode cX0_copyFrom 19 = .ok (.aload_n 0, 1) := by decide +kernel
theorem dX0_copyFrom_20 : decode cX0_copyFrom 20 = .ok (.getfield 15, 3) := by decide +kernel
theorem dX0_copyFrom_23 : decode cX0_copyFrom 23 = .ok (.iload_n 2, 1) := by decide +kernel
theorem dX0_copyFrom_24 : decode cX0_copyFrom 24 = .ok (.aload_n 1, 1) := by decide +kernel
theorem dX0_copyFrom_25 : decode cX0_copyFrom 25 = .ok (.getfield 15, 3) := by decide +kernel
theorem dX0_copyFrom_28 : decode cX0_copyFrom 28 = .ok (.iload_n 2, 1) := by decide +kernel
theorem dX0_copyFrom_29 : decode cX0_copyFrom 29 = .ok (.iaload, 1) := by decide +kernel
theorem dX0_copyFrom_30 : decode cX0_copyFrom 30 = .ok (.iastore, 1) := by decide +kernel
theorem dX0_copyFrom_31 : decode cX0_copyFrom 31 = .ok (.aload_n 0, 1) := by decide +kernel
theorem dX0_copyFrom_32 : decode cX0_copyFrom 32 = .ok (.getfield 18, 3) := by decide +kernel
theorem dX0_copyFrom_35 : decode cX0_copyFrom 35 = .ok (.iload_n 2, 1) := by decide +kernel
theorem dX0_copyFrom_36 : decode cX0_copyFrom 36 = .ok (.aload_n 1, 1) := by decide +kernel
theorem dX0_copyFrom_37 : decode cX0_copyFrom 37 = .ok (.getfield 18, 3) := by decide +kernel
theorem dX0_copyFrom_40 : decode cX0_copyFrom 40 = .ok (.iload_n 2, 1) := by decide +kernel
theorem dX0_copyFrom_41 : decode cX0_copyFrom 41 = .ok (.iaload, 1) := by decide +kernel
theorem dX0_copyFrom_42 : decode cX0_copyFrom 42 = .ok (.iastore, 1) := by decide +kernel
theorem dX0_copyFrom_43 : decode cX0_copyFrom 43 = .ok (.aload_n 0, 1) := by decide +kernel
theorem dX0_copyFrom_44 : decode cX0_copyFrom 44 = .ok (.getfield 21, 3) := by decide +kernel
theorem dX0_copyFrom_47 : decode cX0_copyFrom 47 = .ok (.iload_n 2, 1) := by decide +kernel
theorem dX0_copyFrom_48 : decode cX0_copyFrom 48 = .ok (.aload_n 1, 1) := by decide +kernel
theorem dX0_copyFrom_49 : decode cX0_copyFrom 49 = .ok (.getfield 21, 3) := by decide +kernel
theorem dX0_copyFrom_52 : decode cX0_copyFrom 52 = .ok (.iload_n 2, 1) := by decide +kernel
theorem dX0_copyFrom_53 : decode cX0_copyFrom 53 = .ok (.iaload, 1) := by decide +kernel
theorem dX0_copyFrom_54 : decode cX0_copyFrom 54 = .ok (.iastore, 1) := by decide +kernel
theorem dX0_copyFrom_55 : decode cX0_copyFrom 55 = .ok (.aload_n 0, 1) := by decide +kernel
theorem dX0_copyFrom_56 : decode cX0_copyFrom 56 = .ok (.getfield 24, 3) := by decide +kernel
theorem dX0_copyFrom_59 : decode cX0_copyFrom 59 = .ok (.iload_n 2, 1) := by decide +kernel
theorem dX0_copyFrom_60 : decode cX0_copyFrom 60 = .ok (.aload_n 1, 1) := by decide +kernel
theorem dX0_copyFrom_61 : decode cX0_copyFrom 61 = .ok (.getfield 24, 3) := by decide +kernel
theorem dX0_copyFrom_64 : decode cX0_copyFrom 64 = .ok (.iload_n 2, 1) := by decide +kernel
theorem dX0_copyFrom_65 : decode cX0_copyFrom 65 = .ok (.iaload, 1) := by decide +kernel
theorem dX0_copyFrom_66 : decode cX0_copyFrom 66 = .ok (.iastore, 1) := by decide +kernel
theorem dX0_copyFrom_67 : decode cX0_copyFrom 67 = .ok (.iinc 2 1, 3) := by decide +kernel
theorem dX0_copyFrom_70 : decode cX0_copyFrom 70 = .ok (.goto (-68), 3) := by decide +kernel
theorem dX0_copyFrom_73 : decode cX0_copyFrom 73 = .ok (.iconst 0, 1) := by decide +kernel
theorem dX0_copyFrom_74 : decode cX0_copyFrom 74 = .ok (.istore_n 2, 1) := by decide +kernel
theorem dX0_copyFrom_75 : decode cX0_copyFrom 75 = .ok (.iload_n 2, 1) := by decide +kernel
theorem dX0_copyFrom_76 : decode cX0_copyFrom 76 = .ok (.bipush 6, 2) := by decide +kernel
theorem dX0_copyFrom_78 : decode cX0_copyFrom 78 = .ok (.if_icmp .ge 45, 3) := by decide +kernel
theorem dX0_copyFrom_81 : decode cX0_copyFrom 81 = .ok (.aload_n 0, 1) := by decide +kernel
theorem dX0_copyFrom_82 : decode cX0_copyFrom 82 = .ok (.getfield 27, 3) := by decide +kernel
theorem dX0_copyFrom_85 : decode cX0_copyFrom 85 = .ok (.iload_n 2, 1) := by decide +kernel
theorem dX0_copyFrom_86 : decode cX0_copyFrom 86 = .ok (.aload_n 1, 1) := by decide +kernel
theorem dX0_copyFrom_87 : decode cX0_copyFrom 87 = .ok (.getfield 27, 3) := by decide +kernel
theorem dX0_copyFrom_90 : decode cX0_copyFrom 90 = .ok (.iload_n 2, 1) := by decide +kernel
theorem dX0_copyFrom_91 : decode cX0_copyFrom 91 = .ok (.iaload, 1) := by decide +kernel
theorem dX0_copyFrom_92 : decode cX0_copyFrom 92 = .ok (.iastore, 1) := by decide +kernel
theorem dX0_copyFrom_93 : decode cX0_copyFrom 93 = .ok (.aload_n 0, 1) := by decide +kernel
theorem dX0_copyFrom_94 : decode cX0_copyFrom 94 = .ok (.getfield 30, 3) := by decide +kernel
theorem dX0_copyFrom_97 : decode cX0_copyFrom 97 = .ok (.iload_n 2, 1) := by decide +kernel
theorem dX0_copyFrom_98 : decode cX0_copyFrom 98 = .ok (.aload_n 1, 1) := by decide +kernel
theorem dX0_copyFrom_99 : decode cX0_copyFrom 99 = .ok (.getfield 30, 3) := by decide +kernel
theorem dX0_copyFrom_102 : decode cX0_copyFrom 102 = .ok (.iload_n 2, 1) := by decide +kernel
theorem dX0_copyFrom_103 : decode cX0_copyFrom 103 = .ok (.iaload, 1) := by decide +kernel
theorem dX0_copyFrom_104 : decode cX0_copyFrom 104 = .ok (.iastore, 1) := by decide +kernel
theorem dX0_copyFrom_105 : decode cX0_copyFrom 105 = .ok (.aload_n 0, 1) := by decide +kernel
theorem dX0_copyFrom_106 : decode cX0_copyFrom 106 = .ok (.getfield 33, 3) := by decide +kernel
theorem dX0_copyFrom_109 : decode cX0_copyFrom 109 = .ok (.iload_n 2, 1) := by decide +kernel
theorem dX0_copyFrom_110 : decode cX0_copyFrom 110 = .ok (.aload_n 1, 1) := by decide +kernel
theorem dX0_copyFrom_111 : decode cX0_copyFrom 111 = .ok (.getfield 33, 3) := by decide +kernel
theorem dX0_copyFrom_114 : decode cX0_copyFrom 114 = .ok (.iload_n 2, 1) := by decide +kernel
theorem dX0_copyFrom_115 : decode cX0_copyFrom 115 = .ok (.iaload, 1) := by decide +kernel
theorem dX0_copyFrom_116 : decode cX0_copyFrom 116 = .ok (.iastore, 1) := by decide +kernel
theorem dX0_copyFrom_117 : decode cX0_copyFrom 117 = .ok (.iinc 2 1, 3) := by decide +kernel
theorem dX0_copyFrom_120 : decode cX0_copyFrom 120 = .ok (.goto (-45), 3) := by decide +kernel
theorem dX0_copyFrom_123 : decode cX0_copyFrom 123 = .ok (.aload_n 0, 1) := by decide +kernel
theorem dX0_copyFrom_124 : decode cX0_copyFrom 124 = .ok (.aload_n 1, 1) := by decide +kernel
theorem dX0_copyFrom_125 : decode cX0_copyFrom 125 = .ok (.getfield 36, 3) := by decide +kernel
theorem dX0_copyFrom_128 : decode cX0_copyFrom 128 = .ok (.putfield 36, 3) := by decide +kernel
theorem dX0_copyFrom_131 : decode cX0_copyFrom 131 = .ok (.aload_n 0, 1) := by decide +kernel
theorem dX0_copyFrom_132 : decode cX0_copyFrom 132 = .ok (.aload_n 1, 1) := by decide +kernel
theorem dX0_copyFrom_133 : decode cX0_copyFrom 133 = .ok (.getfield 40, 3) := by decide +kernel
theorem dX0_copyFrom_136 : decode cX0_copyFrom 136 = .ok (.putfield 40, 3) := by decide +kernel
theorem dX0_copyFrom_139 : decode cX0_copyFrom 139 = .ok (.aload_n 0, 1) := by decide +kernel
theorem dX0_copyFrom_140 : decode cX0_copyFrom 140 = .ok (.aload_n 1, 1) := by decide +kernel
theorem dX0_copyFrom_141 : decode cX0_copyFrom 141 = .ok (.getfield 47, 3) := by decide +kernel
theorem dX0_copyFrom_144 : decode cX0_copyFrom 144 = .ok (.putfield 47, 3) := by decide +kernel
theorem dX0_copyFrom_147 : decode cX0_copyFrom 147 = .ok (.return_, 1) := by decide +kernel
theorem dX0_writeSetSpeeds_0 : decode cX0_writeSetSpeeds 0 = .ok (.iconst 0, 1) := by decide +kernel
theorem dX0_writeSetSpeeds_1 : decode cX0_writeSetSpeeds 1 = .ok (.istore_n 3, 1) := by decide +kernel
theorem dX0_writeSetSpeeds_2 : decode cX0_writeSetSpeeds 2 = .ok (.iload_n 3, 1) := by decide +kernel
theorem dX0_writeSetSpeeds_3 : decode cX0_writeSetSpeeds 3 = .ok (.aload_n 0, 1) := by decide +kernel
theorem dX0_writeSetSpeeds_4 : decode cX0_writeSetSpeeds 4 = .ok (.getfield 36, 3) := by decide +kernel
theorem dX0_writeSetSpeeds_7 : decode cX0_writeSetSpeeds 7 = .ok (.if_icmp .ge 84, 3) := by decide +kernel
theorem dX0_writeSetSpeeds_10 : decode cX0_writeSetSpeeds 10 = .ok (.iload_n 3, 1) := by decide +kernel
theorem dX0_writeSetSpeeds_11 : decode cX0_writeSetSpeeds 11 = .ok (.iconst 3, 1) := by decide +kernel
theorem dX0_writeSetSpeeds_12 : decode cX0_writeSetSpeeds 12 = .ok (.if_icmp .ge 79, 3) := by decide +kernel
theorem dX0_writeSetSpeeds_15 : decode cX0_writeSetSpeeds 15 = .ok (.iload_n 2, 1) := by decide +kernel
theorem dX0_writeSetSpeeds_16 : decode cX0_writeSetSpeeds 16 = .ok (.iload_n 3, 1) := by decide +kernel
theorem dX0_writeSetSpeeds_17 : decode cX0_writeSetSpeeds 17 = .ok (.iadd, 1) := by decide +kernel
theorem dX0_writeSetSpeeds_18 : decode cX0_writeSetSpeeds 18 = .ok (.istore 4, 2) := by decide +kernel
theorem dX0_writeSetSpeeds_20 : decode cX0_writeSetSpeeds 20 = .ok (.aload_n 1, 1) := by decide +kernel
theorem dX0_writeSetSpeeds_21 : decode cX0_writeSetSpeeds 21 = .ok (.iload 4, 2) := by decide +kernel
theorem dX0_writeSetSpeeds_23 : decode cX0_writeSetSpeeds 23 = .ok (.aload_n 0, 1) := by decide +kernel
theorem dX0_writeSetSpeeds_24 : decode cX0_writeSetSpeeds 24 = .ok (.getfield 9, 3) := by decide +kernel
theorem dX0_writeSetSpeeds_27 : decode cX0_writeSetSpeeds 27 = .ok (.iload_n 3, 1) := by decide +kernel
theorem dX0_writeSetSpeeds_28 : decode cX0_writeSetSpeeds 28 = .ok (.iaload, 1) := by decide +kernel
theorem dX0_writeSetSpeeds_29 : decode cX0_writeSetSpeeds 29 = .ok (.aload_n 0, 1) := by decide +kernel
theorem dX0_writeSetSpeeds_30 : decode cX0_writeSetSpeeds 30 = .ok (.getfield 21, 3) := by decide +kernel
theorem dX0_writeSetSpeeds_33 : decode cX0_writeSetSpeeds 33 = .ok (.iload_n 3, 1) := by decide +kernel
theorem dX0_writeSetSpeeds_34 : decode cX0_writeSetSpeeds 34 = .ok (.iaload, 1) := by decide +kernel
theorem dX0_writeSetSpeeds_35 : decode cX0_writeSetSpeeds 35 = .ok (.i2l, 1) := by decide +kernel
theorem dX0_writeSetSpeeds_36 : decode cX0_writeSetSpeeds 36 = .ok (.invokevirtual 54, 3) := by decide +kernel
theorem dX0_writeSetSpeeds_39 : decode cX0_writeSetSpeeds 39 = .ok (.aload_n 1, 1) := by decide +kernel
theorem dX0_writeSetSpeeds_40 : decode cX0_writeSetSpeeds 40 = .ok (.iload 4, 2) := by decide +kernel
theorem dX0_writeSetSpeeds_42 : decode cX0_writeSetSpeeds 42 = .ok (.aload_n 0, 1) := by decide +kernel
theorem dX0_writeSetSpeeds_43 : decode cX0_writeSetSpeeds 43 = .ok (.getfield 15, 3) := by decide +kernel
theorem dX0_writeSetSpeeds_46 : decode cX0_writeSetSpeeds 46 = .ok (.iload_n 3, 1) := by decide +kernel
theorem dX0_writeSetSpeeds_47 : decode cX0_writeSetSpeeds 47 = .ok (.iaload, 1) := by decide +kernel
theorem dX0_writeSetSpeeds_48 : decode cX0_writeSetSpeeds 48 = .ok (.aload_n 0, 1) := by decide +kernel
theorem dX0_writeSetSpeeds_49 : decode cX0_writeSetSpeeds 49 = .ok (.getfield 24, 3) := by decide +kernel
theorem dX0_writeSetSpeeds_52 : decode cX0_writeSetSpeeds 52 = .ok (.iload_n 3, 1) := by decide +kernel
theorem dX0_writeSetSpeeds_53 : decode cX0_writeSetSpeeds 53 = .ok (.iaload, 1) := by decide +kernel
theorem dX0_writeSetSpeeds_54 : decode cX0_writeSetSpeeds 54 = .ok (.i2l, 1) := by decide +kernel
theorem dX0_writeSetSpeeds_55 : decode cX0_writeSetSpeeds 55 = .ok (.invokevirtual 54, 3) := by decide +kernel
theorem dX0_writeSetSpeeds_58 : decode cX0_writeSetSpeeds 58 = .ok (.aload_n 1, 1) := by decide +kernel
theorem dX0_writeSetSpeeds_59 : decode cX0_writeSetSpeeds 59 = .ok (.iload 4, 2) := by decide +kernel
theorem dX0_writeSetSpeeds_61 : decode cX0_writeSetSpeeds 61 = .ok (.aload_n 0, 1) := by decide +kernel
theorem dX0_writeSetSpeeds_62 : decode cX0_writeSetSpeeds 62 = .ok (.getfield 18, 3) := by decide +kernel
theorem dX0_writeSetSpeeds_65 : decode cX0_writeSetSpeeds 65 = .ok (.iload_n 3, 1) := by decide +kernel
theorem dX0_writeSetSpeeds_66 : decode cX0_writeSetSpeeds 66 = .ok (.iaload, 1) := by decide +kernel
theorem dX0_writeSetSpeeds_67 : decode cX0_writeSetSpeeds 67 = .ok (.aload_n 0, 1) := by decide +kernel
theorem dX0_writeSetSpeeds_68 : decode cX0_writeSetSpeeds 68 = .ok (.getfield 21, 3) := by decide +kernel
theorem dX0_writeSetSpeeds_71 : decode cX0_writeSetSpeeds 71 = .ok (.iload_n 3, 1) := by decide +kernel
theorem dX0_writeSetSpeeds_72 : decode cX0_writeSetSpeeds 72 = .ok (.iaload, 1) := by decide +kernel
theorem dX0_writeSetSpeeds_73 : decode cX0_writeSetSpeeds 73 = .ok (.aload_n 0, 1) := by decide +kernel
theorem dX0_writeSetSpeeds_74 : decode cX0_writeSetSpeeds 74 = .ok (.getfield 24, 3) := by decide +kernel
theorem dX0_writeSetSpeeds_77 : decode cX0_writeSetSpeeds 77 = .ok (.iload_n 3, 1) := by decide +kernel
theorem dX0_writeSetSpeeds_78 : decode cX0_writeSetSpeeds 78 = .ok (.iaload, 1) := by decide +kernel
theorem dX0_writeSetSpeeds_79 : decode cX0_writeSetSpeeds 79 = .ok (.iadd, 1) := by decide +kernel
theorem dX0_writeSetSpeeds_80 : decode cX0_writeSetSpeeds 80 = .ok (.ineg, 1) := by decide +kernel
theorem dX0_writeSetSpeeds_81 : decode cX0_writeSetSpeeds 81 = .ok (.i2l, 1) := by decide +kernel
theorem dX0_writeSetSpeeds_82 : decode cX0_writeSetSpeeds 82 = .ok (.invokevirtual 54, 3) := by decide +kernel
theorem dX0_writeSetSpeeds_85 : decode cX0_writeSetSpeeds 85 = .ok (.iinc 3 1, 3) := by decide +kernel
theorem dX0_writeSetSpeeds_88 : decode cX0_writeSetSpeeds 88 = .ok (.goto (-86), 3) := by decide +kernel
theorem dX0_writeSetSpeeds_91 : decode cX0_writeSetSpeeds 91 = .ok (.return_, 1) := by decide +kernel
theorem dX0_writeElementSpeeds_0 : decode cX0_writeElementSpeeds 0 = .ok (.iconst 0, 1) := by decide +kernel
theorem dX0_writeElementSpeeds_1 : decode cX0_writeElementSpeeds 1 = .ok (.istore 4, 2) := by decide +kernel
theorem dX0_writeElementSpeeds_3 : decode cX0_writeElementSpeeds 3 = .ok (.iload 4, 2) := by decide +kernel
theorem dX0_writeElementSpeeds_5 : decode cX0_writeElementSpeeds 5 = .ok (.aload_n 0, 1) := by decide +kernel
theorem dX0_writeElementSpeeds_6 : decode cX0_writeElementSpeeds 6 = .ok (.getfield 40, 3) := by decide +kernel
theorem dX0_writeElementSpeeds_9 : decode cX0_writeElementSpeeds 9 = .ok (.if_icmp .ge 70, 3) := by decide +kernel
theorem dX0_writeElementSpeeds_12 : decode cX0_writeElementSpeeds 12 = .ok (.iload 4, 2) := by decide +kernel
theorem dX0_writeElementSpeeds_14 : decode cX0_writeElementSpeeds 14 = .ok (.bipush 6, 2) := by decide +kernel
theorem dX0_writeElementSpeeds_16 : decode cX0_writeElementSpeeds 16 = .ok (.if_icmp .ge 63, 3) := by decide +kernel
theorem dX0_writeElementSpeeds_19 : decode cX0_writeElementSpeeds 19 = .ok (.iload 4, 2) := by decide +kernel
theorem dX0_writeElementSpeeds_21 : decode cX0_writeElementSpeeds 21 = .ok (.iload_n 3, 1) := by decide +kernel
theorem dX0_writeElementSpeeds_22 : decode cX0_writeElementSpeeds 22 = .ok (.invokestatic 50, 3) := by decide +kernel
theorem dX0_writeElementSpeeds_25 : decode cX0_writeElementSpeeds 25 = .ok (.ifCond .eq 48, 3) := by decide +kernel
theorem dX0_writeElementSpeeds_28 : decode cX0_writeElementSpeeds 28 = .ok (.aload_n 1, 1) := by decide +kernel
theorem dX0_writeElementSpeeds_29 : decode cX0_writeElementSpeeds 29 = .ok (.iload_n 2, 1) := by decide +kernel
theorem dX0_writeElementSpeeds_30 : decode cX0_writeElementSpeeds 30 = .ok (.iload 4, 2) := by decide +kernel
theorem dX0_writeElementSpeeds_32 : decode cX0_writeElementSpeeds 32 = .ok (.iadd, 1) := by decide +kernel
theorem dX0_writeElementSpeeds_33 : decode cX0_writeElementSpeeds 33 = .ok (.aload_n 0, 1) := by decide +kernel
theorem dX0_writeElementSpeeds_34 : decode cX0_writeElementSpeeds 34 = .ok (.getfield 27, 3) := by decide +kernel
theorem dX0_writeElementSpeeds_37 : decode cX0_writeElementSpeeds 37 = .ok (.iload 4, 2) := by decide +kernel
theorem dX0_writeElementSpeeds_39 : decode cX0_writeElementSpeeds 39 = .ok (.iaload, 1) := by decide +kernel
theorem dX0_writeElementSpeeds_40 : decode cX0_writeElementSpeeds 40 = .ok (.lconst 1, 1) := by decide +kernel
theorem dX0_writeElementSpeeds_41 : decode cX0_writeElementSpeeds 41 = .ok (.invokevirtual 54, 3) := by decide +kernel
theorem dX0_writeElementSpeeds_44 : decode cX0_writeElementSpeeds 44 = .ok (.aload_n 0, 1) := by decide +kernel
theorem dX0_writeElementSpeeds_45 : decode cX0_writeElementSpeeds 45 = .ok (.getfield 30, 3) := by decide +kernel
theorem dX0_writeElementSpeeds_48 : decode cX0_writeElementSpeeds 48 = .ok (.iload 4, 2) := by decide +kernel
theorem dX0_writeElementSpeeds_50 : decode cX0_writeElementSpeeds 50 = .ok (.iaload, 1) := by decide +kernel
theorem dX0_writeElementSpeeds_51 : decode cX0_writeElementSpeeds 51 = .ok (.iconst (-1), 1) := by decide +kernel
theorem dX0_writeElementSpeeds_52 : decode cX0_writeElementSpeeds 52 = .ok (.if_icmp .eq 21, 3) := by decide +kernel
theorem dX0_writeElementSpeeds_55 : decode cX0_writeElementSpeeds 55 = .ok (.aload_n 1, 1) := by decide +kernel
theorem dX0_writeElementSpeeds_56 : decode cX0_writeElementSpeeds 56 = .ok (.iload_n 2, 1) := by decide +kernel
theorem dX0_writeElementSpeeds_57 : decode cX0_writeElementSpeeds 57 = .ok (.iload 4, 2) := by decide +kernel
theorem dX0_writeElementSpeeds_59 : decode cX0_writeElementSpeeds 59 = .ok (.iadd, 1) := by decide +kernel
theorem dX0_writeElementSpeeds_60 : decode cX0_writeElementSpeeds 60 = .ok (.aload_n 0, 1) := by decide +kernel
theorem dX0_writeElementSpeeds_61 : decode cX0_writeElementSpeeds 61 = .ok (.getfield 30, 3) := by decide +kernel
theorem dX0_writeElementSpeeds_64 : decode cX0_writeElementSpeeds 64 = .ok (.iload 4, 2) := by decide +kernel
theorem dX0_writeElementSpeeds_66 : decode cX0_writeElementSpeeds 66 = .ok (.iaload, 1) := by decide +kernel
theorem dX0_writeElementSpeeds_67 : decode cX0_writeElementSpeeds 67 = .ok (.ldc2_w 60, 3) := by decide +kernel
theorem dX0_writeElementSpeeds_70 : decode cX0_writeElementSpeeds 70 = .ok (.invokevirtual 54, 3) := by decide +kernel
theorem dX0_writeElementSpeeds_73 : decode cX0_writeElementSpeeds 73 = .ok (.iinc 4 1, 3) := by decide +kernel
theorem dX0_writeElementSpeeds_76 : decode cX0_writeElementSpeeds 76 = .ok (.goto (-73), 3) := by decide +kernel
theorem dX0_writeElementSpeeds_79 : decode cX0_writeElementSpeeds 79 = .ok (.return_, 1) := by decide +kernel
theorem dX0_writeSetTorques_0 : decode cX0_writeSetTorques 0 = .ok (.iconst 0, 1) := by decide +kernel
theorem dX0_writeSetTorques_1 : decode cX0_writeSetTorques 1 = .ok (.istore_n 3, 1) := by decide +kernel
theorem dX0_writeSetTorques_2 : decode cX0_writeSetTorques 2 = .ok (.iload_n 3, 1) := by decide +kernel
theorem dX0_writeSetTorques_3 : decode cX0_writeSetTorques 3 = .ok (.aload_n 0, 1) := by decide +kernel
theorem dX0_writeSetTorques_4 : decode cX0_writeSetTorques 4 = .ok (.getfield 36, 3) := by decide +kernel
theorem dX0_writeSetTorques_7 : decode cX0_writeSetTorques 7 = .ok (.if_icmp .ge 84, 3) := by decide +kernel
theorem dX0_writeSetTorques_10 : decode cX0_writeSetTorques 10 = .ok (.iload_n 3, 1) := by decide +kernel
theorem dX0_writeSetTorques_11 : decode cX0_writeSetTorques 11 = .ok (.iconst 3, 1) := by decide +kernel
theorem dX0_writeSetTorques_12 : decode cX0_writeSetTorques 12 = .ok (.if_icmp .ge 79, 3) := by decide +kernel
theorem dX0_writeSetTorques_15 : decode cX0_writeSetTorques 15 = .ok (.iload_n 2, 1) := by decide +kernel
theorem dX0_writeSetTorques_16 : decode cX0_writeSetTorques 16 = .ok (.iload_n 3, 1) := by decide +kernel
theorem dX0_writeSetTorques_17 : decode cX0_writeSetTorques 17 = .ok (.iadd, 1) := by decide +kernel
theorem dX0_writeSetTorques_18 : decode cX0_writeSetTorques 18 = .ok (.istore 4, 2) := by decide +kernel
theorem dX0_writeSetTorques_20 : decode cX0_writeSetTorques 20 = .ok (.aload_n 1, 1) := by decide +kernel
theorem dX0_writeSetTorques_21 : decode cX0_writeSetTorques 21 = .ok (.aload_n 0, 1) := by decide +kernel
theorem dX0_writeSetTorques_22 : decode cX0_writeSetTorques 22 = .ok (.getfield 9, 3) := by decide +kernel
theorem dX0_writeSetTorques_25 : decode cX0_writeSetTorques 25 = .ok (.iload_n 3, 1) := by decide +kernel
theorem dX0_writeSetTorques_26 : decode cX0_writeSetTorques 26 = .ok (.iaload, 1) := by decide +kernel
theorem dX0_writeSetTorques_27 : decode cX0_writeSetTorques 27 = .ok (.iload 4, 2) := by decide +kernel
theorem dX0_writeSetTorques_29 : decode cX0_writeSetTorques 29 = .ok (.aload_n 0, 1) := by decide +kernel
theorem dX0_writeSetTorques_30 : decode cX0_writeSetTorques 30 = .ok (.getfield 21, 3) := by decide +kernel
theorem dX0_writeSetTorques_33 : decode cX0_writeSetTorques 33 = .ok (.iload_n 3, 1) := by decide +kernel
theorem dX0_writeSetTorques_34 : decode cX0_writeSetTorques 34 = .ok (.iaload, 1) := by decide +kernel
theorem dX0_writeSetTorques_35 : decode cX0_writeSetTorques 35 = .ok (.i2l, 1) := by decide +kernel
theorem dX0_writeSetTorques_36 : decode cX0_writeSetTorques 36 = .ok (.invokevirtual 54, 3) := by decide +kernel
theorem dX0_writeSetTorques_39 : decode cX0_writeSetTorques 39 = .ok (.aload_n 1, 1) := by decide +kernel
theorem dX0_writeSetTorques_40 : decode cX0_writeSetTorques 40 = .ok (.aload_n 0, 1) := by decide +kernel
theorem dX0_writeSetTorques_41 : decode cX0_writeSetTorques 41 = .ok (.getfield 15, 3) := by decide +kernel
theorem dX0_writeSetTorques_44 : decode cX0_writeSetTorques 44 = .ok (.iload_n 3, 1) := by decide +kernel
theorem dX0_writeSetTorques_45 : decode cX0_writeSetTorques 45 = .ok (.iaload, 1) := by decide +kernel
theorem dX0_writeSetTorques_46 : decode cX0_writeSetTorques 46 = .ok (.iload 4, 2) := by decide +kernel
theorem dX0_writeSetTorques_48 : decode cX0_writeSetTorques 48 = .ok (.aload_n 0, 1) := by decide +kernel
theorem dX0_writeSetTorques_49 : decode cX0_writeSetTorques 49 = .ok (.getfield 24, 3) := by decide +kernel
theorem dX0_writeSetTorques_52 : decode cX0_writeSetTorques 52 = .ok (.iload_n 3, 1) := by decide +kernel
theorem dX0_writeSetTorques_53 : decode cX0_writeSetTorques 53 = .ok (.iaload, 1) := by decide +kernel
theorem dX0_writeSetTorques_54 : decode cX0_writeSetTorques 54 = .ok (.i2l, 1) := by decide +kernel
theorem dX0_writeSetTorques_55 : decode cX0_writeSetTorques 55 = .ok (.invokevirtual 54, 3) := by decide +kernel
theorem dX0_writeSetTorques_58 : decode cX0_writeSetTorques 58 = .ok (.aload_n 1, 1) := by decide +kernel
theorem dX0_writeSetTorques_59 : decode cX0_writeSetTorques 59 = .ok (.aload_n 0, 1) := by decide +kernel
theorem dX0_writeSetTorques_60 : decode cX0_writeSetTorques 60 = .ok (.getfield 18, 3) := by decide +kernel
theorem dX0_writeSetTorques_63 : decode cX0_writeSetTorques 63 = .ok (.iload_n 3, 1) := by decide +kernel
theorem dX0_writeSetTorques_64 : decode cX0_writeSetTorques 64 = .ok (.iaload, 1) := by decide +kernel
theorem dX0_writeSetTorques_65 : decode cX0_writeSetTorques 65 = .ok (.iload 4, 2) := by decide +kernel
theorem dX0_writeSetTorques_67 : decode cX0_writeSetTorques 67 = .ok (.aload_n 0, 1) := by decide +kernel
theorem dX0_writeSetTorques_68 : decode cX0_writeSetTorques 68 = .ok (.getfield 21, 3) := by decide +kernel
theorem dX0_writeSetTorques_71 : decode cX0_writeSetTorques 71 = .ok (.iload_n 3, 1) := by decide +kernel
theorem dX0_writeSetTorques_72 : decode cX0_writeSetTorques 72 = .ok (.iaload, 1) := by decide +kernel
theorem dX0_writeSetTorques_73 : decode cX0_writeSetTorques 73 = .ok (.aload_n 0, 1) := by decide +kernel
theorem dX0_writeSetTorques_74 : decode cX0_writeSetTorques 74 = .ok (.getfield 24, 3) := by decide +kernel
theorem dX0_writeSetTorques_77 : decode cX0_writeSetTorques 77 = .ok (.iload_n 3, 1) := by decide +kernel
theorem dX0_writeSetTorques_78 : decode cX0_writeSetTorques 78 = .ok (.iaload, 1) := by decide +kernel
theorem dX0_writeSetTorques_79 : decode cX0_writeSetTorques 79 = .ok (.iadd, 1) := by decide +kernel
theorem dX0_writeSetTorques_80 : decode cX0_writeSetTorques 80 = .ok (.ineg, 1) := by decide +kernel
theorem dX0_writeSetTorques_81 : decode cX0_writeSetTorques 81 = .ok (.i2l, 1) := by decide +kernel
theorem dX0_writeSetTorques_82 : decode cX0_writeSetTorques 82 = .ok (.invokevirtual 54, 3) := by decide +kernel
theorem dX0_writeSetTorques_85 : decode cX0_writeSetTorques 85 = .ok (.iinc 3 1, 3) := by decide +kernel
theorem dX0_writeSetTorques_88 : decode cX0_writeSetTorques 88 = .ok (.goto (-86), 3) := by decide +kernel
theorem dX0_writeSetTorques_91 : decode cX0_writeSetTorques 91 = .ok (.return_, 1) := by decide +kernel
theorem dX0_writeElementTorques_0 : decode cX0_writeElementTorques 0 = .ok (.iconst 0, 1) := by decide +kernel
theorem dX0_writeElementTorques_1 : decode cX0_writeElementTorques 1 = .ok (.istore 4, 2) := by decide +kernel
theorem dX0_writeElementTorques_3 : decode cX0_writeElementTorques 3 = .ok (.iload 4, 2) := by decide +kernel
theorem dX0_writeElementTorques_5 : decode cX0_writeElementTorques 5 = .ok (.aload_n 0, 1) := by decide +kernel
theorem dX0_writeElementTorques_6 : decode cX0_writeElementTorques 6 = .ok (.getfield 40, 3) := by decide +kernel
theorem dX0_writeElementTorques_9 : decode cX0_writeElementTorques 9 = .ok (.if_icmp .ge 70, 3) := by decide +kernel
theorem dX0_writeElementTorques_12 : decode cX0_writeElementTorques 12 = .ok (.iload 4, 2) := by decide +kernel
theorem dX0_writeElementTorques_14 : decode cX0_writeElementTorques 14 = .ok (.bipush 6, 2) := by decide +kernel
theorem dX0_writeElementTorques_16 : decode cX0_writeElementTorques 16 = .ok (.if_icmp .ge 63, 3) := by decide +kernel
theorem dX0_writeElementTorques_19 : decode cX0_writeElementTorques 19 = .ok (.iload 4, 2) := by decide +kernel
theorem dX0_writeElementTorques_21 : decode cX0_writeElementTorques 21 = .ok (.iload_n 3, 1) := by decide +kernel
theorem dX0_writeElementTorques_22 : decode cX0_writeElementTorques 22 = .ok (.invokestatic 50, 3) := by decide +kernel
theorem dX0_writeElementTorques_25 : decode cX0_writeElementTorques 25 = .ok (.ifCond .eq 48, 3) := by decide +kernel
theorem dX0_writeElementTorques_28 : decode cX0_writeElementTorques 28 = .ok (.aload_n 1, 1) := by decide +kernel
theorem dX0_writeElementTorques_29 : decode cX0_writeElementTorques 29 = .ok (.aload_n 0, 1) := by decide +kernel
theorem dX0_writeElementTorques_30 : decode cX0_writeElementTorques 30 = .ok (.getfield 27, 3) := by decide +kernel
theorem dX0_writeElementTorques_33 : decode cX0_writeElementTorques 33 = .ok (.iload 4, 2) := by decide +kernel
theorem dX0_writeElementTorques_35 : decode cX0_writeElementTorques 35 = .ok (.iaload, 1) := by decide +kernel
theorem dX0_writeElementTorques_36 : decode cX0_writeElementTorques 36 = .ok (.iload_n 2, 1) := by decide +kernel
theorem dX0_writeElementTorques_37 : decode cX0_writeElementTorques 37 = .ok (.iload 4, 2) := by decide +kernel
theorem dX0_writeElementTorques_39 : decode cX0_writeElementTorques 39 = .ok (.iadd, 1) := by decide +kernel
theorem dX0_writeElementTorques_40 : decode cX0_writeElementTorques 40 = .ok (.lconst 1, 1) := by decide +kernel
theorem dX0_writeElementTorques_41 : decode cX0_writeElementTorques 41 = .ok (.invokevirtual 54, 3) := by decide +kernel
theorem dX0_writeElementTorques_44 : decode cX0_writeElementTorques 44 = .ok (.aload_n 0, 1) := by decide +kernel
theorem dX0_writeElementTorques_45 : decode cX0_writeElementTorques 45 = .ok (.getfield 30, 3) := by decide +kernel
theorem dX0_writeElementTorques_48 : decode cX0_writeElementTorques 48 = .ok (.iload 4, 2) := by decide +kernel
theorem dX0_writeElementTorques_50 : decode cX0_writeElementTorques 50 = .ok (.iaload, 1) := by decide +kernel
theorem dX0_writeElementTorques_51 : decode cX0_writeElementTorques 51 = .ok (.iconst (-1), 1) := by decide +kernel
theorem dX0_writeElementTorques_52 : decode cX0_writeElementTorques 52 = .ok (.if_icmp .eq 21, 3) := by decide +kernel
theorem dX0_writeElementTorques_55 : decode cX0_writeElementTorques 55 = .ok (.aload_n 1, 1) := by decide +kernel
theorem dX0_writeElementTorques_56 : decode cX0_writeElementTorques 56 = .ok (.aload_n 0, 1) := by decide +kernel
theorem dX0_writeElementTorques_57 : decode cX0_writeElementTorques 57 = .ok (.getfield 30, 3) := by decide +kernel
theorem dX0_writeElementTorques_60 : decode cX0_writeElementTorques 60 = .ok (.iload 4, 2) := by decide +kernel
theorem dX0_writeElementTorques_62 : decode cX0_writeElementTorques 62 = .ok (.iaload, 1) := by decide +kernel
theorem dX0_writeElementTorques_63 : decode cX0_writeElementTorques 63 = .ok (.iload_n 2, 1) := by decide +kernel
theorem dX0_writeElementTorques_64 : decode cX0_writeElementTorques 64 = .ok (.iload 4, 2) := by decide +kernel
theorem dX0_writeElementTorques_66 : decode cX0_writeElementTorques 66 = .ok (.iadd, 1) := by decide +kernel
theorem dX0_writeElementTorques_67 : decode cX0_writeElementTorques 67 = .ok (.ldc2_w 60, 3) := by decide +kernel
theorem dX0_writeElementTorques_70 : decode cX0_writeElementTorques 70 = .ok (.invokevirtual 54, 3) := by decide +kernel
theorem dX0_writeElementTorques_73 : decode cX0_writeElementTorques 73 = .ok (.iinc 4 1, 3) := by decide +kernel
theorem dX0_writeElementTorques_76 : decode cX0_writeElementTorques 76 = .ok (.goto (-73), 3) := by decide +kernel
theorem dX0_writeElementTorques_79 : decode cX0_writeElementTorques 79 = .ok (.return_, 1) := by decide +kernel
theorem dX0_isIn_0 : decode cX0_isIn 0 = .ok (.iload_n 1, 1) := by decide +kernel
theorem dX0_isIn_1 : decode cX0_isIn 1 = .ok (.iload_n 0, 1) := by decide +kernel
theorem dX0_isIn_2 : decode cX0_isIn 2 = .ok (.ishr, 1) := by decide +kernel
theorem dX0_isIn_3 : decode cX0_isIn 3 = .ok (.iconst 1, 1) := by decide +kernel
theorem dX0_isIn_4 : decode cX0_isIn 4 = .ok (.iand, 1) := by decide +kernel
theorem dX0_isIn_5 : decode cX0_isIn 5 = .ok (.iconst 1, 1) := by decide +kernel
theorem dX0_isIn_6 : decode cX0_isIn 6 = .ok (.if_icmp .ne 7, 3) := by decide +kernel
theorem dX0_isIn_9 : decode cX0_isIn 9 = .ok (.iconst 1, 1) := by decide +kernel
theorem dX0_isIn_10 : decode cX0_isIn 10 = .ok (.goto 4, 3) := by decide +kernel
theorem dX0_isIn_13 : decode cX0_isIn 13 = .ok (.iconst 0, 1) := by decide +kernel
theorem dX0_isIn_14 : decode cX0_isIn 14 = .ok (.ireturn, 1) := by decide +kernel
theorem dX1_init_0 : decode cX1_init 0 = .ok (.aload_n 0, 1) := by decide +kernel
theorem dX1_init_1 : decode cX1_init 1 = .ok (.invokespecial 5, 3) := by decide +kernel
theorem dX1_init_4 : decode cX1_init 4 = .ok (.aload_n 0, 1) := by decide +kernel
theorem dX1_init_5 : decode cX1_init 5 = .ok (.bipush 10, 2) := by decide +kernel
theorem dX1_init_7 : decode cX1_init 7 = .ok (.bipush 11, 2) := by decide +kernel
theorem dX1_init_9 : decode cX1_init 9 = .ok (.multianewarray 11 2, 4) := by decide +kernel
theorem dX1_init_13 : decode cX1_init 13 = .ok (.putfield 13, 3) := by decide +kernel
theorem dX1_init_16 : decode cX1_init 16 = .ok (.aload_n 0, 1) := by decide +kernel
theorem dX1_init_17 : decode cX1_init 17 = .ok (.bipush 10, 2) := by decide +kernel
theorem dX1_init_19 : decode cX1_init 19 = .ok (.newarray .int, 2) := by decide +kernel
theorem dX1_init_21 : decode cX1_init 21 = .ok (.putfield 16, 3) := by decide +kernel
theorem dX1_init_24 : decode cX1_init 24 = .ok (.aload_n 0, 1) := by decide +kernel
theorem dX1_init_25 : decode cX1_init 25 = .ok (.bipush 10, 2) := by decide +kernel
theorem dX1_init_27 : decode cX1_init 27 = .ok (.newarray .boolean, 2) := by decide +kernel
theorem dX1_init_29 : decode cX1_init 29 = .ok (.putfield 20, 3) := by decide +kernel
theorem dX1_init_32 : decode cX1_init 32 = .ok (.return_, 1) := by decide +kernel
theorem dX1_clear_0 : decode cX1_clear 0 = .ok (.iconst 0, 1) := by decide +kernel
theorem dX1_clear_1 : decode cX1_clear 1 = .ok (.istore_n 1, 1) := by decide +kernel
theorem dX1_clear_2 : decode cX1_clear 2 = .ok (.iload_n 1, 1) := by decide +kernel
theorem dX1_clear_3 : decode cX1_clear 3 = .ok (.bipush 10, 2) := by decide +kernel
theorem dX1_clear_5 : decode cX1_clear 5 = .ok (.if_icmp .ge 32, 3) := by decide +kernel
theorem dX1_clear_8 : decode cX1_clear 8 = .ok (.iconst 0, 1) := by decide +kernel
theorem dX1_clear_9 : decode cX1_clear 9 = .ok (.istore_n 2, 1) := by decide +kernel
theorem dX1_clear_10 : decode cX1_clear 10 = .ok (.iload_n 2, 1) := by decide +kernel
theorem dX1_clear_11 : decode cX1_clear 11 = .ok (.bipush 11, 2) := by decide +kernel
theorem dX1_clear_13 : decode cX1_clear 13 = .ok (.if_icmp .ge 18, 3) := by decide +kernel
theorem dX1_clear_16 : decode cX1_clear 16 = .ok (.aload_n 0, 1) := by decide +kernel
theorem dX1_clear_17 : decode cX1_clear 17 = .ok (.getfield 13, 3) := by decide +kernel
theorem dX1_clear_20 : decode cX1_clear 20 = .ok (.iload_n 1, 1) := by decide +kernel
theorem dX1_clear_21 : decode cX1_clear 21 = .ok (.aaload, 1) := by decide +kernel
theorem dX1_clear_22 : decode cX1_clear 22 = .ok (.iload_n 2, 1) := by decide +kernel
theorem dX1_clear_23 : decode cX1_clear 23 = .ok (.lconst 0, 1) := by decide +kernel
theorem dX1_clear_24 : decode cX1_clear 24 = .ok (.lastore, 1) := by decide +kernel
theorem dX1_clear_25 : decode cX1_clear 25 = .ok (.iinc 2 1, 3) := by decide +kernel
theorem dX1_clear_28 : decode cX1_clear 28 = .ok (.goto (-18), 3) := by decide +kernel
theorem dX1_clear_31 : decode cX1_clear 31 = .ok (.iinc 1 1, 3) := by decide +kernel
theorem dX1_clear_34 : decode cX1_clear 34 = .ok (.goto (-32), 3) := by decide +kernel
theorem dX1_clear_37 : decode cX1_clear 37 = .ok (.return_, 1) := by decide +kernel
theorem dX1_add_0 : decode cX1_add 0 = .ok (.iload_n 1, 1) := by decide +kernel
theorem dX1_add_1 : decode cX1_add 1 = .ok (.ifCond .lt 31, 3) := by decide +kernel
theorem dX1_add_4 : decode cX1_add 4 = .ok (.iload_n 1, 1) := by decide +kernel
theorem dX1_add_5 : decode cX1_add 5 = .ok (.bipush 10, 2) := by decide +kernel
theorem dX1_add_7 : decode cX1_add 7 = .ok (.if_icmp .ge 25, 3) := by decide +kernel
theorem dX1_add_10 : decode cX1_add 10 = .ok (.iload_n 2, 1) := by decide +kernel
theorem dX1_add_11 : decode cX1_add 11 = .ok (.ifCond .lt 21, 3) := by decide +kernel
theorem dX1_add_14 : decode cX1_add 14 = .ok (.iload_n 2, 1) := by decide +kernel
theorem dX1_add_15 : decode cX1_add 15 = .ok (.bipush 11, 2) := by decide +kernel
theorem dX1_add_17 : decode cX1_add 17 = .ok (.if_icmp .ge 15, 3) := by decide +kernel
theorem dX1_add_20 : decode cX1_add 20 = .ok (.aload_n 0, 1) := by decide +kernel
theorem dX1_add_21 : decode cX1_add 21 = .ok (.getfield 13, 3) := by decide +kernel
theorem dX1_add_24 : decode cX1_add 24 = .ok (.iload_n 1, 1) := by decide +kernel
theorem dX1_add_25 : decode cX1_add 25 = .ok (.aaload, 1) := by decide +kernel
theorem dX1_add_26 : decode cX1_add 26 = .ok (.iload_n 2, 1) := by decide +kernel
theorem dX1_add_27 : decode cX1_add 27 = .ok (.dup2, 1) := by decide +kernel
theorem dX1_add_28 : decode cX1_add 28 = .ok (.laload, 1) := by decide +kernel
theorem dX1_add_29 : decode cX1_add 29 = .ok (.lload_n 3, 1) := by decide +kernel
theorem dX1_add_30 : decode cX1_add 30 = .ok (.ladd, 1) := by decide +kernel
theorem dX1_add_31 : decode cX1_add 31 = .ok (.lastore, 1) := by decide +kernel
theorem dX1_add_32 : decode cX1_add 32 = .ok (.return_, 1) := by decide +kernel
theorem dX1_reduce_0 : decode cX1_reduce 0 = .ok (.iconst 0, 1) := by decide +kernel
theorem dX1_reduce_1 : decode cX1_reduce 1 = .ok (.istore_n 1, 1) := by decide +kernel
theorem dX1_reduce_2 : decode cX1_reduce 2 = .ok (.iload_n 1, 1) := by decide +kernel
theorem dX1_reduce_3 : decode cX1_reduce 3 = .ok (.bipush 10, 2) := by decide +kernel
theorem dX1_reduce_5 : decode cX1_reduce 5 = .ok (.if_icmp .ge 16, 3) := by decide +kernel
theorem dX1_reduce_8 : decode cX1_reduce 8 = .ok (.aload_n 0, 1) := by decide +kernel
theorem dX1_reduce_9 : decode cX1_reduce 9 = .ok (.getfield 20, 3) := by decide +kernel
theorem dX1_reduce_12 : decode cX1_reduce 12 = .ok (.iload_n 1, 1) := by decide +kernel
theorem dX1_reduce_13 : decode cX1_reduce 13 = .ok (.iconst 0, 1) := by decide +kernel
theorem dX1_reduce_14 : decode cX1_reduce 14 = .ok (.bastore, 1) := by decide +kernel
theorem dX1_reduce_15 : decode cX1_reduce 15 = .ok (.iinc 1 1, 3) := by decide +kernel
theorem dX1_reduce_18 : decode cX1_reduce 18 = .ok (.goto (-16), 3) := by decide +kernel
theorem dX1_reduce_21 : decode cX1_reduce 21 = .ok (.iconst 0, 1) := by decide +kernel
theorem dX1_reduce_22 : decode cX1_reduce 22 = .ok (.istore_n 1, 1) := by decide +kernel
theorem dX1_reduce_23 : decode cX1_reduce 23 = .ok (.iload_n 1, 1) := by decide +kernel
theorem dX1_reduce_24 : decode cX1_reduce 24 = .ok (.bipush 10, 2) := by decide +kernel
theorem dX1_reduce_26 : decode cX1_reduce 26 = .ok (.if_icmp .ge 78, 3) := by decide +kernel
theorem dX1_reduce_29 : decode cX1_reduce 29 = .ok (.aload_n 0, 1) := by decide +kernel
theorem dX1_reduce_30 : decode cX1_reduce 30 = .ok (.iload_n 1, 1) := by decide +kernel
theorem dX1_reduce_31 : decode cX1_reduce 31 = .ok (.invokevirtual 24, 3) := by decide +kernel
theorem dX1_reduce_34 : decode cX1_reduce 34 = .ok (.istore_n 2, 1) := by decide +kernel
theorem dX1_reduce_35 : decode cX1_reduce 35 = .ok (.aload_n 0, 1) := by decide +kernel
theorem dX1_reduce_36 : decode cX1_reduce 36 = .ok (.getfield 16, 3) := by decide +kernel
theorem dX1_reduce_39 : decode cX1_reduce 39 = .ok (.iload_n 1, 1) := by decide +kernel
theorem dX1_reduce_40 : decode cX1_reduce 40 = .ok (.iload_n 2, 1) := by decide +kernel
theorem dX1_reduce_41 : decode cX1_reduce 41 = .ok (.iastore, 1) := by decide +kernel
theorem dX1_reduce_42 : decode cX1_reduce 42 = .ok (.iload_n 2, 1) := by decide +kernel
theorem dX1_reduce_43 : decode cX1_reduce 43 = .ok (.ifCond .lt 55, 3) := by decide +kernel
theorem dX1_reduce_46 : decode cX1_reduce 46 = .ok (.iload_n 2, 1) := by decide +kernel
theorem dX1_reduce_47 : decode cX1_reduce 47 = .ok (.bipush 10, 2) := by decide +kernel
theorem dX1_reduce_49 : decode cX1_reduce 49 = .ok (.if_icmp .ge 49, 3) := by decide +kernel
theorem dX1_reduce_52 : decode cX1_reduce 52 = .ok (.aload_n 0, 1) := by decide +kernel
theorem dX1_reduce_53 : decode cX1_reduce 53 = .ok (.getfield 20, 3) := by decide +kernel
theorem dX1_reduce_56 : decode cX1_reduce 56 = .ok (.iload_n 2, 1) := by decide +kernel
theorem dX1_reduce_57 : decode cX1_reduce 57 = .ok (.iconst 1, 1) := by decide +kernel
theorem dX1_reduce_58 : decode cX1_reduce 58 = .ok (.bastore, 1) := by decide +kernel
theorem dX1_reduce_59 : decode cX1_reduce 59 = .ok (.iconst 0, 1) := by decide +kernel
theorem dX1_reduce_60 : decode cX1_reduce 60 = .ok (.istore_n 3, 1) := by decide +kernel
theorem dX1_reduce_61 : decode cX1_reduce 61 = .ok (.iload_n 3, 1) := by decide +kernel
theorem dX1_reduce_62 : decode cX1_reduce 62 = .ok (.bipush 10, 2) := by decide +kernel
theorem dX1_reduce_64 : decode cX1_reduce 64 = .ok (.if_icmp .ge 34, 3) := by decide +kernel
theorem dX1_reduce_67 : decode cX1_reduce 67 = .ok (.iload_n 3, 1) := by decide +kernel
theorem dX1_reduce_68 : decode cX1_reduce 68 = .ok (.iload_n 2, 1) := by decide +kernel
theorem dX1_reduce_69 : decode cX1_reduce 69 = .ok (.if_icmp .eq 23, 3) := by decide +kernel
theorem dX1_reduce_72 : decode cX1_reduce 72 = .ok (.aload_n 0, 1) := by decide +kernel
theorem dX1_reduce_73 : decode cX1_reduce 73 = .ok (.getfield 13, 3) := by decide +kernel
theorem dX1_reduce_76 : decode cX1_reduce 76 = .ok (.iload_n 3, 1) := by decide +kernel
theorem dX1_reduce_77 : decode cX1_reduce 77 = .ok (.aaload, 1) := by decide +kernel
theorem dX1_reduce_78 : decode cX1_reduce 78 = .ok (.iload_n 1, 1) := by decide +kernel
theorem dX1_reduce_79 : decode cX1_reduce 79 = .ok (.laload, 1) := by decide +kernel
theorem dX1_reduce_80 : decode cX1_reduce 80 = .ok (.lconst 0, 1) := by decide +kernel
theorem dX1_reduce_81 : decode cX1_reduce 81 = .ok (.lcmp, 1) := by decide +kernel
theorem dX1_reduce_82 : decode cX1_reduce 82 = .ok (.ifCond .eq 10, 3) := by decide +kernel
theorem dX1_reduce_85 : decode cX1_reduce 85 = .ok (.aload_n 0, 1) := by decide +kernel
theorem dX1_reduce_86 : decode cX1_reduce 86 = .ok (.iload_n 3, 1) := by decide +kernel
theorem dX1_reduce_87 : decode cX1_reduce 87 = .ok (.iload_n 2, 1) := by decide +kernel
theorem dX1_reduce_88 : decode cX1_reduce 88 = .ok (.iload_n 1, 1) := by decide +kernel
theorem dX1_reduce_89 : decode cX1_reduce 89 = .ok (.invokevirtual 28, 3) := by decide +kernel
theorem dX1_reduce_92 : decode cX1_reduce 92 = .ok (.iinc 3 1, 3) := by decide +kernel
theorem dX1_reduce_95 : decode cX1_reduce 95 = .ok (.goto (-34), 3) := by decide +kernel
theorem dX1_reduce_98 : decode cX1_reduce 98 = .ok (.iinc 1 1, 3) := by decide +kernel
theorem dX1_reduce_101 : decode cX1_reduce 101 = .ok (.goto (-78), 3) := by decide +kernel
theorem dX1_reduce_104 : decode cX1_reduce 104 = .ok (.aload_n 0, 1) := by decide +kernel
theorem dX1_reduce_105 : decode cX1_reduce 105 = .ok (.aload_n 0, 1) := by decide +kernel
theorem dX1_reduce_106 : decode cX1_reduce 106 = .ok (.invokevirtual 32, 3) := by decide +kernel
theorem dX1_reduce_109 : decode cX1_reduce 109 = .ok (.putfield 36, 3) := by decide +kernel
theorem dX1_reduce_112 : decode cX1_reduce 112 = .ok (.return_, 1) := by decide +kernel
theorem dX1_isDetermined_0 : decode cX1_isDetermined 0 = .ok (.aload_n 0, 1) := by decide +kernel
theorem dX1_isDetermined_1 : decode cX1_isDetermined 1 = .ok (.getfield 36, 3) := by decide +kernel
theorem dX1_isDetermined_4 : decode cX1_isDetermined 4 = .ok (.ifCond .eq 13, 3) := by decide +kernel
theorem dX1_isDetermined_7 : decode cX1_isDetermined 7 = .ok (.iload_n 1, 1) := by decide +kernel
theorem dX1_isDetermined_8 : decode cX1_isDetermined 8 = .ok (.ifCond .lt 9, 3) := by decide +kernel
theorem dX1_isDetermined_11 : decode cX1_isDetermined 11 = .ok (.iload_n 1, 1) := by decide +kernel
theorem dX1_isDetermined_12 : decode cX1_isDetermined 12 = .ok (.bipush 10, 2) := by decide +kernel
theorem dX1_isDetermined_14 : decode cX1_isDetermined 14 = .ok (.if_icmp .lt 5, 3) := by decide +kernel
theorem dX1_isDetermined_17 : decode cX1_isDetermined 17 = .ok (.iconst 0, 1) := by decide +kernel
theorem dX1_isDetermined_18 : decode cX1_isDetermined 18 = .ok (.ireturn, 1) := by decide +kernel
theorem dX1_isDetermined_19 : decode cX1_isDetermined 19 = .ok (.aload_n 0, 1) := by decide +kernel
theorem dX1_isDetermined_20 : decode cX1_isDetermined 20 = .ok (.getfield 16, 3) := by decide +kernel
theorem dX1_isDetermined_23 : decode cX1_isDetermined 23 = .ok (.iload_n 1, 1) := by decide +kernel
theorem dX1_isDetermined_24 : decode cX1_isDetermined 24 = .ok (.iaload, 1) := by decide +kernel
theorem dX1_isDetermined_25 : decode cX1_isDetermined 25 = .ok (.istore_n 2, 1) := by decide +kernel
theorem dX1_isDetermined_26 : decode cX1_isDetermined 26 = .ok (.iload_n 2, 1) := by decide +kernel
theorem dX1_isDetermined_27 : decode cX1_isDetermined 27 = .ok (.ifCond .lt 9, 3) := by decide +kernel
theorem dX1_isDetermined_30 : decode cX1_isDetermined 30 = .ok (.iload_n 2, 1) := by decide +kernel
theorem dX1_isDetermined_31 : decode cX1_isDetermined 31 = .ok (.bipush 10, 2) := by decide +kernel
theorem dX1_isDetermined_33 : decode cX1_isDetermined 33 = .ok (.if_icmp .lt 5, 3) := by decide +kernel
theorem dX1_isDetermined_36 : decode cX1_isDetermined 36 = .ok (.iconst 0, 1) := by decide +kernel
theorem dX1_isDetermined_37 : decode cX1_isDetermined 37 = .ok (.ireturn, 1) := by decide +kernel
theorem dX1_isDetermined_38 : decode cX1_isDetermined 38 = .ok (.iconst 0, 1) := by decide +kernel
theorem dX1_isDetermined_39 : decode cX1_isDetermined 39 = .ok (.istore_n 3, 1) := by decide +kernel
theorem dX1_isDetermined_40 : decode cX1_isDetermined 40 = .ok (.iload_n 3, 1) := by decide +kernel
theorem dX1_isDetermined_41 : decode cX1_isDetermined 41 = .ok (.bipush 10, 2) := by decide +kernel
theorem dX1_isDetermined_43 : decode cX1_isDetermined 43 = .ok (.if_icmp .ge 29, 3) := by decide +kernel
theorem dX1_isDetermined_46 : decode cX1_isDetermined 46 = .ok (.iload_n 3, 1) := by decide +kernel
theorem dX1_isDetermined_47 : decode cX1_isDetermined 47 = .ok (.iload_n 1, 1) := by decide +kernel
theorem dX1_isDetermined_48 : decode cX1_isDetermined 48 = .ok (.if_icmp .eq 18, 3) := by decide +kernel
theorem dX1_isDetermined_51 : decode cX1_isDetermined 51 = .ok (.aload_n 0, 1) := by decide +kernel
theorem dX1_isDetermined_52 : decode cX1_isDetermined 52 = .ok (.getfield 13, 3) := by decide +kernel
theorem dX1_isDetermined_55 : decode cX1_isDetermined 55 = .ok (.iload_n 2, 1) := by decide +kernel
theorem dX1_isDetermined_56 : decode cX1_isDetermined 56 = .ok (.aaload, 1) := by decide +kernel
theorem dX1_isDetermined_57 : decode cX1_isDetermined 57 = .ok (.iload_n 3, 1) := by decide +kernel
theorem dX1_isDetermined_58 : decode cX1_isDetermined 58 = .ok (.laload, 1) := by decide +kernel
theorem dX1_isDetermined_59 : decode cX1_isDetermined 59 = .ok (.lconst 0, 1) := by decide +kernel
theorem dX1_isDetermined_60 : decode cX1_isDetermined 60 = .ok (.lcmp, 1) := by decide +kernel
theorem dX1_isDetermined_61 : decode cX1_isDetermined 61 = .ok (.ifCond .eq 5, 3) := by decide +kernel
theorem dX1_isDetermined_64 : decode cX1_isDetermined 64 = .ok (.iconst 0, 1) := by decide +kernel
theorem dX1_isDetermined_65 : decode cX1_isDetermined 65 = .ok (.ireturn, 1) := by decide +kernel
theorem dX1_isDetermined_66 : decode cX1_isDetermined 66 = .ok (.iinc 3 1, 3) := by decide +kernel
theorem dX1_isDetermined_69 : decode cX1_isDetermined 69 = .ok (.goto (-29), 3) := by decide +kernel
theorem dX1_isDetermined_72 : decode cX1_isDetermined 72 = .ok (.iconst 1, 1) := by decide +kernel
theorem dX1_isDetermined_73 : decode cX1_isDetermined 73 = .ok (.ireturn, 1) := by decide +kernel
theorem dX1_isSolvable_0 : decode cX1_isSolvable 0 = .ok (.aload_n 0, 1) := by decide +kernel
theorem dX1_isSolvable_1 : decode cX1_isSolvable 1 = .ok (.getfield 36, 3) := by decide +kernel
theorem dX1_isSolvable_4 : decode cX1_isSolvable 4 = .ok (.ireturn, 1) := by decide +kernel
theorem dX1_valuePart_0 : decode cX1_valuePart 0 = .ok (.iload_n 1, 1) := by decide +kernel
theorem dX1_valuePart_1 : decode cX1_valuePart 1 = .ok (.ifCond .lt 9, 3) := by decide +kernel
theorem dX1_valuePart_4 : decode cX1_valuePart 4 = .ok (.iload_n 1, 1) := by decide +kernel
theorem dX1_valuePart_5 : decode cX1_valuePart 5 = .ok (.bipush 10, 2) := by decide +kernel
theorem dX1_valuePart_7 : decode cX1_valuePart 7 = .ok (.if_icmp .lt 5, 3) := by decide +kernel
theorem dX1_valuePart_10 : decode cX1_valuePart 10 = .ok (.lconst 0, 1) := by decide +kernel
theorem dX1_valuePart_11 : decode cX1_valuePart 11 = .ok (.lreturn, 1) := by decide +kernel
theorem dX1_valuePart_12 : decode cX1_valuePart 12 = .ok (.aload_n 0, 1) := by decide +kernel
theorem dX1_valuePart_13 : decode cX1_valuePart 13 = .ok (.getfield 16, 3) := by decide +kernel
theorem dX1_valuePart_16 : decode cX1_valuePart 16 = .ok (.iload_n 1, 1) := by decide +kernel
theorem dX1_valuePart_17 : decode cX1_valuePart 17 = .ok (.iaload, 1) := by decide +kernel
theorem dX1_valuePart_18 : decode cX1_valuePart 18 = .ok (.istore_n 3, 1) := by decide +kernel
theorem dX1_valuePart_19 : decode cX1_valuePart 19 = .ok (.iload_n 3, 1) := by decide +kernel
theorem dX1_valuePart_20 : decode cX1_valuePart 20 = .ok (.ifCond .lt 9, 3) := by decide +kernel
theorem dX1_valuePart_23 : decode cX1_valuePart 23 = .ok (.iload_n 3, 1) := by decide +kernel
theorem dX1_valuePart_24 : decode cX1_valuePart 24 = .ok (.bipush 10, 2) := by decide +kernel
theorem dX1_valuePart_26 : decode cX1_valuePart 26 = .ok (.if_icmp .lt 5, 3) := by decide +kernel
theorem dX1_valuePart_29 : decode cX1_valuePart 29 = .ok (.lconst 0, 1) := by decide +kernel
theorem dX1_valuePart_30 : decode cX1_valuePart 30 = .ok (.lreturn, 1) := by decide +kernel
theorem dX1_valuePart_31 : decode cX1_valuePart 31 = .ok (.aload_n 0, 1) := by decide +kernel
theorem dX1_valuePart_32 : decode cX1_valuePart 32 = .ok (.getfield 13, 3) := by decide +kernel
theorem dX1_valuePart_35 : decode cX1_valuePart 35 = .ok (.iload_n 3, 1) := by decide +kernel
theorem dX1_valuePart_36 : decode cX1_valuePart 36 = .ok (.aaload, 1) := by decide +kernel
theorem dX1_valuePart_37 : decode cX1_valuePart 37 = .ok (.iload_n 1, 1) := by decide +kernel
theorem dX1_valuePart_38 : decode cX1_valuePart 38 = .ok (.laload, 1) := by decide +kernel
theorem dX1_valuePart_39 : decode cX1_valuePart 39 = .ok (.lstore 4, 2) := by decide +kernel
theorem dX1_valuePart_41 : decode cX1_valuePart 41 = .ok (.aload_n 0, 1) := by decide +kernel
theorem dX1_valuePart_42 : decode cX1_valuePart 42 = .ok (.getfield 13, 3) := by decide +kernel
theorem dX1_valuePart_45 : decode cX1_valuePart 45 = .ok (.iload_n 3, 1) := by decide +kernel
theorem dX1_valuePart_46 : decode cX1_valuePart 46 = .ok (.aaload, 1) := by decide +kernel
theorem dX1_valuePart_47 : decode cX1_valuePart 47 = .ok (.bipush 10, 2) := by decide +kernel
theorem dX1_valuePart_49 : decode cX1_valuePart 49 = .ok (.laload, 1) := by decide +kernel
theorem dX1_valuePart_50 : decode cX1_valuePart 50 = .ok (.lstore 6, 2) := by decide +kernel
theorem dX1_valuePart_52 : decode cX1_valuePart 52 = .ok (.lload 4, 2) := by decide +kernel
theorem dX1_valuePart_54 : decode cX1_valuePart 54 = .ok (.lload 6, 2) := by decide +kernel
theorem dX1_valuePart_56 : decode cX1_valuePart 56 = .ok (.invokestatic 40, 3) := by decide +kernel
theorem dX1_valuePart_59 : decode cX1_valuePart 59 = .ok (.lstore 8, 2) := by decide +kernel
theorem dX1_valuePart_61 : decode cX1_valuePart 61 = .ok (.lload 8, 2) := by decide +kernel
theorem dX1_valuePart_63 : decode cX1_valuePart 63 = .ok (.lconst 0, 1) := by decide +kernel
theorem dX1_valuePart_64 : decode cX1_valuePart 64 = .ok (.lcmp, 1) := by decide +kernel
theorem dX1_valuePart_65 : decode cX1_valuePart 65 = .ok (.ifCond .ne 5, 3) := by decide +kernel
theorem dX1_valuePart_68 : decode cX1_valuePart 68 = .ok (.lconst 0, 1) := by decide +kernel
theorem dX1_valuePart_69 : decode cX1_valuePart 69 = .ok (.lreturn, 1) := by decide +kernel
theorem dX1_valuePart_70 : decode cX1_valuePart 70 = .ok (.iload_n 2, 1) := by decide +kernel
theorem dX1_valuePart_71 : decode cX1_valuePart 71 = .ok (.ifCond .ne 8, 3) := by decide +kernel
theorem dX1_valuePart_74 : decode cX1_valuePart 74 = .ok (.lload 6, 2) := by decide +kernel
theorem dX1_valuePart_76 : decode cX1_valuePart 76 = .ok (.goto 5, 3) := by decide +kernel
theorem dX1_valuePart_79 : decode cX1_valuePart 79 = .ok (.lload 4, 2) := by decide +kernel
theorem dX1_valuePart_81 : decode cX1_valuePart 81 = .ok (.lload 8, 2) := by decide +kernel
theorem dX1_valuePart_83 : decode cX1_valuePart 83 = .ok (.ldiv, 1) := by decide +kernel
theorem dX1_valuePart_84 : decode cX1_valuePart 84 = .ok (.lstore 10, 2) := by decide +kernel
theorem dX1_valuePart_86 : decode cX1_valuePart 86 = .ok (.lload 4, 2) := by decide +kernel
theorem dX1_valuePart_88 : decode cX1_valuePart 88 = .ok (.lconst 0, 1) := by decide +kernel
theorem dX1_valuePart_89 : decode cX1_valuePart 89 = .ok (.lcmp, 1) := by decide +kernel
theorem dX1_valuePart_90 : decode cX1_valuePart 90 = .ok (.ifCond .ge 9, 3) := by decide +kernel
theorem dX1_valuePart_93 : decode cX1_valuePart 93 = .ok (.lload 10, 2) := by decide +kernel
theorem dX1_valuePart_95 : decode cX1_valuePart 95 = .ok (.lneg, 1) := by decide +kernel
theorem dX1_valuePart_96 : decode cX1_valuePart 96 = .ok (.goto 5, 3) := by decide +kernel
theorem dX1_valuePart_99 : decode cX1_valuePart 99 = .ok (.lload 10, 2) := by decide +kernel
theorem dX1_valuePart_101 : decode cX1_valuePart 101 = .ok (.lreturn, 1) := by decide +kernel
theorem dX1_freeRowWith_0 : decode cX1_freeRowWith 0 = .ok (.iconst 0, 1) := by decide +kernel
theorem dX1_freeRowWith_1 : decode cX1_freeRowWith 1 = .ok (.istore_n 2, 1) := by decide +kernel
theorem dX1_freeRowWith_2 : decode cX1_freeRowWith 2 = .ok (.iload_n 2, 1) := by decide +kernel
theorem dX1_freeRowWith_3 : decode cX1_freeRowWith 3 = .ok (.bipush 10, 2) := by decide +kernel
theorem dX1_freeRowWith_5 : decode cX1_freeRowWith 5 = .ok (.if_icmp .ge 33, 3) := by decide +kernel
theorem dX1_freeRowWith_8 : decode cX1_freeRowWith 8 = .ok (.aload_n 0, 1) := by decide +kernel
theorem dX1_freeRowWith_9 : decode cX1_freeRowWith 9 = .ok (.getfield 20, 3) := by decide +kernel
theorem dX1_freeRowWith_12 : decode cX1_freeRowWith 12 = .ok (.iload_n 2, 1) := by decide +kernel
theorem dX1_freeRowWith_13 : decode cX1_freeRowWith 13 = .ok (.baload, 1) := by decide +kernel
theorem dX1_freeRowWith_14 : decode cX1_freeRowWith 14 = .ok (.ifCond .ne 18, 3) := by decide +kernel
theorem dX1_freeRowWith_17 : decode cX1_freeRowWith 17 = .ok (.aload_n 0, 1) := by decide +kernel
theorem dX1_freeRowWith_18 : decode cX1_freeRowWith 18 = .ok (.getfield 13, 3) := by decide +kernel
theorem dX1_freeRowWith_21 : decode cX1_freeRowWith 21 = .ok (.iload_n 2, 1) := by decide +kernel
theorem dX1_freeRowWith_22 : decode cX1_freeRowWith 22 = .ok (.aaload, 1) := by decide +kernel
theorem dX1_freeRowWith_23 : decode cX1_freeRowWith 23 = .ok (.iload_n 1, 1) := by decide +kernel
theorem dX1_freeRowWith_24 : decode cX1_freeRowWith 24 = .ok (.laload, 1) := by decide +kernel
theorem dX1_freeRowWith_25 : decode cX1_freeRowWith 25 = .ok (.lconst 0, 1) := by decide +kernel
theorem dX1_freeRowWith_26 : decode cX1_freeRowWith 26 = .ok (.lcmp, 1) := by decide +kernel
theorem dX1_freeRowWith_27 : decode cX1_freeRowWith 27 = .ok (.ifCond .eq 5, 3) := by decide +kernel
theorem dX1_freeRowWith_30 : decode cX1_freeRowWith 30 = .ok (.iload_n 2, 1) := by decide +kernel
theorem dX1_freeRowWith_31 : decode cX1_freeRowWith 31 = .ok (.ireturn, 1) := by decide +kernel
theorem dX1_freeRowWith_32 : decode cX1_freeRowWith 32 = .ok (.iinc 2 1, 3) := by decide +kernel
theorem dX1_freeRowWith_35 : decode cX1_freeRowWith 35 = .ok (.goto (-33), 3) := by decide +kernel
theorem dX1_freeRowWith_38 : decode cX1_freeRowWith 38 = .ok (.iconst (-1), 1) := by decide +kernel
theorem dX1_freeRowWith_39 : decode cX1_freeRowWith 39 = .ok (.ireturn, 1) := by decide +kernel
theorem dX1_eliminate_0 : decode cX1_eliminate 0 = .ok (.aload_n 0, 1) := by decide +kernel
theorem dX1_eliminate_1 : decode cX1_eliminate 1 = .ok (.getfield 13, 3) := by decide +kernel
theorem dX1_eliminate_4 : decode cX1_eliminate 4 = .ok (.iload_n 1, 1) := by decide +kernel
theorem dX1_eliminate_5 : decode cX1_eliminate 5 = .ok (.aaload, 1) := by decide +kernel
theorem dX1_eliminate_6 : decode cX1_eliminate 6 = .ok (.iload_n 3, 1) := by decide +kernel
theorem dX1_eliminate_7 : decode cX1_eliminate 7 = .ok (.laload, 1) := by decide +kernel
theorem dX1_eliminate_8 : decode cX1_eliminate 8 = .ok (.lstore 4, 2) := by decide +kernel
theorem dX1_eliminate_10 : decode cX1_eliminate 10 = .ok (.aload_n 0, 1) := by decide +kernel
theorem dX1_eliminate_11 : decode cX1_eliminate 11 = .ok (.getfield 13, 3) := by decide +kernel
theorem dX1_eliminate_14 : decode cX1_eliminate 14 = .ok (.iload_n 2, 1) := by decide +kernel
theorem dX1_eliminate_15 : decode cX1_eliminate 15 = .ok (.aaload, 1) := by decide +kernel
theorem dX1_eliminate_16 : decode cX1_eliminate 16 = .ok (.iload_n 3, 1) := by decide +kernel
theorem dX1_eliminate_17 : decode cX1_eliminate 17 = .ok (.laload, 1) := by decide +kernel
theorem dX1_eliminate_18 : decode cX1_eliminate 18 = .ok (.lstore 6, 2) := by decide +kernel
theorem dX1_eliminate_20 : decode cX1_eliminate 20 = .ok (.lconst 0, 1) := by decide +kernel
theorem dX1_eliminate_21 : decode cX1_eliminate 21 = .ok (.lstore 8, 2) := by decide +kernel
theorem dX1_eliminate_23 : decode cX1_eliminate 23 = .ok (.iconst 0, 1) := by decide +kernel
theorem dX1_eliminate_24 : decode cX1_eliminate 24 = .ok (.istore 10, 2) := by decide +kernel
theorem dX1_eliminate_26 : decode cX1_eliminate 26 = .ok (.iload 10, 2) := by decide +kernel
theorem dX1_eliminate_28 : decode cX1_eliminate 28 = .ok (.bipush 11, 2) := by decide +kernel
theorem dX1_eliminate_30 : decode cX1_eliminate 30 = .ok (.if_icmp .ge 59, 3) := by decide +kernel
theorem dX1_eliminate_33 : decode cX1_eliminate 33 = .ok (.aload_n 0, 1) := by decide +kernel
theorem dX1_eliminate_34 : decode cX1_eliminate 34 = .ok (.getfield 13, 3) := by decide +kernel
theorem dX1_eliminate_37 : decode cX1_eliminate 37 = .ok (.iload_n 1, 1) := by decide +kernel
theorem dX1_eliminate_38 : decode cX1_eliminate 38 = .ok (.aaload, 1) := by decide +kernel
theorem dX1_eliminate_39 : decode cX1_eliminate 39 = .ok (.iload 10, 2) := by decide +kernel
theorem dX1_eliminate_41 : decode cX1_eliminate 41 = .ok (.aload_n 0, 1) := by decide +kernel
theorem dX1_eliminate_42 : decode cX1_eliminate 42 = .ok (.getfield 13, 3) := by decide +kernel
theorem dX1_eliminate_45 : decode cX1_eliminate 45 = .ok (.iload_n 1, 1) := by decide +kernel
theorem dX1_eliminate_46 : decode cX1_eliminate 46 = .ok (.aaload, 1) := by decide +kernel
theorem dX1_eliminate_47 : decode cX1_eliminate 47 = .ok (.iload 10, 2) := by decide +kernel
theorem dX1_eliminate_49 : decode cX1_eliminate 49 = .ok (.laload, 1) := by decide +kernel
theorem dX1_eliminate_50 : decode cX1_eliminate 50 = .ok (.lload 6, 2) := by decide +kernel
theorem dX1_eliminate_52 : decode cX1_eliminate 52 = .ok (.lmul, 1) := by decide +kernel
theorem dX1_eliminate_53 : decode cX1_eliminate 53 = .ok (.aload_n 0, 1) := by decide +kernel
theorem dX1_eliminate_54 : decode cX1_eliminate 54 = .ok (.getfield 13, 3) := by decide +kernel
theorem dX1_eliminate_57 : decode cX1_eliminate 57 = .ok (.iload_n 2, 1) := by decide +kernel
theorem dX1_eliminate_58 : decode cX1_eliminate 58 = .ok (.aaload, 1) := by decide +kernel
theorem dX1_eliminate_59 : decode cX1_eliminate 59 = .ok (.iload 10, 2) := by decide +kernel
theorem dX1_eliminate_61 : decode cX1_eliminate 61 = .ok (.laload, 1) := by decide +kernel
theorem dX1_eliminate_62 : decode cX1_eliminate 62 = .ok (.lload 4, 2) := by decide +kernel
theorem dX1_eliminate_64 : decode cX1_eliminate 64 = .ok (.lmul, 1) := by decide +kernel
theorem dX1_eliminate_65 : decode cX1_eliminate 65 = .ok (.lsub, 1) := by decide +kernel
theorem dX1_eliminate_66 : decode cX1_eliminate 66 = .ok (.lastore, 1) := by decide +kernel
theorem dX1_eliminate_67 : decode cX1_eliminate 67 = .ok (.lload 8, 2) := by decide +kernel
theorem dX1_eliminate_69 : decode cX1_eliminate 69 = .ok (.aload_n 0, 1) := by decide +kernel
theorem dX1_eliminate_70 : decode cX1_eliminate 70 = .ok (.getfield 13, 3) := by decide +kernel
theorem dX1_eliminate_73 : decode cX1_eliminate 73 = .ok (.iload_n 1, 1) := by decide +kernel
theorem dX1_eliminate_74 : decode cX1_eliminate 74 = .ok (.aaload, 1) := by decide +kernel
theorem dX1_eliminate_75 : decode cX1_eliminate 75 = .ok (.iload 10, 2) := by decide +kernel
theorem dX1_eliminate_77 : decode cX1_eliminate 77 = .ok (.laload, 1) := by decide +kernel
theorem dX1_eliminate_78 : decode cX1_eliminate 78 = .ok (.invokestatic 40, 3) := by decide +kernel
theorem dX1_eliminate_81 : decode cX1_eliminate 81 = .ok (.lstore 8, 2) := by decide +kernel
theorem dX1_eliminate_83 : decode cX1_eliminate 83 = .ok (.iinc 10 1, 3) := by decide +kernel
theorem dX1_eliminate_86 : decode cX1_eliminate 86 = .ok (.goto (-60), 3) := by decide +kernel
theorem dX1_eliminate_89 : decode cX1_eliminate 89 = .ok (.lload 8, 2) := by decide +kernel
theorem dX1_eliminate_91 : decode cX1_eliminate 91 = .ok (.lconst 1, 1) := by decide +kernel
theorem dX1_eliminate_92 : decode cX1_eliminate 92 = .ok (.lcmp, 1) := by decide +kernel
theorem dX1_eliminate_93 : decode cX1_eliminate 93 = .ok (.ifCond .le 33, 3) := by decide +kernel
theorem dX1_eliminate_96 : decode cX1_eliminate 96 = .ok (.iconst 0, 1) := by decide +kernel
theorem dX1_eliminate_97 : decode cX1_eliminate 97 = .ok (.istore 10, 2) := by decide +kernel
theorem dX1_eliminate_99 : decode cX1_eliminate 99 = .ok (.iload 10, 2) := by decide +kernel
theorem dX1_eliminate_101 : decode cX1_eliminate 101 = .ok (.bipush 11, 2) := by decide +kernel
theorem dX1_eliminate_103 : decode cX1_eliminate 103 = .ok (.if_icmp .ge 23, 3) := by decide +kernel
theorem dX1_eliminate_106 : decode cX1_eliminate 106 = .ok (.aload_n 0, 1) := by decide +kernel
theorem dX1_eliminate_107 : decode cX1_eliminate 107 = .ok (.getfield 13, 3) := by decide +kernel
theorem dX1_eliminate_110 : decode cX1_eliminate 110 = .ok (.iload_n 1, 1) := by decide +kernel
theorem dX1_eliminate_111 : decode cX1_eliminate 111 = .ok (.aaload, 1) := by decide +kernel
theorem dX1_eliminate_112 : decode cX1_eliminate 112 = .ok (.iload 10, 2) := by decide +kernel
theorem dX1_eliminate_114 : decode cX1_eliminate 114 = .ok (.dup2, 1) := by decide +kernel
theorem dX1_eliminate_115 : decode cX1_eliminate 115 = .ok (.laload, 1) := by decide +kernel
theorem dX1_eliminate_116 : decode cX1_eliminate 116 = .ok (.lload 8, 2) := by decide +kernel
theorem dX1_eliminate_118 : decode cX1_eliminate 118 = .ok (.ldiv, 1) := by decide +kernel
theorem dX1_eliminate_119 : decode cX1_eliminate 119 = .ok (.lastore, 1) := by decide +kernel
theorem dX1_eliminate_120 : decode cX1_eliminate 120 = .ok (.iinc 10 1, 3) := by decide +kernel
theorem dX1_eliminate_123 : decode cX1_eliminate 123 = .ok (.goto (-24), 3) := by decide +kernel
theorem dX1_eliminate_126 : decode cX1_eliminate 126 = .ok (.return_, 1) := by decide +kernel
theorem dX1_areRowsLeftEmpty_0 : decode cX1_areRowsLeftEmpty 0 = .ok (.iconst 0, 1) := by decide +kernel
theorem dX1_areRowsLeftEmpty_1 : decode cX1_areRowsLeftEmpty 1 = .ok (.istore_n 1, 1) := by decide +kernel
theorem dX1_areRowsLeftEmpty_2 : decode cX1_areRowsLeftEmpty 2 = .ok (.iload_n 1, 1) := by decide +kernel
theorem dX1_areRowsLeftEmpty_3 : decode cX1_areRowsLeftEmpty 3 = .ok (.bipush 10, 2) := by decide +kernel
theorem dX1_areRowsLeftEmpty_5 : decode cX1_areRowsLeftEmpty 5 = .ok (.if_icmp .ge 34, 3) := by decide +kernel
theorem dX1_areRowsLeftEmpty_8 : decode cX1_areRowsLeftEmpty 8 = .ok (.aload_n 0, 1) := by decide +kernel
theorem dX1_areRowsLeftEmpty_9 : decode cX1_areRowsLeftEmpty 9 = .ok (.getfield 20, 3) := by decide +kernel
theorem dX1_areRowsLeftEmpty_12 : decode cX1_areRowsLeftEmpty 12 = .ok (.iload_n 1, 1) := by decide +kernel
theorem dX1_areRowsLeftEmpty_13 : decode cX1_areRowsLeftEmpty 13 = .ok (.baload, 1) := by decide +kernel
theorem dX1_areRowsLeftEmpty_14 : decode cX1_areRowsLeftEmpty 14 = .ok (.ifCond .ne 19, 3) := by decide +kernel
theorem dX1_areRowsLeftEmpty_17 : decode cX1_areRowsLeftEmpty 17 = .ok (.aload_n 0, 1) := by decide +kernel
theorem dX1_areRowsLeftEmpty_18 : decode cX1_areRowsLeftEmpty 18 = .ok (.getfield 13, 3) := by decide +kernel
theorem dX1_areRowsLeftEmpty_21 : decode cX1_areRowsLeftEmpty 21 = .ok (.iload_n 1, 1) := by decide +kernel
theorem dX1_areRowsLeftEmpty_22 : decode cX1_areRowsLeftEmpty 22 = .ok (.aaload, 1) := by decide +kernel
theorem dX1_areRowsLeftEmpty_23 : decode cX1_areRowsLeftEmpty 23 = .ok (.bipush 10, 2) := by decide +kernel
theorem dX1_areRowsLeftEmpty_25 : decode cX1_areRowsLeftEmpty 25 = .ok (.laload, 1) := by decide +kernel
theorem dX1_areRowsLeftEmpty_26 : decode cX1_areRowsLeftEmpty 26 = .ok (.lconst 0, 1) := by decide +kernel
theorem dX1_areRowsLeftEmpty_27 : decode cX1_areRowsLeftEmpty 27 = .ok (.lcmp, 1) := by decide +kernel
theorem dX1_areRowsLeftEmpty_28 : decode cX1_areRowsLeftEmpty 28 = .ok (.ifCond .eq 5, 3) := by decide +kernel
theorem dX1_areRowsLeftEmpty_31 : decode cX1_areRowsLeftEmpty 31 = .ok (.iconst 0, 1) := by decide +kernel
theorem dX1_areRowsLeftEmpty_32 : decode cX1_areRowsLeftEmpty 32 = .ok (.ireturn, 1) := by decide +kernel
theorem dX1_areRowsLeftEmpty_33 : decode cX1_areRowsLeftEmpty 33 = .ok (.iinc 1 1, 3) := by decide +kernel
theorem dX1_areRowsLeftEmpty_36 : decode cX1_areRowsLeftEmpty 36 = .ok (.goto (-34), 3) := by decide +kernel
theorem dX1_areRowsLeftEmpty_39 : decode cX1_areRowsLeftEmpty 39 = .ok (.iconst 1, 1) := by decide +kernel
theorem dX1_areRowsLeftEmpty_40 : decode cX1_areRowsLeftEmpty 40 = .ok (.ireturn, 1) := by decide +kernel
theorem dX1_commonFactor_0 : decode cX1_commonFactor 0 = .ok (.lload_n 0, 1) := by decide +kernel
theorem dX1_commonFactor_1 : decode cX1_commonFactor 1 = .ok (.lconst 0, 1) := by decide +kernel
theorem dX1_commonFactor_2 : decode cX1_commonFactor 2 = .ok (.lcmp, 1) := by decide +kernel
theorem dX1_commonFactor_3 : decode cX1_commonFactor 3 = .ok (.ifCond .ge 8, 3) := by decide +kernel
theorem dX1_commonFactor_6 : decode cX1_commonFactor 6 = .ok (.lload_n 0, 1) := by decide +kernel
theorem dX1_commonFactor_7 : decode cX1_commonFactor 7 = .ok (.lneg, 1) := by decide +kernel
theorem dX1_commonFactor_8 : decode cX1_commonFactor 8 = .ok (.goto 4, 3) := by decide +kernel
theorem dX1_commonFactor_11 : decode cX1_commonFactor 11 = .ok (.lload_n 0, 1) := by decide +kernel
theorem dX1_commonFactor_12 : decode cX1_commonFactor 12 = .ok (.lstore 4, 2) := by decide +kernel
theorem dX1_commonFactor_14 : decode cX1_commonFactor 14 = .ok (.lload_n 2, 1) := by decide +kernel
theorem dX1_commonFactor_15 : decode cX1_commonFactor 15 = .ok (.lconst 0, 1) := by decide +kernel
theorem dX1_commonFactor_16 : decode cX1_commonFactor 16 = .ok (.lcmp, 1) := by decide +kernel
theorem dX1_commonFactor_17 : decode cX1_commonFactor 17 = .ok (.ifCond .ge 8, 3) := by decide +kernel
theorem dX1_commonFactor_20 : decode cX1_commonFactor 20 = .ok (.lload_n 2, 1) := by decide +kernel
theorem dX1_commonFactor_21 : decode cX1_commonFactor 21 = .ok (.lneg, 1) := by decide +kernel
theorem dX1_commonFactor_22 : decode cX1_commonFactor 22 = .ok (.goto 4, 3) := by decide +kernel
theorem dX1_commonFactor_25 : decode cX1_commonFactor 25 = .ok (.lload_n 2, 1) := by decide +kernel
theorem dX1_commonFactor_26 : decode cX1_commonFactor 26 = .ok (.lstore 6, 2) := by decide +kernel
theorem dX1_commonFactor_28 : decode cX1_commonFactor 28 = .ok (.iconst 0, 1) := by decide +kernel
theorem dX1_commonFactor_29 : decode cX1_commonFactor 29 = .ok (.istore 8, 2) := by decide +kernel
theorem dX1_commonFactor_31 : decode cX1_commonFactor 31 = .ok (.iload 8, 2) := by decide +kernel
theorem dX1_commonFactor_33 : decode cX1_commonFactor 33 = .ok (.bipush 100, 2) := by decide +kernel
theorem dX1_commonFactor_35 : decode cX1_commonFactor 35 = .ok (.if_icmp .ge 31, 3) := by decide +kernel
theorem dX1_commonFactor_38 : decode cX1_commonFactor 38 = .ok (.lload 6, 2) := by decide +kernel
theorem dX1_commonFactor_40 : decode cX1_commonFactor 40 = .ok (.lconst 0, 1) := by decide +kernel
theorem dX1_commonFactor_41 : decode cX1_commonFactor 41 = .ok (.lcmp, 1) := by decide +kernel
theorem dX1_commonFactor_42 : decode cX1_commonFactor 42 = .ok (.ifCond .eq 24, 3) := by decide +kernel
theorem dX1_commonFactor_45 : decode cX1_commonFactor 45 = .ok (.lload 4, 2) := by decide +kernel
theorem dX1_commonFactor_47 : decode cX1_commonFactor 47 = .ok (.lload 6, 2) := by decide +kernel
theorem dX1_commonFactor_49 : decode cX1_commonFactor 49 = .ok (.lrem, 1) := by decide +kernel
theorem dX1_commonFactor_50 : decode cX1_commonFactor 50 = .ok (.lstore 9, 2) := by decide +kernel
theorem dX1_commonFactor_52 : decode cX1_commonFactor 52 = .ok (.lload 6, 2) := by decide +kernel
theorem dX1_commonFactor_54 : decode cX1_commonFactor 54 = .ok (.lstore 4, 2) := by decide +kernel
theorem dX1_commonFactor_56 : decode cX1_commonFactor 56 = .ok (.lload 9, 2) := by decide +kernel
theorem dX1_commonFactor_58 : decode cX1_commonFactor 58 = .ok (.lstore 6, 2) := by decide +kernel
theorem dX1_commonFactor_60 : decode cX1_commonFactor 60 = .ok (.iinc 8 1, 3) := by decide +kernel
theorem dX1_commonFactor_63 : decode cX1_commonFactor 63 = .ok (.goto (-32), 3) := by decide +kernel
theorem dX1_commonFactor_66 : decode cX1_commonFactor 66 = .ok (.lload 4, 2) := by decide +kernel
theorem dX1_commonFactor_68 : decode cX1_commonFactor 68 = .ok (.lreturn, 1) := by decide +kernel
theorem dX2_init_0 : decode cX2_init 0 = .ok (.aload_n 0, 1) := by decide +kernel
theorem dX2_init_1 : decode cX2_init 1 = .ok (.invokespecial 3, 3) := by decide +kernel
theorem dX2_init_4 : decode cX2_init 4 = .ok (.aload_n 0, 1) := by decide +kernel
theorem dX2_init_5 : decode cX2_init 5 = .ok (.bipush 64, 2) := by decide +kernel
theorem dX2_init_7 : decode cX2_init 7 = .ok (.newarray .int, 2) := by decide +kernel
theorem dX2_init_9 : decode cX2_init 9 = .ok (.putfield 9, 3) := by decide +kernel
theorem dX2_init_12 : decode cX2_init 12 = .ok (.aload_n 0, 1) := by decide +kernel
theorem dX2_init_13 : decode cX2_init 13 = .ok (.bipush 64, 2) := by decide +kernel
theorem dX2_init_15 : decode cX2_init 15 = .ok (.newarray .long, 2) := by decide +kernel
theorem dX2_init_17 : decode cX2_init 17 = .ok (.putfield 15, 3) := by decide +kernel
theorem dX2_init_20 : decode cX2_init 20 = .ok (.aload_n 0, 1) := by decide +kernel
theorem dX2_init_21 : decode cX2_init 21 = .ok (.bipush 64, 2) := by decide +kernel
theorem dX2_init_23 : decode cX2_init 23 = .ok (.newarray .long, 2) := by decide +kernel
theorem dX2_init_25 : decode cX2_init 25 = .ok (.putfield 19, 3) := by decide +kernel
theorem dX2_init_28 : decode cX2_init 28 = .ok (.aload_n 0, 1) := by decide +kernel
theorem dX2_init_29 : decode cX2_init 29 = .ok (.bipush 64, 2) := by decide +kernel
theorem dX2_init_31 : decode cX2_init 31 = .ok (.newarray .boolean, 2) := by decide +kernel
theorem dX2_init_33 : decode cX2_init 33 = .ok (.putfield 22, 3) := by decide +kernel
theorem dX2_init_36 : decode cX2_init 36 = .ok (.aload_n 0, 1) := by decide +kernel
theorem dX2_init_37 : decode cX2_init 37 = .ok (.bipush 64, 2) := by decide +kernel
theorem dX2_init_39 : decode cX2_init 39 = .ok (.newarray .int, 2) := by decide +kernel
theorem dX2_init_41 : decode cX2_init 41 = .ok (.putfield 26, 3) := by decide +kernel
theorem dX2_init_44 : decode cX2_init 44 = .ok (.return_, 1) := by decide +kernel
theorem dX2_forget_0 : decode cX2_forget 0 = .ok (.aload_n 0, 1) := by decide +kernel
theorem dX2_forget_1 : decode cX2_forget 1 = .ok (.iconst 0, 1) := by decide +kernel
theorem dX2_forget_2 : decode cX2_forget 2 = .ok (.putfield 29, 3) := by decide +kernel
theorem dX2_forget_5 : decode cX2_forget 5 = .ok (.return_, 1) := by decide +kernel
theorem dX2_refresh_0 : decode cX2_refresh 0 = .ok (.aload_n 0, 1) := by decide +kernel
theorem dX2_refresh_1 : decode cX2_refresh 1 = .ok (.getfield 29, 3) := by decide +kernel
theorem dX2_refresh_4 : decode cX2_refresh 4 = .ok (.ifCond .eq 4, 3) := by decide +kernel
theorem dX2_refresh_7 : decode cX2_refresh 7 = .ok (.return_, 1) := by decide +kernel
theorem dX2_refresh_8 : decode cX2_refresh 8 = .ok (.aload_n 0, 1) := by decide +kernel
theorem dX2_refresh_9 : decode cX2_refresh 9 = .ok (.iconst 0, 1) := by decide +kernel
theorem dX2_refresh_10 : decode cX2_refresh 10 = .ok (.putfield 33, 3) := by decide +kernel
theorem dX2_refresh_13 : decode cX2_refresh 13 = .ok (.iconst 0, 1) := by decide +kernel
theorem dX2_refresh_14 : decode cX2_refresh 14 = .ok (.istore_n 3, 1) := by decide +kernel
theorem dX2_refresh_15 : decode cX2_refresh 15 = .ok (.iload_n 3, 1) := by decide +kernel
theorem dX2_refresh_16 : decode cX2_refresh 16 = .ok (.bipush 64, 2) := by decide +kernel
theorem dX2_refresh_18 : decode cX2_refresh 18 = .ok (.if_icmp .ge 81, 3) := by decide +kernel
theorem dX2_refresh_21 : decode cX2_refresh 21 = .ok (.aload_n 0, 1) := by decide +kernel
theorem dX2_refresh_22 : decode cX2_refresh 22 = .ok (.getfield 22, 3) := by decide +kernel
theorem dX2_refresh_25 : decode cX2_refresh 25 = .ok (.iload_n 3, 1) := by decide +kernel
theorem dX2_refresh_26 : decode cX2_refresh 26 = .ok (.iconst 0, 1) := by decide +kernel
theorem dX2_refresh_27 : decode cX2_refresh 27 = .ok (.bastore, 1) := by decide +kernel
theorem dX2_refresh_28 : decode cX2_refresh 28 = .ok (.aload_n 1, 1) := by decide +kernel
theorem dX2_refresh_29 : decode cX2_refresh 29 = .ok (.iload_n 3, 1) := by decide +kernel
theorem dX2_refresh_30 : decode cX2_refresh 30 = .ok (.invokevirtual 37, 3) := by decide +kernel
theorem dX2_refresh_33 : decode cX2_refresh 33 = .ok (.ifCond .eq 60, 3) := by decide +kernel
theorem dX2_refresh_36 : decode cX2_refresh 36 = .ok (.aload_n 0, 1) := by decide +kernel
theorem dX2_refresh_37 : decode cX2_refresh 37 = .ok (.iload_n 3, 1) := by decide +kernel
theorem dX2_refresh_38 : decode cX2_refresh 38 = .ok (.invokevirtual 43, 3) := by decide +kernel
theorem dX2_refresh_41 : decode cX2_refresh 41 = .ok (.ifCond .eq 52, 3) := by decide +kernel
theorem dX2_refresh_44 : decode cX2_refresh 44 = .ok (.aload_n 2, 1) := by decide +kernel
theorem dX2_refresh_45 : decode cX2_refresh 45 = .ok (.aload_n 1, 1) := by decide +kernel
theorem dX2_refresh_46 : decode cX2_refresh 46 = .ok (.iload_n 3, 1) := by decide +kernel
theorem dX2_refresh_47 : decode cX2_refresh 47 = .ok (.invokevirtual 46, 3) := by decide +kernel
theorem dX2_refresh_50 : decode cX2_refresh 50 = .ok (.aload_n 2, 1) := by decide +kernel
theorem dX2_refresh_51 : decode cX2_refresh 51 = .ok (.invokevirtual 52, 3) := by decide +kernel
theorem dX2_refresh_54 : decode cX2_refresh 54 = .ok (.istore 4, 2) := by decide +kernel
theorem dX2_refresh_56 : decode cX2_refresh 56 = .ok (.aload_n 0, 1) := by decide +kernel
theorem dX2_refresh_57 : decode cX2_refresh 57 = .ok (.getfield 22, 3) := by decide +kernel
theorem dX2_refresh_60 : decode cX2_refresh 60 = .ok (.iload_n 3, 1) := by decide +kernel
theorem dX2_refresh_61 : decode cX2_refresh 61 = .ok (.iload 4, 2) := by decide +kernel
theorem dX2_refresh_63 : decode cX2_refresh 63 = .ok (.iconst 2, 1) := by decide +kernel
theorem dX2_refresh_64 : decode cX2_refresh 64 = .ok (.if_icmp .ne 7, 3) := by decide +kernel
theorem dX2_refresh_67 : decode cX2_refresh 67 = .ok (.iconst 1, 1) := by decide +kernel
theorem dX2_refresh_68 : decode cX2_refresh 68 = .ok (.goto 4, 3) := by decide +kernel
theorem dX2_refresh_71 : decode cX2_refresh 71 = .ok (.iconst 0, 1) := by decide +kernel
theorem dX2_refresh_72 : decode cX2_refresh 72 = .ok (.bastore, 1) := by decide +kernel
theorem dX2_refresh_73 : decode cX2_refresh 73 = .ok (.iload 4, 2) := by decide +kernel
theorem dX2_refresh_75 : decode cX2_refresh 75 = .ok (.ifCond .ne 18, 3) := by decide +kernel
theorem dX2_refresh_78 : decode cX2_refresh 78 = .ok (.aload_n 0, 1) := by decide +kernel
theorem dX2_refresh_79 : decode cX2_refresh 79 = .ok (.iload_n 3, 1) := by decide +kernel
theorem dX2_refresh_80 : decode cX2_refresh 80 = .ok (.aload_n 2, 1) := by decide +kernel
theorem dX2_refresh_81 : decode cX2_refresh 81 = .ok (.iconst 0, 1) := by decide +kernel
theorem dX2_refresh_82 : decode cX2_refresh 82 = .ok (.invokevirtual 56, 3) := by decide +kernel
theorem dX2_refresh_85 : decode cX2_refresh 85 = .ok (.aload_n 2, 1) := by decide +kernel
theorem dX2_refresh_86 : decode cX2_refresh 86 = .ok (.iconst 1, 1) := by decide +kernel
theorem dX2_refresh_87 : decode cX2_refresh 87 = .ok (.invokevirtual 56, 3) := by decide +kernel
theorem dX2_refresh_90 : decode cX2_refresh 90 = .ok (.invokevirtual 60, 3) := by decide +kernel
theorem dX2_refresh_93 : decode cX2_refresh 93 = .ok (.iinc 3 1, 3) := by decide +kernel
theorem dX2_refresh_96 : decode cX2_refresh 96 = .ok (.goto (-81), 3) := by decide +kernel
theorem dX2_refresh_99 : decode cX2_refresh 99 = .ok (.aload_n 0, 1) := by decide +kernel
theorem dX2_refresh_100 : decode cX2_refresh 100 = .ok (.iconst 1, 1) := by decide +kernel
theorem dX2_refresh_101 : decode cX2_refresh 101 = .ok (.putfield 29, 3) := by decide +kernel
theorem dX2_refresh_104 : decode cX2_refresh 104 = .ok (.return_, 1) := by decide +kernel
theorem dX2_size_0 : decode cX2_size 0 = .ok (.aload_n 0, 1) := by decide +kernel
theorem dX2_size_1 : decode cX2_size 1 = .ok (.getfield 33, 3) := by decide +kernel
theorem dX2_size_4 : decode cX2_size 4 = .ok (.ireturn, 1) := by decide +kernel
theorem dX2_hasGear_0 : decode cX2_hasGear 0 = .ok (.iload_n 1, 1) := by decide +kernel
theorem dX2_hasGear_1 : decode cX2_hasGear 1 = .ok (.ifCond .lt 21, 3) := by decide +kernel
theorem dX2_hasGear_4 : decode cX2_hasGear 4 = .ok (.iload_n 1, 1) := by decide +kernel
theorem dX2_hasGear_5 : decode cX2_hasGear 5 = .ok (.aload_n 0, 1) := by decide +kernel
theorem dX2_hasGear_6 : decode cX2_hasGear 6 = .ok (.getfield 33, 3) := by decide +kernel
theorem dX2_hasGear_9 : decode cX2_hasGear 9 = .ok (.if_icmp .ge 13, 3) := by decide +kernel
theorem dX2_hasGear_12 : decode cX2_hasGear 12 = .ok (.iload_n 1, 1) := by decide +kernel
theorem dX2_hasGear_13 : decode cX2_hasGear 13 = .ok (.bipush 64, 2) := by decide +kernel
theorem dX2_hasGear_15 : decode cX2_hasGear 15 = .ok (.if_icmp .ge 7, 3) := by decide +kernel
theorem dX2_hasGear_18 : decode cX2_hasGear 18 = .ok (.iconst 1, 1) := by decide +kernel
theorem dX2_hasGear_19 : decode cX2_hasGear 19 = .ok (.goto 4, 3) := by decide +kernel
theorem dX2_hasGear_22 : decode cX2_hasGear 22 = .ok (.iconst 0, 1) := by decide +kernel
theorem dX2_hasGear_23 : decode cX2_hasGear 23 = .ok (.ireturn, 1) := by decide +kernel
theorem dX2_maskOf_0 : decode cX2_maskOf 0 = .ok (.aload_n 0, 1) := by decide +kernel
theorem dX2_maskOf_1 : decode cX2_maskOf 1 = .ok (.iload_n 1, 1) := by decide +kernel
theorem dX2_maskOf_2 : decode cX2_maskOf 2 = .ok (.invokevirtual 64, 3) := by decide +kernel
theorem dX2_maskOf_5 : decode cX2_maskOf 5 = .ok (.ifCond .eq 12, 3) := by decide +kernel
theorem dX2_maskOf_8 : decode cX2_maskOf 8 = .ok (.aload_n 0, 1) := by decide +kernel
theorem dX2_maskOf_9 : decode cX2_maskOf 9 = .ok (.getfield 9, 3) := by decide +kernel
theorem dX2_maskOf_12 : decode cX2_maskOf 12 = .ok (.iload_n 1, 1) := by decide +kernel
theorem dX2_maskOf_13 : decode cX2_maskOf 13 = .ok (.iaload, 1) := by decide +kernel
theorem dX2_maskOf_14 : decode cX2_maskOf 14 = .ok (.goto 4, 3) := by decide +kernel
theorem dX2_maskOf_17 : decode cX2_maskOf 17 = .ok (.iconst (-1), 1) := by decide +kernel
theorem dX2_maskOf_18 : decode cX2_maskOf 18 = .ok (.ireturn, 1) := by decide +kernel
theorem dX2_find_0 : decode cX2_find 0 = .ok (.iconst 0, 1) := by decide +kernel
theorem dX2_find_1 : decode cX2_find 1 = .ok (.istore_n 2, 1) := by decide +kernel
theorem dX2_find_2 : decode cX2_find 2 = .ok (.iload_n 2, 1) := by decide +kernel
theorem dX2_find_3 : decode cX2_find 3 = .ok (.aload_n 0, 1) := by decide +kernel
theorem dX2_find_4 : decode cX2_find 4 = .ok (.getfield 33, 3) := by decide +kernel
theorem dX2_find_7 : decode cX2_find 7 = .ok (.if_icmp .ge 27, 3) := by decide +kernel
theorem dX2_find_10 : decode cX2_find 10 = .ok (.iload_n 2, 1) := by decide +kernel
theorem dX2_find_11 : decode cX2_find 11 = .ok (.bipush 64, 2) := by decide +kernel
theorem dX2_find_13 : decode cX2_find 13 = .ok (.if_icmp .ge 21, 3) := by decide +kernel
theorem dX2_find_16 : decode cX2_find 16 = .ok (.aload_n 0, 1) := by decide +kernel
theorem dX2_find_17 : decode cX2_find 17 = .ok (.getfield 9, 3) := by decide +kernel
theorem dX2_find_20 : decode cX2_find 20 = .ok (.iload_n 2, 1) := by decide +kernel
theorem dX2_find_21 : decode cX2_find 21 = .ok (.iaload, 1) := by decide +kernel
theorem dX2_find_22 : decode cX2_find 22 = .ok (.iload_n 1, 1) := by decide +kernel
theorem dX2_find_23 : decode cX2_find 23 = .ok (.if_icmp .ne 5, 3) := by decide +kernel
theorem dX2_find_26 : decode cX2_find 26 = .ok (.iload_n 2, 1) := by decide +kernel
theorem dX2_find_27 : decode cX2_find 27 = .ok (.ireturn, 1) := by decide +kernel
theorem dX2_find_28 : decode cX2_find 28 = .ok (.iinc 2 1, 3) := by decide +kernel
theorem dX2_find_31 : decode cX2_find 31 = .ok (.goto (-29), 3) := by decide +kernel
theorem dX2_find_34 : decode cX2_find 34 = .ok (.iconst (-1), 1) := by decide +kernel
theorem dX2_find_35 : decode cX2_find 35 = .ok (.ireturn, 1) := by decide +kernel
theorem dX2_ratioPart_0 : decode cX2_ratioPart 0 = .ok (.aload_n 0, 1) := by decide +kernel
theorem dX2_ratioPart_1 : decode cX2_ratioPart 1 = .ok (.iload_n 1, 1) := by decide +kernel
theorem dX2_ratioPart_2 : decode cX2_ratioPart 2 = .ok (.invokevirtual 64, 3) := by decide +kernel
theorem dX2_ratioPart_5 : decode cX2_ratioPart 5 = .ok (.ifCond .ne 5, 3) := by decide +kernel
theorem dX2_ratioPart_8 : decode cX2_ratioPart 8 = .ok (.lconst 0, 1) := by decide +kernel
theorem dX2_ratioPart_9 : decode cX2_ratioPart 9 = .ok (.lreturn, 1) := by decide +kernel
theorem dX2_ratioPart_10 : decode cX2_ratioPart 10 = .ok (.iload_n 2, 1) := by decide +kernel
theorem dX2_ratioPart_11 : decode cX2_ratioPart 11 = .ok (.ifCond .ne 12, 3) := by decide +kernel
theorem dX2_ratioPart_14 : decode cX2_ratioPart 14 = .ok (.aload_n 0, 1) := by decide +kernel
theorem dX2_ratioPart_15 : decode cX2_ratioPart 15 = .ok (.getfield 15, 3) := by decide +kernel
theorem dX2_ratioPart_18 : decode cX2_ratioPart 18 = .ok (.iload_n 1, 1) := by decide +kernel
theorem dX2_ratioPart_19 : decode cX2_ratioPart 19 = .ok (.laload, 1) := by decide +kernel
theorem dX2_ratioPart_20 : decode cX2_ratioPart 20 = .ok (.goto 9, 3) := by decide +kernel
theorem dX2_ratioPart_23 : decode cX2_ratioPart 23 = .ok (.aload_n 0, 1) := by decide +kernel
theorem dX2_ratioPart_24 : decode cX2_ratioPart 24 = .ok (.getfield 19, 3) := by decide +kernel
theorem dX2_ratioPart_27 : decode cX2_ratioPart 27 = .ok (.iload_n 1, 1) := by decide +kernel
theorem dX2_ratioPart_28 : decode cX2_ratioPart 28 = .ok (.laload, 1) := by decide +kernel
theorem dX2_ratioPart_29 : decode cX2_ratioPart 29 = .ok (.lreturn, 1) := by decide +kernel
theorem dX2_measure_0 : decode cX2_measure 0 = .ok (.iconst 0, 1) := by decide +kernel
theorem dX2_measure_1 : decode cX2_measure 1 = .ok (.istore_n 2, 1) := by decide +kernel
theorem dX2_measure_2 : decode cX2_measure 2 = .ok (.iload_n 2, 1) := by decide +kernel
theorem dX2_measure_3 : decode cX2_measure 3 = .ok (.bipush 64, 2) := by decide +kernel
theorem dX2_measure_5 : decode cX2_measure 5 = .ok (.if_icmp .ge 25, 3) := by decide +kernel
theorem dX2_measure_8 : decode cX2_measure 8 = .ok (.aload_n 0, 1) := by decide +kernel
theorem dX2_measure_9 : decode cX2_measure 9 = .ok (.getfield 26, 3) := by decide +kernel
theorem dX2_measure_12 : decode cX2_measure 12 = .ok (.iload_n 2, 1) := by decide +kernel
theorem dX2_measure_13 : decode cX2_measure 13 = .ok (.iload_n 2, 1) := by decide +kernel
theorem dX2_measure_14 : decode cX2_measure 14 = .ok (.iload_n 1, 1) := by decide +kernel
theorem dX2_measure_15 : decode cX2_measure 15 = .ok (.if_icmp .ne 7, 3) := by decide +kernel
theorem dX2_measure_18 : decode cX2_measure 18 = .ok (.iconst 0, 1) := by decide +kernel
theorem dX2_measure_19 : decode cX2_measure 19 = .ok (.goto 4, 3) := by decide +kernel
theorem dX2_measure_22 : decode cX2_measure 22 = .ok (.iconst (-1), 1) := by decide +kernel
theorem dX2_measure_23 : decode cX2_measure 23 = .ok (.iastore, 1) := by decide +kernel
theorem dX2_measure_24 : decode cX2_measure 24 = .ok (.iinc 2 1, 3) := by decide +kernel
theorem dX2_measure_27 : decode cX2_measure 27 = .ok (.goto (-25), 3) := by decide +kernel
theorem dX2_measure_30 : decode cX2_measure 30 = .ok (.iconst 1, 1) := by decide +kernel
theorem dX2_measure_31 : decode cX2_measure 31 = .ok (.istore_n 2, 1) := by decide +kernel
theorem dX2_measure_32 : decode cX2_measure 32 = .ok (.iload_n 2, 1) := by decide +kernel
theorem dX2_measure_33 : decode cX2_measure 33 = .ok (.aload_n 0, 1) := by decide +kernel
theorem dX2_measure_34 : decode cX2_measure 34 = .ok (.getfield 33, 3) := by decide +kernel
theorem dX2_measure_37 : decode cX2_measure 37 = .ok (.if_icmp .ge 60, 3) := by decide +kernel
theorem dX2_measure_40 : decode cX2_measure 40 = .ok (.iconst 0, 1) := by decide +kernel
theorem dX2_measure_41 : decode cX2_measure 41 = .ok (.istore_n 3, 1) := by decide +kernel
theorem dX2_measure_42 : decode cX2_measure 42 = .ok (.iload_n 3, 1) := by decide +kernel
theorem dX2_measure_43 : decode cX2_measure 43 = .ok (.aload_n 0, 1) := by decide +kernel
theorem dX2_measure_44 : decode cX2_measure 44 = .ok (.getfield 33, 3) := by decide +kernel
theorem dX2_measure_47 : decode cX2_measure 47 = .ok (.if_icmp .ge 44, 3) := by decide +kernel
theorem dX2_measure_50 : decode cX2_measure 50 = .ok (.iload_n 3, 1) := by decide +kernel
theorem dX2_measure_51 : decode cX2_measure 51 = .ok (.bipush 64, 2) := by decide +kernel
theorem dX2_measure_53 : decode cX2_measure 53 = .ok (.if_icmp .ge 38, 3) := by decide +kernel
theorem dX2_measure_56 : decode cX2_measure 56 = .ok (.aload_n 0, 1) := by decide +kernel
theorem dX2_measure_57 : decode cX2_measure 57 = .ok (.getfield 26, 3) := by decide +kernel
theorem dX2_measure_60 : decode cX2_measure 60 = .ok (.iload_n 3, 1) := by decide +kernel
theorem dX2_measure_61 : decode cX2_measure 61 = .ok (.iaload, 1) := by decide +kernel
theorem dX2_measure_62 : decode cX2_measure 62 = .ok (.iconst (-1), 1) := by decide +kernel
theorem dX2_measure_63 : decode cX2_measure 63 = .ok (.if_icmp .ne 22, 3) := by decide +kernel
theorem dX2_measure_66 : decode cX2_measure 66 = .ok (.aload_n 0, 1) := by decide +kernel
theorem dX2_measure_67 : decode cX2_measure 67 = .ok (.iload_n 3, 1) := by decide +kernel
theorem dX2_measure_68 : decode cX2_measure 68 = .ok (.iload_n 2, 1) := by decide +kernel
theorem dX2_measure_69 : decode cX2_measure 69 = .ok (.iconst 1, 1) := by decide +kernel
theorem dX2_measure_70 : decode cX2_measure 70 = .ok (.isub, 1) := by decide +kernel
theorem dX2_measure_71 : decode cX2_measure 71 = .ok (.invokevirtual 67, 3) := by decide +kernel
theorem dX2_measure_74 : decode cX2_measure 74 = .ok (.iconst (-1), 1) := by decide +kernel
theorem dX2_measure_75 : decode cX2_measure 75 = .ok (.if_icmp .eq 10, 3) := by decide +kernel
theorem dX2_measure_78 : decode cX2_measure 78 = .ok (.aload_n 0, 1) := by decide +kernel
theorem dX2_measure_79 : decode cX2_measure 79 = .ok (.getfield 26, 3) := by decide +kernel
theorem dX2_measure_82 : decode cX2_measure 82 = .ok (.iload_n 3, 1) := by decide +kernel
theorem dX2_measure_83 : decode cX2_measure 83 = .ok (.iload_n 2, 1) := by decide +kernel
theorem dX2_measure_84 : decode cX2_measure 84 = .ok (.iastore, 1) := by decide +kernel
theorem dX2_measure_85 : decode cX2_measure 85 = .ok (.iinc 3 1, 3) := by decide +kernel
theorem dX2_measure_88 : decode cX2_measure 88 = .ok (.goto (-46), 3) := by decide +kernel
theorem dX2_measure_91 : decode cX2_measure 91 = .ok (.iinc 2 1, 3) := by decide +kernel
theorem dX2_measure_94 : decode cX2_measure 94 = .ok (.goto (-62), 3) := by decide +kernel
theorem dX2_measure_97 : decode cX2_measure 97 = .ok (.return_, 1) := by decide +kernel
theorem dX2_shiftsLeft_0 : decode cX2_shiftsLeft 0 = .ok (.aload_n 0, 1) := by decide +kernel
theorem dX2_shiftsLeft_1 : decode cX2_shiftsLeft 1 = .ok (.iload_n 1, 1) := by decide +kernel
theorem dX2_shiftsLeft_2 : decode cX2_shiftsLeft 2 = .ok (.invokevirtual 64, 3) := by decide +kernel
theorem dX2_shiftsLeft_5 : decode cX2_shiftsLeft 5 = .ok (.ifCond .eq 12, 3) := by decide +kernel
theorem dX2_shiftsLeft_8 : decode cX2_shiftsLeft 8 = .ok (.aload_n 0, 1) := by decide +kernel
theorem dX2_shiftsLeft_9 : decode cX2_shiftsLeft 9 = .ok (.getfield 26, 3) := by decide +kernel
theorem dX2_shiftsLeft_12 : decode cX2_shiftsLeft 12 = .ok (.iload_n 1, 1) := by decide +kernel
theorem dX2_shiftsLeft_13 : decode cX2_shiftsLeft 13 = .ok (.iaload, 1) := by decide +kernel
theorem dX2_shiftsLeft_14 : decode cX2_shiftsLeft 14 = .ok (.goto 4, 3) := by decide +kernel
theorem dX2_shiftsLeft_17 : decode cX2_shiftsLeft 17 = .ok (.iconst (-1), 1) := by decide +kernel
theorem dX2_shiftsLeft_18 : decode cX2_shiftsLeft 18 = .ok (.ireturn, 1) := by decide +kernel
theorem dX2_onTheWay_0 : decode cX2_onTheWay 0 = .ok (.aload_n 0, 1) := by decide +kernel
theorem dX2_onTheWay_1 : decode cX2_onTheWay 1 = .ok (.iload_n 1, 1) := by decide +kernel
theorem dX2_onTheWay_2 : decode cX2_onTheWay 2 = .ok (.invokevirtual 71, 3) := by decide +kernel
theorem dX2_onTheWay_5 : decode cX2_onTheWay 5 = .ok (.istore_n 3, 1) := by decide +kernel
theorem dX2_onTheWay_6 : decode cX2_onTheWay 6 = .ok (.iload_n 2, 1) := by decide +kernel
theorem dX2_onTheWay_7 : decode cX2_onTheWay 7 = .ok (.ifCond .lt 8, 3) := by decide +kernel
theorem dX2_onTheWay_10 : decode cX2_onTheWay 10 = .ok (.iload_n 2, 1) := by decide +kernel
theorem dX2_onTheWay_11 : decode cX2_onTheWay 11 = .ok (.iload_n 3, 1) := by decide +kernel
theorem dX2_onTheWay_12 : decode cX2_onTheWay 12 = .ok (.if_icmp .le 5, 3) := by decide +kernel
theorem dX2_onTheWay_15 : decode cX2_onTheWay 15 = .ok (.iconst (-1), 1) := by decide +kernel
theorem dX2_onTheWay_16 : decode cX2_onTheWay 16 = .ok (.ireturn, 1) := by decide +kernel
theorem dX2_onTheWay_17 : decode cX2_onTheWay 17 = .ok (.iload_n 1, 1) := by decide +kernel
theorem dX2_onTheWay_18 : decode cX2_onTheWay 18 = .ok (.istore 4, 2) := by decide +kernel
theorem dX2_onTheWay_20 : decode cX2_onTheWay 20 = .ok (.iconst 0, 1) := by decide +kernel
theorem dX2_onTheWay_21 : decode cX2_onTheWay 21 = .ok (.istore 5, 2) := by decide +kernel
theorem dX2_onTheWay_23 : decode cX2_onTheWay 23 = .ok (.iload 5, 2) := by decide +kernel
theorem dX2_onTheWay_25 : decode cX2_onTheWay 25 = .ok (.iload_n 2, 1) := by decide +kernel
theorem dX2_onTheWay_26 : decode cX2_onTheWay 26 = .ok (.if_icmp .ge 23, 3) := by decide +kernel
theorem dX2_onTheWay_29 : decode cX2_onTheWay 29 = .ok (.aload_n 0, 1) := by decide +kernel
theorem dX2_onTheWay_30 : decode cX2_onTheWay 30 = .ok (.iload 4, 2) := by decide +kernel
theorem dX2_onTheWay_32 : decode cX2_onTheWay 32 = .ok (.iload_n 3, 1) := by decide +kernel
theorem dX2_onTheWay_33 : decode cX2_onTheWay 33 = .ok (.iload 5, 2) := by decide +kernel
theorem dX2_onTheWay_35 : decode cX2_onTheWay 35 = .ok (.isub, 1) := by decide +kernel
theorem dX2_onTheWay_36 : decode cX2_onTheWay 36 = .ok (.iconst 1, 1) := by decide +kernel
theorem dX2_onTheWay_37 : decode cX2_onTheWay 37 = .ok (.isub, 1) := by decide +kernel
theorem dX2_onTheWay_38 : decode cX2_onTheWay 38 = .ok (.invokevirtual 67, 3) := by decide +kernel
theorem dX2_onTheWay_41 : decode cX2_onTheWay 41 = .ok (.istore 4, 2) := by decide +kernel
theorem dX2_onTheWay_43 : decode cX2_onTheWay 43 = .ok (.iinc 5 1, 3) := by decide +kernel
theorem dX2_onTheWay_46 : decode cX2_onTheWay 46 = .ok (.goto (-23), 3) := by decide +kernel
theorem dX2_onTheWay_49 : decode cX2_onTheWay 49 = .ok (.iload 4, 2) := by decide +kernel
theorem dX2_onTheWay_51 : decode cX2_onTheWay 51 = .ok (.ireturn, 1) := by decide +kernel
theorem dX2_areSmallerNeutral_0 : decode cX2_areSmallerNeutral 0 = .ok (.iconst 0, 1) := by decide +kernel
theorem dX2_areSmallerNeutral_1 : decode cX2_areSmallerNeutral 1 = .ok (.istore_n 2, 1) := by decide +kernel
theorem dX2_areSmallerNeutral_2 : decode cX2_areSmallerNeutral 2 = .ok (.iload_n 2, 1) := by decide +kernel
theorem dX2_areSmallerNeutral_3 : decode cX2_areSmallerNeutral 3 = .ok (.bipush 6, 2) := by decide +kernel
theorem dX2_areSmallerNeutral_5 : decode cX2_areSmallerNeutral 5 = .ok (.if_icmp .ge 43, 3) := by decide +kernel
theorem dX2_areSmallerNeutral_8 : decode cX2_areSmallerNeutral 8 = .ok (.iload_n 1, 1) := by decide +kernel
theorem dX2_areSmallerNeutral_9 : decode cX2_areSmallerNeutral 9 = .ok (.iconst 1, 1) := by decide +kernel
theorem dX2_areSmallerNeutral_10 : decode cX2_areSmallerNeutral 10 = .ok (.iload_n 2, 1) := by decide +kernel
theorem dX2_areSmallerNeutral_11 : decode cX2_areSmallerNeutral 11 = .ok (.ishl, 1) := by decide +kernel
theorem dX2_areSmallerNeutral_12 : decode cX2_areSmallerNeutral 12 = .ok (.iconst (-1), 1) := by decide +kernel
theorem dX2_areSmallerNeutral_13 : decode cX2_areSmallerNeutral 13 = .ok (.ixor, 1) := by decide +kernel
theorem dX2_areSmallerNeutral_14 : decode cX2_areSmallerNeutral 14 = .ok (.iand, 1) := by decide +kernel
theorem dX2_areSmallerNeutral_15 : decode cX2_areSmallerNeutral 15 = .ok (.istore_n 3, 1) := by decide +kernel
theorem dX2_areSmallerNeutral_16 : decode cX2_areSmallerNeutral 16 = .ok (.iload_n 3, 1) := by decide +kernel
theorem dX2_areSmallerNeutral_17 : decode cX2_areSmallerNeutral 17 = .ok (.iload_n 1, 1) := by decide +kernel
theorem dX2_areSmallerNeutral_18 : decode cX2_areSmallerNeutral 18 = .ok (.if_icmp .eq 24, 3) := by decide +kernel
theorem dX2_areSmallerNeutral_21 : decode cX2_areSmallerNeutral 21 = .ok (.iload_n 3, 1) := by decide +kernel
theorem dX2_areSmallerNeutral_22 : decode cX2_areSmallerNeutral 22 = .ok (.ifCond .lt 20, 3) := by decide +kernel
theorem dX2_areSmallerNeutral_25 : decode cX2_areSmallerNeutral 25 = .ok (.iload_n 3, 1) := by decide +kernel
theorem dX2_areSmallerNeutral_26 : decode cX2_areSmallerNeutral 26 = .ok (.bipush 64, 2) := by decide +kernel
theorem dX2_areSmallerNeutral_28 : decode cX2_areSmallerNeutral 28 = .ok (.if_icmp .ge 14, 3) := by decide +kernel
theorem dX2_areSmallerNeutral_31 : decode cX2_areSmallerNeutral 31 = .ok (.aload_n 0, 1) := by decide +kernel
theorem dX2_areSmallerNeutral_32 : decode cX2_areSmallerNeutral 32 = .ok (.getfield 22, 3) := by decide +kernel
theorem dX2_areSmallerNeutral_35 : decode cX2_areSmallerNeutral 35 = .ok (.iload_n 3, 1) := by decide +kernel
theorem dX2_areSmallerNeutral_36 : decode cX2_areSmallerNeutral 36 = .ok (.baload, 1) := by decide +kernel
theorem dX2_areSmallerNeutral_37 : decode cX2_areSmallerNeutral 37 = .ok (.ifCond .ne 5, 3) := by decide +kernel
theorem dX2_areSmallerNeutral_40 : decode cX2_areSmallerNeutral 40 = .ok (.iconst 0, 1) := by decide +kernel
theorem dX2_areSmallerNeutral_41 : decode cX2_areSmallerNeutral 41 = .ok (.ireturn, 1) := by decide +kernel
theorem dX2_areSmallerNeutral_42 : decode cX2_areSmallerNeutral 42 = .ok (.iinc 2 1, 3) := by decide +kernel
theorem dX2_areSmallerNeutral_45 : decode cX2_areSmallerNeutral 45 = .ok (.goto (-43), 3) := by decide +kernel
theorem dX2_areSmallerNeutral_48 : decode cX2_areSmallerNeutral 48 = .ok (.iconst 1, 1) := by decide +kernel
theorem dX2_areSmallerNeutral_49 : decode cX2_areSmallerNeutral 49 = .ok (.ireturn, 1) := by decide +kernel
theorem dX2_insert_0 : decode cX2_insert 0 = .ok (.aload_n 0, 1) := by decide +kernel
theorem dX2_insert_1 : decode cX2_insert 1 = .ok (.getfield 33, 3) := by decide +kernel
theorem dX2_insert_4 : decode cX2_insert 4 = .ok (.ifCond .lt 12, 3) := by decide +kernel
theorem dX2_insert_7 : decode cX2_insert 7 = .ok (.aload_n 0, 1) := by decide +kernel
theorem dX2_insert_8 : decode cX2_insert 8 = .ok (.getfield 33, 3) := by decide +kernel
theorem dX2_insert_11 : decode cX2_insert 11 = .ok (.bipush 64, 2) := by decide +kernel
theorem dX2_insert_13 : decode cX2_insert 13 = .ok (.if_icmp .lt 4, 3) := by decide +kernel
theorem dX2_insert_16 : decode cX2_insert 16 = .ok (.return_, 1) := by decide +kernel
theorem dX2_insert_17 : decode cX2_insert 17 = .ok (.aload_n 0, 1) := by decide +kernel
theorem dX2_insert_18 : decode cX2_insert 18 = .ok (.getfield 33, 3) := by decide +kernel
theorem dX2_insert_21 : decode cX2_insert 21 = .ok (.istore 6, 2) := by decide +kernel
theorem dX2_insert_23 : decode cX2_insert 23 = .ok (.aload_n 0, 1) := by decide +kernel
theorem dX2_insert_24 : decode cX2_insert 24 = .ok (.getfield 33, 3) := by decide +kernel
theorem dX2_insert_27 : decode cX2_insert 27 = .ok (.iconst 1, 1) := by decide +kernel
theorem dX2_insert_28 : decode cX2_insert 28 = .ok (.isub, 1) := by decide +kernel
theorem dX2_insert_29 : decode cX2_insert 29 = .ok (.istore 7, 2) := by decide +kernel
theorem dX2_insert_31 : decode cX2_insert 31 = .ok (.iload 7, 2) := by decide +kernel
theorem dX2_insert_33 : decode cX2_insert 33 = .ok (.ifCond .lt 87, 3) := by decide +kernel
theorem dX2_insert_36 : decode cX2_insert 36 = .ok (.aload_n 0, 1) := by decide +kernel
theorem dX2_insert_37 : decode cX2_insert 37 = .ok (.getfield 15, 3) := by decide +kernel
theorem dX2_insert_40 : decode cX2_insert 40 = .ok (.iload 7, 2) := by decide +kernel
theorem dX2_insert_42 : decode cX2_insert 42 = .ok (.laload, 1) := by decide +kernel
theorem dX2_insert_43 : decode cX2_insert 43 = .ok (.lload 4, 2) := by decide +kernel
theorem dX2_insert_45 : decode cX2_insert 45 = .ok (.lmul, 1) := by decide +kernel
theorem dX2_insert_46 : decode cX2_insert 46 = .ok (.lload_n 2, 1) := by decide +kernel
theorem dX2_insert_47 : decode cX2_insert 47 = .ok (.aload_n 0, 1) := by decide +kernel
theorem dX2_insert_48 : decode cX2_insert 48 = .ok (.getfield 19, 3) := by decide +kernel
theorem dX2_insert_51 : decode cX2_insert 51 = .ok (.iload 7, 2) := by decide +kernel
theorem dX2_insert_53 : decode cX2_insert 53 = .ok (.laload, 1) := by decide +kernel
theorem dX2_insert_54 : decode cX2_insert 54 = .ok (.lmul, 1) := by decide +kernel
theorem dX2_insert_55 : decode cX2_insert 55 = .ok (.lcmp, 1) := by decide +kernel
theorem dX2_insert_56 : decode cX2_insert 56 = .ok (.ifCond .gt 6, 3) := by decide +kernel
theorem dX2_insert_59 : decode cX2_insert 59 = .ok (.goto 61, 3) := by decide +kernel
theorem dX2_insert_62 : decode cX2_insert 62 = .ok (.aload_n 0, 1) := by decide +kernel
theorem dX2_insert_63 : decode cX2_insert 63 = .ok (.getfield 9, 3) := by decide +kernel
theorem dX2_insert_66 : decode cX2_insert 66 = .ok (.iload 7, 2) := by decide +kernel
theorem dX2_insert_68 : decode cX2_insert 68 = .ok (.iconst 1, 1) := by decide +kernel
theorem dX2_insert_69 : decode cX2_insert 69 = .ok (.iadd, 1) := by decide +kernel
theorem dX2_insert_70 : decode cX2_insert 70 = .ok (.aload_n 0, 1) := by decide +kernel
theorem dX2_insert_71 : decode cX2_insert 71 = .ok (.getfield 9, 3) := by decide +kernel
theorem dX2_insert_74 : decode cX2_insert 74 = .ok (.iload 7, 2) := by decide +kernel
theorem dX2_insert_76 : decode cX2_insert 76 = .ok (.iaload, 1) := by decide +kernel
theorem dX2_insert_77 : decode cX2_insert 77 = .ok (.iastore, 1) := by decide +kernel
theorem dX2_insert_78 : decode cX2_insert 78 = .ok (.aload_n 0, 1) := by decide +kernel
theorem dX2_insert_79 : decode cX2_insert 79 = .ok (.getfield 15, 3) := by decide +kernel
theorem dX2_insert_82 : decode cX2_insert 82 = .ok (.iload 7, 2) := by decide +kernel
theorem dX2_insert_84 : decode cX2_insert 84 = .ok (.iconst 1, 1) := by decide +kernel
theorem dX2_insert_85 : decode cX2_insert 85 = .ok (.iadd, 1) := by decide +kernel
theorem dX2_insert_86 : decode cX2_insert 86 = .ok (.aload_n 0, 1) := by decide +kernel
theorem dX2_insert_87 : decode cX2_insert 87 = .ok (.getfield 15, 3) := by decide +kernel
theorem dX2_insert_90 : decode cX2_insert 90 = .ok (.iload 7, 2) := by decide +kernel
theorem dX2_insert_92 : decode cX2_insert 92 = .ok (.laload, 1) := by decide +kernel
theorem dX2_insert_93 : decode cX2_insert 93 = .ok (.lastore, 1) := by decide +kernel
theorem dX2_insert_94 : decode cX2_insert 94 = .ok (.aload_n 0, 1) := by decide +kernel
theorem dX2_insert_95 : decode cX2_insert 95 = .ok (.getfield 19, 3) := by decide +kernel
theorem dX2_insert_98 : decode cX2_insert 98 = .ok (.iload 7, 2) := by decide +kernel
theorem dX2_insert_100 : decode cX2_insert 100 = .ok (.iconst 1, 1) := by decide +kernel
theorem dX2_insert_101 : decode cX2_insert 101 = .ok (.iadd, 1) := by decide +kernel
theorem dX2_insert_102 : decode cX2_insert 102 = .ok (.aload_n 0, 1) := by decide +kernel
theorem dX2_insert_103 : decode cX2_insert 103 = .ok (.getfield 19, 3) := by decide +kernel
theorem dX2_insert_106 : decode cX2_insert 106 = .ok (.iload 7, 2) := by decide +kernel
theorem dX2_insert_108 : decode cX2_insert 108 = .ok (.laload, 1) := by decide +kernel
theorem dX2_insert_109 : decode cX2_insert 109 = .ok (.lastore, 1) := by decide +kernel
theorem dX2_insert_110 : decode cX2_insert 110 = .ok (.iload 7, 2) := by decide +kernel
theorem dX2_insert_112 : decode cX2_insert 112 = .ok (.istore 6, 2) := by decide +kernel
theorem dX2_insert_114 : decode cX2_insert 114 = .ok (.iinc 7 (-1), 3) := by decide +kernel
theorem dX2_insert_117 : decode cX2_insert 117 = .ok (.goto (-86), 3) := by decide +kernel
theorem dX2_insert_120 : decode cX2_insert 120 = .ok (.aload_n 0, 1) := by decide +kernel
theorem dX2_insert_121 : decode cX2_insert 121 = .ok (.getfield 9, 3) := by decide +kernel
theorem dX2_insert_124 : decode cX2_insert 124 = .ok (.iload 6, 2) := by decide +kernel
theorem dX2_insert_126 : decode cX2_insert 126 = .ok (.iload_n 1, 1) := by decide +kernel
theorem dX2_insert_127 : decode cX2_insert 127 = .ok (.iastore, 1) := by decide +kernel
theorem dX2_insert_128 : decode cX2_insert 128 = .ok (.aload_n 0, 1) := by decide +kernel
theorem dX2_insert_129 : decode cX2_insert 129 = .ok (.getfield 15, 3) := by decide +kernel
theorem dX2_insert_132 : decode cX2_insert 132 = .ok (.iload 6, 2) := by decide +kernel
theorem dX2_insert_134 : decode cX2_insert 134 = .ok (.lload_n 2, 1) := by decide +kernel
theorem dX2_insert_135 : decode cX2_insert 135 = .ok (.lastore, 1) := by decide +kernel
theorem dX2_insert_136 : decode cX2_insert 136 = .ok (.aload_n 0, 1) := by decide +kernel
theorem dX2_insert_137 : decode cX2_insert 137 = .ok (.getfield 19, 3) := by decide +kernel
theorem dX2_insert_140 : decode cX2_insert 140 = .ok (.iload 6, 2) := by decide +kernel
theorem dX2_insert_142 : decode cX2_insert 142 = .ok (.lload 4, 2) := by decide +kernel
theorem dX2_insert_144 : decode cX2_insert 144 = .ok (.lastore, 1) := by decide +kernel
theorem dX2_insert_145 : decode cX2_insert 145 = .ok (.aload_n 0, 1) := by decide +kernel
theorem dX2_insert_146 : decode cX2_insert 146 = .ok (.dup, 1) := by decide +kernel
theorem dX2_insert_147 : decode cX2_insert 147 = .ok (.getfield 33, 3) := by decide +kernel
theorem dX2_insert_150 : decode cX2_insert 150 = .ok (.iconst 1, 1) := by decide +kernel
theorem dX2_insert_151 : decode cX2_insert 151 = .ok (.iadd, 1) := by decide +kernel
theorem dX2_insert_152 : decode cX2_insert 152 = .ok (.putfield 33, 3) := by decide +kernel
theorem dX2_insert_155 : decode cX2_insert 155 = .ok (.return_, 1) := by decide +kernel
theorem dX2_neighbourAt_0 : decode cX2_neighbourAt 0 = .ok (.aload_n 0, 1) := by decide +kernel
theorem dX2_neighbourAt_1 : decode cX2_neighbourAt 1 = .ok (.iload_n 1, 1) := by decide +kernel
theorem dX2_neighbourAt_2 : decode cX2_neighbourAt 2 = .ok (.invokevirtual 64, 3) := by decide +kernel
theorem dX2_neighbourAt_5 : decode cX2_neighbourAt 5 = .ok (.ifCond .ne 5, 3) := by decide +kernel
theorem dX2_neighbourAt_8 : decode cX2_neighbourAt 8 = .ok (.iconst (-1), 1) := by decide +kernel
theorem dX2_neighbourAt_9 : decode cX2_neighbourAt 9 = .ok (.ireturn, 1) := by decide +kernel
theorem dX2_neighbourAt_10 : decode cX2_neighbourAt 10 = .ok (.iconst 0, 1) := by decide +kernel
theorem dX2_neighbourAt_11 : decode cX2_neighbourAt 11 = .ok (.istore_n 3, 1) := by decide +kernel
theorem dX2_neighbourAt_12 : decode cX2_neighbourAt 12 = .ok (.iload_n 3, 1) := by decide +kernel
theorem dX2_neighbourAt_13 : decode cX2_neighbourAt 13 = .ok (.aload_n 0, 1) := by decide +kernel
theorem dX2_neighbourAt_14 : decode cX2_neighbourAt 14 = .ok (.getfield 33, 3) := by decide +kernel
theorem dX2_neighbourAt_17 : decode cX2_neighbourAt 17 = .ok (.if_icmp .ge 45, 3) := by decide +kernel
theorem dX2_neighbourAt_20 : decode cX2_neighbourAt 20 = .ok (.iload_n 3, 1) := by decide +kernel
theorem dX2_neighbourAt_21 : decode cX2_neighbourAt 21 = .ok (.bipush 64, 2) := by decide +kernel
theorem dX2_neighbourAt_23 : decode cX2_neighbourAt 23 = .ok (.if_icmp .ge 39, 3) := by decide +kernel
theorem dX2_neighbourAt_26 : decode cX2_neighbourAt 26 = .ok (.aload_n 0, 1) := by decide +kernel
theorem dX2_neighbourAt_27 : decode cX2_neighbourAt 27 = .ok (.getfield 26, 3) := by decide +kernel
theorem dX2_neighbourAt_30 : decode cX2_neighbourAt 30 = .ok (.iload_n 3, 1) := by decide +kernel
theorem dX2_neighbourAt_31 : decode cX2_neighbourAt 31 = .ok (.iaload, 1) := by decide +kernel
theorem dX2_neighbourAt_32 : decode cX2_neighbourAt 32 = .ok (.iload_n 2, 1) := by decide +kernel
theorem dX2_neighbourAt_33 : decode cX2_neighbourAt 33 = .ok (.if_icmp .ne 23, 3) := by decide +kernel
theorem dX2_neighbourAt_36 : decode cX2_neighbourAt 36 = .ok (.aload_n 0, 1) := by decide +kernel
theorem dX2_neighbourAt_37 : decode cX2_neighbourAt 37 = .ok (.getfield 9, 3) := by decide +kernel
theorem dX2_neighbourAt_40 : decode cX2_neighbourAt 40 = .ok (.iload_n 1, 1) := by decide +kernel
theorem dX2_neighbourAt_41 : decode cX2_neighbourAt 41 = .ok (.iaload, 1) := by decide +kernel
theorem dX2_neighbourAt_42 : decode cX2_neighbourAt 42 = .ok (.aload_n 0, 1) := by decide +kernel
theorem dX2_neighbourAt_43 : decode cX2_neighbourAt 43 = .ok (.getfield 9, 3) := by decide +kernel
theorem dX2_neighbourAt_46 : decode cX2_neighbourAt 46 = .ok (.iload_n 3, 1) := by decide +kernel
theorem dX2_neighbourAt_47 : decode cX2_neighbourAt 47 = .ok (.iaload, 1) := by decide +kernel
theorem dX2_neighbourAt_48 : decode cX2_neighbourAt 48 = .ok (.invokestatic 75, 3) := by decide +kernel
theorem dX2_neighbourAt_51 : decode cX2_neighbourAt 51 = .ok (.ifCond .eq 5, 3) := by decide +kernel
theorem dX2_neighbourAt_54 : decode cX2_neighbourAt 54 = .ok (.iload_n 3, 1) := by decide +kernel
theorem dX2_neighbourAt_55 : decode cX2_neighbourAt 55 = .ok (.ireturn, 1) := by decide +kernel
theorem dX2_neighbourAt_56 : decode cX2_neighbourAt 56 = .ok (.iinc 3 1, 3) := by decide +kernel
theorem dX2_neighbourAt_59 : decode cX2_neighbourAt 59 = .ok (.goto (-47), 3) := by decide +kernel
theorem dX2_neighbourAt_62 : decode cX2_neighbourAt 62 = .ok (.iconst (-1), 1) := by decide +kernel
theorem dX2_neighbourAt_63 : decode cX2_neighbourAt 63 = .ok (.ireturn, 1) := by decide +kernel
theorem dX2_areNeighbours_0 : decode cX2_areNeighbours 0 = .ok (.iload_n 0, 1) := by decide +kernel
theorem dX2_areNeighbours_1 : decode cX2_areNeighbours 1 = .ok (.iload_n 1, 1) := by decide +kernel
theorem dX2_areNeighbours_2 : decode cX2_areNeighbours 2 = .ok (.iconst (-1), 1) := by decide +kernel
theorem dX2_areNeighbours_3 : decode cX2_areNeighbours 3 = .ok (.ixor, 1) := by decide +kernel
theorem dX2_areNeighbours_4 : decode cX2_areNeighbours 4 = .ok (.iand, 1) := by decide +kernel
theorem dX2_areNeighbours_5 : decode cX2_areNeighbours 5 = .ok (.invokestatic 79, 3) := by decide +kernel
theorem dX2_areNeighbours_8 : decode cX2_areNeighbours 8 = .ok (.iconst 1, 1) := by decide +kernel
theorem dX2_areNeighbours_9 : decode cX2_areNeighbours 9 = .ok (.if_icmp .ne 19, 3) := by decide +kernel
theorem dX2_areNeighbours_12 : decode cX2_areNeighbours 12 = .ok (.iload_n 1, 1) := by decide +kernel
theorem dX2_areNeighbours_13 : decode cX2_areNeighbours 13 = .ok (.iload_n 0, 1) := by decide +kernel
theorem dX2_areNeighbours_14 : decode cX2_areNeighbours 14 = .ok (.iconst (-1), 1) := by decide +kernel
theorem dX2_areNeighbours_15 : decode cX2_areNeighbours 15 = .ok (.ixor, 1) := by decide +kernel
theorem dX2_areNeighbours_16 : decode cX2_areNeighbours 16 = .ok (.iand, 1) := by decide +kernel
theorem dX2_areNeighbours_17 : decode cX2_areNeighbours 17 = .ok (.invokestatic 79, 3) := by decide +kernel
theorem dX2_areNeighbours_20 : decode cX2_areNeighbours 20 = .ok (.iconst 1, 1) := by decide +kernel
theorem dX2_areNeighbours_21 : decode cX2_areNeighbours 21 = .ok (.if_icmp .ne 7, 3) := by decide +kernel
theorem dX2_areNeighbours_24 : decode cX2_areNeighbours 24 = .ok (.iconst 1, 1) := by decide +kernel
theorem dX2_areNeighbours_25 : decode cX2_areNeighbours 25 = .ok (.goto 4, 3) := by decide +kernel
theorem dX2_areNeighbours_28 : decode cX2_areNeighbours 28 = .ok (.iconst 0, 1) := by decide +kernel
theorem dX2_areNeighbours_29 : decode cX2_areNeighbours 29 = .ok (.ireturn, 1) := by decide +kernel
theorem dX3_init_0 : decode cX3_init 0 = .ok (.aload_n 0, 1) := by decide +kernel
theorem dX3_init_1 : decode cX3_init 1 = .ok (.invokespecial 3, 3) := by decide +kernel
theorem dX3_init_4 : decode cX3_init 4 = .ok (.aload_n 0, 1) := by decide +kernel
theorem dX3_init_5 : decode cX3_init 5 = .ok (.bipush 20, 2) := by decide +kernel
theorem dX3_init_7 : decode cX3_init 7 = .ok (.newarray .int, 2) := by decide +kernel
theorem dX3_init_9 : decode cX3_init 9 = .ok (.putfield 9, 3) := by decide +kernel
theorem dX3_init_12 : decode cX3_init 12 = .ok (.return_, 1) := by decide +kernel
theorem dX3_isEmpty_0 : decode cX3_isEmpty 0 = .ok (.aload_n 0, 1) := by decide +kernel
theorem dX3_isEmpty_1 : decode cX3_isEmpty 1 = .ok (.getfield 15, 3) := by decide +kernel
theorem dX3_isEmpty_4 : decode cX3_isEmpty 4 = .ok (.ifCond .gt 7, 3) := by decide +kernel
theorem dX3_isEmpty_7 : decode cX3_isEmpty 7 = .ok (.iconst 1, 1) := by decide +kernel
theorem dX3_isEmpty_8 : decode cX3_isEmpty 8 = .ok (.goto 4, 3) := by decide +kernel
theorem dX3_isEmpty_11 : decode cX3_isEmpty 11 = .ok (.iconst 0, 1) := by decide +kernel
theorem dX3_isEmpty_12 : decode cX3_isEmpty 12 = .ok (.ireturn, 1) := by decide +kernel
theorem dX3_clear_0 : decode cX3_clear 0 = .ok (.aload_n 0, 1) := by decide +kernel
theorem dX3_clear_1 : decode cX3_clear 1 = .ok (.iconst 0, 1) := by decide +kernel
theorem dX3_clear_2 : decode cX3_clear 2 = .ok (.putfield 15, 3) := by decide +kernel
theorem dX3_clear_5 : decode cX3_clear 5 = .ok (.return_, 1) := by decide +kernel
theorem dX3_add_0 : decode cX3_add 0 = .ok (.aload_n 0, 1) := by decide +kernel
theorem dX3_add_1 : decode cX3_add 1 = .ok (.getfield 15, 3) := by decide +kernel
theorem dX3_add_4 : decode cX3_add 4 = .ok (.bipush 20, 2) := by decide +kernel
theorem dX3_add_6 : decode cX3_add 6 = .ok (.if_icmp .lt 37, 3) := by decide +kernel
theorem dX3_add_9 : decode cX3_add 9 = .ok (.iconst 1, 1) := by decide +kernel
theorem dX3_add_10 : decode cX3_add 10 = .ok (.istore_n 2, 1) := by decide +kernel
theorem dX3_add_11 : decode cX3_add 11 = .ok (.iload_n 2, 1) := by decide +kernel
theorem dX3_add_12 : decode cX3_add 12 = .ok (.bipush 20, 2) := by decide +kernel
theorem dX3_add_14 : decode cX3_add 14 = .ok (.if_icmp .ge 23, 3) := by decide +kernel
theorem dX3_add_17 : decode cX3_add 17 = .ok (.aload_n 0, 1) := by decide +kernel
theorem dX3_add_18 : decode cX3_add 18 = .ok (.getfield 9, 3) := by decide +kernel
theorem dX3_add_21 : decode cX3_add 21 = .ok (.iload_n 2, 1) := by decide +kernel
theorem dX3_add_22 : decode cX3_add 22 = .ok (.iconst 1, 1) := by decide +kernel
theorem dX3_add_23 : decode cX3_add 23 = .ok (.isub, 1) := by decide +kernel
theorem dX3_add_24 : decode cX3_add 24 = .ok (.aload_n 0, 1) := by decide +kernel
theorem dX3_add_25 : decode cX3_add 25 = .ok (.getfield 9, 3) := by decide +kernel
theorem dX3_add_28 : decode cX3_add 28 = .ok (.iload_n 2, 1) := by decide +kernel
theorem dX3_add_29 : decode cX3_add 29 = .ok (.iaload, 1) := by decide +kernel
theorem dX3_add_30 : decode cX3_add 30 = .ok (.iastore, 1) := by decide +kernel
theorem dX3_add_31 : decode cX3_add 31 = .ok (.iinc 2 1, 3) := by decide +kernel
theorem dX3_add_34 : decode cX3_add 34 = .ok (.goto (-23), 3) := by decide +kernel
theorem dX3_add_37 : decode cX3_add 37 = .ok (.aload_n 0, 1) := by decide +kernel
theorem dX3_add_38 : decode cX3_add 38 = .ok (.bipush 19, 2) := by decide +kernel
theorem dX3_add_40 : decode cX3_add 40 = .ok (.putfield 15, 3) := by decide +kernel
theorem dX3_add_43 : decode cX3_add 43 = .ok (.aload_n 0, 1) := by decide +kernel
theorem dX3_add_44 : decode cX3_add 44 = .ok (.getfield 15, 3) := by decide +kernel
theorem dX3_add_47 : decode cX3_add 47 = .ok (.ifCond .lt 23, 3) := by decide +kernel
theorem dX3_add_50 : decode cX3_add 50 = .ok (.aload_n 0, 1) := by decide +kernel
theorem dX3_add_51 : decode cX3_add 51 = .ok (.getfield 9, 3) := by decide +kernel
theorem dX3_add_54 : decode cX3_add 54 = .ok (.aload_n 0, 1) := by decide +kernel
theorem dX3_add_55 : decode cX3_add 55 = .ok (.getfield 15, 3) := by decide +kernel
theorem dX3_add_58 : decode cX3_add 58 = .ok (.iload_n 1, 1) := by decide +kernel
theorem dX3_add_59 : decode cX3_add 59 = .ok (.iastore, 1) := by decide +kernel
theorem dX3_add_60 : decode cX3_add 60 = .ok (.aload_n 0, 1) := by decide +kernel
theorem dX3_add_61 : decode cX3_add 61 = .ok (.dup, 1) := by decide +kernel
theorem dX3_add_62 : decode cX3_add 62 = .ok (.getfield 15, 3) := by decide +kernel
theorem dX3_add_65 : decode cX3_add 65 = .ok (.iconst 1, 1) := by decide +kernel
theorem dX3_add_66 : decode cX3_add 66 = .ok (.iadd, 1) := by decide +kernel
theorem dX3_add_67 : decode cX3_add 67 = .ok (.putfield 15, 3) := by decide +kernel
theorem dX3_add_70 : decode cX3_add 70 = .ok (.return_, 1) := by decide +kernel
theorem dX3_takeLatest_0 : decode cX3_takeLatest 0 = .ok (.aload_n 0, 1) := by decide +kernel
theorem dX3_takeLatest_1 : decode cX3_takeLatest 1 = .ok (.getfield 15, 3) := by decide +kernel
theorem dX3_takeLatest_4 : decode cX3_takeLatest 4 = .ok (.ifCond .le 12, 3) := by decide +kernel
theorem dX3_takeLatest_7 : decode cX3_takeLatest 7 = .ok (.aload_n 0, 1) := by decide +kernel
theorem dX3_takeLatest_8 : decode cX3_takeLatest 8 = .ok (.getfield 15, 3) := by decide +kernel
theorem dX3_takeLatest_11 : decode cX3_takeLatest 11 = .ok (.bipush 20, 2) := by decide +kernel
theorem dX3_takeLatest_13 : decode cX3_takeLatest 13 = .ok (.if_icmp .le 5, 3) := by decide +kernel
theorem dX3_takeLatest_16 : decode cX3_takeLatest 16 = .ok (.iconst 0, 1) := by decide +kernel
theorem dX3_takeLatest_17 : decode cX3_takeLatest 17 = .ok (.ireturn, 1) := by decide +kernel
theorem dX3_takeLatest_18 : decode cX3_takeLatest 18 = .ok (.aload_n 0, 1) := by decide +kernel
theorem dX3_takeLatest_19 : decode cX3_takeLatest 19 = .ok (.dup, 1) := by decide +kernel
theorem dX3_takeLatest_20 : decode cX3_takeLatest 20 = .ok (.getfield 15, 3) := by decide +kernel
theorem dX3_takeLatest_23 : decode cX3_takeLatest 23 = .ok (.iconst 1, 1) := by decide +kernel
theorem dX3_takeLatest_24 : decode cX3_takeLatest 24 = .ok (.isub, 1) := by decide +kernel
theorem dX3_takeLatest_25 : decode cX3_takeLatest 25 = .ok (.putfield 15, 3) := by decide +kernel
theorem dX3_takeLatest_28 : decode cX3_takeLatest 28 = .ok (.aload_n 0, 1) := by decide +kernel
theorem dX3_takeLatest_29 : decode cX3_takeLatest 29 = .ok (.getfield 9, 3) := by decide +kernel
theorem dX3_takeLatest_32 : decode cX3_takeLatest 32 = .ok (.aload_n 0, 1) := by decide +kernel
theorem dX3_takeLatest_33 : decode cX3_takeLatest 33 = .ok (.getfield 15, 3) := by decide +kernel
theorem dX3_takeLatest_36 : decode cX3_takeLatest 36 = .ok (.iaload, 1) := by decide +kernel
theorem dX3_takeLatest_37 : decode cX3_takeLatest 37 = .ok (.ireturn, 1) := by decide +kernel
theorem dX4_init_0 : decode cX4_init 0 = .ok (.aload_n 0, 1) := by decide +kernel
theorem dX4_init_1 : decode cX4_init 1 = .ok (.invokespecial 5, 3) := by decide +kernel
theorem dX4_init_4 : decode cX4_init 4 = .ok (.aload_n 0, 1) := by decide +kernel
theorem dX4_init_5 : decode cX4_init 5 = .ok (.new 11, 3) := by decide +kernel
theorem dX4_init_8 : decode cX4_init 8 = .ok (.dup, 1) := by decide +kernel
theorem dX4_init_9 : decode cX4_init 9 = .ok (.invokespecial 13, 3) := by decide +kernel
theorem dX4_init_12 : decode cX4_init 12 = .ok (.putfield 14, 3) := by decide +kernel
theorem dX4_init_15 : decode cX4_init 15 = .ok (.return_, 1) := by decide +kernel
theorem dX4_solve_0 : decode cX4_solve 0 = .ok (.aload_n 0, 1) := by decide +kernel
theorem dX4_solve_1 : decode cX4_solve 1 = .ok (.getfield 14, 3) := by decide +kernel
theorem dX4_solve_4 : decode cX4_solve 4 = .ok (.invokevirtual 18, 3) := by decide +kernel
theorem dX4_solve_7 : decode cX4_solve 7 = .ok (.aload_n 0, 1) := by decide +kernel
theorem dX4_solve_8 : decode cX4_solve 8 = .ok (.getfield 14, 3) := by decide +kernel
theorem dX4_solve_11 : decode cX4_solve 11 = .ok (.iconst 0, 1) := by decide +kernel
theorem dX4_solve_12 : decode cX4_solve 12 = .ok (.iconst 0, 1) := by decide +kernel
theorem dX4_solve_13 : decode cX4_solve 13 = .ok (.lconst 1, 1) := by decide +kernel
theorem dX4_solve_14 : decode cX4_solve 14 = .ok (.invokevirtual 21, 3) := by decide +kernel
theorem dX4_solve_17 : decode cX4_solve 17 = .ok (.aload_n 0, 1) := by decide +kernel
theorem dX4_solve_18 : decode cX4_solve 18 = .ok (.getfield 14, 3) := by decide +kernel
theorem dX4_solve_21 : decode cX4_solve 21 = .ok (.iconst 0, 1) := by decide +kernel
theorem dX4_solve_22 : decode cX4_solve 22 = .ok (.bipush 10, 2) := by decide +kernel
theorem dX4_solve_24 : decode cX4_solve 24 = .ok (.lconst 1, 1) := by decide +kernel
theorem dX4_solve_25 : decode cX4_solve 25 = .ok (.invokevirtual 21, 3) := by decide +kernel
theorem dX4_solve_28 : decode cX4_solve 28 = .ok (.aload_n 1, 1) := by decide +kernel
theorem dX4_solve_29 : decode cX4_solve 29 = .ok (.aload_n 0, 1) := by decide +kernel
theorem dX4_solve_30 : decode cX4_solve 30 = .ok (.getfield 14, 3) := by decide +kernel
theorem dX4_solve_33 : decode cX4_solve 33 = .ok (.iconst 1, 1) := by decide +kernel
theorem dX4_solve_34 : decode cX4_solve 34 = .ok (.invokevirtual 25, 3) := by decide +kernel
theorem dX4_solve_37 : decode cX4_solve 37 = .ok (.aload_n 1, 1) := by decide +kernel
theorem dX4_solve_38 : decode cX4_solve 38 = .ok (.aload_n 0, 1) := by decide +kernel
theorem dX4_solve_39 : decode cX4_solve 39 = .ok (.getfield 14, 3) := by decide +kernel
theorem dX4_solve_42 : decode cX4_solve 42 = .ok (.iconst 4, 1) := by decide +kernel
theorem dX4_solve_43 : decode cX4_solve 43 = .ok (.iload_n 2, 1) := by decide +kernel
theorem dX4_solve_44 : decode cX4_solve 44 = .ok (.invokevirtual 31, 3) := by decide +kernel
theorem dX4_solve_47 : decode cX4_solve 47 = .ok (.aload_n 0, 1) := by decide +kernel
theorem dX4_solve_48 : decode cX4_solve 48 = .ok (.getfield 14, 3) := by decide +kernel
theorem dX4_solve_51 : decode cX4_solve 51 = .ok (.invokevirtual 35, 3) := by decide +kernel
theorem dX4_solve_54 : decode cX4_solve 54 = .ok (.return_, 1) := by decide +kernel
theorem dX4_stateFound_0 : decode cX4_stateFound 0 = .ok (.aload_n 0, 1) := by decide +kernel
theorem dX4_stateFound_1 : decode cX4_stateFound 1 = .ok (.getfield 14, 3) := by decide +kernel
theorem dX4_stateFound_4 : decode cX4_stateFound 4 = .ok (.invokevirtual 38, 3) := by decide +kernel
theorem dX4_stateFound_7 : decode cX4_stateFound 7 = .ok (.ifCond .ne 5, 3) := by decide +kernel
theorem dX4_stateFound_10 : decode cX4_stateFound 10 = .ok (.iconst 3, 1) := by decide +kernel
theorem dX4_stateFound_11 : decode cX4_stateFound 11 = .ok (.ireturn, 1) := by decide +kernel
theorem dX4_stateFound_12 : decode cX4_stateFound 12 = .ok (.aload_n 0, 1) := by decide +kernel
theorem dX4_stateFound_13 : decode cX4_stateFound 13 = .ok (.getfield 14, 3) := by decide +kernel
theorem dX4_stateFound_16 : decode cX4_stateFound 16 = .ok (.iconst 1, 1) := by decide +kernel
theorem dX4_stateFound_17 : decode cX4_stateFound 17 = .ok (.invokevirtual 42, 3) := by decide +kernel
theorem dX4_stateFound_20 : decode cX4_stateFound 20 = .ok (.ifCond .ne 5, 3) := by decide +kernel
theorem dX4_stateFound_23 : decode cX4_stateFound 23 = .ok (.iconst 2, 1) := by decide +kernel
theorem dX4_stateFound_24 : decode cX4_stateFound 24 = .ok (.ireturn, 1) := by decide +kernel
theorem dX4_stateFound_25 : decode cX4_stateFound 25 = .ok (.aload_n 0, 1) := by decide +kernel
theorem dX4_stateFound_26 : decode cX4_stateFound 26 = .ok (.getfield 14, 3) := by decide +kernel
theorem dX4_stateFound_29 : decode cX4_stateFound 29 = .ok (.iconst 1, 1) := by decide +kernel
theorem dX4_stateFound_30 : decode cX4_stateFound 30 = .ok (.iconst 0, 1) := by decide +kernel
theorem dX4_stateFound_31 : decode cX4_stateFound 31 = .ok (.invokevirtual 46, 3) := by decide +kernel
theorem dX4_stateFound_34 : decode cX4_stateFound 34 = .ok (.lconst 0, 1) := by decide +kernel
theorem dX4_stateFound_35 : decode cX4_stateFound 35 = .ok (.lcmp, 1) := by decide +kernel
theorem dX4_stateFound_36 : decode cX4_stateFound 36 = .ok (.ifCond .ne 7, 3) := by decide +kernel
theorem dX4_stateFound_39 : decode cX4_stateFound 39 = .ok (.iconst 1, 1) := by decide +kernel
theorem dX4_stateFound_40 : decode cX4_stateFound 40 = .ok (.goto 4, 3) := by decide +kernel
theorem dX4_stateFound_43 : decode cX4_stateFound 43 = .ok (.iconst 0, 1) := by decide +kernel
theorem dX4_stateFound_44 : decode cX4_stateFound 44 = .ok (.ireturn, 1) := by decide +kernel
theorem dX4_isDetermined_0 : decode cX4_isDetermined 0 = .ok (.aload_n 0, 1) := by decide +kernel
theorem dX4_isDetermined_1 : decode cX4_isDetermined 1 = .ok (.getfield 14, 3) := by decide +kernel
theorem dX4_isDetermined_4 : decode cX4_isDetermined 4 = .ok (.iload_n 1, 1) := by decide +kernel
theorem dX4_isDetermined_5 : decode cX4_isDetermined 5 = .ok (.invokevirtual 42, 3) := by decide +kernel
theorem dX4_isDetermined_8 : decode cX4_isDetermined 8 = .ok (.ireturn, 1) := by decide +kernel
theorem dX4_speedPart_0 : decode cX4_speedPart 0 = .ok (.aload_n 0, 1) := by decide +kernel
theorem dX4_speedPart_1 : decode cX4_speedPart 1 = .ok (.getfield 14, 3) := by decide +kernel
theorem dX4_speedPart_4 : decode cX4_speedPart 4 = .ok (.iload_n 1, 1) := by decide +kernel
theorem dX4_speedPart_5 : decode cX4_speedPart 5 = .ok (.iload_n 2, 1) := by decide +kernel
theorem dX4_speedPart_6 : decode cX4_speedPart 6 = .ok (.invokevirtual 46, 3) := by decide +kernel
theorem dX4_speedPart_9 : decode cX4_speedPart 9 = .ok (.lreturn, 1) := by decide +kernel
theorem dX4_ratioPart_0 : decode cX4_ratioPart 0 = .ok (.aload_n 0, 1) := by decide +kernel
theorem dX4_ratioPart_1 : decode cX4_ratioPart 1 = .ok (.getfield 14, 3) := by decide +kernel
theorem dX4_ratioPart_4 : decode cX4_ratioPart 4 = .ok (.iconst 1, 1) := by decide +kernel
theorem dX4_ratioPart_5 : decode cX4_ratioPart 5 = .ok (.iconst 0, 1) := by decide +kernel
theorem dX4_ratioPart_6 : decode cX4_ratioPart 6 = .ok (.invokevirtual 46, 3) := by decide +kernel
theorem dX4_ratioPart_9 : decode cX4_ratioPart 9 = .ok (.lstore_n 2, 1) := by decide +kernel
theorem dX4_ratioPart_10 : decode cX4_ratioPart 10 = .ok (.aload_n 0, 1) := by decide +kernel
theorem dX4_ratioPart_11 : decode cX4_ratioPart 11 = .ok (.getfield 14, 3) := by decide +kernel
theorem dX4_ratioPart_14 : decode cX4_ratioPart 14 = .ok (.iconst 1, 1) := by decide +kernel
theorem dX4_ratioPart_15 : decode cX4_ratioPart 15 = .ok (.iconst 1, 1) := by decide +kernel
theorem dX4_ratioPart_16 : decode cX4_ratioPart 16 = .ok (.invokevirtual 46, 3) := by decide +kernel
theorem dX4_ratioPart_19 : decode cX4_ratioPart 19 = .ok (.lstore 4, 2) := by decide +kernel
theorem dX4_ratioPart_21 : decode cX4_ratioPart 21 = .ok (.iload_n 1, 1) := by decide +kernel
theorem dX4_ratioPart_22 : decode cX4_ratioPart 22 = .ok (.iconst 1, 1) := by decide +kernel
theorem dX4_ratioPart_23 : decode cX4_ratioPart 23 = .ok (.if_icmp .ne 16, 3) := by decide +kernel
theorem dX4_ratioPart_26 : decode cX4_ratioPart 26 = .ok (.lload_n 2, 1) := by decide +kernel
theorem dX4_ratioPart_27 : decode cX4_ratioPart 27 = .ok (.lconst 0, 1) := by decide +kernel
theorem dX4_ratioPart_28 : decode cX4_ratioPart 28 = .ok (.lcmp, 1) := by decide +kernel
theorem dX4_ratioPart_29 : decode cX4_ratioPart 29 = .ok (.ifCond .ge 8, 3) := by decide +kernel
theorem dX4_ratioPart_32 : decode cX4_ratioPart 32 = .ok (.lload_n 2, 1) := by decide +kernel
theorem dX4_ratioPart_33 : decode cX4_ratioPart 33 = .ok (.lneg, 1) := by decide +kernel
theorem dX4_ratioPart_34 : decode cX4_ratioPart 34 = .ok (.goto 4, 3) := by decide +kernel
theorem dX4_ratioPart_37 : decode cX4_ratioPart 37 = .ok (.lload_n 2, 1) := by decide +kernel
theorem dX4_ratioPart_38 : decode cX4_ratioPart 38 = .ok (.lreturn, 1) := by decide +kernel
theorem dX4_ratioPart_39 : decode cX4_ratioPart 39 = .ok (.lload_n 2, 1) := by decide +kernel
theorem dX4_ratioPart_40 : decode cX4_ratioPart 40 = .ok (.lconst 0, 1) := by decide +kernel
theorem dX4_ratioPart_41 : decode cX4_ratioPart 41 = .ok (.lcmp, 1) := by decide +kernel
theorem dX4_ratioPart_42 : decode cX4_ratioPart 42 = .ok (.ifCond .ge 9, 3) := by decide +kernel
theorem dX4_ratioPart_45 : decode cX4_ratioPart 45 = .ok (.lload 4, 2) := by decide +kernel
theorem dX4_ratioPart_47 : decode cX4_ratioPart 47 = .ok (.lneg, 1) := by decide +kernel
theorem dX4_ratioPart_48 : decode cX4_ratioPart 48 = .ok (.goto 5, 3) := by decide +kernel
theorem dX4_ratioPart_51 : decode cX4_ratioPart 51 = .ok (.lload 4, 2) := by decide +kernel
theorem dX4_ratioPart_53 : decode cX4_ratioPart 53 = .ok (.lreturn, 1) := by decide +kernel
theorem dX5_init_0 : decode cX5_init 0 = .ok (.aload_n 0, 1) := by decide +kernel
theorem dX5_init_1 : decode cX5_init 1 = .ok (.invokespecial 5, 3) := by decide +kernel
theorem dX5_init_4 : decode cX5_init 4 = .ok (.aload_n 0, 1) := by decide +kernel
theorem dX5_init_5 : decode cX5_init 5 = .ok (.new 11, 3) := by decide +kernel
theorem dX5_init_8 : decode cX5_init 8 = .ok (.dup, 1) := by decide +kernel
theorem dX5_init_9 : decode cX5_init 9 = .ok (.invokespecial 13, 3) := by decide +kernel
theorem dX5_init_12 : decode cX5_init 12 = .ok (.putfield 14, 3) := by decide +kernel
theorem dX5_init_15 : decode cX5_init 15 = .ok (.return_, 1) := by decide +kernel
theorem dX5_solve_0 : decode cX5_solve 0 = .ok (.aload_n 0, 1) := by decide +kernel
theorem dX5_solve_1 : decode cX5_solve 1 = .ok (.getfield 14, 3) := by decide +kernel
theorem dX5_solve_4 : decode cX5_solve 4 = .ok (.invokevirtual 18, 3) := by decide +kernel
theorem dX5_solve_7 : decode cX5_solve 7 = .ok (.aload_n 0, 1) := by decide +kernel
theorem dX5_solve_8 : decode cX5_solve 8 = .ok (.getfield 14, 3) := by decide +kernel
theorem dX5_solve_11 : decode cX5_solve 11 = .ok (.iconst 0, 1) := by decide +kernel
theorem dX5_solve_12 : decode cX5_solve 12 = .ok (.bipush 10, 2) := by decide +kernel
theorem dX5_solve_14 : decode cX5_solve 14 = .ok (.ldc2_w 21, 3) := by decide +kernel
theorem dX5_solve_17 : decode cX5_solve 17 = .ok (.invokevirtual 23, 3) := by decide +kernel
theorem dX5_solve_20 : decode cX5_solve 20 = .ok (.aload_n 0, 1) := by decide +kernel
theorem dX5_solve_21 : decode cX5_solve 21 = .ok (.getfield 14, 3) := by decide +kernel
theorem dX5_solve_24 : decode cX5_solve 24 = .ok (.iconst 1, 1) := by decide +kernel
theorem dX5_solve_25 : decode cX5_solve 25 = .ok (.iconst 0, 1) := by decide +kernel
theorem dX5_solve_26 : decode cX5_solve 26 = .ok (.lconst 1, 1) := by decide +kernel
theorem dX5_solve_27 : decode cX5_solve 27 = .ok (.invokevirtual 23, 3) := by decide +kernel
theorem dX5_solve_30 : decode cX5_solve 30 = .ok (.aload_n 1, 1) := by decide +kernel
theorem dX5_solve_31 : decode cX5_solve 31 = .ok (.aload_n 0, 1) := by decide +kernel
theorem dX5_solve_32 : decode cX5_solve 32 = .ok (.getfield 14, 3) := by decide +kernel
theorem dX5_solve_35 : decode cX5_solve 35 = .ok (.iconst 1, 1) := by decide +kernel
theorem dX5_solve_36 : decode cX5_solve 36 = .ok (.invokevirtual 27, 3) := by decide +kernel
theorem dX5_solve_39 : decode cX5_solve 39 = .ok (.aload_n 1, 1) := by decide +kernel
theorem dX5_solve_40 : decode cX5_solve 40 = .ok (.aload_n 0, 1) := by decide +kernel
theorem dX5_solve_41 : decode cX5_solve 41 = .ok (.getfield 14, 3) := by decide +kernel
theorem dX5_solve_44 : decode cX5_solve 44 = .ok (.iconst 4, 1) := by decide +kernel
theorem dX5_solve_45 : decode cX5_solve 45 = .ok (.iload_n 2, 1) := by decide +kernel
theorem dX5_solve_46 : decode cX5_solve 46 = .ok (.invokevirtual 33, 3) := by decide +kernel
theorem dX5_solve_49 : decode cX5_solve 49 = .ok (.aload_n 0, 1) := by decide +kernel
theorem dX5_solve_50 : decode cX5_solve 50 = .ok (.getfield 14, 3) := by decide +kernel
theorem dX5_solve_53 : decode cX5_solve 53 = .ok (.invokevirtual 37, 3) := by decide +kernel
theorem dX5_solve_56 : decode cX5_solve 56 = .ok (.return_, 1) := by decide +kernel
theorem dX5_isOutputDetermined_0 : decode cX5_isOutputDetermined 0 = .ok (.aload_n 0, 1) := by decide +kernel
theorem dX5_isOutputDetermined_1 : decode cX5_isOutputDetermined 1 = .ok (.getfield 14, 3) := by decide +kernel
theorem dX5_isOutputDetermined_4 : decode cX5_isOutputDetermined 4 = .ok (.iconst 0, 1) := by decide +kernel
theorem dX5_isOutputDetermined_5 : decode cX5_isOutputDetermined 5 = .ok (.invokevirtual 40, 3) := by decide +kernel
theorem dX5_isOutputDetermined_8 : decode cX5_isOutputDetermined 8 = .ok (.ireturn, 1) := by decide +kernel
theorem dX5_outputPart_0 : decode cX5_outputPart 0 = .ok (.aload_n 0, 1) := by decide +kernel
theorem dX5_outputPart_1 : decode cX5_outputPart 1 = .ok (.getfield 14, 3) := by decide +kernel
theorem dX5_outputPart_4 : decode cX5_outputPart 4 = .ok (.iconst 0, 1) := by decide +kernel
theorem dX5_outputPart_5 : decode cX5_outputPart 5 = .ok (.iload_n 1, 1) := by decide +kernel
theorem dX5_outputPart_6 : decode cX5_outputPart 6 = .ok (.invokevirtual 44, 3) := by decide +kernel
theorem dX5_outputPart_9 : decode cX5_outputPart 9 = .ok (.lreturn, 1) := by decide +kernel
theorem dX5_isDetermined_0 : decode cX5_isDetermined 0 = .ok (.aload_n 0, 1) := by decide +kernel
theorem dX5_isDetermined_1 : decode cX5_isDetermined 1 = .ok (.getfield 14, 3) := by decide +kernel
theorem dX5_isDetermined_4 : decode cX5_isDetermined 4 = .ok (.iconst 4, 1) := by decide +kernel
theorem dX5_isDetermined_5 : decode cX5_isDetermined 5 = .ok (.iload_n 1, 1) := by decide +kernel
theorem dX5_isDetermined_6 : decode cX5_isDetermined 6 = .ok (.iadd, 1) := by decide +kernel
theorem dX5_isDetermined_7 : decode cX5_isDetermined 7 = .ok (.invokevirtual 40, 3) := by decide +kernel
theorem dX5_isDetermined_10 : decode cX5_isDetermined 10 = .ok (.ireturn, 1) := by decide +kernel
theorem dX5_elementPart_0 : decode cX5_elementPart 0 = .ok (.aload_n 0, 1) := by decide +kernel
theorem dX5_elementPart_1 : decode cX5_elementPart 1 = .ok (.getfield 14, 3) := by decide +kernel
theorem dX5_elementPart_4 : decode cX5_elementPart 4 = .ok (.iconst 4, 1) := by decide +kernel
theorem dX5_elementPart_5 : decode cX5_elementPart 5 = .ok (.iload_n 1, 1) := by decide +kernel
theorem dX5_elementPart_6 : decode cX5_elementPart 6 = .ok (.iadd, 1) := by decide +kernel
theorem dX5_elementPart_7 : decode cX5_elementPart 7 = .ok (.iload_n 2, 1) := by decide +kernel
theorem dX5_elementPart_8 : decode cX5_elementPart 8 = .ok (.invokevirtual 44, 3) := by decide +kernel
theorem dX5_elementPart_11 : decode cX5_elementPart 11 = .ok (.lreturn, 1) := by decide +kernel
theorem dX5_holdsUpTo_0 : decode cX5_holdsUpTo 0 = .ok (.aload_n 0, 1) := by decide +kernel
theorem dX5_holdsUpTo_1 : decode cX5_holdsUpTo 1 = .ok (.iload_n 1, 1) := by decide +kernel
theorem dX5_holdsUpTo_2 : decode cX5_holdsUpTo 2 = .ok (.invokevirtual 48, 3) := by decide +kernel
theorem dX5_holdsUpTo_5 : decode cX5_holdsUpTo 5 = .ok (.ifCond .ne 7, 3) := by decide +kernel
theorem dX5_holdsUpTo_8 : decode cX5_holdsUpTo 8 = .ok (.sipush 10000, 3) := by decide +kernel
theorem dX5_holdsUpTo_11 : decode cX5_holdsUpTo 11 = .ok (.ireturn, 1) := by decide +kernel
theorem dX5_holdsUpTo_12 : decode cX5_holdsUpTo 12 = .ok (.aload_n 0, 1) := by decide +kernel
theorem dX5_holdsUpTo_13 : decode cX5_holdsUpTo 13 = .ok (.iload_n 1, 1) := by decide +kernel
theorem dX5_holdsUpTo_14 : decode cX5_holdsUpTo 14 = .ok (.iconst 0, 1) := by decide +kernel
theorem dX5_holdsUpTo_15 : decode cX5_holdsUpTo 15 = .ok (.invokevirtual 49, 3) := by decide +kernel
theorem dX5_holdsUpTo_18 : decode cX5_holdsUpTo 18 = .ok (.invokestatic 52, 3) := by decide +kernel
theorem dX5_holdsUpTo_21 : decode cX5_holdsUpTo 21 = .ok (.lstore_n 3, 1) := by decide +kernel
theorem dX5_holdsUpTo_22 : decode cX5_holdsUpTo 22 = .ok (.lload_n 3, 1) := by decide +kernel
theorem dX5_holdsUpTo_23 : decode cX5_holdsUpTo 23 = .ok (.lconst 0, 1) := by decide +kernel
theorem dX5_holdsUpTo_24 : decode cX5_holdsUpTo 24 = .ok (.lcmp, 1) := by decide +kernel
theorem dX5_holdsUpTo_25 : decode cX5_holdsUpTo 25 = .ok (.ifCond .ne 7, 3) := by decide +kernel
theorem dX5_holdsUpTo_28 : decode cX5_holdsUpTo 28 = .ok (.sipush 10000, 3) := by decide +kernel
theorem dX5_holdsUpTo_31 : decode cX5_holdsUpTo 31 = .ok (.ireturn, 1) := by decide +kernel
theorem dX5_holdsUpTo_32 : decode cX5_holdsUpTo 32 = .ok (.iload_n 2, 1) := by decide +kernel
theorem dX5_holdsUpTo_33 : decode cX5_holdsUpTo 33 = .ok (.i2l, 1) := by decide +kernel
theorem dX5_holdsUpTo_34 : decode cX5_holdsUpTo 34 = .ok (.aload_n 0, 1) := by decide +kernel
theorem dX5_holdsUpTo_35 : decode cX5_holdsUpTo 35 = .ok (.iload_n 1, 1) := by decide +kernel
theorem dX5_holdsUpTo_36 : decode cX5_holdsUpTo 36 = .ok (.iconst 1, 1) := by decide +kernel
theorem dX5_holdsUpTo_37 : decode cX5_holdsUpTo 37 = .ok (.invokevirtual 49, 3) := by decide +kernel
theorem dX5_holdsUpTo_40 : decode cX5_holdsUpTo 40 = .ok (.lmul, 1) := by decide +kernel
theorem dX5_holdsUpTo_41 : decode cX5_holdsUpTo 41 = .ok (.lload_n 3, 1) := by decide +kernel
theorem dX5_holdsUpTo_42 : decode cX5_holdsUpTo 42 = .ok (.ldiv, 1) := by decide +kernel
theorem dX5_holdsUpTo_43 : decode cX5_holdsUpTo 43 = .ok (.lstore 5, 2) := by decide +kernel
theorem dX5_holdsUpTo_45 : decode cX5_holdsUpTo 45 = .ok (.lload 5, 2) := by decide +kernel
theorem dX5_holdsUpTo_47 : decode cX5_holdsUpTo 47 = .ok (.ldc2_w 58, 3) := by decide +kernel
theorem dX5_holdsUpTo_50 : decode cX5_holdsUpTo 50 = .ok (.invokestatic 60, 3) := by decide +kernel
theorem dX5_holdsUpTo_53 : decode cX5_holdsUpTo 53 = .ok (.l2i, 1) := by decide +kernel
theorem dX5_holdsUpTo_54 : decode cX5_holdsUpTo 54 = .ok (.ireturn, 1) := by decide +kernel
theorem dJ6_bitCount_0f7a4_0 : decode cJ6_bitCount_0f7a4 0 = .ok (.iload_n 0, 1) := by decide +kernel
theorem dJ6_bitCount_0f7a4_1 : decode cJ6_bitCount_0f7a4 1 = .ok (.iload_n 0, 1) := by decide +kernel
theorem dJ6_bitCount_0f7a4_2 : decode cJ6_bitCount_0f7a4 2 = .ok (.iconst 1, 1) := by decide +kernel
theorem dJ6_bitCount_0f7a4_3 : decode cJ6_bitCount_0f7a4 3 = .ok (.iushr, 1) := by decide +kernel
theorem dJ6_bitCount_0f7a4_4 : decode cJ6_bitCount_0f7a4 4 = .ok (.ldc_w 265, 3) := by decide +kernel
theorem dJ6_bitCount_0f7a4_7 : decode cJ6_bitCount_0f7a4 7 = .ok (.iand, 1) := by decide +kernel
theorem dJ6_bitCount_0f7a4_8 : decode cJ6_bitCount_0f7a4 8 = .ok (.isub, 1) := by decide +kernel
theorem dJ6_bitCount_0f7a4_9 : decode cJ6_bitCount_0f7a4 9 = .ok (.istore_n 0, 1) := by decide +kernel
theorem dJ6_bitCount_0f7a4_10 : decode cJ6_bitCount_0f7a4 10 = .ok (.iload_n 0, 1) := by decide +kernel
theorem dJ6_bitCount_0f7a4_11 : decode cJ6_bitCount_0f7a4 11 = .ok (.ldc_w 266, 3) := by decide +kernel
theorem dJ6_bitCount_0f7a4_14 : decode cJ6_bitCount_0f7a4 14 = .ok (.iand, 1) := by decide +kernel
theorem dJ6_bitCount_0f7a4_15 : decode cJ6_bitCount_0f7a4 15 = .ok (.iload_n 0, 1) := by decide +kernel
theorem dJ6_bitCount_0f7a4_16 : decode cJ6_bitCount_0f7a4 16 = .ok (.iconst 2, 1) := by decide +kernel
theorem dJ6_bitCount_0f7a4_17 : decode cJ6_bitCount_0f7a4 17 = .ok (.iushr, 1) := by decide +kernel
theorem dJ6_bitCount_0f7a4_18 : decode cJ6_bitCount_0f7a4 18 = .ok (.ldc_w 266, 3) := by decide +kernel
theorem dJ6_bitCount_0f7a4_21 : decode cJ6_bitCount_0f7a4 21 = .ok (.iand, 1) := by decide +kernel
theorem dJ6_bitCount_0f7a4_22 : decode cJ6_bitCount_0f7a4 22 = .ok (.iadd, 1) := by decide +kernel
theorem dJ6_bitCount_0f7a4_23 : decode cJ6_bitCount_0f7a4 23 = .ok (.istore_n 0, 1) := by decide +kernel
theorem dJ6_bitCount_0f7a4_24 : decode cJ6_bitCount_0f7a4 24 = .ok (.iload_n 0, 1) := by decide +kernel
theorem dJ6_bitCount_0f7a4_25 : decode cJ6_bitCount_0f7a4 25 = .ok (.iload_n 0, 1) := by decide +kernel
theorem dJ6_bitCount_0f7a4_26 : decode cJ6_bitCount_0f7a4 26 = .ok (.iconst 4, 1) := by decide +kernel
theorem dJ6_bitCount_0f7a4_27 : decode cJ6_bitCount_0f7a4 27 = .ok (.iushr, 1) := by decide +kernel
theorem dJ6_bitCount_0f7a4_28 : decode cJ6_bitCount_0f7a4 28 = .ok (.iadd, 1) := by decide +kernel
theorem dJ6_bitCount_0f7a4_29 : decode cJ6_bitCount_0f7a4 29 = .ok (.ldc_w 267, 3) := by decide +kernel
theorem dJ6_bitCount_0f7a4_32 : decode cJ6_bitCount_0f7a4 32 = .ok (.iand, 1) := by decide +kernel
theorem dJ6_bitCount_0f7a4_33 : decode cJ6_bitCount_0f7a4 33 = .ok (.istore_n 0, 1) := by decide +kernel
theorem dJ6_bitCount_0f7a4_34 : decode cJ6_bitCount_0f7a4 34 = .ok (.iload_n 0, 1) := by decide +kernel
theorem dJ6_bitCount_0f7a4_35 : decode cJ6_bitCount_0f7a4 35 = .ok (.iload_n 0, 1) := by decide +kernel
theorem dJ6_bitCount_0f7a4_36 : decode cJ6_bitCount_0f7a4 36 = .ok (.bipush 8, 2) := by decide +kernel
theorem dJ6_bitCount_0f7a4_38 : decode cJ6_bitCount_0f7a4 38 = .ok (.iushr, 1) := by decide +kernel
theorem dJ6_bitCount_0f7a4_39 : decode cJ6_bitCount_0f7a4 39 = .ok (.iadd, 1) := by decide +kernel
theorem dJ6_bitCount_0f7a4_40 : decode cJ6_bitCount_0f7a4 40 = .ok (.istore_n 0, 1) := by decide +kernel
theorem dJ6_bitCount_0f7a4_41 : decode cJ6_bitCount_0f7a4 41 = .ok (.iload_n 0, 1) := by decide +kernel
theorem dJ6_bitCount_0f7a4_42 : decode cJ6_bitCount_0f7a4 42 = .ok (.iload_n 0, 1) := by decide +kernel
theorem dJ6_bitCount_0f7a4_43 : decode cJ6_bitCount_0f7a4 43 = .ok (.bipush 16, 2) := by decide +kernel
theorem dJ6_bitCount_0f7a4_45 : decode cJ6_bitCount_0f7a4 45 = .ok (.iushr, 1) := by decide +kernel
theorem dJ6_bitCount_0f7a4_46 : decode cJ6_bitCount_0f7a4 46 = .ok (.iadd, 1) := by decide +kernel
theorem dJ6_bitCount_0f7a4_47 : decode cJ6_bitCount_0f7a4 47 = .ok (.istore_n 0, 1) := by decide +kernel
theorem dJ6_bitCount_0f7a4_48 : decode cJ6_bitCount_0f7a4 48 = .ok (.iload_n 0, 1) := by decide +kernel
theorem dJ6_bitCount_0f7a4_49 : decode cJ6_bitCount_0f7a4 49 = .ok (.bipush 63, 2) := by decide +kernel
theorem dJ6_bitCount_0f7a4_51 : decode cJ6_bitCount_0f7a4 51 = .ok (.iand, 1) := by decide +kernel
theorem dJ6_bitCount_0f7a4_52 : decode cJ6_bitCount_0f7a4 52 = .ok (.ireturn, 1) := by decide +kernel
theorem dJ9_abs_067f4_0 : decode cJ9_abs_067f4 0 = .ok (.lload_n 0, 1) := by decide +kernel
theorem dJ9_abs_067f4_1 : decode cJ9_abs_067f4 1 = .ok (.lconst 0, 1) := by decide +kernel
theorem dJ9_abs_067f4_2 : decode cJ9_abs_067f4 2 = .ok (.lcmp, 1) := by decide +kernel
theorem dJ9_abs_067f4_3 : decode cJ9_abs_067f4 3 = .ok (.ifCond .ge 8, 3) := by decide +kernel
theorem dJ9_abs_067f4_6 : decode cJ9_abs_067f4 6 = .ok (.lload_n 0, 1) := by decide +kernel
theorem dJ9_abs_067f4_7 : decode cJ9_abs_067f4 7 = .ok (.lneg, 1) := by decide +kernel
theorem dJ9_abs_067f4_8 : decode cJ9_abs_067f4 8 = .ok (.goto 4, 3) := by decide +kernel
theorem dJ9_abs_067f4_11 : decode cJ9_abs_067f4 11 = .ok (.lload_n 0, 1) := by decide +kernel
theorem dJ9_abs_067f4_12 : decode cJ9_abs_067f4 12 = .ok (.lreturn, 1) := by decide +kernel
theorem dJ9_min_7cf53_0 : decode cJ9_min_7cf53 0 = .ok (.iload_n 0, 1) := by decide +kernel
theorem dJ9_min_7cf53_1 : decode cJ9_min_7cf53 1 = .ok (.iload_n 1, 1) := by decide +kernel
theorem dJ9_min_7cf53_2 : decode cJ9_min_7cf53 2 = .ok (.if_icmp .gt 7, 3) := by decide +kernel
theorem dJ9_min_7cf53_5 : decode cJ9_min_7cf53 5 = .ok (.iload_n 0, 1) := by decide +kernel
theorem dJ9_min_7cf53_6 : decode cJ9_min_7cf53 6 = .ok (.goto 4, 3) := by decide +kernel
theorem dJ9_min_7cf53_9 : decode cJ9_min_7cf53 9 = .ok (.iload_n 1, 1) := by decide +kernel
theorem dJ9_min_7cf53_10 : decode cJ9_min_7cf53 10 = .ok (.ireturn, 1) := by decide +kernel
theorem dJ9_min_f86c9_0 : decode cJ9_min_f86c9 0 = .ok (.lload_n 0, 1) := by decide +kernel
theorem dJ9_min_f86c9_1 : decode cJ9_min_f86c9 1 = .ok (.lload_n 2, 1) := by decide +kernel
theorem dJ9_min_f86c9_2 : decode cJ9_min_f86c9 2 = .ok (.lcmp, 1) := by decide +kernel
theorem dJ9_min_f86c9_3 : decode cJ9_min_f86c9 3 = .ok (.ifCond .gt 7, 3) := by decide +kernel
theorem dJ9_min_f86c9_6 : decode cJ9_min_f86c9 6 = .ok (.lload_n 0, 1) := by decide +kernel
theorem dJ9_min_f86c9_7 : decode cJ9_min_f86c9 7 = .ok (.goto 4, 3) := by decide +kernel
theorem dJ9_min_f86c9_10 : decode cJ9_min_f86c9 10 = .ok (.lload_n 2, 1) := by decide +kernel
theorem dJ9_min_f86c9_11 : decode cJ9_min_f86c9 11 = .ok (.lreturn, 1) := by decide +kernel
end
section
theorem dX6_init_0 : decode cX6_init 0 = .ok (.aload_n 0, 1) := by decide +kernel
theorem dX6_init_1 : decode cX6_init 1 = .ok (.invokespecial 3, 3) := by decide +kernel
theorem dX6_init_4 : decode cX6_init 4 = .ok (.aload_n 0, 1) := by decide +kernel
theorem dX6_init_5 : decode cX6_init 5 = .ok (.new 9, 3) := by decide +kernel
theorem dX6_init_8 : decode cX6_init 8 = .ok (.dup, 1) := by decide +kernel
theorem dX6_init_9 : decode cX6_init 9 = .ok (.invokespecial 11, 3) := by decide +kernel
theorem dX6_init_12 : decode cX6_init 12 = .ok (.putfield 12, 3) := by decide +kernel
theorem dX6_init_15 : decode cX6_init 15 = .ok (.aload_n 0, 1) := by decide +kernel
theorem dX6_init_16 : decode cX6_init 16 = .ok (.new 9, 3) := by decide +kernel
theorem dX6_init_19 : decode cX6_init 19 = .ok (.dup, 1) := by decide +kernel
theorem dX6_init_20 : decode cX6_init 20 = .ok (.invokespecial 11, 3) := by decide +kernel
theorem dX6_init_23 : decode cX6_init 23 = .ok (.putfield 16, 3) := by decide +kernel
theorem dX6_init_26 : decode cX6_init 26 = .ok (.aload_n 0, 1) := by decide +kernel
theorem dX6_init_27 : decode cX6_init 27 = .ok (.new 9, 3) := by decide +kernel
theorem dX6_init_30 : decode cX6_init 30 = .ok (.dup, 1) := by decide +kernel
theorem dX6_init_31 : decode cX6_init 31 = .ok (.invokespecial 11, 3) := by decide +kernel
theorem dX6_init_34 : decode cX6_init 34 = .ok (.putfield 19, 3) := by decide +kernel
theorem dX6_init_37 : decode cX6_init 37 = .ok (.aload_n 0, 1) := by decide +kernel
theorem dX6_init_38 : decode cX6_init 38 = .ok (.new 22, 3) := by decide +kernel
theorem dX6_init_41 : decode cX6_init 41 = .ok (.dup, 1) := by decide +kernel
theorem dX6_init_42 : decode cX6_init 42 = .ok (.invokespecial 24, 3) := by decide +kernel
theorem dX6_init_45 : decode cX6_init 45 = .ok (.putfield 25, 3) := by decide +kernel
theorem dX6_init_48 : decode cX6_init 48 = .ok (.aload_n 0, 1) := by decide +kernel
theorem dX6_init_49 : decode cX6_init 49 = .ok (.new 29, 3) := by decide +kernel
theorem dX6_init_52 : decode cX6_init 52 = .ok (.dup, 1) := by decide +kernel
theorem dX6_init_53 : decode cX6_init 53 = .ok (.invokespecial 31, 3) := by decide +kernel
theorem dX6_init_56 : decode cX6_init 56 = .ok (.putfield 32, 3) := by decide +kernel
theorem dX6_init_59 : decode cX6_init 59 = .ok (.aload_n 0, 1) := by decide +kernel
theorem dX6_init_60 : decode cX6_init 60 = .ok (.new 36, 3) := by decide +kernel
theorem dX6_init_63 : decode cX6_init 63 = .ok (.dup, 1) := by decide +kernel
theorem dX6_init_64 : decode cX6_init 64 = .ok (.invokespecial 38, 3) := by decide +kernel
theorem dX6_init_67 : decode cX6_init 67 = .ok (.putfield 39, 3) := by decide +kernel
theorem dX6_init_70 : decode cX6_init 70 = .ok (.aload_n 0, 1) := by decide +kernel
theorem dX6_init_71 : decode cX6_init 71 = .ok (.new 43, 3) := by decide +kernel
theorem dX6_init_74 : decode cX6_init 74 = .ok (.dup, 1) := by decide +kernel
theorem dX6_init_75 : decode cX6_init 75 = .ok (.invokespecial 45, 3) := by decide +kernel
theorem dX6_init_78 : decode cX6_init 78 = .ok (.putfield 46, 3) := by decide +kernel
theorem dX6_init_81 : decode cX6_init 81 = .ok (.return_, 1) := by decide +kernel
theorem dX6_addSet_0 : decode cX6_addSet 0 = .ok (.iload_n 1, 1) := by decide +kernel
theorem dX6_addSet_1 : decode cX6_addSet 1 = .ok (.invokestatic 50, 3) := by decide +kernel
theorem dX6_addSet_4 : decode cX6_addSet 4 = .ok (.ifCond .eq 17, 3) := by decide +kernel
theorem dX6_addSet_7 : decode cX6_addSet 7 = .ok (.iload_n 2, 1) := by decide +kernel
theorem dX6_addSet_8 : decode cX6_addSet 8 = .ok (.invokestatic 50, 3) := by decide +kernel
theorem dX6_addSet_11 : decode cX6_addSet 11 = .ok (.ifCond .eq 10, 3) := by decide +kernel
theorem dX6_addSet_14 : decode cX6_addSet 14 = .ok (.iload_n 3, 1) := by decide +kernel
theorem dX6_addSet_15 : decode cX6_addSet 15 = .ok (.invokestatic 50, 3) := by decide +kernel
theorem dX6_addSet_18 : decode cX6_addSet 18 = .ok (.ifCond .ne 13, 3) := by decide +kernel
theorem dX6_addSet_21 : decode cX6_addSet 21 = .ok (.new 54, 3) := by decide +kernel
theorem dX6_addSet_24 : decode cX6_addSet 24 = .ok (.dup, 1) := by decide +kernel
theorem dX6_addSet_25 : decode cX6_addSet 25 = .ok (.ldc 56, 2) := by decide +kernel
theorem dX6_addSet_27 : decode cX6_addSet 27 = .ok (.invokespecial 58, 3) := by decide +kernel
theorem dX6_addSet_30 : decode cX6_addSet 30 = .ok (.athrow, 1) := by decide +kernel
theorem dX6_addSet_31 : decode cX6_addSet 31 = .ok (.iload_n 1, 1) := by decide +kernel
theorem dX6_addSet_32 : decode cX6_addSet 32 = .ok (.iload_n 2, 1) := by decide +kernel
theorem dX6_addSet_33 : decode cX6_addSet 33 = .ok (.if_icmp .eq 13, 3) := by decide +kernel
theorem dX6_addSet_36 : decode cX6_addSet 36 = .ok (.iload_n 1, 1) := by decide +kernel
theorem dX6_addSet_37 : decode cX6_addSet 37 = .ok (.iload_n 3, 1) := by decide +kernel
theorem dX6_addSet_38 : decode cX6_addSet 38 = .ok (.if_icmp .eq 8, 3) := by decide +kernel
theorem dX6_addSet_41 : decode cX6_addSet 41 = .ok (.iload_n 2, 1) := by decide +kernel
theorem dX6_addSet_42 : decode cX6_addSet 42 = .ok (.iload_n 3, 1) := by decide +kernel
theorem dX6_addSet_43 : decode cX6_addSet 43 = .ok (.if_icmp .ne 13, 3) := by decide +kernel
theorem dX6_addSet_46 : decode cX6_addSet 46 = .ok (.new 61, 3) := by decide +kernel
theorem dX6_addSet_49 : decode cX6_addSet 49 = .ok (.dup, 1) := by decide +kernel
theorem dX6_addSet_50 : decode cX6_addSet 50 = .ok (.ldc 63, 2) := by decide +kernel
theorem dX6_addSet_52 : decode cX6_addSet 52 = .ok (.invokespecial 65, 3) := by decide +kernel
theorem dX6_addSet_55 : decode cX6_addSet 55 = .ok (.athrow, 1) := by decide +kernel
theorem dX6_addSet_56 : decode cX6_addSet 56 = .ok (.iload 4, 2) := by decide +kernel
theorem dX6_addSet_58 : decode cX6_addSet 58 = .ok (.bipush 10, 2) := by decide +kernel
theorem dX6_addSet_60 : decode cX6_addSet 60 = .ok (.if_icmp .lt 10, 3) := by decide +kernel
theorem dX6_addSet_63 : decode cX6_addSet 63 = .ok (.iload 4, 2) := by decide +kernel
theorem dX6_addSet_65 : decode cX6_addSet 65 = .ok (.bipush 40, 2) := by decide +kernel
theorem dX6_addSet_67 : decode cX6_addSet 67 = .ok (.if_icmp .le 13, 3) := by decide +kernel
theorem dX6_addSet_70 : decode cX6_addSet 70 = .ok (.new 61, 3) := by decide +kernel
theorem dX6_addSet_73 : decode cX6_addSet 73 = .ok (.dup, 1) := by decide +kernel
theorem dX6_addSet_74 : decode cX6_addSet 74 = .ok (.ldc 66, 2) := by decide +kernel
theorem dX6_addSet_76 : decode cX6_addSet 76 = .ok (.invokespecial 65, 3) := by decide +kernel
theorem dX6_addSet_79 : decode cX6_addSet 79 = .ok (.athrow, 1) := by decide +kernel
theorem dX6_addSet_80 : decode cX6_addSet 80 = .ok (.iload 5, 2) := by decide +kernel
theorem dX6_addSet_82 : decode cX6_addSet 82 = .ok (.iload 4, 2) := by decide +kernel
theorem dX6_addSet_84 : decode cX6_addSet 84 = .ok (.if_icmp .le 10, 3) := by decide +kernel
theorem dX6_addSet_87 : decode cX6_addSet 87 = .ok (.iload 5, 2) := by decide +kernel
theorem dX6_addSet_89 : decode cX6_addSet 89 = .ok (.bipush 100, 2) := by decide +kernel
theorem dX6_addSet_91 : decode cX6_addSet 91 = .ok (.if_icmp .le 13, 3) := by decide +kernel
theorem dX6_addSet_94 : decode cX6_addSet 94 = .ok (.new 61, 3) := by decide +kernel
theorem dX6_addSet_97 : decode cX6_addSet 97 = .ok (.dup, 1) := by decide +kernel
theorem dX6_addSet_98 : decode cX6_addSet 98 = .ok (.ldc 68, 2) := by decide +kernel
theorem dX6_addSet_100 : decode cX6_addSet 100 = .ok (.invokespecial 65, 3) := by decide +kernel
theorem dX6_addSet_103 : decode cX6_addSet 103 = .ok (.athrow, 1) := by decide +kernel
theorem dX6_addSet_104 : decode cX6_addSet 104 = .ok (.aload_n 0, 1) := by decide +kernel
theorem dX6_addSet_105 : decode cX6_addSet 105 = .ok (.getfield 12, 3) := by decide +kernel
theorem dX6_addSet_108 : decode cX6_addSet 108 = .ok (.invokevirtual 70, 3) := by decide +kernel
theorem dX6_addSet_111 : decode cX6_addSet 111 = .ok (.iconst 3, 1) := by decide +kernel
theorem dX6_addSet_112 : decode cX6_addSet 112 = .ok (.if_icmp .lt 13, 3) := by decide +kernel
theorem dX6_addSet_115 : decode cX6_addSet 115 = .ok (.new 74, 3) := by decide +kernel
theorem dX6_addSet_118 : decode cX6_addSet 118 = .ok (.dup, 1) := by decide +kernel
theorem dX6_addSet_119 : decode cX6_addSet 119 = .ok (.ldc 76, 2) := by decide +kernel
theorem dX6_addSet_121 : decode cX6_addSet 121 = .ok (.invokespecial 78, 3) := by decide +kernel
theorem dX6_addSet_124 : decode cX6_addSet 124 = .ok (.athrow, 1) := by decide +kernel
theorem dX6_addSet_125 : decode cX6_addSet 125 = .ok (.aload_n 0, 1) := by decide +kernel
theorem dX6_addSet_126 : decode cX6_addSet 126 = .ok (.getfield 46, 3) := by decide +kernel
theorem dX6_addSet_129 : decode cX6_addSet 129 = .ok (.invokevirtual 79, 3) := by decide +kernel
theorem dX6_addSet_132 : decode cX6_addSet 132 = .ok (.aload_n 0, 1) := by decide +kernel
theorem dX6_addSet_133 : decode cX6_addSet 133 = .ok (.getfield 12, 3) := by decide +kernel
theorem dX6_addSet_136 : decode cX6_addSet 136 = .ok (.iload_n 1, 1) := by decide +kernel
theorem dX6_addSet_137 : decode cX6_addSet 137 = .ok (.iload_n 2, 1) := by decide +kernel
theorem dX6_addSet_138 : decode cX6_addSet 138 = .ok (.iload_n 3, 1) := by decide +kernel
theorem dX6_addSet_139 : decode cX6_addSet 139 = .ok (.iload 4, 2) := by decide +kernel
theorem dX6_addSet_141 : decode cX6_addSet 141 = .ok (.iload 5, 2) := by decide +kernel
theorem dX6_addSet_143 : decode cX6_addSet 143 = .ok (.invokevirtual 82, 3) := by decide +kernel
theorem dX6_addSet_146 : decode cX6_addSet 146 = .ok (.aload_n 0, 1) := by decide +kernel
theorem dX6_addSet_147 : decode cX6_addSet 147 = .ok (.getfield 12, 3) := by decide +kernel
theorem dX6_addSet_150 : decode cX6_addSet 150 = .ok (.invokevirtual 70, 3) := by decide +kernel
theorem dX6_addSet_153 : decode cX6_addSet 153 = .ok (.ireturn, 1) := by decide +kernel
theorem dX6_addBrake_0 : decode cX6_addBrake 0 = .ok (.iload_n 1, 1) := by decide +kernel
theorem dX6_addBrake_1 : decode cX6_addBrake 1 = .ok (.invokestatic 50, 3) := by decide +kernel
theorem dX6_addBrake_4 : decode cX6_addBrake 4 = .ok (.ifCond .ne 13, 3) := by decide +kernel
theorem dX6_addBrake_7 : decode cX6_addBrake 7 = .ok (.new 54, 3) := by decide +kernel
theorem dX6_addBrake_10 : decode cX6_addBrake 10 = .ok (.dup, 1) := by decide +kernel
theorem dX6_addBrake_11 : decode cX6_addBrake 11 = .ok (.ldc 86, 2) := by decide +kernel
theorem dX6_addBrake_13 : decode cX6_addBrake 13 = .ok (.invokespecial 58, 3) := by decide +kernel
theorem dX6_addBrake_16 : decode cX6_addBrake 16 = .ok (.athrow, 1) := by decide +kernel
theorem dX6_addBrake_17 : decode cX6_addBrake 17 = .ok (.aload_n 0, 1) := by decide +kernel
theorem dX6_addBrake_18 : decode cX6_addBrake 18 = .ok (.getfield 12, 3) := by decide +kernel
theorem dX6_addBrake_21 : decode cX6_addBrake 21 = .ok (.invokevirtual 88, 3) := by decide +kernel
theorem dX6_addBrake_24 : decode cX6_addBrake 24 = .ok (.bipush 6, 2) := by decide +kernel
theorem dX6_addBrake_26 : decode cX6_addBrake 26 = .ok (.if_icmp .lt 13, 3) := by decide +kernel
theorem dX6_addBrake_29 : decode cX6_addBrake 29 = .ok (.new 74, 3) := by decide +kernel
theorem dX6_addBrake_32 : decode cX6_addBrake 32 = .ok (.dup, 1) := by decide +kernel
theorem dX6_addBrake_33 : decode cX6_addBrake 33 = .ok (.ldc 91, 2) := by decide +kernel
theorem dX6_addBrake_35 : decode cX6_addBrake 35 = .ok (.invokespecial 78, 3) := by decide +kernel
theorem dX6_addBrake_38 : decode cX6_addBrake 38 = .ok (.athrow, 1) := by decide +kernel
theorem dX6_addBrake_39 : decode cX6_addBrake 39 = .ok (.aload_n 0, 1) := by decide +kernel
theorem dX6_addBrake_40 : decode cX6_addBrake 40 = .ok (.getfield 46, 3) := by decide +kernel
theorem dX6_addBrake_43 : decode cX6_addBrake 43 = .ok (.invokevirtual 79, 3) := by decide +kernel
theorem dX6_addBrake_46 : decode cX6_addBrake 46 = .ok (.aload_n 0, 1) := by decide +kernel
theorem dX6_addBrake_47 : decode cX6_addBrake 47 = .ok (.getfield 12, 3) := by decide +kernel
theorem dX6_addBrake_50 : decode cX6_addBrake 50 = .ok (.iload_n 1, 1) := by decide +kernel
theorem dX6_addBrake_51 : decode cX6_addBrake 51 = .ok (.iconst (-1), 1) := by decide +kernel
theorem dX6_addBrake_52 : decode cX6_addBrake 52 = .ok (.invokevirtual 93, 3) := by decide +kernel
theorem dX6_addBrake_55 : decode cX6_addBrake 55 = .ok (.ireturn, 1) := by decide +kernel
theorem dX6_addClutch_0 : decode cX6_addClutch 0 = .ok (.iload_n 1, 1) := by decide +kernel
theorem dX6_addClutch_1 : decode cX6_addClutch 1 = .ok (.invokestatic 50, 3) := by decide +kernel
theorem dX6_addClutch_4 : decode cX6_addClutch 4 = .ok (.ifCond .eq 10, 3) := by decide +kernel
theorem dX6_addClutch_7 : decode cX6_addClutch 7 = .ok (.iload_n 2, 1) := by decide +kernel
theorem dX6_addClutch_8 : decode cX6_addClutch 8 = .ok (.invokestatic 50, 3) := by decide +kernel
theorem dX6_addClutch_11 : decode cX6_addClutch 11 = .ok (.ifCond .ne 13, 3) := by decide +kernel
theorem dX6_addClutch_14 : decode cX6_addClutch 14 = .ok (.new 54, 3) := by decide +kernel
theorem dX6_addClutch_17 : decode cX6_addClutch 17 = .ok (.dup, 1) := by decide +kernel
theorem dX6_addClutch_18 : decode cX6_addClutch 18 = .ok (.ldc 56, 2) := by decide +kernel
theorem dX6_addClutch_20 : decode cX6_addClutch 20 = .ok (.invokespecial 58, 3) := by decide +kernel
theorem dX6_addClutch_23 : decode cX6_addClutch 23 = .ok (.athrow, 1) := by decide +kernel
theorem dX6_addClutch_24 : decode cX6_addClutch 24 = .ok (.iload_n 1, 1) := by decide +kernel
theorem dX6_addClutch_25 : decode cX6_addClutch 25 = .ok (.iload_n 2, 1) := by decide +kernel
theorem dX6_addClutch_26 : decode cX6_addClutch 26 = .ok (.if_icmp .ne 13, 3) := by decide +kernel
theorem dX6_addClutch_29 : decode cX6_addClutch 29 = .ok (.new 61, 3) := by decide +kernel
theorem dX6_addClutch_32 : decode cX6_addClutch 32 = .ok (.dup, 1) := by decide +kernel
theorem dX6_addClutch_33 : decode cX6_addClutch 33 = .ok (.ldc 97, 2) := by decide +kernel
theorem dX6_addClutch_35 : decode cX6_addClutch 35 = .ok (.invokespecial 65, 3) := by decide +kernel
theorem dX6_addClutch_38 : decode cX6_addClutch 38 = .ok (.athrow, 1) := by decide +kernel
theorem dX6_addClutch_39 : decode cX6_addClutch 39 = .ok (.aload_n 0, 1) := by decide +kernel
theorem dX6_addClutch_40 : decode cX6_addClutch 40 = .ok (.getfield 12, 3) := by decide +kernel
theorem dX6_addClutch_43 : decode cX6_addClutch 43 = .ok (.invokevirtual 88, 3) := by decide +kernel
theorem dX6_addClutch_46 : decode cX6_addClutch 46 = .ok (.bipush 6, 2) := by decide +kernel
theorem dX6_addClutch_48 : decode cX6_addClutch 48 = .ok (.if_icmp .lt 13, 3) := by decide +kernel
theorem dX6_addClutch_51 : decode cX6_addClutch 51 = .ok (.new 74, 3) := by decide +kernel
theorem dX6_addClutch_54 : decode cX6_addClutch 54 = .ok (.dup, 1) := by decide +kernel
theorem dX6_addClutch_55 : decode cX6_addClutch 55 = .ok (.ldc 91, 2) := by decide +kernel
theorem dX6_addClutch_57 : decode cX6_addClutch 57 = .ok (.invokespecial 78, 3) := by decide +kernel
theorem dX6_addClutch_60 : decode cX6_addClutch 60 = .ok (.athrow, 1) := by decide +kernel
theorem dX6_addClutch_61 : decode cX6_addClutch 61 = .ok (.aload_n 0, 1) := by decide +kernel
theorem dX6_addClutch_62 : decode cX6_addClutch 62 = .ok (.getfield 46, 3) := by decide +kernel
theorem dX6_addClutch_65 : decode cX6_addClutch 65 = .ok (.invokevirtual 79, 3) := by decide +kernel
theorem dX6_addClutch_68 : decode cX6_addClutch 68 = .ok (.aload_n 0, 1) := by decide +kernel
theorem dX6_addClutch_69 : decode cX6_addClutch 69 = .ok (.getfield 12, 3) := by decide +kernel
theorem dX6_addClutch_72 : decode cX6_addClutch 72 = .ok (.iload_n 1, 1) := by decide +kernel
theorem dX6_addClutch_73 : decode cX6_addClutch 73 = .ok (.iload_n 2, 1) := by decide +kernel
theorem dX6_addClutch_74 : decode cX6_addClutch 74 = .ok (.invokevirtual 93, 3) := by decide +kernel
theorem dX6_addClutch_77 : decode cX6_addClutch 77 = .ok (.ireturn, 1) := by decide +kernel
theorem dX6_setCapacity_0 : decode cX6_setCapacity 0 = .ok (.aload_n 0, 1) := by decide +kernel
theorem dX6_setCapacity_1 : decode cX6_setCapacity 1 = .ok (.getfield 12, 3) := by decide +kernel
theorem dX6_setCapacity_4 : decode cX6_setCapacity 4 = .ok (.iload_n 1, 1) := by decide +kernel
theorem dX6_setCapacity_5 : decode cX6_setCapacity 5 = .ok (.invokevirtual 99, 3) := by decide +kernel
theorem dX6_setCapacity_8 : decode cX6_setCapacity 8 = .ok (.ifCond .ne 13, 3) := by decide +kernel
theorem dX6_setCapacity_11 : decode cX6_setCapacity 11 = .ok (.new 54, 3) := by decide +kernel
theorem dX6_setCapacity_14 : decode cX6_setCapacity 14 = .ok (.dup, 1) := by decide +kernel
theorem dX6_setCapacity_15 : decode cX6_setCapacity 15 = .ok (.ldc 102, 2) := by decide +kernel
theorem dX6_setCapacity_17 : decode cX6_setCapacity 17 = .ok (.invokespecial 58, 3) := by decide +kernel
theorem dX6_setCapacity_20 : decode cX6_setCapacity 20 = .ok (.athrow, 1) := by decide +kernel
theorem dX6_setCapacity_21 : decode cX6_setCapacity 21 = .ok (.iload_n 2, 1) := by decide +kernel
theorem dX6_setCapacity_22 : decode cX6_setCapacity 22 = .ok (.iconst 1, 1) := by decide +kernel
theorem dX6_setCapacity_23 : decode cX6_setCapacity 23 = .ok (.if_icmp .lt 10, 3) := by decide +kernel
theorem dX6_setCapacity_26 : decode cX6_setCapacity 26 = .ok (.iload_n 2, 1) := by decide +kernel
theorem dX6_setCapacity_27 : decode cX6_setCapacity 27 = .ok (.sipush 10000, 3) := by decide +kernel
theorem dX6_setCapacity_30 : decode cX6_setCapacity 30 = .ok (.if_icmp .le 13, 3) := by decide +kernel
theorem dX6_setCapacity_33 : decode cX6_setCapacity 33 = .ok (.new 61, 3) := by decide +kernel
theorem dX6_setCapacity_36 : decode cX6_setCapacity 36 = .ok (.dup, 1) := by decide +kernel
theorem dX6_setCapacity_37 : decode cX6_setCapacity 37 = .ok (.ldc 104, 2) := by decide +kernel
theorem dX6_setCapacity_39 : decode cX6_setCapacity 39 = .ok (.invokespecial 65, 3) := by decide +kernel
theorem dX6_setCapacity_42 : decode cX6_setCapacity 42 = .ok (.athrow, 1) := by decide +kernel
theorem dX6_setCapacity_43 : decode cX6_setCapacity 43 = .ok (.aload_n 0, 1) := by decide +kernel
theorem dX6_setCapacity_44 : decode cX6_setCapacity 44 = .ok (.getfield 12, 3) := by decide +kernel
theorem dX6_setCapacity_47 : decode cX6_setCapacity 47 = .ok (.iload_n 1, 1) := by decide +kernel
theorem dX6_setCapacity_48 : decode cX6_setCapacity 48 = .ok (.invokevirtual 106, 3) := by decide +kernel
theorem dX6_setCapacity_51 : decode cX6_setCapacity 51 = .ok (.istore_n 3, 1) := by decide +kernel
theorem dX6_setCapacity_52 : decode cX6_setCapacity 52 = .ok (.aload_n 0, 1) := by decide +kernel
theorem dX6_setCapacity_53 : decode cX6_setCapacity 53 = .ok (.getfield 12, 3) := by decide +kernel
theorem dX6_setCapacity_56 : decode cX6_setCapacity 56 = .ok (.iload_n 1, 1) := by decide +kernel
theorem dX6_setCapacity_57 : decode cX6_setCapacity 57 = .ok (.iload_n 2, 1) := by decide +kernel
theorem dX6_setCapacity_58 : decode cX6_setCapacity 58 = .ok (.invokevirtual 110, 3) := by decide +kernel
theorem dX6_setCapacity_61 : decode cX6_setCapacity 61 = .ok (.iload_n 3, 1) := by decide +kernel
theorem dX6_setCapacity_62 : decode cX6_setCapacity 62 = .ok (.ireturn, 1) := by decide +kernel
theorem dX6_count_0 : decode cX6_count 0 = .ok (.iload_n 1, 1) := by decide +kernel
theorem dX6_count_1 : decode cX6_count 1 = .ok (.ifCond .lt 8, 3) := by decide +kernel
theorem dX6_count_4 : decode cX6_count 4 = .ok (.iload_n 1, 1) := by decide +kernel
theorem dX6_count_5 : decode cX6_count 5 = .ok (.iconst 2, 1) := by decide +kernel
theorem dX6_count_6 : decode cX6_count 6 = .ok (.if_icmp .le 13, 3) := by decide +kernel
theorem dX6_count_9 : decode cX6_count 9 = .ok (.new 61, 3) := by decide +kernel
theorem dX6_count_12 : decode cX6_count 12 = .ok (.dup, 1) := by decide +kernel
theorem dX6_count_13 : decode cX6_count 13 = .ok (.ldc 114, 2) := by decide +kernel
theorem dX6_count_15 : decode cX6_count 15 = .ok (.invokespecial 65, 3) := by decide +kernel
theorem dX6_count_18 : decode cX6_count 18 = .ok (.athrow, 1) := by decide +kernel
theorem dX6_count_19 : decode cX6_count 19 = .ok (.iload_n 1, 1) := by decide +kernel
theorem dX6_count_20 : decode cX6_count 20 = .ok (.ifCond .ne 11, 3) := by decide +kernel
theorem dX6_count_23 : decode cX6_count 23 = .ok (.aload_n 0, 1) := by decide +kernel
theorem dX6_count_24 : decode cX6_count 24 = .ok (.getfield 12, 3) := by decide +kernel
theorem dX6_count_27 : decode cX6_count 27 = .ok (.invokevirtual 70, 3) := by decide +kernel
theorem dX6_count_30 : decode cX6_count 30 = .ok (.ireturn, 1) := by decide +kernel
theorem dX6_count_31 : decode cX6_count 31 = .ok (.iload_n 1, 1) := by decide +kernel
theorem dX6_count_32 : decode cX6_count 32 = .ok (.iconst 1, 1) := by decide +kernel
theorem dX6_count_33 : decode cX6_count 33 = .ok (.if_icmp .ne 11, 3) := by decide +kernel
theorem dX6_count_36 : decode cX6_count 36 = .ok (.aload_n 0, 1) := by decide +kernel
theorem dX6_count_37 : decode cX6_count 37 = .ok (.getfield 12, 3) := by decide +kernel
theorem dX6_count_40 : decode cX6_count 40 = .ok (.invokevirtual 88, 3) := by decide +kernel
theorem dX6_count_43 : decode cX6_count 43 = .ok (.ireturn, 1) := by decide +kernel
theorem dX6_count_44 : decode cX6_count 44 = .ok (.aload_n 0, 1) := by decide +kernel
theorem dX6_count_45 : decode cX6_count 45 = .ok (.getfield 46, 3) := by decide +kernel
theorem dX6_count_48 : decode cX6_count 48 = .ok (.aload_n 0, 1) := by decide +kernel
theorem dX6_count_49 : decode cX6_count 49 = .ok (.getfield 12, 3) := by decide +kernel
theorem dX6_count_52 : decode cX6_count 52 = .ok (.aload_n 0, 1) := by decide +kernel
theorem dX6_count_53 : decode cX6_count 53 = .ok (.getfield 32, 3) := by decide +kernel
theorem dX6_count_56 : decode cX6_count 56 = .ok (.invokevirtual 116, 3) := by decide +kernel
theorem dX6_count_59 : decode cX6_count 59 = .ok (.aload_n 0, 1) := by decide +kernel
theorem dX6_count_60 : decode cX6_count 60 = .ok (.getfield 46, 3) := by decide +kernel
theorem dX6_count_63 : decode cX6_count 63 = .ok (.invokevirtual 120, 3) := by decide +kernel
theorem dX6_count_66 : decode cX6_count 66 = .ok (.ireturn, 1) := by decide +kernel
theorem dX6_engage_0 : decode cX6_engage 0 = .ok (.aload_n 0, 1) := by decide +kernel
theorem dX6_engage_1 : decode cX6_engage 1 = .ok (.getfield 12, 3) := by decide +kernel
theorem dX6_engage_4 : decode cX6_engage 4 = .ok (.iload_n 1, 1) := by decide +kernel
theorem dX6_engage_5 : decode cX6_engage 5 = .ok (.invokevirtual 99, 3) := by decide +kernel
theorem dX6_engage_8 : decode cX6_engage 8 = .ok (.ifCond .ne 13, 3) := by decide +kernel
theorem dX6_engage_11 : decode cX6_engage 11 = .ok (.new 54, 3) := by decide +kernel
theorem dX6_engage_14 : decode cX6_engage 14 = .ok (.dup, 1) := by decide +kernel
theorem dX6_engage_15 : decode cX6_engage 15 = .ok (.ldc 102, 2) := by decide +kernel
theorem dX6_engage_17 : decode cX6_engage 17 = .ok (.invokespecial 58, 3) := by decide +kernel
theorem dX6_engage_20 : decode cX6_engage 20 = .ok (.athrow, 1) := by decide +kernel
theorem dX6_engage_21 : decode cX6_engage 21 = .ok (.aload_n 0, 1) := by decide +kernel
theorem dX6_engage_22 : decode cX6_engage 22 = .ok (.aload_n 0, 1) := by decide +kernel
theorem dX6_engage_23 : decode cX6_engage 23 = .ok (.getfield 12, 3) := by decide +kernel
theorem dX6_engage_26 : decode cX6_engage 26 = .ok (.invokevirtual 123, 3) := by decide +kernel
theorem dX6_engage_29 : decode cX6_engage 29 = .ok (.iconst 1, 1) := by decide +kernel
theorem dX6_engage_30 : decode cX6_engage 30 = .ok (.iload_n 1, 1) := by decide +kernel
theorem dX6_engage_31 : decode cX6_engage 31 = .ok (.ishl, 1) := by decide +kernel
theorem dX6_engage_32 : decode cX6_engage 32 = .ok (.ior, 1) := by decide +kernel
theorem dX6_engage_33 : decode cX6_engage 33 = .ok (.invokevirtual 126, 3) := by decide +kernel
theorem dX6_engage_36 : decode cX6_engage 36 = .ok (.ireturn, 1) := by decide +kernel
theorem dX6_release_0 : decode cX6_release 0 = .ok (.aload_n 0, 1) := by decide +kernel
theorem dX6_release_1 : decode cX6_release 1 = .ok (.getfield 12, 3) := by decide +kernel
theorem dX6_release_4 : decode cX6_release 4 = .ok (.iload_n 1, 1) := by decide +kernel
theorem dX6_release_5 : decode cX6_release 5 = .ok (.invokevirtual 99, 3) := by decide +kernel
theorem dX6_release_8 : decode cX6_release 8 = .ok (.ifCond .ne 13, 3) := by decide +kernel
theorem dX6_release_11 : decode cX6_release 11 = .ok (.new 54, 3) := by decide +kernel
theorem dX6_release_14 : decode cX6_release 14 = .ok (.dup, 1) := by decide +kernel
theorem dX6_release_15 : decode cX6_release 15 = .ok (.ldc 102, 2) := by decide +kernel
theorem dX6_release_17 : decode cX6_release 17 = .ok (.invokespecial 58, 3) := by decide +kernel
theorem dX6_release_20 : decode cX6_release 20 = .ok (.athrow, 1) := by decide +kernel
theorem dX6_release_21 : decode cX6_release 21 = .ok (.aload_n 0, 1) := by decide +kernel
theorem dX6_release_22 : decode cX6_release 22 = .ok (.aload_n 0, 1) := by decide +kernel
theorem dX6_release_23 : decode cX6_release 23 = .ok (.getfield 12, 3) := by decide +kernel
theorem dX6_release_26 : decode cX6_release 26 = .ok (.invokevirtual 123, 3) := by decide +kernel
theorem dX6_release_29 : decode cX6_release 29 = .ok (.iconst 1, 1) := by decide +kernel
theorem dX6_release_30 : decode cX6_release 30 = .ok (.iload_n 1, 1) := by decide +kernel
theorem dX6_release_31 : decode cX6_release 31 = .ok (.ishl, 1) := by decide +kernel
theorem dX6_release_32 : decode cX6_release 32 = .ok (.iconst (-1), 1) := by decide +kernel
theorem dX6_release_33 : decode cX6_release 33 = .ok (.ixor, 1) := by decide +kernel
theorem dX6_release_34 : decode cX6_release 34 = .ok (.iand, 1) := by decide +kernel
theorem dX6_release_35 : decode cX6_release 35 = .ok (.invokevirtual 126, 3) := by decide +kernel
theorem dX6_release_38 : decode cX6_release 38 = .ok (.ireturn, 1) := by decide +kernel
theorem dX6_select_0 : decode cX6_select 0 = .ok (.aload_n 0, 1) := by decide +kernel
theorem dX6_select_1 : decode cX6_select 1 = .ok (.getfield 12, 3) := by decide +kernel
theorem dX6_select_4 : decode cX6_select 4 = .ok (.iload_n 1, 1) := by decide +kernel
theorem dX6_select_5 : decode cX6_select 5 = .ok (.invokevirtual 129, 3) := by decide +kernel
theorem dX6_select_8 : decode cX6_select 8 = .ok (.ifCond .ne 13, 3) := by decide +kernel
theorem dX6_select_11 : decode cX6_select 11 = .ok (.new 61, 3) := by decide +kernel
theorem dX6_select_14 : decode cX6_select 14 = .ok (.dup, 1) := by decide +kernel
theorem dX6_select_15 : decode cX6_select 15 = .ok (.ldc 132, 2) := by decide +kernel
theorem dX6_select_17 : decode cX6_select 17 = .ok (.invokespecial 65, 3) := by decide +kernel
theorem dX6_select_20 : decode cX6_select 20 = .ok (.athrow, 1) := by decide +kernel
theorem dX6_select_21 : decode cX6_select 21 = .ok (.aload_n 0, 1) := by decide +kernel
theorem dX6_select_22 : decode cX6_select 22 = .ok (.getfield 12, 3) := by decide +kernel
theorem dX6_select_25 : decode cX6_select 25 = .ok (.invokevirtual 123, 3) := by decide +kernel
theorem dX6_select_28 : decode cX6_select 28 = .ok (.istore_n 2, 1) := by decide +kernel
theorem dX6_select_29 : decode cX6_select 29 = .ok (.aload_n 0, 1) := by decide +kernel
theorem dX6_select_30 : decode cX6_select 30 = .ok (.iload_n 1, 1) := by decide +kernel
theorem dX6_select_31 : decode cX6_select 31 = .ok (.invokevirtual 126, 3) := by decide +kernel
theorem dX6_select_34 : decode cX6_select 34 = .ok (.pop, 1) := by decide +kernel
theorem dX6_select_35 : decode cX6_select 35 = .ok (.iload_n 2, 1) := by decide +kernel
theorem dX6_select_36 : decode cX6_select 36 = .ok (.ireturn, 1) := by decide +kernel
theorem dX6_undo_0 : decode cX6_undo 0 = .ok (.aload_n 0, 1) := by decide +kernel
theorem dX6_undo_1 : decode cX6_undo 1 = .ok (.getfield 25, 3) := by decide +kernel
theorem dX6_undo_4 : decode cX6_undo 4 = .ok (.invokevirtual 134, 3) := by decide +kernel
theorem dX6_undo_7 : decode cX6_undo 7 = .ok (.ifCond .eq 5, 3) := by decide +kernel
theorem dX6_undo_10 : decode cX6_undo 10 = .ok (.iconst 0, 1) := by decide +kernel
theorem dX6_undo_11 : decode cX6_undo 11 = .ok (.ireturn, 1) := by decide +kernel
theorem dX6_undo_12 : decode cX6_undo 12 = .ok (.aload_n 0, 1) := by decide +kernel
theorem dX6_undo_13 : decode cX6_undo 13 = .ok (.getfield 12, 3) := by decide +kernel
theorem dX6_undo_16 : decode cX6_undo 16 = .ok (.aload_n 0, 1) := by decide +kernel
theorem dX6_undo_17 : decode cX6_undo 17 = .ok (.getfield 25, 3) := by decide +kernel
theorem dX6_undo_20 : decode cX6_undo 20 = .ok (.invokevirtual 138, 3) := by decide +kernel
theorem dX6_undo_23 : decode cX6_undo 23 = .ok (.invokevirtual 141, 3) := by decide +kernel
theorem dX6_undo_26 : decode cX6_undo 26 = .ok (.iconst 1, 1) := by decide +kernel
theorem dX6_undo_27 : decode cX6_undo 27 = .ok (.ireturn, 1) := by decide +kernel
theorem dX6_engaged_0 : decode cX6_engaged 0 = .ok (.aload_n 0, 1) := by decide +kernel
theorem dX6_engaged_1 : decode cX6_engaged 1 = .ok (.getfield 12, 3) := by decide +kernel
theorem dX6_engaged_4 : decode cX6_engaged 4 = .ok (.invokevirtual 123, 3) := by decide +kernel
theorem dX6_engaged_7 : decode cX6_engaged 7 = .ok (.ireturn, 1) := by decide +kernel
theorem dX6_brakesOnly_0 : decode cX6_brakesOnly 0 = .ok (.iconst 0, 1) := by decide +kernel
theorem dX6_brakesOnly_1 : decode cX6_brakesOnly 1 = .ok (.istore_n 1, 1) := by decide +kernel
theorem dX6_brakesOnly_2 : decode cX6_brakesOnly 2 = .ok (.iload_n 1, 1) := by decide +kernel
theorem dX6_brakesOnly_3 : decode cX6_brakesOnly 3 = .ok (.bipush 6, 2) := by decide +kernel
theorem dX6_brakesOnly_5 : decode cX6_brakesOnly 5 = .ok (.if_icmp .ge 33, 3) := by decide +kernel
theorem dX6_brakesOnly_8 : decode cX6_brakesOnly 8 = .ok (.aload_n 0, 1) := by decide +kernel
theorem dX6_brakesOnly_9 : decode cX6_brakesOnly 9 = .ok (.getfield 12, 3) := by decide +kernel
theorem dX6_brakesOnly_12 : decode cX6_brakesOnly 12 = .ok (.iload_n 1, 1) := by decide +kernel
theorem dX6_brakesOnly_13 : decode cX6_brakesOnly 13 = .ok (.invokevirtual 145, 3) := by decide +kernel
theorem dX6_brakesOnly_16 : decode cX6_brakesOnly 16 = .ok (.ifCond .eq 16, 3) := by decide +kernel
theorem dX6_brakesOnly_19 : decode cX6_brakesOnly 19 = .ok (.aload_n 0, 1) := by decide +kernel
theorem dX6_brakesOnly_20 : decode cX6_brakesOnly 20 = .ok (.getfield 12, 3) := by decide +kernel
theorem dX6_brakesOnly_23 : decode cX6_brakesOnly 23 = .ok (.iload_n 1, 1) := by decide +kernel
theorem dX6_brakesOnly_24 : decode cX6_brakesOnly 24 = .ok (.invokevirtual 148, 3) := by decide +kernel
theorem dX6_brakesOnly_27 : decode cX6_brakesOnly 27 = .ok (.ifCond .eq 5, 3) := by decide +kernel
theorem dX6_brakesOnly_30 : decode cX6_brakesOnly 30 = .ok (.iconst 0, 1) := by decide +kernel
theorem dX6_brakesOnly_31 : decode cX6_brakesOnly 31 = .ok (.ireturn, 1) := by decide +kernel
theorem dX6_brakesOnly_32 : decode cX6_brakesOnly 32 = .ok (.iinc 1 1, 3) := by decide +kernel
theorem dX6_brakesOnly_35 : decode cX6_brakesOnly 35 = .ok (.goto (-33), 3) := by decide +kernel
theorem dX6_brakesOnly_38 : decode cX6_brakesOnly 38 = .ok (.iconst 1, 1) := by decide +kernel
theorem dX6_brakesOnly_39 : decode cX6_brakesOnly 39 = .ok (.ireturn, 1) := by decide +kernel
theorem dX6_state_0 : decode cX6_state 0 = .ok (.aload_n 0, 1) := by decide +kernel
theorem dX6_state_1 : decode cX6_state 1 = .ok (.getfield 32, 3) := by decide +kernel
theorem dX6_state_4 : decode cX6_state 4 = .ok (.aload_n 0, 1) := by decide +kernel
theorem dX6_state_5 : decode cX6_state 5 = .ok (.getfield 12, 3) := by decide +kernel
theorem dX6_state_8 : decode cX6_state 8 = .ok (.aload_n 0, 1) := by decide +kernel
theorem dX6_state_9 : decode cX6_state 9 = .ok (.getfield 12, 3) := by decide +kernel
theorem dX6_state_12 : decode cX6_state 12 = .ok (.invokevirtual 123, 3) := by decide +kernel
theorem dX6_state_15 : decode cX6_state 15 = .ok (.invokevirtual 151, 3) := by decide +kernel
theorem dX6_state_18 : decode cX6_state 18 = .ok (.aload_n 0, 1) := by decide +kernel
theorem dX6_state_19 : decode cX6_state 19 = .ok (.getfield 32, 3) := by decide +kernel
theorem dX6_state_22 : decode cX6_state 22 = .ok (.invokevirtual 155, 3) := by decide +kernel
theorem dX6_state_25 : decode cX6_state 25 = .ok (.ireturn, 1) := by decide +kernel
theorem dX6_speed_0 : decode cX6_speed 0 = .ok (.iload_n 1, 1) := by decide +kernel
theorem dX6_speed_1 : decode cX6_speed 1 = .ok (.invokestatic 50, 3) := by decide +kernel
theorem dX6_speed_4 : decode cX6_speed 4 = .ok (.ifCond .ne 13, 3) := by decide +kernel
theorem dX6_speed_7 : decode cX6_speed 7 = .ok (.new 54, 3) := by decide +kernel
theorem dX6_speed_10 : decode cX6_speed 10 = .ok (.dup, 1) := by decide +kernel
theorem dX6_speed_11 : decode cX6_speed 11 = .ok (.ldc 86, 2) := by decide +kernel
theorem dX6_speed_13 : decode cX6_speed 13 = .ok (.invokespecial 58, 3) := by decide +kernel
theorem dX6_speed_16 : decode cX6_speed 16 = .ok (.athrow, 1) := by decide +kernel
theorem dX6_speed_17 : decode cX6_speed 17 = .ok (.iload_n 2, 1) := by decide +kernel
theorem dX6_speed_18 : decode cX6_speed 18 = .ok (.invokestatic 158, 3) := by decide +kernel
theorem dX6_speed_21 : decode cX6_speed 21 = .ok (.ifCond .ne 13, 3) := by decide +kernel
theorem dX6_speed_24 : decode cX6_speed 24 = .ok (.new 61, 3) := by decide +kernel
theorem dX6_speed_27 : decode cX6_speed 27 = .ok (.dup, 1) := by decide +kernel
theorem dX6_speed_28 : decode cX6_speed 28 = .ok (.ldc 161, 2) := by decide +kernel
theorem dX6_speed_30 : decode cX6_speed 30 = .ok (.invokespecial 65, 3) := by decide +kernel
theorem dX6_speed_33 : decode cX6_speed 33 = .ok (.athrow, 1) := by decide +kernel
theorem dX6_speed_34 : decode cX6_speed 34 = .ok (.aload_n 0, 1) := by decide +kernel
theorem dX6_speed_35 : decode cX6_speed 35 = .ok (.getfield 32, 3) := by decide +kernel
theorem dX6_speed_38 : decode cX6_speed 38 = .ok (.aload_n 0, 1) := by decide +kernel
theorem dX6_speed_39 : decode cX6_speed 39 = .ok (.getfield 12, 3) := by decide +kernel
theorem dX6_speed_42 : decode cX6_speed 42 = .ok (.aload_n 0, 1) := by decide +kernel
theorem dX6_speed_43 : decode cX6_speed 43 = .ok (.getfield 12, 3) := by decide +kernel
theorem dX6_speed_46 : decode cX6_speed 46 = .ok (.invokevirtual 123, 3) := by decide +kernel
theorem dX6_speed_49 : decode cX6_speed 49 = .ok (.invokevirtual 151, 3) := by decide +kernel
theorem dX6_speed_52 : decode cX6_speed 52 = .ok (.aload_n 0, 1) := by decide +kernel
theorem dX6_speed_53 : decode cX6_speed 53 = .ok (.getfield 32, 3) := by decide +kernel
theorem dX6_speed_56 : decode cX6_speed 56 = .ok (.iload_n 1, 1) := by decide +kernel
theorem dX6_speed_57 : decode cX6_speed 57 = .ok (.invokevirtual 163, 3) := by decide +kernel
theorem dX6_speed_60 : decode cX6_speed 60 = .ok (.ifCond .ne 13, 3) := by decide +kernel
theorem dX6_speed_63 : decode cX6_speed 63 = .ok (.new 74, 3) := by decide +kernel
theorem dX6_speed_66 : decode cX6_speed 66 = .ok (.dup, 1) := by decide +kernel
theorem dX6_speed_67 : decode cX6_speed 67 = .ok (.ldc 166, 2) := by decide +kernel
theorem dX6_speed_69 : decode cX6_speed 69 = .ok (.invokespecial 78, 3) := by decide +kernel
theorem dX6_speed_72 : decode cX6_speed 72 = .ok (.athrow, 1) := by decide +kernel
theorem dX6_speed_73 : decode cX6_speed 73 = .ok (.aload_n 0, 1) := by decide +kernel
theorem dX6_speed_74 : decode cX6_speed 74 = .ok (.getfield 32, 3) := by decide +kernel
theorem dX6_speed_77 : decode cX6_speed 77 = .ok (.iload_n 1, 1) := by decide +kernel
theorem dX6_speed_78 : decode cX6_speed 78 = .ok (.iload_n 2, 1) := by decide +kernel
theorem dX6_speed_79 : decode cX6_speed 79 = .ok (.invokevirtual 168, 3) := by decide +kernel
theorem dX6_speed_82 : decode cX6_speed 82 = .ok (.lreturn, 1) := by decide +kernel
theorem dX6_ratio_0 : decode cX6_ratio 0 = .ok (.iload_n 1, 1) := by decide +kernel
theorem dX6_ratio_1 : decode cX6_ratio 1 = .ok (.invokestatic 158, 3) := by decide +kernel
theorem dX6_ratio_4 : decode cX6_ratio 4 = .ok (.ifCond .ne 13, 3) := by decide +kernel
theorem dX6_ratio_7 : decode cX6_ratio 7 = .ok (.new 61, 3) := by decide +kernel
theorem dX6_ratio_10 : decode cX6_ratio 10 = .ok (.dup, 1) := by decide +kernel
theorem dX6_ratio_11 : decode cX6_ratio 11 = .ok (.ldc 161, 2) := by decide +kernel
theorem dX6_ratio_13 : decode cX6_ratio 13 = .ok (.invokespecial 65, 3) := by decide +kernel
theorem dX6_ratio_16 : decode cX6_ratio 16 = .ok (.athrow, 1) := by decide +kernel
theorem dX6_ratio_17 : decode cX6_ratio 17 = .ok (.aload_n 0, 1) := by decide +kernel
theorem dX6_ratio_18 : decode cX6_ratio 18 = .ok (.getfield 32, 3) := by decide +kernel
theorem dX6_ratio_21 : decode cX6_ratio 21 = .ok (.aload_n 0, 1) := by decide +kernel
theorem dX6_ratio_22 : decode cX6_ratio 22 = .ok (.getfield 12, 3) := by decide +kernel
theorem dX6_ratio_25 : decode cX6_ratio 25 = .ok (.aload_n 0, 1) := by decide +kernel
theorem dX6_ratio_26 : decode cX6_ratio 26 = .ok (.getfield 12, 3) := by decide +kernel
theorem dX6_ratio_29 : decode cX6_ratio 29 = .ok (.invokevirtual 123, 3) := by decide +kernel
theorem dX6_ratio_32 : decode cX6_ratio 32 = .ok (.invokevirtual 151, 3) := by decide +kernel
theorem dX6_ratio_35 : decode cX6_ratio 35 = .ok (.aload_n 0, 1) := by decide +kernel
theorem dX6_ratio_36 : decode cX6_ratio 36 = .ok (.getfield 32, 3) := by decide +kernel
theorem dX6_ratio_39 : decode cX6_ratio 39 = .ok (.invokevirtual 155, 3) := by decide +kernel
theorem dX6_ratio_42 : decode cX6_ratio 42 = .ok (.ifCond .eq 13, 3) := by decide +kernel
theorem dX6_ratio_45 : decode cX6_ratio 45 = .ok (.new 74, 3) := by decide +kernel
theorem dX6_ratio_48 : decode cX6_ratio 48 = .ok (.dup, 1) := by decide +kernel
theorem dX6_ratio_49 : decode cX6_ratio 49 = .ok (.ldc 172, 2) := by decide +kernel
theorem dX6_ratio_51 : decode cX6_ratio 51 = .ok (.invokespecial 78, 3) := by decide +kernel
theorem dX6_ratio_54 : decode cX6_ratio 54 = .ok (.athrow, 1) := by decide +kernel
theorem dX6_ratio_55 : decode cX6_ratio 55 = .ok (.aload_n 0, 1) := by decide +kernel
theorem dX6_ratio_56 : decode cX6_ratio 56 = .ok (.getfield 32, 3) := by decide +kernel
theorem dX6_ratio_59 : decode cX6_ratio 59 = .ok (.iload_n 1, 1) := by decide +kernel
theorem dX6_ratio_60 : decode cX6_ratio 60 = .ok (.invokevirtual 174, 3) := by decide +kernel
theorem dX6_ratio_63 : decode cX6_ratio 63 = .ok (.lreturn, 1) := by decide +kernel
theorem dX6_ratioAsFloat_0 : decode cX6_ratioAsFloat 0 = .ok (.aload_n 0, 1) := by decide +kernel
theorem dX6_ratioAsFloat_1 : decode cX6_ratioAsFloat 1 = .ok (.getfield 32, 3) := by decide +kernel
theorem dX6_ratioAsFloat_4 : decode cX6_ratioAsFloat 4 = .ok (.aload_n 0, 1) := by decide +kernel
theorem dX6_ratioAsFloat_5 : decode cX6_ratioAsFloat 5 = .ok (.getfield 12, 3) := by decide +kernel
theorem dX6_ratioAsFloat_8 : decode cX6_ratioAsFloat 8 = .ok (.aload_n 0, 1) := by decide +kernel
theorem dX6_ratioAsFloat_9 : decode cX6_ratioAsFloat 9 = .ok (.getfield 12, 3) := by decide +kernel
theorem dX6_ratioAsFloat_12 : decode cX6_ratioAsFloat 12 = .ok (.invokevirtual 123, 3) := by decide +kernel
theorem dX6_ratioAsFloat_15 : decode cX6_ratioAsFloat 15 = .ok (.invokevirtual 151, 3) := by decide +kernel
theorem dX6_ratioAsFloat_18 : decode cX6_ratioAsFloat 18 = .ok (.aload_n 0, 1) := by decide +kernel
theorem dX6_ratioAsFloat_19 : decode cX6_ratioAsFloat 19 = .ok (.getfield 32, 3) := by decide +kernel
theorem dX6_ratioAsFloat_22 : decode cX6_ratioAsFloat 22 = .ok (.invokevirtual 155, 3) := by decide +kernel
theorem dX6_ratioAsFloat_25 : decode cX6_ratioAsFloat 25 = .ok (.ifCond .eq 13, 3) := by decide +kernel
theorem dX6_ratioAsFloat_28 : decode cX6_ratioAsFloat 28 = .ok (.new 74, 3) := by decide +kernel
theorem dX6_ratioAsFloat_31 : decode cX6_ratioAsFloat 31 = .ok (.dup, 1) := by decide +kernel
theorem dX6_ratioAsFloat_32 : decode cX6_ratioAsFloat 32 = .ok (.ldc 172, 2) := by decide +kernel
theorem dX6_ratioAsFloat_34 : decode cX6_ratioAsFloat 34 = .ok (.invokespecial 78, 3) := by decide +kernel
theorem dX6_ratioAsFloat_37 : decode cX6_ratioAsFloat 37 = .ok (.athrow, 1) := by decide +kernel
theorem dX6_ratioAsFloat_38 : decode cX6_ratioAsFloat 38 = .ok (.aload_n 0, 1) := by decide +kernel
theorem dX6_ratioAsFloat_39 : decode cX6_ratioAsFloat 39 = .ok (.getfield 32, 3) := by decide +kernel
theorem dX6_ratioAsFloat_42 : decode cX6_ratioAsFloat 42 = .ok (.iconst 0, 1) := by decide +kernel
theorem dX6_ratioAsFloat_43 : decode cX6_ratioAsFloat 43 = .ok (.invokevirtual 174, 3) := by decide +kernel
theorem dX6_ratioAsFloat_46 : decode cX6_ratioAsFloat 46 = .ok (.aload_n 0, 1) := by decide +kernel
theorem dX6_ratioAsFloat_47 : decode cX6_ratioAsFloat 47 = .ok (.getfield 32, 3) := by decide +kernel
theorem dX6_ratioAsFloat_50 : decode cX6_ratioAsFloat 50 = .ok (.iconst 1, 1) := by decide +kernel
theorem dX6_ratioAsFloat_51 : decode cX6_ratioAsFloat 51 = .ok (.invokevirtual 174, 3) := by decide +kernel
theorem dX6_ratioAsFloat_54 : decode cX6_ratioAsFloat 54 = .ok (.invokestatic 178, 3) := by decide +kernel
theorem dX6_ratioAsFloat_57 : decode cX6_ratioAsFloat 57 = .ok (.freturn, 1) := by decide +kernel
theorem dX6_outputTorque_0 : decode cX6_outputTorque 0 = .ok (.iload_n 1, 1) := by decide +kernel
theorem dX6_outputTorque_1 : decode cX6_outputTorque 1 = .ok (.invokestatic 158, 3) := by decide +kernel
theorem dX6_outputTorque_4 : decode cX6_outputTorque 4 = .ok (.ifCond .ne 13, 3) := by decide +kernel
theorem dX6_outputTorque_7 : decode cX6_outputTorque 7 = .ok (.new 61, 3) := by decide +kernel
theorem dX6_outputTorque_10 : decode cX6_outputTorque 10 = .ok (.dup, 1) := by decide +kernel
theorem dX6_outputTorque_11 : decode cX6_outputTorque 11 = .ok (.ldc 161, 2) := by decide +kernel
theorem dX6_outputTorque_13 : decode cX6_outputTorque 13 = .ok (.invokespecial 65, 3) := by decide +kernel
theorem dX6_outputTorque_16 : decode cX6_outputTorque 16 = .ok (.athrow, 1) := by decide +kernel
theorem dX6_outputTorque_17 : decode cX6_outputTorque 17 = .ok (.aload_n 0, 1) := by decide +kernel
theorem dX6_outputTorque_18 : decode cX6_outputTorque 18 = .ok (.getfield 39, 3) := by decide +kernel
theorem dX6_outputTorque_21 : decode cX6_outputTorque 21 = .ok (.aload_n 0, 1) := by decide +kernel
theorem dX6_outputTorque_22 : decode cX6_outputTorque 22 = .ok (.getfield 12, 3) := by decide +kernel
theorem dX6_outputTorque_25 : decode cX6_outputTorque 25 = .ok (.aload_n 0, 1) := by decide +kernel
theorem dX6_outputTorque_26 : decode cX6_outputTorque 26 = .ok (.getfield 12, 3) := by decide +kernel
theorem dX6_outputTorque_29 : decode cX6_outputTorque 29 = .ok (.invokevirtual 123, 3) := by decide +kernel
theorem dX6_outputTorque_32 : decode cX6_outputTorque 32 = .ok (.invokevirtual 182, 3) := by decide +kernel
theorem dX6_outputTorque_35 : decode cX6_outputTorque 35 = .ok (.aload_n 0, 1) := by decide +kernel
theorem dX6_outputTorque_36 : decode cX6_outputTorque 36 = .ok (.getfield 39, 3) := by decide +kernel
theorem dX6_outputTorque_39 : decode cX6_outputTorque 39 = .ok (.invokevirtual 183, 3) := by decide +kernel
theorem dX6_outputTorque_42 : decode cX6_outputTorque 42 = .ok (.ifCond .ne 13, 3) := by decide +kernel
theorem dX6_outputTorque_45 : decode cX6_outputTorque 45 = .ok (.new 74, 3) := by decide +kernel
theorem dX6_outputTorque_48 : decode cX6_outputTorque 48 = .ok (.dup, 1) := by decide +kernel
theorem dX6_outputTorque_49 : decode cX6_outputTorque 49 = .ok (.ldc 186, 2) := by decide +kernel
theorem dX6_outputTorque_51 : decode cX6_outputTorque 51 = .ok (.invokespecial 78, 3) := by decide +kernel
theorem dX6_outputTorque_54 : decode cX6_outputTorque 54 = .ok (.athrow, 1) := by decide +kernel
theorem dX6_outputTorque_55 : decode cX6_outputTorque 55 = .ok (.aload_n 0, 1) := by decide +kernel
theorem dX6_outputTorque_56 : decode cX6_outputTorque 56 = .ok (.getfield 39, 3) := by decide +kernel
theorem dX6_outputTorque_59 : decode cX6_outputTorque 59 = .ok (.iload_n 1, 1) := by decide +kernel
theorem dX6_outputTorque_60 : decode cX6_outputTorque 60 = .ok (.invokevirtual 188, 3) := by decide +kernel
theorem dX6_outputTorque_63 : decode cX6_outputTorque 63 = .ok (.lreturn, 1) := by decide +kernel
theorem dX6_torque_0 : decode cX6_torque 0 = .ok (.aload_n 0, 1) := by decide +kernel
theorem dX6_torque_1 : decode cX6_torque 1 = .ok (.getfield 12, 3) := by decide +kernel
theorem dX6_torque_4 : decode cX6_torque 4 = .ok (.iload_n 1, 1) := by decide +kernel
theorem dX6_torque_5 : decode cX6_torque 5 = .ok (.invokevirtual 99, 3) := by decide +kernel
theorem dX6_torque_8 : decode cX6_torque 8 = .ok (.ifCond .ne 13, 3) := by decide +kernel
theorem dX6_torque_11 : decode cX6_torque 11 = .ok (.new 54, 3) := by decide +kernel
theorem dX6_torque_14 : decode cX6_torque 14 = .ok (.dup, 1) := by decide +kernel
theorem dX6_torque_15 : decode cX6_torque 15 = .ok (.ldc 102, 2) := by decide +kernel
theorem dX6_torque_17 : decode cX6_torque 17 = .ok (.invokespecial 58, 3) := by decide +kernel
theorem dX6_torque_20 : decode cX6_torque 20 = .ok (.athrow, 1) := by decide +kernel
theorem dX6_torque_21 : decode cX6_torque 21 = .ok (.iload_n 2, 1) := by decide +kernel
theorem dX6_torque_22 : decode cX6_torque 22 = .ok (.invokestatic 158, 3) := by decide +kernel
theorem dX6_torque_25 : decode cX6_torque 25 = .ok (.ifCond .ne 13, 3) := by decide +kernel
theorem dX6_torque_28 : decode cX6_torque 28 = .ok (.new 61, 3) := by decide +kernel
theorem dX6_torque_31 : decode cX6_torque 31 = .ok (.dup, 1) := by decide +kernel
theorem dX6_torque_32 : decode cX6_torque 32 = .ok (.ldc 161, 2) := by decide +kernel
theorem dX6_torque_34 : decode cX6_torque 34 = .ok (.invokespecial 65, 3) := by decide +kernel
theorem dX6_torque_37 : decode cX6_torque 37 = .ok (.athrow, 1) := by decide +kernel
theorem dX6_torque_38 : decode cX6_torque 38 = .ok (.aload_n 0, 1) := by decide +kernel
theorem dX6_torque_39 : decode cX6_torque 39 = .ok (.getfield 12, 3) := by decide +kernel
theorem dX6_torque_42 : decode cX6_torque 42 = .ok (.iload_n 1, 1) := by decide +kernel
theorem dX6_torque_43 : decode cX6_torque 43 = .ok (.invokevirtual 145, 3) := by decide +kernel
theorem dX6_torque_46 : decode cX6_torque 46 = .ok (.ifCond .ne 13, 3) := by decide +kernel
theorem dX6_torque_49 : decode cX6_torque 49 = .ok (.new 74, 3) := by decide +kernel
theorem dX6_torque_52 : decode cX6_torque 52 = .ok (.dup, 1) := by decide +kernel
theorem dX6_torque_53 : decode cX6_torque 53 = .ok (.ldc 191, 2) := by decide +kernel
theorem dX6_torque_55 : decode cX6_torque 55 = .ok (.invokespecial 78, 3) := by decide +kernel
theorem dX6_torque_58 : decode cX6_torque 58 = .ok (.athrow, 1) := by decide +kernel
theorem dX6_torque_59 : decode cX6_torque 59 = .ok (.aload_n 0, 1) := by decide +kernel
theorem dX6_torque_60 : decode cX6_torque 60 = .ok (.getfield 39, 3) := by decide +kernel
theorem dX6_torque_63 : decode cX6_torque 63 = .ok (.aload_n 0, 1) := by decide +kernel
theorem dX6_torque_64 : decode cX6_torque 64 = .ok (.getfield 12, 3) := by decide +kernel
theorem dX6_torque_67 : decode cX6_torque 67 = .ok (.aload_n 0, 1) := by decide +kernel
theorem dX6_torque_68 : decode cX6_torque 68 = .ok (.getfield 12, 3) := by decide +kernel
theorem dX6_torque_71 : decode cX6_torque 71 = .ok (.invokevirtual 123, 3) := by decide +kernel
theorem dX6_torque_74 : decode cX6_torque 74 = .ok (.invokevirtual 182, 3) := by decide +kernel
theorem dX6_torque_77 : decode cX6_torque 77 = .ok (.aload_n 0, 1) := by decide +kernel
theorem dX6_torque_78 : decode cX6_torque 78 = .ok (.getfield 39, 3) := by decide +kernel
theorem dX6_torque_81 : decode cX6_torque 81 = .ok (.iload_n 1, 1) := by decide +kernel
theorem dX6_torque_82 : decode cX6_torque 82 = .ok (.invokevirtual 193, 3) := by decide +kernel
theorem dX6_torque_85 : decode cX6_torque 85 = .ok (.ifCond .ne 13, 3) := by decide +kernel
theorem dX6_torque_88 : decode cX6_torque 88 = .ok (.new 74, 3) := by decide +kernel
theorem dX6_torque_91 : decode cX6_torque 91 = .ok (.dup, 1) := by decide +kernel
theorem dX6_torque_92 : decode cX6_torque 92 = .ok (.ldc 186, 2) := by decide +kernel
theorem dX6_torque_94 : decode cX6_torque 94 = .ok (.invokespecial 78, 3) := by decide +kernel
theorem dX6_torque_97 : decode cX6_torque 97 = .ok (.athrow, 1) := by decide +kernel
theorem dX6_torque_98 : decode cX6_torque 98 = .ok (.aload_n 0, 1) := by decide +kernel
theorem dX6_torque_99 : decode cX6_torque 99 = .ok (.getfield 39, 3) := by decide +kernel
theorem dX6_torque_102 : decode cX6_torque 102 = .ok (.iload_n 1, 1) := by decide +kernel
theorem dX6_torque_103 : decode cX6_torque 103 = .ok (.iload_n 2, 1) := by decide +kernel
theorem dX6_torque_104 : decode cX6_torque 104 = .ok (.invokevirtual 194, 3) := by decide +kernel
theorem dX6_torque_107 : decode cX6_torque 107 = .ok (.lreturn, 1) := by decide +kernel
theorem dX6_slipping_0 : decode cX6_slipping 0 = .ok (.iload_n 1, 1) := by decide +kernel
theorem dX6_slipping_1 : decode cX6_slipping 1 = .ok (.iconst 1, 1) := by decide +kernel
theorem dX6_slipping_2 : decode cX6_slipping 2 = .ok (.if_icmp .lt 10, 3) := by decide +kernel
theorem dX6_slipping_5 : decode cX6_slipping 5 = .ok (.iload_n 1, 1) := by decide +kernel
theorem dX6_slipping_6 : decode cX6_slipping 6 = .ok (.sipush 10000, 3) := by decide +kernel
theorem dX6_slipping_9 : decode cX6_slipping 9 = .ok (.if_icmp .le 13, 3) := by decide +kernel
theorem dX6_slipping_12 : decode cX6_slipping 12 = .ok (.new 61, 3) := by decide +kernel
theorem dX6_slipping_15 : decode cX6_slipping 15 = .ok (.dup, 1) := by decide +kernel
theorem dX6_slipping_16 : decode cX6_slipping 16 = .ok (.ldc 197, 2) := by decide +kernel
theorem dX6_slipping_18 : decode cX6_slipping 18 = .ok (.invokespecial 65, 3) := by decide +kernel
theorem dX6_slipping_21 : decode cX6_slipping 21 = .ok (.athrow, 1) := by decide +kernel
theorem dX6_slipping_22 : decode cX6_slipping 22 = .ok (.aload_n 0, 1) := by decide +kernel
theorem dX6_slipping_23 : decode cX6_slipping 23 = .ok (.getfield 39, 3) := by decide +kernel
theorem dX6_slipping_26 : decode cX6_slipping 26 = .ok (.aload_n 0, 1) := by decide +kernel
theorem dX6_slipping_27 : decode cX6_slipping 27 = .ok (.getfield 12, 3) := by decide +kernel
theorem dX6_slipping_30 : decode cX6_slipping 30 = .ok (.aload_n 0, 1) := by decide +kernel
theorem dX6_slipping_31 : decode cX6_slipping 31 = .ok (.getfield 12, 3) := by decide +kernel
theorem dX6_slipping_34 : decode cX6_slipping 34 = .ok (.invokevirtual 123, 3) := by decide +kernel
theorem dX6_slipping_37 : decode cX6_slipping 37 = .ok (.invokevirtual 182, 3) := by decide +kernel
theorem dX6_slipping_40 : decode cX6_slipping 40 = .ok (.iconst 0, 1) := by decide +kernel
theorem dX6_slipping_41 : decode cX6_slipping 41 = .ok (.istore_n 2, 1) := by decide +kernel
theorem dX6_slipping_42 : decode cX6_slipping 42 = .ok (.iconst 0, 1) := by decide +kernel
theorem dX6_slipping_43 : decode cX6_slipping 43 = .ok (.istore_n 3, 1) := by decide +kernel
theorem dX6_slipping_44 : decode cX6_slipping 44 = .ok (.iload_n 3, 1) := by decide +kernel
theorem dX6_slipping_45 : decode cX6_slipping 45 = .ok (.bipush 6, 2) := by decide +kernel
theorem dX6_slipping_47 : decode cX6_slipping 47 = .ok (.if_icmp .ge 46, 3) := by decide +kernel
theorem dX6_slipping_50 : decode cX6_slipping 50 = .ok (.aload_n 0, 1) := by decide +kernel
theorem dX6_slipping_51 : decode cX6_slipping 51 = .ok (.getfield 12, 3) := by decide +kernel
theorem dX6_slipping_54 : decode cX6_slipping 54 = .ok (.iload_n 3, 1) := by decide +kernel
theorem dX6_slipping_55 : decode cX6_slipping 55 = .ok (.invokevirtual 145, 3) := by decide +kernel
theorem dX6_slipping_58 : decode cX6_slipping 58 = .ok (.ifCond .eq 29, 3) := by decide +kernel
theorem dX6_slipping_61 : decode cX6_slipping 61 = .ok (.aload_n 0, 1) := by decide +kernel
theorem dX6_slipping_62 : decode cX6_slipping 62 = .ok (.getfield 39, 3) := by decide +kernel
theorem dX6_slipping_65 : decode cX6_slipping 65 = .ok (.iload_n 3, 1) := by decide +kernel
theorem dX6_slipping_66 : decode cX6_slipping 66 = .ok (.aload_n 0, 1) := by decide +kernel
theorem dX6_slipping_67 : decode cX6_slipping 67 = .ok (.getfield 12, 3) := by decide +kernel
theorem dX6_slipping_70 : decode cX6_slipping 70 = .ok (.iload_n 3, 1) := by decide +kernel
theorem dX6_slipping_71 : decode cX6_slipping 71 = .ok (.invokevirtual 106, 3) := by decide +kernel
theorem dX6_slipping_74 : decode cX6_slipping 74 = .ok (.invokevirtual 199, 3) := by decide +kernel
theorem dX6_slipping_77 : decode cX6_slipping 77 = .ok (.iload_n 1, 1) := by decide +kernel
theorem dX6_slipping_78 : decode cX6_slipping 78 = .ok (.if_icmp .ge 9, 3) := by decide +kernel
theorem dX6_slipping_81 : decode cX6_slipping 81 = .ok (.iload_n 2, 1) := by decide +kernel
theorem dX6_slipping_82 : decode cX6_slipping 82 = .ok (.iconst 1, 1) := by decide +kernel
theorem dX6_slipping_83 : decode cX6_slipping 83 = .ok (.iload_n 3, 1) := by decide +kernel
theorem dX6_slipping_84 : decode cX6_slipping 84 = .ok (.ishl, 1) := by decide +kernel
theorem dX6_slipping_85 : decode cX6_slipping 85 = .ok (.ior, 1) := by decide +kernel
theorem dX6_slipping_86 : decode cX6_slipping 86 = .ok (.istore_n 2, 1) := by decide +kernel
theorem dX6_slipping_87 : decode cX6_slipping 87 = .ok (.iinc 3 1, 3) := by decide +kernel
theorem dX6_slipping_90 : decode cX6_slipping 90 = .ok (.goto (-46), 3) := by decide +kernel
theorem dX6_slipping_93 : decode cX6_slipping 93 = .ok (.iload_n 2, 1) := by decide +kernel
theorem dX6_slipping_94 : decode cX6_slipping 94 = .ok (.ireturn, 1) := by decide +kernel
theorem dX6_greatestTorque_0 : decode cX6_greatestTorque 0 = .ok (.aload_n 0, 1) := by decide +kernel
theorem dX6_greatestTorque_1 : decode cX6_greatestTorque 1 = .ok (.getfield 32, 3) := by decide +kernel
theorem dX6_greatestTorque_4 : decode cX6_greatestTorque 4 = .ok (.aload_n 0, 1) := by decide +kernel
theorem dX6_greatestTorque_5 : decode cX6_greatestTorque 5 = .ok (.getfield 12, 3) := by decide +kernel
theorem dX6_greatestTorque_8 : decode cX6_greatestTorque 8 = .ok (.aload_n 0, 1) := by decide +kernel
theorem dX6_greatestTorque_9 : decode cX6_greatestTorque 9 = .ok (.getfield 12, 3) := by decide +kernel
theorem dX6_greatestTorque_12 : decode cX6_greatestTorque 12 = .ok (.invokevirtual 123, 3) := by decide +kernel
theorem dX6_greatestTorque_15 : decode cX6_greatestTorque 15 = .ok (.invokevirtual 151, 3) := by decide +kernel
theorem dX6_greatestTorque_18 : decode cX6_greatestTorque 18 = .ok (.aload_n 0, 1) := by decide +kernel
theorem dX6_greatestTorque_19 : decode cX6_greatestTorque 19 = .ok (.getfield 32, 3) := by decide +kernel
theorem dX6_greatestTorque_22 : decode cX6_greatestTorque 22 = .ok (.invokevirtual 155, 3) := by decide +kernel
theorem dX6_greatestTorque_25 : decode cX6_greatestTorque 25 = .ok (.ifCond .eq 13, 3) := by decide +kernel
theorem dX6_greatestTorque_28 : decode cX6_greatestTorque 28 = .ok (.new 74, 3) := by decide +kernel
theorem dX6_greatestTorque_31 : decode cX6_greatestTorque 31 = .ok (.dup, 1) := by decide +kernel
theorem dX6_greatestTorque_32 : decode cX6_greatestTorque 32 = .ok (.ldc 172, 2) := by decide +kernel
theorem dX6_greatestTorque_34 : decode cX6_greatestTorque 34 = .ok (.invokespecial 78, 3) := by decide +kernel
theorem dX6_greatestTorque_37 : decode cX6_greatestTorque 37 = .ok (.athrow, 1) := by decide +kernel
theorem dX6_greatestTorque_38 : decode cX6_greatestTorque 38 = .ok (.aload_n 0, 1) := by decide +kernel
theorem dX6_greatestTorque_39 : decode cX6_greatestTorque 39 = .ok (.getfield 39, 3) := by decide +kernel
theorem dX6_greatestTorque_42 : decode cX6_greatestTorque 42 = .ok (.aload_n 0, 1) := by decide +kernel
theorem dX6_greatestTorque_43 : decode cX6_greatestTorque 43 = .ok (.getfield 12, 3) := by decide +kernel
theorem dX6_greatestTorque_46 : decode cX6_greatestTorque 46 = .ok (.aload_n 0, 1) := by decide +kernel
theorem dX6_greatestTorque_47 : decode cX6_greatestTorque 47 = .ok (.getfield 12, 3) := by decide +kernel
theorem dX6_greatestTorque_50 : decode cX6_greatestTorque 50 = .ok (.invokevirtual 123, 3) := by decide +kernel
theorem dX6_greatestTorque_53 : decode cX6_greatestTorque 53 = .ok (.invokevirtual 182, 3) := by decide +kernel
theorem dX6_greatestTorque_56 : decode cX6_greatestTorque 56 = .ok (.sipush 10000, 3) := by decide +kernel
theorem dX6_greatestTorque_59 : decode cX6_greatestTorque 59 = .ok (.istore_n 1, 1) := by decide +kernel
theorem dX6_greatestTorque_60 : decode cX6_greatestTorque 60 = .ok (.iconst 0, 1) := by decide +kernel
theorem dX6_greatestTorque_61 : decode cX6_greatestTorque 61 = .ok (.istore_n 2, 1) := by decide +kernel
theorem dX6_greatestTorque_62 : decode cX6_greatestTorque 62 = .ok (.iload_n 2, 1) := by decide +kernel
theorem dX6_greatestTorque_63 : decode cX6_greatestTorque 63 = .ok (.bipush 6, 2) := by decide +kernel
theorem dX6_greatestTorque_65 : decode cX6_greatestTorque 65 = .ok (.if_icmp .ge 41, 3) := by decide +kernel
theorem dX6_greatestTorque_68 : decode cX6_greatestTorque 68 = .ok (.aload_n 0, 1) := by decide +kernel
theorem dX6_greatestTorque_69 : decode cX6_greatestTorque 69 = .ok (.getfield 12, 3) := by decide +kernel
theorem dX6_greatestTorque_72 : decode cX6_greatestTorque 72 = .ok (.iload_n 2, 1) := by decide +kernel
theorem dX6_greatestTorque_73 : decode cX6_greatestTorque 73 = .ok (.invokevirtual 145, 3) := by decide +kernel
theorem dX6_greatestTorque_76 : decode cX6_greatestTorque 76 = .ok (.ifCond .eq 24, 3) := by decide +kernel
theorem dX6_greatestTorque_79 : decode cX6_greatestTorque 79 = .ok (.iload_n 1, 1) := by decide +kernel
theorem dX6_greatestTorque_80 : decode cX6_greatestTorque 80 = .ok (.aload_n 0, 1) := by decide +kernel
theorem dX6_greatestTorque_81 : decode cX6_greatestTorque 81 = .ok (.getfield 39, 3) := by decide +kernel
theorem dX6_greatestTorque_84 : decode cX6_greatestTorque 84 = .ok (.iload_n 2, 1) := by decide +kernel
theorem dX6_greatestTorque_85 : decode cX6_greatestTorque 85 = .ok (.aload_n 0, 1) := by decide +kernel
theorem dX6_greatestTorque_86 : decode cX6_greatestTorque 86 = .ok (.getfield 12, 3) := by decide +kernel
theorem dX6_greatestTorque_89 : decode cX6_greatestTorque 89 = .ok (.iload_n 2, 1) := by decide +kernel
theorem dX6_greatestTorque_90 : decode cX6_greatestTorque 90 = .ok (.invokevirtual 106, 3) := by decide +kernel
theorem dX6_greatestTorque_93 : decode cX6_greatestTorque 93 = .ok (.invokevirtual 199, 3) := by decide +kernel
theorem dX6_greatestTorque_96 : decode cX6_greatestTorque 96 = .ok (.invokestatic 202, 3) := by decide +kernel
theorem dX6_greatestTorque_99 : decode cX6_greatestTorque 99 = .ok (.istore_n 1, 1) := by decide +kernel
theorem dX6_greatestTorque_100 : decode cX6_greatestTorque 100 = .ok (.iinc 2 1, 3) := by decide +kernel
theorem dX6_greatestTorque_103 : decode cX6_greatestTorque 103 = .ok (.goto (-41), 3) := by decide +kernel
theorem dX6_greatestTorque_106 : decode cX6_greatestTorque 106 = .ok (.iload_n 1, 1) := by decide +kernel
theorem dX6_greatestTorque_107 : decode cX6_greatestTorque 107 = .ok (.ireturn, 1) := by decide +kernel
theorem dX6_gear_0 : decode cX6_gear 0 = .ok (.aload_n 0, 1) := by decide +kernel
theorem dX6_gear_1 : decode cX6_gear 1 = .ok (.getfield 46, 3) := by decide +kernel
theorem dX6_gear_4 : decode cX6_gear 4 = .ok (.aload_n 0, 1) := by decide +kernel
theorem dX6_gear_5 : decode cX6_gear 5 = .ok (.getfield 12, 3) := by decide +kernel
theorem dX6_gear_8 : decode cX6_gear 8 = .ok (.aload_n 0, 1) := by decide +kernel
theorem dX6_gear_9 : decode cX6_gear 9 = .ok (.getfield 32, 3) := by decide +kernel
theorem dX6_gear_12 : decode cX6_gear 12 = .ok (.invokevirtual 116, 3) := by decide +kernel
theorem dX6_gear_15 : decode cX6_gear 15 = .ok (.aload_n 0, 1) := by decide +kernel
theorem dX6_gear_16 : decode cX6_gear 16 = .ok (.getfield 46, 3) := by decide +kernel
theorem dX6_gear_19 : decode cX6_gear 19 = .ok (.iload_n 1, 1) := by decide +kernel
theorem dX6_gear_20 : decode cX6_gear 20 = .ok (.invokevirtual 207, 3) := by decide +kernel
theorem dX6_gear_23 : decode cX6_gear 23 = .ok (.ifCond .ne 13, 3) := by decide +kernel
theorem dX6_gear_26 : decode cX6_gear 26 = .ok (.new 54, 3) := by decide +kernel
theorem dX6_gear_29 : decode cX6_gear 29 = .ok (.dup, 1) := by decide +kernel
theorem dX6_gear_30 : decode cX6_gear 30 = .ok (.ldc 210, 2) := by decide +kernel
theorem dX6_gear_32 : decode cX6_gear 32 = .ok (.invokespecial 58, 3) := by decide +kernel
theorem dX6_gear_35 : decode cX6_gear 35 = .ok (.athrow, 1) := by decide +kernel
theorem dX6_gear_36 : decode cX6_gear 36 = .ok (.aload_n 0, 1) := by decide +kernel
theorem dX6_gear_37 : decode cX6_gear 37 = .ok (.getfield 46, 3) := by decide +kernel
theorem dX6_gear_40 : decode cX6_gear 40 = .ok (.iload_n 1, 1) := by decide +kernel
theorem dX6_gear_41 : decode cX6_gear 41 = .ok (.invokevirtual 212, 3) := by decide +kernel
theorem dX6_gear_44 : decode cX6_gear 44 = .ok (.ireturn, 1) := by decide +kernel
theorem dX6_indexOf_0 : decode cX6_indexOf 0 = .ok (.aload_n 0, 1) := by decide +kernel
theorem dX6_indexOf_1 : decode cX6_indexOf 1 = .ok (.getfield 12, 3) := by decide +kernel
theorem dX6_indexOf_4 : decode cX6_indexOf 4 = .ok (.iload_n 1, 1) := by decide +kernel
theorem dX6_indexOf_5 : decode cX6_indexOf 5 = .ok (.invokevirtual 129, 3) := by decide +kernel
theorem dX6_indexOf_8 : decode cX6_indexOf 8 = .ok (.ifCond .ne 13, 3) := by decide +kernel
theorem dX6_indexOf_11 : decode cX6_indexOf 11 = .ok (.new 61, 3) := by decide +kernel
theorem dX6_indexOf_14 : decode cX6_indexOf 14 = .ok (.dup, 1) := by decide +kernel
theorem dX6_indexOf_15 : decode cX6_indexOf 15 = .ok (.ldc 132, 2) := by decide +kernel
theorem dX6_indexOf_17 : decode cX6_indexOf 17 = .ok (.invokespecial 65, 3) := by decide +kernel
theorem dX6_indexOf_20 : decode cX6_indexOf 20 = .ok (.athrow, 1) := by decide +kernel
theorem dX6_indexOf_21 : decode cX6_indexOf 21 = .ok (.aload_n 0, 1) := by decide +kernel
theorem dX6_indexOf_22 : decode cX6_indexOf 22 = .ok (.getfield 46, 3) := by decide +kernel
theorem dX6_indexOf_25 : decode cX6_indexOf 25 = .ok (.aload_n 0, 1) := by decide +kernel
theorem dX6_indexOf_26 : decode cX6_indexOf 26 = .ok (.getfield 12, 3) := by decide +kernel
theorem dX6_indexOf_29 : decode cX6_indexOf 29 = .ok (.aload_n 0, 1) := by decide +kernel
theorem dX6_indexOf_30 : decode cX6_indexOf 30 = .ok (.getfield 32, 3) := by decide +kernel
theorem dX6_indexOf_33 : decode cX6_indexOf 33 = .ok (.invokevirtual 116, 3) := by decide +kernel
theorem dX6_indexOf_36 : decode cX6_indexOf 36 = .ok (.aload_n 0, 1) := by decide +kernel
theorem dX6_indexOf_37 : decode cX6_indexOf 37 = .ok (.getfield 46, 3) := by decide +kernel
theorem dX6_indexOf_40 : decode cX6_indexOf 40 = .ok (.iload_n 1, 1) := by decide +kernel
theorem dX6_indexOf_41 : decode cX6_indexOf 41 = .ok (.invokevirtual 215, 3) := by decide +kernel
theorem dX6_indexOf_44 : decode cX6_indexOf 44 = .ok (.ireturn, 1) := by decide +kernel
theorem dX6_gearRatio_0 : decode cX6_gearRatio 0 = .ok (.aload_n 0, 1) := by decide +kernel
theorem dX6_gearRatio_1 : decode cX6_gearRatio 1 = .ok (.getfield 46, 3) := by decide +kernel
theorem dX6_gearRatio_4 : decode cX6_gearRatio 4 = .ok (.aload_n 0, 1) := by decide +kernel
theorem dX6_gearRatio_5 : decode cX6_gearRatio 5 = .ok (.getfield 12, 3) := by decide +kernel
theorem dX6_gearRatio_8 : decode cX6_gearRatio 8 = .ok (.aload_n 0, 1) := by decide +kernel
theorem dX6_gearRatio_9 : decode cX6_gearRatio 9 = .ok (.getfield 32, 3) := by decide +kernel
theorem dX6_gearRatio_12 : decode cX6_gearRatio 12 = .ok (.invokevirtual 116, 3) := by decide +kernel
theorem dX6_gearRatio_15 : decode cX6_gearRatio 15 = .ok (.aload_n 0, 1) := by decide +kernel
theorem dX6_gearRatio_16 : decode cX6_gearRatio 16 = .ok (.getfield 46, 3) := by decide +kernel
theorem dX6_gearRatio_19 : decode cX6_gearRatio 19 = .ok (.iload_n 1, 1) := by decide +kernel
theorem dX6_gearRatio_20 : decode cX6_gearRatio 20 = .ok (.invokevirtual 207, 3) := by decide +kernel
theorem dX6_gearRatio_23 : decode cX6_gearRatio 23 = .ok (.ifCond .ne 13, 3) := by decide +kernel
theorem dX6_gearRatio_26 : decode cX6_gearRatio 26 = .ok (.new 54, 3) := by decide +kernel
theorem dX6_gearRatio_29 : decode cX6_gearRatio 29 = .ok (.dup, 1) := by decide +kernel
theorem dX6_gearRatio_30 : decode cX6_gearRatio 30 = .ok (.ldc 210, 2) := by decide +kernel
theorem dX6_gearRatio_32 : decode cX6_gearRatio 32 = .ok (.invokespecial 58, 3) := by decide +kernel
theorem dX6_gearRatio_35 : decode cX6_gearRatio 35 = .ok (.athrow, 1) := by decide +kernel
theorem dX6_gearRatio_36 : decode cX6_gearRatio 36 = .ok (.iload_n 2, 1) := by decide +kernel
theorem dX6_gearRatio_37 : decode cX6_gearRatio 37 = .ok (.invokestatic 158, 3) := by decide +kernel
theorem dX6_gearRatio_40 : decode cX6_gearRatio 40 = .ok (.ifCond .ne 13, 3) := by decide +kernel
theorem dX6_gearRatio_43 : decode cX6_gearRatio 43 = .ok (.new 61, 3) := by decide +kernel
theorem dX6_gearRatio_46 : decode cX6_gearRatio 46 = .ok (.dup, 1) := by decide +kernel
theorem dX6_gearRatio_47 : decode cX6_gearRatio 47 = .ok (.ldc 161, 2) := by decide +kernel
theorem dX6_gearRatio_49 : decode cX6_gearRatio 49 = .ok (.invokespecial 65, 3) := by decide +kernel
theorem dX6_gearRatio_52 : decode cX6_gearRatio 52 = .ok (.athrow, 1) := by decide +kernel
theorem dX6_gearRatio_53 : decode cX6_gearRatio 53 = .ok (.aload_n 0, 1) := by decide +kernel
theorem dX6_gearRatio_54 : decode cX6_gearRatio 54 = .ok (.getfield 46, 3) := by decide +kernel
theorem dX6_gearRatio_57 : decode cX6_gearRatio 57 = .ok (.iload_n 1, 1) := by decide +kernel
theorem dX6_gearRatio_58 : decode cX6_gearRatio 58 = .ok (.iload_n 2, 1) := by decide +kernel
theorem dX6_gearRatio_59 : decode cX6_gearRatio 59 = .ok (.invokevirtual 218, 3) := by decide +kernel
theorem dX6_gearRatio_62 : decode cX6_gearRatio 62 = .ok (.lreturn, 1) := by decide +kernel
theorem dX6_step_0 : decode cX6_step 0 = .ok (.aload_n 0, 1) := by decide +kernel
theorem dX6_step_1 : decode cX6_step 1 = .ok (.getfield 46, 3) := by decide +kernel
theorem dX6_step_4 : decode cX6_step 4 = .ok (.aload_n 0, 1) := by decide +kernel
theorem dX6_step_5 : decode cX6_step 5 = .ok (.getfield 12, 3) := by decide +kernel
theorem dX6_step_8 : decode cX6_step 8 = .ok (.aload_n 0, 1) := by decide +kernel
theorem dX6_step_9 : decode cX6_step 9 = .ok (.getfield 32, 3) := by decide +kernel
theorem dX6_step_12 : decode cX6_step 12 = .ok (.invokevirtual 116, 3) := by decide +kernel
theorem dX6_step_15 : decode cX6_step 15 = .ok (.aload_n 0, 1) := by decide +kernel
theorem dX6_step_16 : decode cX6_step 16 = .ok (.getfield 46, 3) := by decide +kernel
theorem dX6_step_19 : decode cX6_step 19 = .ok (.iload_n 1, 1) := by decide +kernel
theorem dX6_step_20 : decode cX6_step 20 = .ok (.invokevirtual 207, 3) := by decide +kernel
theorem dX6_step_23 : decode cX6_step 23 = .ok (.ifCond .eq 16, 3) := by decide +kernel
theorem dX6_step_26 : decode cX6_step 26 = .ok (.aload_n 0, 1) := by decide +kernel
theorem dX6_step_27 : decode cX6_step 27 = .ok (.getfield 46, 3) := by decide +kernel
theorem dX6_step_30 : decode cX6_step 30 = .ok (.iload_n 1, 1) := by decide +kernel
theorem dX6_step_31 : decode cX6_step 31 = .ok (.iconst 1, 1) := by decide +kernel
theorem dX6_step_32 : decode cX6_step 32 = .ok (.iadd, 1) := by decide +kernel
theorem dX6_step_33 : decode cX6_step 33 = .ok (.invokevirtual 207, 3) := by decide +kernel
theorem dX6_step_36 : decode cX6_step 36 = .ok (.ifCond .ne 13, 3) := by decide +kernel
theorem dX6_step_39 : decode cX6_step 39 = .ok (.new 54, 3) := by decide +kernel
theorem dX6_step_42 : decode cX6_step 42 = .ok (.dup, 1) := by decide +kernel
theorem dX6_step_43 : decode cX6_step 43 = .ok (.ldc 220, 2) := by decide +kernel
theorem dX6_step_45 : decode cX6_step 45 = .ok (.invokespecial 58, 3) := by decide +kernel
theorem dX6_step_48 : decode cX6_step 48 = .ok (.athrow, 1) := by decide +kernel
theorem dX6_step_49 : decode cX6_step 49 = .ok (.aload_n 0, 1) := by decide +kernel
theorem dX6_step_50 : decode cX6_step 50 = .ok (.iload_n 1, 1) := by decide +kernel
theorem dX6_step_51 : decode cX6_step 51 = .ok (.invokevirtual 222, 3) := by decide +kernel
theorem dX6_step_54 : decode cX6_step 54 = .ok (.fstore_n 2, 1) := by decide +kernel
theorem dX6_step_55 : decode cX6_step 55 = .ok (.fload_n 2, 1) := by decide +kernel
theorem dX6_step_56 : decode cX6_step 56 = .ok (.fconst 0, 1) := by decide +kernel
theorem dX6_step_57 : decode cX6_step 57 = .ok (.fcmp .l, 1) := by decide +kernel
theorem dX6_step_58 : decode cX6_step 58 = .ok (.ifCond .ne 7, 3) := by decide +kernel
theorem dX6_step_61 : decode cX6_step 61 = .ok (.fconst 0, 1) := by decide +kernel
theorem dX6_step_62 : decode cX6_step 62 = .ok (.goto 12, 3) := by decide +kernel
theorem dX6_step_65 : decode cX6_step 65 = .ok (.aload_n 0, 1) := by decide +kernel
theorem dX6_step_66 : decode cX6_step 66 = .ok (.iload_n 1, 1) := by decide +kernel
theorem dX6_step_67 : decode cX6_step 67 = .ok (.iconst 1, 1) := by decide +kernel
theorem dX6_step_68 : decode cX6_step 68 = .ok (.iadd, 1) := by decide +kernel
theorem dX6_step_69 : decode cX6_step 69 = .ok (.invokevirtual 222, 3) := by decide +kernel
theorem dX6_step_72 : decode cX6_step 72 = .ok (.fload_n 2, 1) := by decide +kernel
theorem dX6_step_73 : decode cX6_step 73 = .ok (.fdiv, 1) := by decide +kernel
theorem dX6_step_74 : decode cX6_step 74 = .ok (.freturn, 1) := by decide +kernel
theorem dX6_fewestShifts_0 : decode cX6_fewestShifts 0 = .ok (.aload_n 0, 1) := by decide +kernel
theorem dX6_fewestShifts_1 : decode cX6_fewestShifts 1 = .ok (.getfield 46, 3) := by decide +kernel
theorem dX6_fewestShifts_4 : decode cX6_fewestShifts 4 = .ok (.aload_n 0, 1) := by decide +kernel
theorem dX6_fewestShifts_5 : decode cX6_fewestShifts 5 = .ok (.getfield 12, 3) := by decide +kernel
theorem dX6_fewestShifts_8 : decode cX6_fewestShifts 8 = .ok (.aload_n 0, 1) := by decide +kernel
theorem dX6_fewestShifts_9 : decode cX6_fewestShifts 9 = .ok (.getfield 32, 3) := by decide +kernel
theorem dX6_fewestShifts_12 : decode cX6_fewestShifts 12 = .ok (.invokevirtual 116, 3) := by decide +kernel
theorem dX6_fewestShifts_15 : decode cX6_fewestShifts 15 = .ok (.aload_n 0, 1) := by decide +kernel
theorem dX6_fewestShifts_16 : decode cX6_fewestShifts 16 = .ok (.getfield 46, 3) := by decide +kernel
theorem dX6_fewestShifts_19 : decode cX6_fewestShifts 19 = .ok (.iload_n 1, 1) := by decide +kernel
theorem dX6_fewestShifts_20 : decode cX6_fewestShifts 20 = .ok (.invokevirtual 207, 3) := by decide +kernel
theorem dX6_fewestShifts_23 : decode cX6_fewestShifts 23 = .ok (.ifCond .eq 14, 3) := by decide +kernel
theorem dX6_fewestShifts_26 : decode cX6_fewestShifts 26 = .ok (.aload_n 0, 1) := by decide +kernel
theorem dX6_fewestShifts_27 : decode cX6_fewestShifts 27 = .ok (.getfield 46, 3) := by decide +kernel
theorem dX6_fewestShifts_30 : decode cX6_fewestShifts 30 = .ok (.iload_n 2, 1) := by decide +kernel
theorem dX6_fewestShifts_31 : decode cX6_fewestShifts 31 = .ok (.invokevirtual 207, 3) := by decide +kernel
theorem dX6_fewestShifts_34 : decode cX6_fewestShifts 34 = .ok (.ifCond .ne 13, 3) := by decide +kernel
theorem dX6_fewestShifts_37 : decode cX6_fewestShifts 37 = .ok (.new 54, 3) := by decide +kernel
theorem dX6_fewestShifts_40 : decode cX6_fewestShifts 40 = .ok (.dup, 1) := by decide +kernel
theorem dX6_fewestShifts_41 : decode cX6_fewestShifts 41 = .ok (.ldc 226, 2) := by decide +kernel
theorem dX6_fewestShifts_43 : decode cX6_fewestShifts 43 = .ok (.invokespecial 58, 3) := by decide +kernel
theorem dX6_fewestShifts_46 : decode cX6_fewestShifts 46 = .ok (.athrow, 1) := by decide +kernel
theorem dX6_fewestShifts_47 : decode cX6_fewestShifts 47 = .ok (.aload_n 0, 1) := by decide +kernel
theorem dX6_fewestShifts_48 : decode cX6_fewestShifts 48 = .ok (.getfield 46, 3) := by decide +kernel
theorem dX6_fewestShifts_51 : decode cX6_fewestShifts 51 = .ok (.iload_n 2, 1) := by decide +kernel
theorem dX6_fewestShifts_52 : decode cX6_fewestShifts 52 = .ok (.invokevirtual 228, 3) := by decide +kernel
theorem dX6_fewestShifts_55 : decode cX6_fewestShifts 55 = .ok (.aload_n 0, 1) := by decide +kernel
theorem dX6_fewestShifts_56 : decode cX6_fewestShifts 56 = .ok (.getfield 46, 3) := by decide +kernel
theorem dX6_fewestShifts_59 : decode cX6_fewestShifts 59 = .ok (.iload_n 1, 1) := by decide +kernel
theorem dX6_fewestShifts_60 : decode cX6_fewestShifts 60 = .ok (.invokevirtual 231, 3) := by decide +kernel
theorem dX6_fewestShifts_63 : decode cX6_fewestShifts 63 = .ok (.ireturn, 1) := by decide +kernel
theorem dX6_shift_0 : decode cX6_shift 0 = .ok (.aload_n 0, 1) := by decide +kernel
theorem dX6_shift_1 : decode cX6_shift 1 = .ok (.getfield 46, 3) := by decide +kernel
theorem dX6_shift_4 : decode cX6_shift 4 = .ok (.aload_n 0, 1) := by decide +kernel
theorem dX6_shift_5 : decode cX6_shift 5 = .ok (.getfield 12, 3) := by decide +kernel
theorem dX6_shift_8 : decode cX6_shift 8 = .ok (.aload_n 0, 1) := by decide +kernel
theorem dX6_shift_9 : decode cX6_shift 9 = .ok (.getfield 32, 3) := by decide +kernel
theorem dX6_shift_12 : decode cX6_shift 12 = .ok (.invokevirtual 116, 3) := by decide +kernel
theorem dX6_shift_15 : decode cX6_shift 15 = .ok (.aload_n 0, 1) := by decide +kernel
theorem dX6_shift_16 : decode cX6_shift 16 = .ok (.getfield 46, 3) := by decide +kernel
theorem dX6_shift_19 : decode cX6_shift 19 = .ok (.iload_n 1, 1) := by decide +kernel
theorem dX6_shift_20 : decode cX6_shift 20 = .ok (.invokevirtual 207, 3) := by decide +kernel
theorem dX6_shift_23 : decode cX6_shift 23 = .ok (.ifCond .eq 14, 3) := by decide +kernel
theorem dX6_shift_26 : decode cX6_shift 26 = .ok (.aload_n 0, 1) := by decide +kernel
theorem dX6_shift_27 : decode cX6_shift 27 = .ok (.getfield 46, 3) := by decide +kernel
theorem dX6_shift_30 : decode cX6_shift 30 = .ok (.iload_n 2, 1) := by decide +kernel
theorem dX6_shift_31 : decode cX6_shift 31 = .ok (.invokevirtual 207, 3) := by decide +kernel
theorem dX6_shift_34 : decode cX6_shift 34 = .ok (.ifCond .ne 13, 3) := by decide +kernel
theorem dX6_shift_37 : decode cX6_shift 37 = .ok (.new 54, 3) := by decide +kernel
theorem dX6_shift_40 : decode cX6_shift 40 = .ok (.dup, 1) := by decide +kernel
theorem dX6_shift_41 : decode cX6_shift 41 = .ok (.ldc 226, 2) := by decide +kernel
theorem dX6_shift_43 : decode cX6_shift 43 = .ok (.invokespecial 58, 3) := by decide +kernel
theorem dX6_shift_46 : decode cX6_shift 46 = .ok (.athrow, 1) := by decide +kernel
theorem dX6_shift_47 : decode cX6_shift 47 = .ok (.aload_n 0, 1) := by decide +kernel
theorem dX6_shift_48 : decode cX6_shift 48 = .ok (.getfield 46, 3) := by decide +kernel
theorem dX6_shift_51 : decode cX6_shift 51 = .ok (.iload_n 2, 1) := by decide +kernel
theorem dX6_shift_52 : decode cX6_shift 52 = .ok (.invokevirtual 228, 3) := by decide +kernel
theorem dX6_shift_55 : decode cX6_shift 55 = .ok (.aload_n 0, 1) := by decide +kernel
theorem dX6_shift_56 : decode cX6_shift 56 = .ok (.getfield 46, 3) := by decide +kernel
theorem dX6_shift_59 : decode cX6_shift 59 = .ok (.iload_n 1, 1) := by decide +kernel
theorem dX6_shift_60 : decode cX6_shift 60 = .ok (.iload_n 3, 1) := by decide +kernel
theorem dX6_shift_61 : decode cX6_shift 61 = .ok (.invokevirtual 234, 3) := by decide +kernel
theorem dX6_shift_64 : decode cX6_shift 64 = .ok (.ireturn, 1) := by decide +kernel
theorem dX6_save_0 : decode cX6_save 0 = .ok (.iload_n 1, 1) := by decide +kernel
theorem dX6_save_1 : decode cX6_save 1 = .ok (.ifCond .eq 18, 3) := by decide +kernel
theorem dX6_save_4 : decode cX6_save 4 = .ok (.iload_n 1, 1) := by decide +kernel
theorem dX6_save_5 : decode cX6_save 5 = .ok (.iconst 1, 1) := by decide +kernel
theorem dX6_save_6 : decode cX6_save 6 = .ok (.if_icmp .eq 13, 3) := by decide +kernel
theorem dX6_save_9 : decode cX6_save 9 = .ok (.new 61, 3) := by decide +kernel
theorem dX6_save_12 : decode cX6_save 12 = .ok (.dup, 1) := by decide +kernel
theorem dX6_save_13 : decode cX6_save 13 = .ok (.ldc 237, 2) := by decide +kernel
theorem dX6_save_15 : decode cX6_save 15 = .ok (.invokespecial 65, 3) := by decide +kernel
theorem dX6_save_18 : decode cX6_save 18 = .ok (.athrow, 1) := by decide +kernel
theorem dX6_save_19 : decode cX6_save 19 = .ok (.iload_n 1, 1) := by decide +kernel
theorem dX6_save_20 : decode cX6_save 20 = .ok (.ifCond .ne 22, 3) := by decide +kernel
theorem dX6_save_23 : decode cX6_save 23 = .ok (.aload_n 0, 1) := by decide +kernel
theorem dX6_save_24 : decode cX6_save 24 = .ok (.getfield 16, 3) := by decide +kernel
theorem dX6_save_27 : decode cX6_save 27 = .ok (.aload_n 0, 1) := by decide +kernel
theorem dX6_save_28 : decode cX6_save 28 = .ok (.getfield 12, 3) := by decide +kernel
theorem dX6_save_31 : decode cX6_save 31 = .ok (.invokevirtual 239, 3) := by decide +kernel
theorem dX6_save_34 : decode cX6_save 34 = .ok (.aload_n 0, 1) := by decide +kernel
theorem dX6_save_35 : decode cX6_save 35 = .ok (.iconst 1, 1) := by decide +kernel
theorem dX6_save_36 : decode cX6_save 36 = .ok (.putfield 243, 3) := by decide +kernel
theorem dX6_save_39 : decode cX6_save 39 = .ok (.goto 19, 3) := by decide +kernel
theorem dX6_save_42 : decode cX6_save 42 = .ok (.aload_n 0, 1) := by decide +kernel
theorem dX6_save_43 : decode cX6_save 43 = .ok (.getfield 19, 3) := by decide +kernel
theorem dX6_save_46 : decode cX6_save 46 = .ok (.aload_n 0, 1) := by decide +kernel
theorem dX6_save_47 : decode cX6_save 47 = .ok (.getfield 12, 3) := by decide +kernel
theorem dX6_save_50 : decode cX6_save 50 = .ok (.invokevirtual 239, 3) := by decide +kernel
theorem dX6_save_53 : decode cX6_save 53 = .ok (.aload_n 0, 1) := by decide +kernel
theorem dX6_save_54 : decode cX6_save 54 = .ok (.iconst 1, 1) := by decide +kernel
theorem dX6_save_55 : decode cX6_save 55 = .ok (.putfield 247, 3) := by decide +kernel
theorem dX6_save_58 : decode cX6_save 58 = .ok (.return_, 1) := by decide +kernel
theorem dX6_restore_0 : decode cX6_restore 0 = .ok (.iload_n 1, 1) := by decide +kernel
theorem dX6_restore_1 : decode cX6_restore 1 = .ok (.ifCond .eq 18, 3) := by decide +kernel
theorem dX6_restore_4 : decode cX6_restore 4 = .ok (.iload_n 1, 1) := by decide +kernel
theorem dX6_restore_5 : decode cX6_restore 5 = .ok (.iconst 1, 1) := by decide +kernel
theorem dX6_restore_6 : decode cX6_restore 6 = .ok (.if_icmp .eq 13, 3) := by decide +kernel
theorem dX6_restore_9 : decode cX6_restore 9 = .ok (.new 61, 3) := by decide +kernel
theorem dX6_restore_12 : decode cX6_restore 12 = .ok (.dup, 1) := by decide +kernel
theorem dX6_restore_13 : decode cX6_restore 13 = .ok (.ldc 237, 2) := by decide +kernel
theorem dX6_restore_15 : decode cX6_restore 15 = .ok (.invokespecial 65, 3) := by decide +kernel
theorem dX6_restore_18 : decode cX6_restore 18 = .ok (.athrow, 1) := by decide +kernel
theorem dX6_restore_19 : decode cX6_restore 19 = .ok (.iload_n 1, 1) := by decide +kernel
theorem dX6_restore_20 : decode cX6_restore 20 = .ok (.ifCond .ne 13, 3) := by decide +kernel
theorem dX6_restore_23 : decode cX6_restore 23 = .ok (.aload_n 0, 1) := by decide +kernel
theorem dX6_restore_24 : decode cX6_restore 24 = .ok (.getfield 243, 3) := by decide +kernel
theorem dX6_restore_27 : decode cX6_restore 27 = .ok (.ifCond .ne 23, 3) := by decide +kernel
theorem dX6_restore_30 : decode cX6_restore 30 = .ok (.goto 10, 3) := by decide +kernel
theorem dX6_restore_33 : decode cX6_restore 33 = .ok (.aload_n 0, 1) := by decide +kernel
theorem dX6_restore_34 : decode cX6_restore 34 = .ok (.getfield 247, 3) := by decide +kernel
theorem dX6_restore_37 : decode cX6_restore 37 = .ok (.ifCond .ne 13, 3) := by decide +kernel
theorem dX6_restore_40 : decode cX6_restore 40 = .ok (.new 74, 3) := by decide +kernel
theorem dX6_restore_43 : decode cX6_restore 43 = .ok (.dup, 1) := by decide +kernel
theorem dX6_restore_44 : decode cX6_restore 44 = .ok (.ldc 250, 2) := by decide +kernel
theorem dX6_restore_46 : decode cX6_restore 46 = .ok (.invokespecial 78, 3) := by decide +kernel
theorem dX6_restore_49 : decode cX6_restore 49 = .ok (.athrow, 1) := by decide +kernel
theorem dX6_restore_50 : decode cX6_restore 50 = .ok (.aload_n 0, 1) := by decide +kernel
theorem dX6_restore_51 : decode cX6_restore 51 = .ok (.getfield 12, 3) := by decide +kernel
theorem dX6_restore_54 : decode cX6_restore 54 = .ok (.iload_n 1, 1) := by decide +kernel
theorem dX6_restore_55 : decode cX6_restore 55 = .ok (.ifCond .ne 10, 3) := by decide +kernel
theorem dX6_restore_58 : decode cX6_restore 58 = .ok (.aload_n 0, 1) := by decide +kernel
theorem dX6_restore_59 : decode cX6_restore 59 = .ok (.getfield 16, 3) := by decide +kernel
theorem dX6_restore_62 : decode cX6_restore 62 = .ok (.goto 7, 3) := by decide +kernel
theorem dX6_restore_65 : decode cX6_restore 65 = .ok (.aload_n 0, 1) := by decide +kernel
theorem dX6_restore_66 : decode cX6_restore 66 = .ok (.getfield 19, 3) := by decide +kernel
theorem dX6_restore_69 : decode cX6_restore 69 = .ok (.invokevirtual 239, 3) := by decide +kernel
theorem dX6_restore_72 : decode cX6_restore 72 = .ok (.aload_n 0, 1) := by decide +kernel
theorem dX6_restore_73 : decode cX6_restore 73 = .ok (.getfield 25, 3) := by decide +kernel
theorem dX6_restore_76 : decode cX6_restore 76 = .ok (.invokevirtual 252, 3) := by decide +kernel
theorem dX6_restore_79 : decode cX6_restore 79 = .ok (.aload_n 0, 1) := by decide +kernel
theorem dX6_restore_80 : decode cX6_restore 80 = .ok (.getfield 46, 3) := by decide +kernel
theorem dX6_restore_83 : decode cX6_restore 83 = .ok (.invokevirtual 79, 3) := by decide +kernel
theorem dX6_restore_86 : decode cX6_restore 86 = .ok (.return_, 1) := by decide +kernel
theorem dX6_isShaft_0 : decode cX6_isShaft 0 = .ok (.iload_n 0, 1) := by decide +kernel
theorem dX6_isShaft_1 : decode cX6_isShaft 1 = .ok (.ifCond .lt 13, 3) := by decide +kernel
theorem dX6_isShaft_4 : decode cX6_isShaft 4 = .ok (.iload_n 0, 1) := by decide +kernel
theorem dX6_isShaft_5 : decode cX6_isShaft 5 = .ok (.bipush 6, 2) := by decide +kernel
theorem dX6_isShaft_7 : decode cX6_isShaft 7 = .ok (.if_icmp .ge 7, 3) := by decide +kernel
theorem dX6_isShaft_10 : decode cX6_isShaft 10 = .ok (.iconst 1, 1) := by decide +kernel
theorem dX6_isShaft_11 : decode cX6_isShaft 11 = .ok (.goto 4, 3) := by decide +kernel
theorem dX6_isShaft_14 : decode cX6_isShaft 14 = .ok (.iconst 0, 1) := by decide +kernel
theorem dX6_isShaft_15 : decode cX6_isShaft 15 = .ok (.ireturn, 1) := by decide +kernel
theorem dX6_isPart_0 : decode cX6_isPart 0 = .ok (.iload_n 0, 1) := by decide +kernel
theorem dX6_isPart_1 : decode cX6_isPart 1 = .ok (.ifCond .eq 8, 3) := by decide +kernel
theorem dX6_isPart_4 : decode cX6_isPart 4 = .ok (.iload_n 0, 1) := by decide +kernel
theorem dX6_isPart_5 : decode cX6_isPart 5 = .ok (.iconst 1, 1) := by decide +kernel
theorem dX6_isPart_6 : decode cX6_isPart 6 = .ok (.if_icmp .ne 7, 3) := by decide +kernel
theorem dX6_isPart_9 : decode cX6_isPart 9 = .ok (.iconst 1, 1) := by decide +kernel
theorem dX6_isPart_10 : decode cX6_isPart 10 = .ok (.goto 4, 3) := by decide +kernel
theorem dX6_isPart_13 : decode cX6_isPart 13 = .ok (.iconst 0, 1) := by decide +kernel
theorem dX6_isPart_14 : decode cX6_isPart 14 = .ok (.ireturn, 1) := by decide +kernel
theorem dX6_floatQuotient_0 : decode cX6_floatQuotient 0 = .ok (.lload_n 2, 1) := by decide +kernel
theorem dX6_floatQuotient_1 : decode cX6_floatQuotient 1 = .ok (.lconst 0, 1) := by decide +kernel
theorem dX6_floatQuotient_2 : decode cX6_floatQuotient 2 = .ok (.lcmp, 1) := by decide +kernel
theorem dX6_floatQuotient_3 : decode cX6_floatQuotient 3 = .ok (.ifCond .ne 7, 3) := by decide +kernel
theorem dX6_floatQuotient_6 : decode cX6_floatQuotient 6 = .ok (.fconst 0, 1) := by decide +kernel
theorem dX6_floatQuotient_7 : decode cX6_floatQuotient 7 = .ok (.goto 8, 3) := by decide +kernel
theorem dX6_floatQuotient_10 : decode cX6_floatQuotient 10 = .ok (.lload_n 0, 1) := by decide +kernel
theorem dX6_floatQuotient_11 : decode cX6_floatQuotient 11 = .ok (.l2f, 1) := by decide +kernel
theorem dX6_floatQuotient_12 : decode cX6_floatQuotient 12 = .ok (.lload_n 2, 1) := by decide +kernel
theorem dX6_floatQuotient_13 : decode cX6_floatQuotient 13 = .ok (.l2f, 1) := by decide +kernel
theorem dX6_floatQuotient_14 : decode cX6_floatQuotient 14 = .ok (.fdiv, 1) := by decide +kernel
theorem dX6_floatQuotient_15 : decode cX6_floatQuotient 15 = .ok (.freturn, 1) := by decide +kernel
theorem dX6_ratioOfGear_0 : decode cX6_ratioOfGear 0 = .ok (.aload_n 0, 1) := by decide +kernel
theorem dX6_ratioOfGear_1 : decode cX6_ratioOfGear 1 = .ok (.getfield 46, 3) := by decide +kernel
theorem dX6_ratioOfGear_4 : decode cX6_ratioOfGear 4 = .ok (.iload_n 1, 1) := by decide +kernel
theorem dX6_ratioOfGear_5 : decode cX6_ratioOfGear 5 = .ok (.iconst 0, 1) := by decide +kernel
theorem dX6_ratioOfGear_6 : decode cX6_ratioOfGear 6 = .ok (.invokevirtual 218, 3) := by decide +kernel
theorem dX6_ratioOfGear_9 : decode cX6_ratioOfGear 9 = .ok (.aload_n 0, 1) := by decide +kernel
theorem dX6_ratioOfGear_10 : decode cX6_ratioOfGear 10 = .ok (.getfield 46, 3) := by decide +kernel
theorem dX6_ratioOfGear_13 : decode cX6_ratioOfGear 13 = .ok (.iload_n 1, 1) := by decide +kernel
theorem dX6_ratioOfGear_14 : decode cX6_ratioOfGear 14 = .ok (.iconst 1, 1) := by decide +kernel
theorem dX6_ratioOfGear_15 : decode cX6_ratioOfGear 15 = .ok (.invokevirtual 218, 3) := by decide +kernel
theorem dX6_ratioOfGear_18 : decode cX6_ratioOfGear 18 = .ok (.invokestatic 178, 3) := by decide +kernel
theorem dX6_ratioOfGear_21 : decode cX6_ratioOfGear 21 = .ok (.freturn, 1) := by decide +kernel
theorem dX6_changeEngaged_0 : decode cX6_changeEngaged 0 = .ok (.aload_n 0, 1) := by decide +kernel
theorem dX6_changeEngaged_1 : decode cX6_changeEngaged 1 = .ok (.getfield 12, 3) := by decide +kernel
theorem dX6_changeEngaged_4 : decode cX6_changeEngaged 4 = .ok (.invokevirtual 123, 3) := by decide +kernel
theorem dX6_changeEngaged_7 : decode cX6_changeEngaged 7 = .ok (.istore_n 2, 1) := by decide +kernel
theorem dX6_changeEngaged_8 : decode cX6_changeEngaged 8 = .ok (.iload_n 1, 1) := by decide +kernel
theorem dX6_changeEngaged_9 : decode cX6_changeEngaged 9 = .ok (.iload_n 2, 1) := by decide +kernel
theorem dX6_changeEngaged_10 : decode cX6_changeEngaged 10 = .ok (.if_icmp .ne 5, 3) := by decide +kernel
theorem dX6_changeEngaged_13 : decode cX6_changeEngaged 13 = .ok (.iconst 0, 1) := by decide +kernel
theorem dX6_changeEngaged_14 : decode cX6_changeEngaged 14 = .ok (.ireturn, 1) := by decide +kernel
theorem dX6_changeEngaged_15 : decode cX6_changeEngaged 15 = .ok (.aload_n 0, 1) := by decide +kernel
theorem dX6_changeEngaged_16 : decode cX6_changeEngaged 16 = .ok (.getfield 25, 3) := by decide +kernel
theorem dX6_changeEngaged_19 : decode cX6_changeEngaged 19 = .ok (.iload_n 2, 1) := by decide +kernel
theorem dX6_changeEngaged_20 : decode cX6_changeEngaged 20 = .ok (.invokevirtual 255, 3) := by decide +kernel
theorem dX6_changeEngaged_23 : decode cX6_changeEngaged 23 = .ok (.aload_n 0, 1) := by decide +kernel
theorem dX6_changeEngaged_24 : decode cX6_changeEngaged 24 = .ok (.getfield 12, 3) := by decide +kernel
theorem dX6_changeEngaged_27 : decode cX6_changeEngaged 27 = .ok (.iload_n 1, 1) := by decide +kernel
theorem dX6_changeEngaged_28 : decode cX6_changeEngaged 28 = .ok (.invokevirtual 141, 3) := by decide +kernel
theorem dX6_changeEngaged_31 : decode cX6_changeEngaged 31 = .ok (.iconst 1, 1) := by decide +kernel
theorem dX6_changeEngaged_32 : decode cX6_changeEngaged 32 = .ok (.ireturn, 1) := by decide +kernel
end
section
theorem dX7_init_0 : decode cX7_init 0 = .ok (.aload_n 0, 1) := by decide +kernel
theorem dX7_init_1 : decode cX7_init 1 = .ok (.invokespecial 1, 3) := by decide +kernel
theorem dX7_init_4 : decode cX7_init 4 = .ok (.aload_n 0, 1) := by decide +kernel
theorem dX7_init_5 : decode cX7_init 5 = .ok (.bipush 36, 2) := by decide +kernel
theorem dX7_init_7 : decode cX7_init 7 = .ok (.newarray .int, 2) := by decide +kernel
theorem dX7_init_9 : decode cX7_init 9 = .ok (.putfield 7, 3) := by decide +kernel
theorem dX7_init_12 : decode cX7_init 12 = .ok (.aload_n 0, 1) := by decide +kernel
theorem dX7_init_13 : decode cX7_init 13 = .ok (.bipush 72, 2) := by decide +kernel
theorem dX7_init_15 : decode cX7_init 15 = .ok (.newarray .int, 2) := by decide +kernel
theorem dX7_init_17 : decode cX7_init 17 = .ok (.putfield 13, 3) := by decide +kernel
theorem dX7_init_20 : decode cX7_init 20 = .ok (.aload_n 0, 1) := by decide +kernel
theorem dX7_init_21 : decode cX7_init 21 = .ok (.iconst 2, 1) := by decide +kernel
theorem dX7_init_22 : decode cX7_init 22 = .ok (.newarray .boolean, 2) := by decide +kernel
theorem dX7_init_24 : decode cX7_init 24 = .ok (.putfield 16, 3) := by decide +kernel
theorem dX7_init_27 : decode cX7_init 27 = .ok (.aload_n 0, 1) := by decide +kernel
theorem dX7_init_28 : decode cX7_init 28 = .ok (.bipush 20, 2) := by decide +kernel
theorem dX7_init_30 : decode cX7_init 30 = .ok (.newarray .int, 2) := by decide +kernel
theorem dX7_init_32 : decode cX7_init 32 = .ok (.putfield 20, 3) := by decide +kernel
theorem dX7_init_35 : decode cX7_init 35 = .ok (.aload_n 0, 1) := by decide +kernel
theorem dX7_init_36 : decode cX7_init 36 = .ok (.bipush 121, 2) := by decide +kernel
theorem dX7_init_38 : decode cX7_init 38 = .ok (.newarray .long, 2) := by decide +kernel
theorem dX7_init_40 : decode cX7_init 40 = .ok (.putfield 23, 3) := by decide +kernel
theorem dX7_init_43 : decode cX7_init 43 = .ok (.aload_n 0, 1) := by decide +kernel
theorem dX7_init_44 : decode cX7_init 44 = .ok (.bipush 10, 2) := by decide +kernel
theorem dX7_init_46 : decode cX7_init 46 = .ok (.newarray .int, 2) := by decide +kernel
theorem dX7_init_48 : decode cX7_init 48 = .ok (.putfield 27, 3) := by decide +kernel
theorem dX7_init_51 : decode cX7_init 51 = .ok (.aload_n 0, 1) := by decide +kernel
theorem dX7_init_52 : decode cX7_init 52 = .ok (.bipush 64, 2) := by decide +kernel
theorem dX7_init_54 : decode cX7_init 54 = .ok (.newarray .int, 2) := by decide +kernel
theorem dX7_init_56 : decode cX7_init 56 = .ok (.putfield 30, 3) := by decide +kernel
theorem dX7_init_59 : decode cX7_init 59 = .ok (.aload_n 0, 1) := by decide +kernel
theorem dX7_init_60 : decode cX7_init 60 = .ok (.bipush 64, 2) := by decide +kernel
theorem dX7_init_62 : decode cX7_init 62 = .ok (.newarray .int, 2) := by decide +kernel
theorem dX7_init_64 : decode cX7_init 64 = .ok (.putfield 33, 3) := by decide +kernel
theorem dX7_init_67 : decode cX7_init 67 = .ok (.aload_n 0, 1) := by decide +kernel
theorem dX7_init_68 : decode cX7_init 68 = .ok (.bipush 64, 2) := by decide +kernel
theorem dX7_init_70 : decode cX7_init 70 = .ok (.newarray .long, 2) := by decide +kernel
theorem dX7_init_72 : decode cX7_init 72 = .ok (.putfield 36, 3) := by decide +kernel
theorem dX7_init_75 : decode cX7_init 75 = .ok (.aload_n 0, 1) := by decide +kernel
theorem dX7_init_76 : decode cX7_init 76 = .ok (.bipush 64, 2) := by decide +kernel
theorem dX7_init_78 : decode cX7_init 78 = .ok (.newarray .long, 2) := by decide +kernel
theorem dX7_init_80 : decode cX7_init 80 = .ok (.putfield 39, 3) := by decide +kernel
theorem dX7_init_83 : decode cX7_init 83 = .ok (.aload_n 0, 1) := by decide +kernel
theorem dX7_init_84 : decode cX7_init 84 = .ok (.bipush 64, 2) := by decide +kernel
theorem dX7_init_86 : decode cX7_init 86 = .ok (.newarray .int, 2) := by decide +kernel
theorem dX7_init_88 : decode cX7_init 88 = .ok (.putfield 42, 3) := by decide +kernel
theorem dX7_init_91 : decode cX7_init 91 = .ok (.aload_n 0, 1) := by decide +kernel
theorem dX7_init_92 : decode cX7_init 92 = .ok (.getfield 7, 3) := by decide +kernel
theorem dX7_init_95 : decode cX7_init 95 = .ok (.bipush 35, 2) := by decide +kernel
theorem dX7_init_97 : decode cX7_init 97 = .ok (.iconst 0, 1) := by decide +kernel
theorem dX7_init_98 : decode cX7_init 98 = .ok (.iastore, 1) := by decide +kernel
theorem dX7_init_99 : decode cX7_init 99 = .ok (.return_, 1) := by decide +kernel
theorem dX7_thrown_0 : decode cX7_thrown 0 = .ok (.aload_n 0, 1) := by decide +kernel
theorem dX7_thrown_1 : decode cX7_thrown 1 = .ok (.getfield 45, 3) := by decide +kernel
theorem dX7_thrown_4 : decode cX7_thrown 4 = .ok (.ireturn, 1) := by decide +kernel
theorem dX7_in_0 : decode cX7_in 0 = .ok (.iload_n 0, 1) := by decide +kernel
theorem dX7_in_1 : decode cX7_in 1 = .ok (.iload_n 1, 1) := by decide +kernel
theorem dX7_in_2 : decode cX7_in 2 = .ok (.if_icmp .lt 12, 3) := by decide +kernel
theorem dX7_in_5 : decode cX7_in 5 = .ok (.iload_n 0, 1) := by decide +kernel
theorem dX7_in_6 : decode cX7_in 6 = .ok (.iload_n 2, 1) := by decide +kernel
theorem dX7_in_7 : decode cX7_in 7 = .ok (.if_icmp .gt 7, 3) := by decide +kernel
theorem dX7_in_10 : decode cX7_in 10 = .ok (.iconst 1, 1) := by decide +kernel
theorem dX7_in_11 : decode cX7_in 11 = .ok (.goto 4, 3) := by decide +kernel
theorem dX7_in_14 : decode cX7_in 14 = .ok (.iconst 0, 1) := by decide +kernel
theorem dX7_in_15 : decode cX7_in 15 = .ok (.ireturn, 1) := by decide +kernel
theorem dX7_isShaft_0 : decode cX7_isShaft 0 = .ok (.iload_n 0, 1) := by decide +kernel
theorem dX7_isShaft_1 : decode cX7_isShaft 1 = .ok (.iconst 0, 1) := by decide +kernel
theorem dX7_isShaft_2 : decode cX7_isShaft 2 = .ok (.iconst 5, 1) := by decide +kernel
theorem dX7_isShaft_3 : decode cX7_isShaft 3 = .ok (.invokestatic 49, 3) := by decide +kernel
theorem dX7_isShaft_6 : decode cX7_isShaft 6 = .ok (.ireturn, 1) := by decide +kernel
theorem dX7_isPart_0 : decode cX7_isPart 0 = .ok (.iload_n 0, 1) := by decide +kernel
theorem dX7_isPart_1 : decode cX7_isPart 1 = .ok (.iconst 0, 1) := by decide +kernel
theorem dX7_isPart_2 : decode cX7_isPart 2 = .ok (.iconst 1, 1) := by decide +kernel
theorem dX7_isPart_3 : decode cX7_isPart 3 = .ok (.invokestatic 49, 3) := by decide +kernel
theorem dX7_isPart_6 : decode cX7_isPart 6 = .ok (.ireturn, 1) := by decide +kernel
theorem dX7_isElement_0 : decode cX7_isElement 0 = .ok (.iload_n 1, 1) := by decide +kernel
theorem dX7_isElement_1 : decode cX7_isElement 1 = .ok (.iconst 0, 1) := by decide +kernel
theorem dX7_isElement_2 : decode cX7_isElement 2 = .ok (.aload_n 0, 1) := by decide +kernel
theorem dX7_isElement_3 : decode cX7_isElement 3 = .ok (.getfield 7, 3) := by decide +kernel
theorem dX7_isElement_6 : decode cX7_isElement 6 = .ok (.bipush 34, 2) := by decide +kernel
theorem dX7_isElement_8 : decode cX7_isElement 8 = .ok (.iaload, 1) := by decide +kernel
theorem dX7_isElement_9 : decode cX7_isElement 9 = .ok (.iconst 1, 1) := by decide +kernel
theorem dX7_isElement_10 : decode cX7_isElement 10 = .ok (.isub, 1) := by decide +kernel
theorem dX7_isElement_11 : decode cX7_isElement 11 = .ok (.invokestatic 49, 3) := by decide +kernel
theorem dX7_isElement_14 : decode cX7_isElement 14 = .ok (.ireturn, 1) := by decide +kernel
theorem dX7_isMask_0 : decode cX7_isMask 0 = .ok (.iload_n 1, 1) := by decide +kernel
theorem dX7_isMask_1 : decode cX7_isMask 1 = .ok (.iconst 0, 1) := by decide +kernel
theorem dX7_isMask_2 : decode cX7_isMask 2 = .ok (.iconst 1, 1) := by decide +kernel
theorem dX7_isMask_3 : decode cX7_isMask 3 = .ok (.aload_n 0, 1) := by decide +kernel
theorem dX7_isMask_4 : decode cX7_isMask 4 = .ok (.getfield 7, 3) := by decide +kernel
theorem dX7_isMask_7 : decode cX7_isMask 7 = .ok (.bipush 34, 2) := by decide +kernel
theorem dX7_isMask_9 : decode cX7_isMask 9 = .ok (.iaload, 1) := by decide +kernel
theorem dX7_isMask_10 : decode cX7_isMask 10 = .ok (.ishl, 1) := by decide +kernel
theorem dX7_isMask_11 : decode cX7_isMask 11 = .ok (.iconst 1, 1) := by decide +kernel
theorem dX7_isMask_12 : decode cX7_isMask 12 = .ok (.isub, 1) := by decide +kernel
theorem dX7_isMask_13 : decode cX7_isMask 13 = .ok (.invokestatic 49, 3) := by decide +kernel
theorem dX7_isMask_16 : decode cX7_isMask 16 = .ok (.ireturn, 1) := by decide +kernel
theorem dX7_has_0 : decode cX7_has 0 = .ok (.iload_n 0, 1) := by decide +kernel
theorem dX7_has_1 : decode cX7_has 1 = .ok (.iload_n 1, 1) := by decide +kernel
theorem dX7_has_2 : decode cX7_has 2 = .ok (.ishr, 1) := by decide +kernel
theorem dX7_has_3 : decode cX7_has 3 = .ok (.iconst 1, 1) := by decide +kernel
theorem dX7_has_4 : decode cX7_has 4 = .ok (.iand, 1) := by decide +kernel
theorem dX7_has_5 : decode cX7_has 5 = .ok (.iconst 1, 1) := by decide +kernel
theorem dX7_has_6 : decode cX7_has 6 = .ok (.if_icmp .ne 7, 3) := by decide +kernel
theorem dX7_has_9 : decode cX7_has 9 = .ok (.iconst 1, 1) := by decide +kernel
theorem dX7_has_10 : decode cX7_has 10 = .ok (.goto 4, 3) := by decide +kernel
theorem dX7_has_13 : decode cX7_has 13 = .ok (.iconst 0, 1) := by decide +kernel
theorem dX7_has_14 : decode cX7_has 14 = .ok (.ireturn, 1) := by decide +kernel
theorem dX7_addSet_0 : decode cX7_addSet 0 = .ok (.iload_n 1, 1) := by decide +kernel
theorem dX7_addSet_1 : decode cX7_addSet 1 = .ok (.iload_n 2, 1) := by decide +kernel
theorem dX7_addSet_2 : decode cX7_addSet 2 = .ok (.if_icmp .eq 43, 3) := by decide +kernel
theorem dX7_addSet_5 : decode cX7_addSet 5 = .ok (.iload_n 2, 1) := by decide +kernel
theorem dX7_addSet_6 : decode cX7_addSet 6 = .ok (.iload_n 3, 1) := by decide +kernel
theorem dX7_addSet_7 : decode cX7_addSet 7 = .ok (.if_icmp .eq 38, 3) := by decide +kernel
theorem dX7_addSet_10 : decode cX7_addSet 10 = .ok (.iload_n 1, 1) := by decide +kernel
theorem dX7_addSet_11 : decode cX7_addSet 11 = .ok (.iload_n 3, 1) := by decide +kernel
theorem dX7_addSet_12 : decode cX7_addSet 12 = .ok (.if_icmp .eq 33, 3) := by decide +kernel
theorem dX7_addSet_15 : decode cX7_addSet 15 = .ok (.iload 4, 2) := by decide +kernel
theorem dX7_addSet_17 : decode cX7_addSet 17 = .ok (.bipush 10, 2) := by decide +kernel
theorem dX7_addSet_19 : decode cX7_addSet 19 = .ok (.bipush 40, 2) := by decide +kernel
theorem dX7_addSet_21 : decode cX7_addSet 21 = .ok (.invokestatic 49, 3) := by decide +kernel
theorem dX7_addSet_24 : decode cX7_addSet 24 = .ok (.ifCond .eq 21, 3) := by decide +kernel
theorem dX7_addSet_27 : decode cX7_addSet 27 = .ok (.iload 5, 2) := by decide +kernel
theorem dX7_addSet_29 : decode cX7_addSet 29 = .ok (.iload 4, 2) := by decide +kernel
theorem dX7_addSet_31 : decode cX7_addSet 31 = .ok (.iconst 1, 1) := by decide +kernel
theorem dX7_addSet_32 : decode cX7_addSet 32 = .ok (.iadd, 1) := by decide +kernel
theorem dX7_addSet_33 : decode cX7_addSet 33 = .ok (.bipush 100, 2) := by decide +kernel
theorem dX7_addSet_35 : decode cX7_addSet 35 = .ok (.invokestatic 49, 3) := by decide +kernel
theorem dX7_addSet_38 : decode cX7_addSet 38 = .ok (.ifCond .eq 7, 3) := by decide +kernel
theorem dX7_addSet_41 : decode cX7_addSet 41 = .ok (.iconst 1, 1) := by decide +kernel
theorem dX7_addSet_42 : decode cX7_addSet 42 = .ok (.goto 4, 3) := by decide +kernel
theorem dX7_addSet_45 : decode cX7_addSet 45 = .ok (.iconst 0, 1) := by decide +kernel
theorem dX7_addSet_46 : decode cX7_addSet 46 = .ok (.istore 6, 2) := by decide +kernel
theorem dX7_addSet_48 : decode cX7_addSet 48 = .ok (.aload_n 0, 1) := by decide +kernel
theorem dX7_addSet_49 : decode cX7_addSet 49 = .ok (.iload_n 1, 1) := by decide +kernel
theorem dX7_addSet_50 : decode cX7_addSet 50 = .ok (.invokestatic 53, 3) := by decide +kernel
theorem dX7_addSet_53 : decode cX7_addSet 53 = .ok (.ifCond .eq 17, 3) := by decide +kernel
theorem dX7_addSet_56 : decode cX7_addSet 56 = .ok (.iload_n 2, 1) := by decide +kernel
theorem dX7_addSet_57 : decode cX7_addSet 57 = .ok (.invokestatic 53, 3) := by decide +kernel
theorem dX7_addSet_60 : decode cX7_addSet 60 = .ok (.ifCond .eq 10, 3) := by decide +kernel
theorem dX7_addSet_63 : decode cX7_addSet 63 = .ok (.iload_n 3, 1) := by decide +kernel
theorem dX7_addSet_64 : decode cX7_addSet 64 = .ok (.invokestatic 53, 3) := by decide +kernel
theorem dX7_addSet_67 : decode cX7_addSet 67 = .ok (.ifCond .ne 7, 3) := by decide +kernel
theorem dX7_addSet_70 : decode cX7_addSet 70 = .ok (.iconst 1, 1) := by decide +kernel
theorem dX7_addSet_71 : decode cX7_addSet 71 = .ok (.goto 28, 3) := by decide +kernel
theorem dX7_addSet_74 : decode cX7_addSet 74 = .ok (.iload 6, 2) := by decide +kernel
theorem dX7_addSet_76 : decode cX7_addSet 76 = .ok (.ifCond .ne 7, 3) := by decide +kernel
theorem dX7_addSet_79 : decode cX7_addSet 79 = .ok (.iconst 2, 1) := by decide +kernel
theorem dX7_addSet_80 : decode cX7_addSet 80 = .ok (.goto 19, 3) := by decide +kernel
theorem dX7_addSet_83 : decode cX7_addSet 83 = .ok (.aload_n 0, 1) := by decide +kernel
theorem dX7_addSet_84 : decode cX7_addSet 84 = .ok (.getfield 7, 3) := by decide +kernel
theorem dX7_addSet_87 : decode cX7_addSet 87 = .ok (.bipush 33, 2) := by decide +kernel
theorem dX7_addSet_89 : decode cX7_addSet 89 = .ok (.iaload, 1) := by decide +kernel
theorem dX7_addSet_90 : decode cX7_addSet 90 = .ok (.iconst 3, 1) := by decide +kernel
theorem dX7_addSet_91 : decode cX7_addSet 91 = .ok (.if_icmp .ne 7, 3) := by decide +kernel
theorem dX7_addSet_94 : decode cX7_addSet 94 = .ok (.iconst 3, 1) := by decide +kernel
theorem dX7_addSet_95 : decode cX7_addSet 95 = .ok (.goto 4, 3) := by decide +kernel
theorem dX7_addSet_98 : decode cX7_addSet 98 = .ok (.iconst 0, 1) := by decide +kernel
theorem dX7_addSet_99 : decode cX7_addSet 99 = .ok (.putfield 45, 3) := by decide +kernel
theorem dX7_addSet_102 : decode cX7_addSet 102 = .ok (.aload_n 0, 1) := by decide +kernel
theorem dX7_addSet_103 : decode cX7_addSet 103 = .ok (.getfield 45, 3) := by decide +kernel
theorem dX7_addSet_106 : decode cX7_addSet 106 = .ok (.ifCond .eq 5, 3) := by decide +kernel
theorem dX7_addSet_109 : decode cX7_addSet 109 = .ok (.iconst 0, 1) := by decide +kernel
theorem dX7_addSet_110 : decode cX7_addSet 110 = .ok (.ireturn, 1) := by decide +kernel
theorem dX7_addSet_111 : decode cX7_addSet 111 = .ok (.iconst 0, 1) := by decide +kernel
theorem dX7_addSet_112 : decode cX7_addSet 112 = .ok (.iconst 5, 1) := by decide +kernel
theorem dX7_addSet_113 : decode cX7_addSet 113 = .ok (.aload_n 0, 1) := by decide +kernel
theorem dX7_addSet_114 : decode cX7_addSet 114 = .ok (.getfield 7, 3) := by decide +kernel
theorem dX7_addSet_117 : decode cX7_addSet 117 = .ok (.bipush 33, 2) := by decide +kernel
theorem dX7_addSet_119 : decode cX7_addSet 119 = .ok (.iaload, 1) := by decide +kernel
theorem dX7_addSet_120 : decode cX7_addSet 120 = .ok (.imul, 1) := by decide +kernel
theorem dX7_addSet_121 : decode cX7_addSet 121 = .ok (.iadd, 1) := by decide +kernel
theorem dX7_addSet_122 : decode cX7_addSet 122 = .ok (.istore 7, 2) := by decide +kernel
theorem dX7_addSet_124 : decode cX7_addSet 124 = .ok (.aload_n 0, 1) := by decide +kernel
theorem dX7_addSet_125 : decode cX7_addSet 125 = .ok (.getfield 7, 3) := by decide +kernel
theorem dX7_addSet_128 : decode cX7_addSet 128 = .ok (.iload 7, 2) := by decide +kernel
theorem dX7_addSet_130 : decode cX7_addSet 130 = .ok (.iload_n 1, 1) := by decide +kernel
theorem dX7_addSet_131 : decode cX7_addSet 131 = .ok (.iastore, 1) := by decide +kernel
theorem dX7_addSet_132 : decode cX7_addSet 132 = .ok (.aload_n 0, 1) := by decide +kernel
theorem dX7_addSet_133 : decode cX7_addSet 133 = .ok (.getfield 7, 3) := by decide +kernel
theorem dX7_addSet_136 : decode cX7_addSet 136 = .ok (.iload 7, 2) := by decide +kernel
theorem dX7_addSet_138 : decode cX7_addSet 138 = .ok (.iconst 1, 1) := by decide +kernel
theorem dX7_addSet_139 : decode cX7_addSet 139 = .ok (.iadd, 1) := by decide +kernel
theorem dX7_addSet_140 : decode cX7_addSet 140 = .ok (.iload_n 2, 1) := by decide +kernel
theorem dX7_addSet_141 : decode cX7_addSet 141 = .ok (.iastore, 1) := by decide +kernel
theorem dX7_addSet_142 : decode cX7_addSet 142 = .ok (.aload_n 0, 1) := by decide +kernel
theorem dX7_addSet_143 : decode cX7_addSet 143 = .ok (.getfield 7, 3) := by decide +kernel
theorem dX7_addSet_146 : decode cX7_addSet 146 = .ok (.iload 7, 2) := by decide +kernel
theorem dX7_addSet_148 : decode cX7_addSet 148 = .ok (.iconst 2, 1) := by decide +kernel
theorem dX7_addSet_149 : decode cX7_addSet 149 = .ok (.iadd, 1) := by decide +kernel
theorem dX7_addSet_150 : decode cX7_addSet 150 = .ok (.iload_n 3, 1) := by decide +kernel
theorem dX7_addSet_151 : decode cX7_addSet 151 = .ok (.iastore, 1) := by decide +kernel
theorem dX7_addSet_152 : decode cX7_addSet 152 = .ok (.aload_n 0, 1) := by decide +kernel
theorem dX7_addSet_153 : decode cX7_addSet 153 = .ok (.getfield 7, 3) := by decide +kernel
theorem dX7_addSet_156 : decode cX7_addSet 156 = .ok (.iload 7, 2) := by decide +kernel
theorem dX7_addSet_158 : decode cX7_addSet 158 = .ok (.iconst 3, 1) := by decide +kernel
theorem dX7_addSet_159 : decode cX7_addSet 159 = .ok (.iadd, 1) := by decide +kernel
theorem dX7_addSet_160 : decode cX7_addSet 160 = .ok (.iload 4, 2) := by decide +kernel
theorem dX7_addSet_162 : decode cX7_addSet 162 = .ok (.iastore, 1) := by decide +kernel
theorem dX7_addSet_163 : decode cX7_addSet 163 = .ok (.aload_n 0, 1) := by decide +kernel
theorem dX7_addSet_164 : decode cX7_addSet 164 = .ok (.getfield 7, 3) := by decide +kernel
theorem dX7_addSet_167 : decode cX7_addSet 167 = .ok (.iload 7, 2) := by decide +kernel
theorem dX7_addSet_169 : decode cX7_addSet 169 = .ok (.iconst 4, 1) := by decide +kernel
theorem dX7_addSet_170 : decode cX7_addSet 170 = .ok (.iadd, 1) := by decide +kernel
theorem dX7_addSet_171 : decode cX7_addSet 171 = .ok (.iload 5, 2) := by decide +kernel
theorem dX7_addSet_173 : decode cX7_addSet 173 = .ok (.iastore, 1) := by decide +kernel
theorem dX7_addSet_174 : decode cX7_addSet 174 = .ok (.aload_n 0, 1) := by decide +kernel
theorem dX7_addSet_175 : decode cX7_addSet 175 = .ok (.getfield 7, 3) := by decide +kernel
theorem dX7_addSet_178 : decode cX7_addSet 178 = .ok (.bipush 33, 2) := by decide +kernel
theorem dX7_addSet_180 : decode cX7_addSet 180 = .ok (.dup2, 1) := by decide +kernel
theorem dX7_addSet_181 : decode cX7_addSet 181 = .ok (.iaload, 1) := by decide +kernel
theorem dX7_addSet_182 : decode cX7_addSet 182 = .ok (.iconst 1, 1) := by decide +kernel
theorem dX7_addSet_183 : decode cX7_addSet 183 = .ok (.iadd, 1) := by decide +kernel
theorem dX7_addSet_184 : decode cX7_addSet 184 = .ok (.iastore, 1) := by decide +kernel
theorem dX7_addSet_185 : decode cX7_addSet 185 = .ok (.aload_n 0, 1) := by decide +kernel
theorem dX7_addSet_186 : decode cX7_addSet 186 = .ok (.getfield 7, 3) := by decide +kernel
theorem dX7_addSet_189 : decode cX7_addSet 189 = .ok (.bipush 33, 2) := by decide +kernel
theorem dX7_addSet_191 : decode cX7_addSet 191 = .ok (.iaload, 1) := by decide +kernel
theorem dX7_addSet_192 : decode cX7_addSet 192 = .ok (.ireturn, 1) := by decide +kernel
theorem dX7_addElement_0 : decode cX7_addElement 0 = .ok (.aload_n 0, 1) := by decide +kernel
theorem dX7_addElement_1 : decode cX7_addElement 1 = .ok (.getfield 7, 3) := by decide +kernel
theorem dX7_addElement_4 : decode cX7_addElement 4 = .ok (.bipush 34, 2) := by decide +kernel
theorem dX7_addElement_6 : decode cX7_addElement 6 = .ok (.iaload, 1) := by decide +kernel
theorem dX7_addElement_7 : decode cX7_addElement 7 = .ok (.istore_n 3, 1) := by decide +kernel
theorem dX7_addElement_8 : decode cX7_addElement 8 = .ok (.aload_n 0, 1) := by decide +kernel
theorem dX7_addElement_9 : decode cX7_addElement 9 = .ok (.getfield 7, 3) := by decide +kernel
theorem dX7_addElement_12 : decode cX7_addElement 12 = .ok (.bipush 15, 2) := by decide +kernel
theorem dX7_addElement_14 : decode cX7_addElement 14 = .ok (.iload_n 3, 1) := by decide +kernel
theorem dX7_addElement_15 : decode cX7_addElement 15 = .ok (.iadd, 1) := by decide +kernel
theorem dX7_addElement_16 : decode cX7_addElement 16 = .ok (.iload_n 1, 1) := by decide +kernel
theorem dX7_addElement_17 : decode cX7_addElement 17 = .ok (.iastore, 1) := by decide +kernel
theorem dX7_addElement_18 : decode cX7_addElement 18 = .ok (.aload_n 0, 1) := by decide +kernel
theorem dX7_addElement_19 : decode cX7_addElement 19 = .ok (.getfield 7, 3) := by decide +kernel
theorem dX7_addElement_22 : decode cX7_addElement 22 = .ok (.bipush 21, 2) := by decide +kernel
theorem dX7_addElement_24 : decode cX7_addElement 24 = .ok (.iload_n 3, 1) := by decide +kernel
theorem dX7_addElement_25 : decode cX7_addElement 25 = .ok (.iadd, 1) := by decide +kernel
theorem dX7_addElement_26 : decode cX7_addElement 26 = .ok (.iload_n 2, 1) := by decide +kernel
theorem dX7_addElement_27 : decode cX7_addElement 27 = .ok (.iastore, 1) := by decide +kernel
theorem dX7_addElement_28 : decode cX7_addElement 28 = .ok (.aload_n 0, 1) := by decide +kernel
theorem dX7_addElement_29 : decode cX7_addElement 29 = .ok (.getfield 7, 3) := by decide +kernel
theorem dX7_addElement_32 : decode cX7_addElement 32 = .ok (.bipush 27, 2) := by decide +kernel
theorem dX7_addElement_34 : decode cX7_addElement 34 = .ok (.iload_n 3, 1) := by decide +kernel
theorem dX7_addElement_35 : decode cX7_addElement 35 = .ok (.iadd, 1) := by decide +kernel
theorem dX7_addElement_36 : decode cX7_addElement 36 = .ok (.sipush 1000, 3) := by decide +kernel
theorem dX7_addElement_39 : decode cX7_addElement 39 = .ok (.iastore, 1) := by decide +kernel
theorem dX7_addElement_40 : decode cX7_addElement 40 = .ok (.aload_n 0, 1) := by decide +kernel
theorem dX7_addElement_41 : decode cX7_addElement 41 = .ok (.getfield 7, 3) := by decide +kernel
theorem dX7_addElement_44 : decode cX7_addElement 44 = .ok (.bipush 34, 2) := by decide +kernel
theorem dX7_addElement_46 : decode cX7_addElement 46 = .ok (.dup2, 1) := by decide +kernel
theorem dX7_addElement_47 : decode cX7_addElement 47 = .ok (.iaload, 1) := by decide +kernel
theorem dX7_addElement_48 : decode cX7_addElement 48 = .ok (.iconst 1, 1) := by decide +kernel
theorem dX7_addElement_49 : decode cX7_addElement 49 = .ok (.iadd, 1) := by decide +kernel
theorem dX7_addElement_50 : decode cX7_addElement 50 = .ok (.iastore, 1) := by decide +kernel
theorem dX7_addElement_51 : decode cX7_addElement 51 = .ok (.iload_n 3, 1) := by decide +kernel
theorem dX7_addElement_52 : decode cX7_addElement 52 = .ok (.ireturn, 1) := by decide +kernel
theorem dX7_addBrake_0 : decode cX7_addBrake 0 = .ok (.aload_n 0, 1) := by decide +kernel
theorem dX7_addBrake_1 : decode cX7_addBrake 1 = .ok (.iload_n 1, 1) := by decide +kernel
theorem dX7_addBrake_2 : decode cX7_addBrake 2 = .ok (.invokestatic 53, 3) := by decide +kernel
theorem dX7_addBrake_5 : decode cX7_addBrake 5 = .ok (.ifCond .ne 7, 3) := by decide +kernel
theorem dX7_addBrake_8 : decode cX7_addBrake 8 = .ok (.iconst 1, 1) := by decide +kernel
theorem dX7_addBrake_9 : decode cX7_addBrake 9 = .ok (.goto 20, 3) := by decide +kernel
theorem dX7_addBrake_12 : decode cX7_addBrake 12 = .ok (.aload_n 0, 1) := by decide +kernel
theorem dX7_addBrake_13 : decode cX7_addBrake 13 = .ok (.getfield 7, 3) := by decide +kernel
theorem dX7_addBrake_16 : decode cX7_addBrake 16 = .ok (.bipush 34, 2) := by decide +kernel
theorem dX7_addBrake_18 : decode cX7_addBrake 18 = .ok (.iaload, 1) := by decide +kernel
theorem dX7_addBrake_19 : decode cX7_addBrake 19 = .ok (.bipush 6, 2) := by decide +kernel
theorem dX7_addBrake_21 : decode cX7_addBrake 21 = .ok (.if_icmp .ne 7, 3) := by decide +kernel
theorem dX7_addBrake_24 : decode cX7_addBrake 24 = .ok (.iconst 2, 1) := by decide +kernel
theorem dX7_addBrake_25 : decode cX7_addBrake 25 = .ok (.goto 4, 3) := by decide +kernel
theorem dX7_addBrake_28 : decode cX7_addBrake 28 = .ok (.iconst 0, 1) := by decide +kernel
theorem dX7_addBrake_29 : decode cX7_addBrake 29 = .ok (.putfield 45, 3) := by decide +kernel
theorem dX7_addBrake_32 : decode cX7_addBrake 32 = .ok (.aload_n 0, 1) := by decide +kernel
theorem dX7_addBrake_33 : decode cX7_addBrake 33 = .ok (.getfield 45, 3) := by decide +kernel
theorem dX7_addBrake_36 : decode cX7_addBrake 36 = .ok (.ifCond .eq 7, 3) := by decide +kernel
theorem dX7_addBrake_39 : decode cX7_addBrake 39 = .ok (.iconst 0, 1) := by decide +kernel
theorem dX7_addBrake_40 : decode cX7_addBrake 40 = .ok (.goto 9, 3) := by decide +kernel
theorem dX7_addBrake_43 : decode cX7_addBrake 43 = .ok (.aload_n 0, 1) := by decide +kernel
theorem dX7_addBrake_44 : decode cX7_addBrake 44 = .ok (.iload_n 1, 1) := by decide +kernel
theorem dX7_addBrake_45 : decode cX7_addBrake 45 = .ok (.iconst (-1), 1) := by decide +kernel
theorem dX7_addBrake_46 : decode cX7_addBrake 46 = .ok (.invokevirtual 57, 3) := by decide +kernel
theorem dX7_addBrake_49 : decode cX7_addBrake 49 = .ok (.ireturn, 1) := by decide +kernel
theorem dX7_addClutch_0 : decode cX7_addClutch 0 = .ok (.aload_n 0, 1) := by decide +kernel
theorem dX7_addClutch_1 : decode cX7_addClutch 1 = .ok (.iload_n 1, 1) := by decide +kernel
theorem dX7_addClutch_2 : decode cX7_addClutch 2 = .ok (.invokestatic 53, 3) := by decide +kernel
theorem dX7_addClutch_5 : decode cX7_addClutch 5 = .ok (.ifCond .eq 10, 3) := by decide +kernel
theorem dX7_addClutch_8 : decode cX7_addClutch 8 = .ok (.iload_n 2, 1) := by decide +kernel
theorem dX7_addClutch_9 : decode cX7_addClutch 9 = .ok (.invokestatic 53, 3) := by decide +kernel
theorem dX7_addClutch_12 : decode cX7_addClutch 12 = .ok (.ifCond .ne 7, 3) := by decide +kernel
theorem dX7_addClutch_15 : decode cX7_addClutch 15 = .ok (.iconst 1, 1) := by decide +kernel
theorem dX7_addClutch_16 : decode cX7_addClutch 16 = .ok (.goto 29, 3) := by decide +kernel
theorem dX7_addClutch_19 : decode cX7_addClutch 19 = .ok (.iload_n 1, 1) := by decide +kernel
theorem dX7_addClutch_20 : decode cX7_addClutch 20 = .ok (.iload_n 2, 1) := by decide +kernel
theorem dX7_addClutch_21 : decode cX7_addClutch 21 = .ok (.if_icmp .ne 7, 3) := by decide +kernel
theorem dX7_addClutch_24 : decode cX7_addClutch 24 = .ok (.iconst 2, 1) := by decide +kernel
theorem dX7_addClutch_25 : decode cX7_addClutch 25 = .ok (.goto 20, 3) := by decide +kernel
theorem dX7_addClutch_28 : decode cX7_addClutch 28 = .ok (.aload_n 0, 1) := by decide +kernel
theorem dX7_addClutch_29 : decode cX7_addClutch 29 = .ok (.getfield 7, 3) := by decide +kernel
theorem dX7_addClutch_32 : decode cX7_addClutch 32 = .ok (.bipush 34, 2) := by decide +kernel
theorem dX7_addClutch_34 : decode cX7_addClutch 34 = .ok (.iaload, 1) := by decide +kernel
theorem dX7_addClutch_35 : decode cX7_addClutch 35 = .ok (.bipush 6, 2) := by decide +kernel
theorem dX7_addClutch_37 : decode cX7_addClutch 37 = .ok (.if_icmp .ne 7, 3) := by decide +kernel
theorem dX7_addClutch_40 : decode cX7_addClutch 40 = .ok (.iconst 3, 1) := by decide +kernel
theorem dX7_addClutch_41 : decode cX7_addClutch 41 = .ok (.goto 4, 3) := by decide +kernel
theorem dX7_addClutch_44 : decode cX7_addClutch 44 = .ok (.iconst 0, 1) := by decide +kernel
theorem dX7_addClutch_45 : decode cX7_addClutch 45 = .ok (.putfield 45, 3) := by decide +kernel
theorem dX7_addClutch_48 : decode cX7_addClutch 48 = .ok (.aload_n 0, 1) := by decide +kernel
theorem dX7_addClutch_49 : decode cX7_addClutch 49 = .ok (.getfield 45, 3) := by decide +kernel
theorem dX7_addClutch_52 : decode cX7_addClutch 52 = .ok (.ifCond .eq 7, 3) := by decide +kernel
theorem dX7_addClutch_55 : decode cX7_addClutch 55 = .ok (.iconst 0, 1) := by decide +kernel
theorem dX7_addClutch_56 : decode cX7_addClutch 56 = .ok (.goto 9, 3) := by decide +kernel
theorem dX7_addClutch_59 : decode cX7_addClutch 59 = .ok (.aload_n 0, 1) := by decide +kernel
theorem dX7_addClutch_60 : decode cX7_addClutch 60 = .ok (.iload_n 1, 1) := by decide +kernel
theorem dX7_addClutch_61 : decode cX7_addClutch 61 = .ok (.iload_n 2, 1) := by decide +kernel
theorem dX7_addClutch_62 : decode cX7_addClutch 62 = .ok (.invokevirtual 57, 3) := by decide +kernel
theorem dX7_addClutch_65 : decode cX7_addClutch 65 = .ok (.ireturn, 1) := by decide +kernel
theorem dX7_setCapacity_0 : decode cX7_setCapacity 0 = .ok (.aload_n 0, 1) := by decide +kernel
theorem dX7_setCapacity_1 : decode cX7_setCapacity 1 = .ok (.aload_n 0, 1) := by decide +kernel
theorem dX7_setCapacity_2 : decode cX7_setCapacity 2 = .ok (.iload_n 1, 1) := by decide +kernel
theorem dX7_setCapacity_3 : decode cX7_setCapacity 3 = .ok (.invokevirtual 61, 3) := by decide +kernel
theorem dX7_setCapacity_6 : decode cX7_setCapacity 6 = .ok (.ifCond .ne 7, 3) := by decide +kernel
theorem dX7_setCapacity_9 : decode cX7_setCapacity 9 = .ok (.iconst 1, 1) := by decide +kernel
theorem dX7_setCapacity_10 : decode cX7_setCapacity 10 = .ok (.goto 19, 3) := by decide +kernel
theorem dX7_setCapacity_13 : decode cX7_setCapacity 13 = .ok (.iload_n 2, 1) := by decide +kernel
theorem dX7_setCapacity_14 : decode cX7_setCapacity 14 = .ok (.iconst 1, 1) := by decide +kernel
theorem dX7_setCapacity_15 : decode cX7_setCapacity 15 = .ok (.sipush 10000, 3) := by decide +kernel
theorem dX7_setCapacity_18 : decode cX7_setCapacity 18 = .ok (.invokestatic 49, 3) := by decide +kernel
theorem dX7_setCapacity_21 : decode cX7_setCapacity 21 = .ok (.ifCond .ne 7, 3) := by decide +kernel
theorem dX7_setCapacity_24 : decode cX7_setCapacity 24 = .ok (.iconst 2, 1) := by decide +kernel
theorem dX7_setCapacity_25 : decode cX7_setCapacity 25 = .ok (.goto 4, 3) := by decide +kernel
theorem dX7_setCapacity_28 : decode cX7_setCapacity 28 = .ok (.iconst 0, 1) := by decide +kernel
theorem dX7_setCapacity_29 : decode cX7_setCapacity 29 = .ok (.putfield 45, 3) := by decide +kernel
theorem dX7_setCapacity_32 : decode cX7_setCapacity 32 = .ok (.aload_n 0, 1) := by decide +kernel
theorem dX7_setCapacity_33 : decode cX7_setCapacity 33 = .ok (.getfield 45, 3) := by decide +kernel
theorem dX7_setCapacity_36 : decode cX7_setCapacity 36 = .ok (.ifCond .eq 5, 3) := by decide +kernel
theorem dX7_setCapacity_39 : decode cX7_setCapacity 39 = .ok (.iconst 0, 1) := by decide +kernel
theorem dX7_setCapacity_40 : decode cX7_setCapacity 40 = .ok (.ireturn, 1) := by decide +kernel
theorem dX7_setCapacity_41 : decode cX7_setCapacity 41 = .ok (.aload_n 0, 1) := by decide +kernel
theorem dX7_setCapacity_42 : decode cX7_setCapacity 42 = .ok (.getfield 7, 3) := by decide +kernel
theorem dX7_setCapacity_45 : decode cX7_setCapacity 45 = .ok (.bipush 27, 2) := by decide +kernel
theorem dX7_setCapacity_47 : decode cX7_setCapacity 47 = .ok (.iload_n 1, 1) := by decide +kernel
theorem dX7_setCapacity_48 : decode cX7_setCapacity 48 = .ok (.iadd, 1) := by decide +kernel
theorem dX7_setCapacity_49 : decode cX7_setCapacity 49 = .ok (.iaload, 1) := by decide +kernel
theorem dX7_setCapacity_50 : decode cX7_setCapacity 50 = .ok (.istore_n 3, 1) := by decide +kernel
theorem dX7_setCapacity_51 : decode cX7_setCapacity 51 = .ok (.aload_n 0, 1) := by decide +kernel
theorem dX7_setCapacity_52 : decode cX7_setCapacity 52 = .ok (.getfield 7, 3) := by decide +kernel
theorem dX7_setCapacity_55 : decode cX7_setCapacity 55 = .ok (.bipush 27, 2) := by decide +kernel
theorem dX7_setCapacity_57 : decode cX7_setCapacity 57 = .ok (.iload_n 1, 1) := by decide +kernel
theorem dX7_setCapacity_58 : decode cX7_setCapacity 58 = .ok (.iadd, 1) := by decide +kernel
theorem dX7_setCapacity_59 : decode cX7_setCapacity 59 = .ok (.iload_n 2, 1) := by decide +kernel
theorem dX7_setCapacity_60 : decode cX7_setCapacity 60 = .ok (.iastore, 1) := by decide +kernel
theorem dX7_setCapacity_61 : decode cX7_setCapacity 61 = .ok (.iload_n 3, 1) := by decide +kernel
theorem dX7_setCapacity_62 : decode cX7_setCapacity 62 = .ok (.ireturn, 1) := by decide +kernel
theorem dX7_count_0 : decode cX7_count 0 = .ok (.aload_n 0, 1) := by decide +kernel
theorem dX7_count_1 : decode cX7_count 1 = .ok (.iload_n 1, 1) := by decide +kernel
theorem dX7_count_2 : decode cX7_count 2 = .ok (.iconst 0, 1) := by decide +kernel
theorem dX7_count_3 : decode cX7_count 3 = .ok (.iconst 2, 1) := by decide +kernel
theorem dX7_count_4 : decode cX7_count 4 = .ok (.invokestatic 49, 3) := by decide +kernel
theorem dX7_count_7 : decode cX7_count 7 = .ok (.ifCond .eq 7, 3) := by decide +kernel
theorem dX7_count_10 : decode cX7_count 10 = .ok (.iconst 0, 1) := by decide +kernel
theorem dX7_count_11 : decode cX7_count 11 = .ok (.goto 4, 3) := by decide +kernel
theorem dX7_count_14 : decode cX7_count 14 = .ok (.iconst 1, 1) := by decide +kernel
theorem dX7_count_15 : decode cX7_count 15 = .ok (.putfield 45, 3) := by decide +kernel
theorem dX7_count_18 : decode cX7_count 18 = .ok (.aload_n 0, 1) := by decide +kernel
theorem dX7_count_19 : decode cX7_count 19 = .ok (.getfield 45, 3) := by decide +kernel
theorem dX7_count_22 : decode cX7_count 22 = .ok (.ifCond .eq 5, 3) := by decide +kernel
theorem dX7_count_25 : decode cX7_count 25 = .ok (.iconst 0, 1) := by decide +kernel
theorem dX7_count_26 : decode cX7_count 26 = .ok (.ireturn, 1) := by decide +kernel
theorem dX7_count_27 : decode cX7_count 27 = .ok (.iload_n 1, 1) := by decide +kernel
theorem dX7_count_28 : decode cX7_count 28 = .ok (.iconst 2, 1) := by decide +kernel
theorem dX7_count_29 : decode cX7_count 29 = .ok (.if_icmp .ne 7, 3) := by decide +kernel
theorem dX7_count_32 : decode cX7_count 32 = .ok (.aload_n 0, 1) := by decide +kernel
theorem dX7_count_33 : decode cX7_count 33 = .ok (.invokevirtual 64, 3) := by decide +kernel
theorem dX7_count_36 : decode cX7_count 36 = .ok (.iload_n 1, 1) := by decide +kernel
theorem dX7_count_37 : decode cX7_count 37 = .ok (.ifCond .ne 13, 3) := by decide +kernel
theorem dX7_count_40 : decode cX7_count 40 = .ok (.aload_n 0, 1) := by decide +kernel
theorem dX7_count_41 : decode cX7_count 41 = .ok (.getfield 7, 3) := by decide +kernel
theorem dX7_count_44 : decode cX7_count 44 = .ok (.bipush 33, 2) := by decide +kernel
theorem dX7_count_46 : decode cX7_count 46 = .ok (.iaload, 1) := by decide +kernel
theorem dX7_count_47 : decode cX7_count 47 = .ok (.goto 22, 3) := by decide +kernel
theorem dX7_count_50 : decode cX7_count 50 = .ok (.iload_n 1, 1) := by decide +kernel
theorem dX7_count_51 : decode cX7_count 51 = .ok (.iconst 1, 1) := by decide +kernel
theorem dX7_count_52 : decode cX7_count 52 = .ok (.if_icmp .ne 13, 3) := by decide +kernel
theorem dX7_count_55 : decode cX7_count 55 = .ok (.aload_n 0, 1) := by decide +kernel
theorem dX7_count_56 : decode cX7_count 56 = .ok (.getfield 7, 3) := by decide +kernel
theorem dX7_count_59 : decode cX7_count 59 = .ok (.bipush 34, 2) := by decide +kernel
theorem dX7_count_61 : decode cX7_count 61 = .ok (.iaload, 1) := by decide +kernel
theorem dX7_count_62 : decode cX7_count 62 = .ok (.goto 7, 3) := by decide +kernel
theorem dX7_count_65 : decode cX7_count 65 = .ok (.aload_n 0, 1) := by decide +kernel
theorem dX7_count_66 : decode cX7_count 66 = .ok (.getfield 67, 3) := by decide +kernel
theorem dX7_count_69 : decode cX7_count 69 = .ok (.ireturn, 1) := by decide +kernel
theorem dX7_become_0 : decode cX7_become 0 = .ok (.iload_n 1, 1) := by decide +kernel
theorem dX7_become_1 : decode cX7_become 1 = .ok (.aload_n 0, 1) := by decide +kernel
theorem dX7_become_2 : decode cX7_become 2 = .ok (.getfield 7, 3) := by decide +kernel
theorem dX7_become_5 : decode cX7_become 5 = .ok (.bipush 35, 2) := by decide +kernel
theorem dX7_become_7 : decode cX7_become 7 = .ok (.iaload, 1) := by decide +kernel
theorem dX7_become_8 : decode cX7_become 8 = .ok (.if_icmp .ne 4, 3) := by decide +kernel
theorem dX7_become_11 : decode cX7_become 11 = .ok (.return_, 1) := by decide +kernel
theorem dX7_become_12 : decode cX7_become 12 = .ok (.aload_n 0, 1) := by decide +kernel
theorem dX7_become_13 : decode cX7_become 13 = .ok (.getfield 70, 3) := by decide +kernel
theorem dX7_become_16 : decode cX7_become 16 = .ok (.bipush 20, 2) := by decide +kernel
theorem dX7_become_18 : decode cX7_become 18 = .ok (.if_icmp .ne 41, 3) := by decide +kernel
theorem dX7_become_21 : decode cX7_become 21 = .ok (.iconst 1, 1) := by decide +kernel
theorem dX7_become_22 : decode cX7_become 22 = .ok (.istore_n 2, 1) := by decide +kernel
theorem dX7_become_23 : decode cX7_become 23 = .ok (.iload_n 2, 1) := by decide +kernel
theorem dX7_become_24 : decode cX7_become 24 = .ok (.bipush 20, 2) := by decide +kernel
theorem dX7_become_26 : decode cX7_become 26 = .ok (.if_icmp .ge 23, 3) := by decide +kernel
theorem dX7_become_29 : decode cX7_become 29 = .ok (.aload_n 0, 1) := by decide +kernel
theorem dX7_become_30 : decode cX7_become 30 = .ok (.getfield 20, 3) := by decide +kernel
theorem dX7_become_33 : decode cX7_become 33 = .ok (.iload_n 2, 1) := by decide +kernel
theorem dX7_become_34 : decode cX7_become 34 = .ok (.iconst 1, 1) := by decide +kernel
theorem dX7_become_35 : decode cX7_become 35 = .ok (.isub, 1) := by decide +kernel
theorem dX7_become_36 : decode cX7_become 36 = .ok (.aload_n 0, 1) := by decide +kernel
theorem dX7_become_37 : decode cX7_become 37 = .ok (.getfield 20, 3) := by decide +kernel
theorem dX7_become_40 : decode cX7_become 40 = .ok (.iload_n 2, 1) := by decide +kernel
theorem dX7_become_41 : decode cX7_become 41 = .ok (.iaload, 1) := by decide +kernel
theorem dX7_become_42 : decode cX7_become 42 = .ok (.iastore, 1) := by decide +kernel
theorem dX7_become_43 : decode cX7_become 43 = .ok (.iinc 2 1, 3) := by decide +kernel
theorem dX7_become_46 : decode cX7_become 46 = .ok (.goto (-23), 3) := by decide +kernel
theorem dX7_become_49 : decode cX7_become 49 = .ok (.aload_n 0, 1) := by decide +kernel
theorem dX7_become_50 : decode cX7_become 50 = .ok (.dup, 1) := by decide +kernel
theorem dX7_become_51 : decode cX7_become 51 = .ok (.getfield 70, 3) := by decide +kernel
theorem dX7_become_54 : decode cX7_become 54 = .ok (.iconst 1, 1) := by decide +kernel
theorem dX7_become_55 : decode cX7_become 55 = .ok (.isub, 1) := by decide +kernel
theorem dX7_become_56 : decode cX7_become 56 = .ok (.putfield 70, 3) := by decide +kernel
theorem dX7_become_59 : decode cX7_become 59 = .ok (.aload_n 0, 1) := by decide +kernel
theorem dX7_become_60 : decode cX7_become 60 = .ok (.getfield 20, 3) := by decide +kernel
theorem dX7_become_63 : decode cX7_become 63 = .ok (.aload_n 0, 1) := by decide +kernel
theorem dX7_become_64 : decode cX7_become 64 = .ok (.getfield 70, 3) := by decide +kernel
theorem dX7_become_67 : decode cX7_become 67 = .ok (.aload_n 0, 1) := by decide +kernel
theorem dX7_become_68 : decode cX7_become 68 = .ok (.getfield 7, 3) := by decide +kernel
theorem dX7_become_71 : decode cX7_become 71 = .ok (.bipush 35, 2) := by decide +kernel
theorem dX7_become_73 : decode cX7_become 73 = .ok (.iaload, 1) := by decide +kernel
theorem dX7_become_74 : decode cX7_become 74 = .ok (.iastore, 1) := by decide +kernel
theorem dX7_become_75 : decode cX7_become 75 = .ok (.aload_n 0, 1) := by decide +kernel
theorem dX7_become_76 : decode cX7_become 76 = .ok (.dup, 1) := by decide +kernel
theorem dX7_become_77 : decode cX7_become 77 = .ok (.getfield 70, 3) := by decide +kernel
theorem dX7_become_80 : decode cX7_become 80 = .ok (.iconst 1, 1) := by decide +kernel
theorem dX7_become_81 : decode cX7_become 81 = .ok (.iadd, 1) := by decide +kernel
theorem dX7_become_82 : decode cX7_become 82 = .ok (.putfield 70, 3) := by decide +kernel
theorem dX7_become_85 : decode cX7_become 85 = .ok (.aload_n 0, 1) := by decide +kernel
theorem dX7_become_86 : decode cX7_become 86 = .ok (.getfield 7, 3) := by decide +kernel
theorem dX7_become_89 : decode cX7_become 89 = .ok (.bipush 35, 2) := by decide +kernel
theorem dX7_become_91 : decode cX7_become 91 = .ok (.iload_n 1, 1) := by decide +kernel
theorem dX7_become_92 : decode cX7_become 92 = .ok (.iastore, 1) := by decide +kernel
theorem dX7_become_93 : decode cX7_become 93 = .ok (.return_, 1) := by decide +kernel
theorem dX7_engage_0 : decode cX7_engage 0 = .ok (.aload_n 0, 1) := by decide +kernel
theorem dX7_engage_1 : decode cX7_engage 1 = .ok (.aload_n 0, 1) := by decide +kernel
theorem dX7_engage_2 : decode cX7_engage 2 = .ok (.iload_n 1, 1) := by decide +kernel
theorem dX7_engage_3 : decode cX7_engage 3 = .ok (.invokevirtual 61, 3) := by decide +kernel
theorem dX7_engage_6 : decode cX7_engage 6 = .ok (.ifCond .eq 7, 3) := by decide +kernel
theorem dX7_engage_9 : decode cX7_engage 9 = .ok (.iconst 0, 1) := by decide +kernel
theorem dX7_engage_10 : decode cX7_engage 10 = .ok (.goto 4, 3) := by decide +kernel
theorem dX7_engage_13 : decode cX7_engage 13 = .ok (.iconst 1, 1) := by decide +kernel
theorem dX7_engage_14 : decode cX7_engage 14 = .ok (.putfield 45, 3) := by decide +kernel
theorem dX7_engage_17 : decode cX7_engage 17 = .ok (.aload_n 0, 1) := by decide +kernel
theorem dX7_engage_18 : decode cX7_engage 18 = .ok (.getfield 45, 3) := by decide +kernel
theorem dX7_engage_21 : decode cX7_engage 21 = .ok (.ifCond .ne 17, 3) := by decide +kernel
theorem dX7_engage_24 : decode cX7_engage 24 = .ok (.aload_n 0, 1) := by decide +kernel
theorem dX7_engage_25 : decode cX7_engage 25 = .ok (.getfield 7, 3) := by decide +kernel
theorem dX7_engage_28 : decode cX7_engage 28 = .ok (.bipush 35, 2) := by decide +kernel
theorem dX7_engage_30 : decode cX7_engage 30 = .ok (.iaload, 1) := by decide +kernel
theorem dX7_engage_31 : decode cX7_engage 31 = .ok (.iload_n 1, 1) := by decide +kernel
theorem dX7_engage_32 : decode cX7_engage 32 = .ok (.invokestatic 73, 3) := by decide +kernel
theorem dX7_engage_35 : decode cX7_engage 35 = .ok (.ifCond .eq 5, 3) := by decide +kernel
theorem dX7_engage_38 : decode cX7_engage 38 = .ok (.iconst 0, 1) := by decide +kernel
theorem dX7_engage_39 : decode cX7_engage 39 = .ok (.ireturn, 1) := by decide +kernel
theorem dX7_engage_40 : decode cX7_engage 40 = .ok (.aload_n 0, 1) := by decide +kernel
theorem dX7_engage_41 : decode cX7_engage 41 = .ok (.aload_n 0, 1) := by decide +kernel
theorem dX7_engage_42 : decode cX7_engage 42 = .ok (.getfield 7, 3) := by decide +kernel
theorem dX7_engage_45 : decode cX7_engage 45 = .ok (.bipush 35, 2) := by decide +kernel
theorem dX7_engage_47 : decode cX7_engage 47 = .ok (.iaload, 1) := by decide +kernel
theorem dX7_engage_48 : decode cX7_engage 48 = .ok (.iconst 1, 1) := by decide +kernel
theorem dX7_engage_49 : decode cX7_engage 49 = .ok (.iload_n 1, 1) := by decide +kernel
theorem dX7_engage_50 : decode cX7_engage 50 = .ok (.ishl, 1) := by decide +kernel
theorem dX7_engage_51 : decode cX7_engage 51 = .ok (.ior, 1) := by decide +kernel
theorem dX7_engage_52 : decode cX7_engage 52 = .ok (.invokevirtual 77, 3) := by decide +kernel
theorem dX7_engage_55 : decode cX7_engage 55 = .ok (.iconst 1, 1) := by decide +kernel
theorem dX7_engage_56 : decode cX7_engage 56 = .ok (.ireturn, 1) := by decide +kernel
theorem dX7_release_0 : decode cX7_release 0 = .ok (.aload_n 0, 1) := by decide +kernel
theorem dX7_release_1 : decode cX7_release 1 = .ok (.aload_n 0, 1) := by decide +kernel
theorem dX7_release_2 : decode cX7_release 2 = .ok (.iload_n 1, 1) := by decide +kernel
theorem dX7_release_3 : decode cX7_release 3 = .ok (.invokevirtual 61, 3) := by decide +kernel
theorem dX7_release_6 : decode cX7_release 6 = .ok (.ifCond .eq 7, 3) := by decide +kernel
theorem dX7_release_9 : decode cX7_release 9 = .ok (.iconst 0, 1) := by decide +kernel
theorem dX7_release_10 : decode cX7_release 10 = .ok (.goto 4, 3) := by decide +kernel
theorem dX7_release_13 : decode cX7_release 13 = .ok (.iconst 1, 1) := by decide +kernel
theorem dX7_release_14 : decode cX7_release 14 = .ok (.putfield 45, 3) := by decide +kernel
theorem dX7_release_17 : decode cX7_release 17 = .ok (.aload_n 0, 1) := by decide +kernel
theorem dX7_release_18 : decode cX7_release 18 = .ok (.getfield 45, 3) := by decide +kernel
theorem dX7_release_21 : decode cX7_release 21 = .ok (.ifCond .ne 17, 3) := by decide +kernel
theorem dX7_release_24 : decode cX7_release 24 = .ok (.aload_n 0, 1) := by decide +kernel
theorem dX7_release_25 : decode cX7_release 25 = .ok (.getfield 7, 3) := by decide +kernel
theorem dX7_release_28 : decode cX7_release 28 = .ok (.bipush 35, 2) := by decide +kernel
theorem dX7_release_30 : decode cX7_release 30 = .ok (.iaload, 1) := by decide +kernel
theorem dX7_release_31 : decode cX7_release 31 = .ok (.iload_n 1, 1) := by decide +kernel
theorem dX7_release_32 : decode cX7_release 32 = .ok (.invokestatic 73, 3) := by decide +kernel
theorem dX7_release_35 : decode cX7_release 35 = .ok (.ifCond .ne 5, 3) := by decide +kernel
theorem dX7_release_38 : decode cX7_release 38 = .ok (.iconst 0, 1) := by decide +kernel
theorem dX7_release_39 : decode cX7_release 39 = .ok (.ireturn, 1) := by decide +kernel
theorem dX7_release_40 : decode cX7_release 40 = .ok (.aload_n 0, 1) := by decide +kernel
theorem dX7_release_41 : decode cX7_release 41 = .ok (.aload_n 0, 1) := by decide +kernel
theorem dX7_release_42 : decode cX7_release 42 = .ok (.getfield 7, 3) := by decide +kernel
theorem dX7_release_45 : decode cX7_release 45 = .ok (.bipush 35, 2) := by decide +kernel
theorem dX7_release_47 : decode cX7_release 47 = .ok (.iaload, 1) := by decide +kernel
theorem dX7_release_48 : decode cX7_release 48 = .ok (.iconst 1, 1) := by decide +kernel
theorem dX7_release_49 : decode cX7_release 49 = .ok (.iload_n 1, 1) := by decide +kernel
theorem dX7_release_50 : decode cX7_release 50 = .ok (.ishl, 1) := by decide +kernel
theorem dX7_release_51 : decode cX7_release 51 = .ok (.iconst (-1), 1) := by decide +kernel
theorem dX7_release_52 : decode cX7_release 52 = .ok (.ixor, 1) := by decide +kernel
theorem dX7_release_53 : decode cX7_release 53 = .ok (.iand, 1) := by decide +kernel
theorem dX7_release_54 : decode cX7_release 54 = .ok (.invokevirtual 77, 3) := by decide +kernel
theorem dX7_release_57 : decode cX7_release 57 = .ok (.iconst 1, 1) := by decide +kernel
theorem dX7_release_58 : decode cX7_release 58 = .ok (.ireturn, 1) := by decide +kernel
theorem dX7_select_0 : decode cX7_select 0 = .ok (.aload_n 0, 1) := by decide +kernel
theorem dX7_select_1 : decode cX7_select 1 = .ok (.aload_n 0, 1) := by decide +kernel
theorem dX7_select_2 : decode cX7_select 2 = .ok (.iload_n 1, 1) := by decide +kernel
theorem dX7_select_3 : decode cX7_select 3 = .ok (.invokevirtual 81, 3) := by decide +kernel
theorem dX7_select_6 : decode cX7_select 6 = .ok (.ifCond .eq 7, 3) := by decide +kernel
theorem dX7_select_9 : decode cX7_select 9 = .ok (.iconst 0, 1) := by decide +kernel
theorem dX7_select_10 : decode cX7_select 10 = .ok (.goto 4, 3) := by decide +kernel
theorem dX7_select_13 : decode cX7_select 13 = .ok (.iconst 1, 1) := by decide +kernel
theorem dX7_select_14 : decode cX7_select 14 = .ok (.putfield 45, 3) := by decide +kernel
theorem dX7_select_17 : decode cX7_select 17 = .ok (.aload_n 0, 1) := by decide +kernel
theorem dX7_select_18 : decode cX7_select 18 = .ok (.getfield 45, 3) := by decide +kernel
theorem dX7_select_21 : decode cX7_select 21 = .ok (.ifCond .eq 5, 3) := by decide +kernel
theorem dX7_select_24 : decode cX7_select 24 = .ok (.iconst 0, 1) := by decide +kernel
theorem dX7_select_25 : decode cX7_select 25 = .ok (.ireturn, 1) := by decide +kernel
theorem dX7_select_26 : decode cX7_select 26 = .ok (.aload_n 0, 1) := by decide +kernel
theorem dX7_select_27 : decode cX7_select 27 = .ok (.getfield 7, 3) := by decide +kernel
theorem dX7_select_30 : decode cX7_select 30 = .ok (.bipush 35, 2) := by decide +kernel
theorem dX7_select_32 : decode cX7_select 32 = .ok (.iaload, 1) := by decide +kernel
theorem dX7_select_33 : decode cX7_select 33 = .ok (.istore_n 2, 1) := by decide +kernel
theorem dX7_select_34 : decode cX7_select 34 = .ok (.aload_n 0, 1) := by decide +kernel
theorem dX7_select_35 : decode cX7_select 35 = .ok (.iload_n 1, 1) := by decide +kernel
theorem dX7_select_36 : decode cX7_select 36 = .ok (.invokevirtual 77, 3) := by decide +kernel
theorem dX7_select_39 : decode cX7_select 39 = .ok (.iload_n 2, 1) := by decide +kernel
theorem dX7_select_40 : decode cX7_select 40 = .ok (.ireturn, 1) := by decide +kernel
theorem dX7_undo_0 : decode cX7_undo 0 = .ok (.aload_n 0, 1) := by decide +kernel
theorem dX7_undo_1 : decode cX7_undo 1 = .ok (.iconst 0, 1) := by decide +kernel
theorem dX7_undo_2 : decode cX7_undo 2 = .ok (.putfield 45, 3) := by decide +kernel
theorem dX7_undo_5 : decode cX7_undo 5 = .ok (.aload_n 0, 1) := by decide +kernel
theorem dX7_undo_6 : decode cX7_undo 6 = .ok (.getfield 70, 3) := by decide +kernel
theorem dX7_undo_9 : decode cX7_undo 9 = .ok (.ifCond .ne 5, 3) := by decide +kernel
theorem dX7_undo_12 : decode cX7_undo 12 = .ok (.iconst 0, 1) := by decide +kernel
theorem dX7_undo_13 : decode cX7_undo 13 = .ok (.ireturn, 1) := by decide +kernel
theorem dX7_undo_14 : decode cX7_undo 14 = .ok (.aload_n 0, 1) := by decide +kernel
theorem dX7_undo_15 : decode cX7_undo 15 = .ok (.dup, 1) := by decide +kernel
theorem dX7_undo_16 : decode cX7_undo 16 = .ok (.getfield 70, 3) := by decide +kernel
theorem dX7_undo_19 : decode cX7_undo 19 = .ok (.iconst 1, 1) := by decide +kernel
theorem dX7_undo_20 : decode cX7_undo 20 = .ok (.isub, 1) := by decide +kernel
theorem dX7_undo_21 : decode cX7_undo 21 = .ok (.putfield 70, 3) := by decide +kernel
theorem dX7_undo_24 : decode cX7_undo 24 = .ok (.aload_n 0, 1) := by decide +kernel
theorem dX7_undo_25 : decode cX7_undo 25 = .ok (.getfield 7, 3) := by decide +kernel
theorem dX7_undo_28 : decode cX7_undo 28 = .ok (.bipush 35, 2) := by decide +kernel
theorem dX7_undo_30 : decode cX7_undo 30 = .ok (.aload_n 0, 1) := by decide +kernel
theorem dX7_undo_31 : decode cX7_undo 31 = .ok (.getfield 20, 3) := by decide +kernel
theorem dX7_undo_34 : decode cX7_undo 34 = .ok (.aload_n 0, 1) := by decide +kernel
theorem dX7_undo_35 : decode cX7_undo 35 = .ok (.getfield 70, 3) := by decide +kernel
theorem dX7_undo_38 : decode cX7_undo 38 = .ok (.iaload, 1) := by decide +kernel
theorem dX7_undo_39 : decode cX7_undo 39 = .ok (.iastore, 1) := by decide +kernel
theorem dX7_undo_40 : decode cX7_undo 40 = .ok (.iconst 1, 1) := by decide +kernel
theorem dX7_undo_41 : decode cX7_undo 41 = .ok (.ireturn, 1) := by decide +kernel
theorem dX7_engaged_0 : decode cX7_engaged 0 = .ok (.aload_n 0, 1) := by decide +kernel
theorem dX7_engaged_1 : decode cX7_engaged 1 = .ok (.iconst 0, 1) := by decide +kernel
theorem dX7_engaged_2 : decode cX7_engaged 2 = .ok (.putfield 45, 3) := by decide +kernel
theorem dX7_engaged_5 : decode cX7_engaged 5 = .ok (.aload_n 0, 1) := by decide +kernel
theorem dX7_engaged_6 : decode cX7_engaged 6 = .ok (.getfield 7, 3) := by decide +kernel
theorem dX7_engaged_9 : decode cX7_engaged 9 = .ok (.bipush 35, 2) := by decide +kernel
theorem dX7_engaged_11 : decode cX7_engaged 11 = .ok (.iaload, 1) := by decide +kernel
theorem dX7_engaged_12 : decode cX7_engaged 12 = .ok (.ireturn, 1) := by decide +kernel
theorem dX7_brakesOnly_0 : decode cX7_brakesOnly 0 = .ok (.aload_n 0, 1) := by decide +kernel
theorem dX7_brakesOnly_1 : decode cX7_brakesOnly 1 = .ok (.iconst 0, 1) := by decide +kernel
theorem dX7_brakesOnly_2 : decode cX7_brakesOnly 2 = .ok (.putfield 45, 3) := by decide +kernel
theorem dX7_brakesOnly_5 : decode cX7_brakesOnly 5 = .ok (.iconst 1, 1) := by decide +kernel
theorem dX7_brakesOnly_6 : decode cX7_brakesOnly 6 = .ok (.istore_n 1, 1) := by decide +kernel
theorem dX7_brakesOnly_7 : decode cX7_brakesOnly 7 = .ok (.iconst 0, 1) := by decide +kernel
theorem dX7_brakesOnly_8 : decode cX7_brakesOnly 8 = .ok (.istore_n 2, 1) := by decide +kernel
theorem dX7_brakesOnly_9 : decode cX7_brakesOnly 9 = .ok (.iload_n 2, 1) := by decide +kernel
theorem dX7_brakesOnly_10 : decode cX7_brakesOnly 10 = .ok (.aload_n 0, 1) := by decide +kernel
theorem dX7_brakesOnly_11 : decode cX7_brakesOnly 11 = .ok (.getfield 7, 3) := by decide +kernel
theorem dX7_brakesOnly_14 : decode cX7_brakesOnly 14 = .ok (.bipush 34, 2) := by decide +kernel
theorem dX7_brakesOnly_16 : decode cX7_brakesOnly 16 = .ok (.iaload, 1) := by decide +kernel
theorem dX7_brakesOnly_17 : decode cX7_brakesOnly 17 = .ok (.if_icmp .ge 46, 3) := by decide +kernel
theorem dX7_brakesOnly_20 : decode cX7_brakesOnly 20 = .ok (.iload_n 1, 1) := by decide +kernel
theorem dX7_brakesOnly_21 : decode cX7_brakesOnly 21 = .ok (.ifCond .eq 34, 3) := by decide +kernel
theorem dX7_brakesOnly_24 : decode cX7_brakesOnly 24 = .ok (.aload_n 0, 1) := by decide +kernel
theorem dX7_brakesOnly_25 : decode cX7_brakesOnly 25 = .ok (.getfield 7, 3) := by decide +kernel
theorem dX7_brakesOnly_28 : decode cX7_brakesOnly 28 = .ok (.bipush 35, 2) := by decide +kernel
theorem dX7_brakesOnly_30 : decode cX7_brakesOnly 30 = .ok (.iaload, 1) := by decide +kernel
theorem dX7_brakesOnly_31 : decode cX7_brakesOnly 31 = .ok (.iload_n 2, 1) := by decide +kernel
theorem dX7_brakesOnly_32 : decode cX7_brakesOnly 32 = .ok (.invokestatic 73, 3) := by decide +kernel
theorem dX7_brakesOnly_35 : decode cX7_brakesOnly 35 = .ok (.ifCond .eq 16, 3) := by decide +kernel
theorem dX7_brakesOnly_38 : decode cX7_brakesOnly 38 = .ok (.aload_n 0, 1) := by decide +kernel
theorem dX7_brakesOnly_39 : decode cX7_brakesOnly 39 = .ok (.getfield 7, 3) := by decide +kernel
theorem dX7_brakesOnly_42 : decode cX7_brakesOnly 42 = .ok (.bipush 21, 2) := by decide +kernel
theorem dX7_brakesOnly_44 : decode cX7_brakesOnly 44 = .ok (.iload_n 2, 1) := by decide +kernel
theorem dX7_brakesOnly_45 : decode cX7_brakesOnly 45 = .ok (.iadd, 1) := by decide +kernel
theorem dX7_brakesOnly_46 : decode cX7_brakesOnly 46 = .ok (.iaload, 1) := by decide +kernel
theorem dX7_brakesOnly_47 : decode cX7_brakesOnly 47 = .ok (.iconst (-1), 1) := by decide +kernel
theorem dX7_brakesOnly_48 : decode cX7_brakesOnly 48 = .ok (.if_icmp .ne 7, 3) := by decide +kernel
theorem dX7_brakesOnly_51 : decode cX7_brakesOnly 51 = .ok (.iconst 1, 1) := by decide +kernel
theorem dX7_brakesOnly_52 : decode cX7_brakesOnly 52 = .ok (.goto 4, 3) := by decide +kernel
theorem dX7_brakesOnly_55 : decode cX7_brakesOnly 55 = .ok (.iconst 0, 1) := by decide +kernel
theorem dX7_brakesOnly_56 : decode cX7_brakesOnly 56 = .ok (.istore_n 1, 1) := by decide +kernel
theorem dX7_brakesOnly_57 : decode cX7_brakesOnly 57 = .ok (.iinc 2 1, 3) := by decide +kernel
theorem dX7_brakesOnly_60 : decode cX7_brakesOnly 60 = .ok (.goto (-51), 3) := by decide +kernel
theorem dX7_brakesOnly_63 : decode cX7_brakesOnly 63 = .ok (.iload_n 1, 1) := by decide +kernel
theorem dX7_brakesOnly_64 : decode cX7_brakesOnly 64 = .ok (.ireturn, 1) := by decide +kernel
theorem dX7_clearRows_0 : decode cX7_clearRows 0 = .ok (.aload_n 0, 1) := by decide +kernel
theorem dX7_clearRows_1 : decode cX7_clearRows 1 = .ok (.iload_n 1, 1) := by decide +kernel
theorem dX7_clearRows_2 : decode cX7_clearRows 2 = .ok (.putfield 84, 3) := by decide +kernel
theorem dX7_clearRows_5 : decode cX7_clearRows 5 = .ok (.aload_n 0, 1) := by decide +kernel
theorem dX7_clearRows_6 : decode cX7_clearRows 6 = .ok (.iload_n 2, 1) := by decide +kernel
theorem dX7_clearRows_7 : decode cX7_clearRows 7 = .ok (.putfield 87, 3) := by decide +kernel
theorem dX7_clearRows_10 : decode cX7_clearRows 10 = .ok (.iconst 0, 1) := by decide +kernel
theorem dX7_clearRows_11 : decode cX7_clearRows 11 = .ok (.istore_n 3, 1) := by decide +kernel
theorem dX7_clearRows_12 : decode cX7_clearRows 12 = .ok (.iload_n 3, 1) := by decide +kernel
theorem dX7_clearRows_13 : decode cX7_clearRows 13 = .ok (.bipush 121, 2) := by decide +kernel
theorem dX7_clearRows_15 : decode cX7_clearRows 15 = .ok (.if_icmp .ge 16, 3) := by decide +kernel
theorem dX7_clearRows_18 : decode cX7_clearRows 18 = .ok (.aload_n 0, 1) := by decide +kernel
theorem dX7_clearRows_19 : decode cX7_clearRows 19 = .ok (.getfield 23, 3) := by decide +kernel
theorem dX7_clearRows_22 : decode cX7_clearRows 22 = .ok (.iload_n 3, 1) := by decide +kernel
theorem dX7_clearRows_23 : decode cX7_clearRows 23 = .ok (.lconst 0, 1) := by decide +kernel
theorem dX7_clearRows_24 : decode cX7_clearRows 24 = .ok (.lastore, 1) := by decide +kernel
theorem dX7_clearRows_25 : decode cX7_clearRows 25 = .ok (.iinc 3 1, 3) := by decide +kernel
theorem dX7_clearRows_28 : decode cX7_clearRows 28 = .ok (.goto (-16), 3) := by decide +kernel
theorem dX7_clearRows_31 : decode cX7_clearRows 31 = .ok (.return_, 1) := by decide +kernel
theorem dX7_divisor_0 : decode cX7_divisor 0 = .ok (.lload_n 0, 1) := by decide +kernel
theorem dX7_divisor_1 : decode cX7_divisor 1 = .ok (.lconst 0, 1) := by decide +kernel
theorem dX7_divisor_2 : decode cX7_divisor 2 = .ok (.lcmp, 1) := by decide +kernel
theorem dX7_divisor_3 : decode cX7_divisor 3 = .ok (.ifCond .ge 8, 3) := by decide +kernel
theorem dX7_divisor_6 : decode cX7_divisor 6 = .ok (.lload_n 0, 1) := by decide +kernel
theorem dX7_divisor_7 : decode cX7_divisor 7 = .ok (.lneg, 1) := by decide +kernel
theorem dX7_divisor_8 : decode cX7_divisor 8 = .ok (.goto 4, 3) := by decide +kernel
theorem dX7_divisor_11 : decode cX7_divisor 11 = .ok (.lload_n 0, 1) := by decide +kernel
theorem dX7_divisor_12 : decode cX7_divisor 12 = .ok (.lstore 4, 2) := by decide +kernel
theorem dX7_divisor_14 : decode cX7_divisor 14 = .ok (.lload_n 2, 1) := by decide +kernel
theorem dX7_divisor_15 : decode cX7_divisor 15 = .ok (.lconst 0, 1) := by decide +kernel
theorem dX7_divisor_16 : decode cX7_divisor 16 = .ok (.lcmp, 1) := by decide +kernel
theorem dX7_divisor_17 : decode cX7_divisor 17 = .ok (.ifCond .ge 8, 3) := by decide +kernel
theorem dX7_divisor_20 : decode cX7_divisor 20 = .ok (.lload_n 2, 1) := by decide +kernel
theorem dX7_divisor_21 : decode cX7_divisor 21 = .ok (.lneg, 1) := by decide +kernel
theorem dX7_divisor_22 : decode cX7_divisor 22 = .ok (.goto 4, 3) := by decide +kernel
theorem dX7_divisor_25 : decode cX7_divisor 25 = .ok (.lload_n 2, 1) := by decide +kernel
theorem dX7_divisor_26 : decode cX7_divisor 26 = .ok (.lstore 6, 2) := by decide +kernel
theorem dX7_divisor_28 : decode cX7_divisor 28 = .ok (.lload 6, 2) := by decide +kernel
theorem dX7_divisor_30 : decode cX7_divisor 30 = .ok (.lconst 0, 1) := by decide +kernel
theorem dX7_divisor_31 : decode cX7_divisor 31 = .ok (.lcmp, 1) := by decide +kernel
theorem dX7_divisor_32 : decode cX7_divisor 32 = .ok (.ifCond .eq 21, 3) := by decide +kernel
theorem dX7_divisor_35 : decode cX7_divisor 35 = .ok (.lload 4, 2) := by decide +kernel
theorem dX7_divisor_37 : decode cX7_divisor 37 = .ok (.lload 6, 2) := by decide +kernel
theorem dX7_divisor_39 : decode cX7_divisor 39 = .ok (.lrem, 1) := by decide +kernel
theorem dX7_divisor_40 : decode cX7_divisor 40 = .ok (.lstore 8, 2) := by decide +kernel
theorem dX7_divisor_42 : decode cX7_divisor 42 = .ok (.lload 6, 2) := by decide +kernel
theorem dX7_divisor_44 : decode cX7_divisor 44 = .ok (.lstore 4, 2) := by decide +kernel
theorem dX7_divisor_46 : decode cX7_divisor 46 = .ok (.lload 8, 2) := by decide +kernel
theorem dX7_divisor_48 : decode cX7_divisor 48 = .ok (.lstore 6, 2) := by decide +kernel
theorem dX7_divisor_50 : decode cX7_divisor 50 = .ok (.goto (-22), 3) := by decide +kernel
theorem dX7_divisor_53 : decode cX7_divisor 53 = .ok (.lload 4, 2) := by decide +kernel
theorem dX7_divisor_55 : decode cX7_divisor 55 = .ok (.lreturn, 1) := by decide +kernel
theorem dX7_lessen_0 : decode cX7_lessen 0 = .ok (.lconst 0, 1) := by decide +kernel
theorem dX7_lessen_1 : decode cX7_lessen 1 = .ok (.lstore_n 2, 1) := by decide +kernel
theorem dX7_lessen_2 : decode cX7_lessen 2 = .ok (.iconst 0, 1) := by decide +kernel
theorem dX7_lessen_3 : decode cX7_lessen 3 = .ok (.istore 4, 2) := by decide +kernel
theorem dX7_lessen_5 : decode cX7_lessen 5 = .ok (.iload 4, 2) := by decide +kernel
theorem dX7_lessen_7 : decode cX7_lessen 7 = .ok (.bipush 11, 2) := by decide +kernel
theorem dX7_lessen_9 : decode cX7_lessen 9 = .ok (.if_icmp .ge 26, 3) := by decide +kernel
theorem dX7_lessen_12 : decode cX7_lessen 12 = .ok (.lload_n 2, 1) := by decide +kernel
theorem dX7_lessen_13 : decode cX7_lessen 13 = .ok (.aload_n 0, 1) := by decide +kernel
theorem dX7_lessen_14 : decode cX7_lessen 14 = .ok (.getfield 23, 3) := by decide +kernel
theorem dX7_lessen_17 : decode cX7_lessen 17 = .ok (.bipush 11, 2) := by decide +kernel
theorem dX7_lessen_19 : decode cX7_lessen 19 = .ok (.iload_n 1, 1) := by decide +kernel
theorem dX7_lessen_20 : decode cX7_lessen 20 = .ok (.imul, 1) := by decide +kernel
theorem dX7_lessen_21 : decode cX7_lessen 21 = .ok (.iload 4, 2) := by decide +kernel
theorem dX7_lessen_23 : decode cX7_lessen 23 = .ok (.iadd, 1) := by decide +kernel
theorem dX7_lessen_24 : decode cX7_lessen 24 = .ok (.laload, 1) := by decide +kernel
theorem dX7_lessen_25 : decode cX7_lessen 25 = .ok (.invokestatic 90, 3) := by decide +kernel
theorem dX7_lessen_28 : decode cX7_lessen 28 = .ok (.lstore_n 2, 1) := by decide +kernel
theorem dX7_lessen_29 : decode cX7_lessen 29 = .ok (.iinc 4 1, 3) := by decide +kernel
theorem dX7_lessen_32 : decode cX7_lessen 32 = .ok (.goto (-27), 3) := by decide +kernel
theorem dX7_lessen_35 : decode cX7_lessen 35 = .ok (.iconst 0, 1) := by decide +kernel
theorem dX7_lessen_36 : decode cX7_lessen 36 = .ok (.istore 4, 2) := by decide +kernel
theorem dX7_lessen_38 : decode cX7_lessen 38 = .ok (.iload 4, 2) := by decide +kernel
theorem dX7_lessen_40 : decode cX7_lessen 40 = .ok (.bipush 11, 2) := by decide +kernel
theorem dX7_lessen_42 : decode cX7_lessen 42 = .ok (.if_icmp .ge 31, 3) := by decide +kernel
theorem dX7_lessen_45 : decode cX7_lessen 45 = .ok (.lload_n 2, 1) := by decide +kernel
theorem dX7_lessen_46 : decode cX7_lessen 46 = .ok (.lconst 1, 1) := by decide +kernel
theorem dX7_lessen_47 : decode cX7_lessen 47 = .ok (.lcmp, 1) := by decide +kernel
theorem dX7_lessen_48 : decode cX7_lessen 48 = .ok (.ifCond .le 25, 3) := by decide +kernel
theorem dX7_lessen_51 : decode cX7_lessen 51 = .ok (.aload_n 0, 1) := by decide +kernel
theorem dX7_lessen_52 : decode cX7_lessen 52 = .ok (.getfield 23, 3) := by decide +kernel
theorem dX7_lessen_55 : decode cX7_lessen 55 = .ok (.bipush 11, 2) := by decide +kernel
theorem dX7_lessen_57 : decode cX7_lessen 57 = .ok (.iload_n 1, 1) := by decide +kernel
theorem dX7_lessen_58 : decode cX7_lessen 58 = .ok (.imul, 1) := by decide +kernel
theorem dX7_lessen_59 : decode cX7_lessen 59 = .ok (.iload 4, 2) := by decide +kernel
theorem dX7_lessen_61 : decode cX7_lessen 61 = .ok (.iadd, 1) := by decide +kernel
theorem dX7_lessen_62 : decode cX7_lessen 62 = .ok (.dup2, 1) := by decide +kernel
theorem dX7_lessen_63 : decode cX7_lessen 63 = .ok (.laload, 1) := by decide +kernel
theorem dX7_lessen_64 : decode cX7_lessen 64 = .ok (.lload_n 2, 1) := by decide +kernel
theorem dX7_lessen_65 : decode cX7_lessen 65 = .ok (.ldiv, 1) := by decide +kernel
theorem dX7_lessen_66 : decode cX7_lessen 66 = .ok (.lastore, 1) := by decide +kernel
theorem dX7_lessen_67 : decode cX7_lessen 67 = .ok (.iinc 4 1, 3) := by decide +kernel
theorem dX7_lessen_70 : decode cX7_lessen 70 = .ok (.goto (-32), 3) := by decide +kernel
theorem dX7_lessen_73 : decode cX7_lessen 73 = .ok (.return_, 1) := by decide +kernel
theorem dX7_swap_0 : decode cX7_swap 0 = .ok (.iconst 0, 1) := by decide +kernel
theorem dX7_swap_1 : decode cX7_swap 1 = .ok (.istore_n 3, 1) := by decide +kernel
theorem dX7_swap_2 : decode cX7_swap 2 = .ok (.iload_n 3, 1) := by decide +kernel
theorem dX7_swap_3 : decode cX7_swap 3 = .ok (.bipush 11, 2) := by decide +kernel
theorem dX7_swap_5 : decode cX7_swap 5 = .ok (.if_icmp .ge 57, 3) := by decide +kernel
theorem dX7_swap_8 : decode cX7_swap 8 = .ok (.aload_n 0, 1) := by decide +kernel
theorem dX7_swap_9 : decode cX7_swap 9 = .ok (.getfield 23, 3) := by decide +kernel
theorem dX7_swap_12 : decode cX7_swap 12 = .ok (.bipush 11, 2) := by decide +kernel
theorem dX7_swap_14 : decode cX7_swap 14 = .ok (.iload_n 1, 1) := by decide +kernel
theorem dX7_swap_15 : decode cX7_swap 15 = .ok (.imul, 1) := by decide +kernel
theorem dX7_swap_16 : decode cX7_swap 16 = .ok (.iload_n 3, 1) := by decide +kernel
theorem dX7_swap_17 : decode cX7_swap 17 = .ok (.iadd, 1) := by decide +kernel
theorem dX7_swap_18 : decode cX7_swap 18 = .ok (.laload, 1) := by decide +kernel
theorem dX7_swap_19 : decode cX7_swap 19 = .ok (.lstore 4, 2) := by decide +kernel
theorem dX7_swap_21 : decode cX7_swap 21 = .ok (.aload_n 0, 1) := by decide +kernel
theorem dX7_swap_22 : decode cX7_swap 22 = .ok (.getfield 23, 3) := by decide +kernel
theorem dX7_swap_25 : decode cX7_swap 25 = .ok (.bipush 11, 2) := by decide +kernel
theorem dX7_swap_27 : decode cX7_swap 27 = .ok (.iload_n 1, 1) := by decide +kernel
theorem dX7_swap_28 : decode cX7_swap 28 = .ok (.imul, 1) := by decide +kernel
theorem dX7_swap_29 : decode cX7_swap 29 = .ok (.iload_n 3, 1) := by decide +kernel
theorem dX7_swap_30 : decode cX7_swap 30 = .ok (.iadd, 1) := by decide +kernel
theorem dX7_swap_31 : decode cX7_swap 31 = .ok (.aload_n 0, 1) := by decide +kernel
theorem dX7_swap_32 : decode cX7_swap 32 = .ok (.getfield 23, 3) := by decide +kernel
theorem dX7_swap_35 : decode cX7_swap 35 = .ok (.bipush 11, 2) := by decide +kernel
theorem dX7_swap_37 : decode cX7_swap 37 = .ok (.iload_n 2, 1) := by decide +kernel
theorem dX7_swap_38 : decode cX7_swap 38 = .ok (.imul, 1) := by decide +kernel
theorem dX7_swap_39 : decode cX7_swap 39 = .ok (.iload_n 3, 1) := by decide +kernel
theorem dX7_swap_40 : decode cX7_swap 40 = .ok (.iadd, 1) := by decide +kernel
theorem dX7_swap_41 : decode cX7_swap 41 = .ok (.laload, 1) := by decide +kernel
theorem dX7_swap_42 : decode cX7_swap 42 = .ok (.lastore, 1) := by decide +kernel
theorem dX7_swap_43 : decode cX7_swap 43 = .ok (.aload_n 0, 1) := by decide +kernel
theorem dX7_swap_44 : decode cX7_swap 44 = .ok (.getfield 23, 3) := by decide +kernel
theorem dX7_swap_47 : decode cX7_swap 47 = .ok (.bipush 11, 2) := by decide +kernel
theorem dX7_swap_49 : decode cX7_swap 49 = .ok (.iload_n 2, 1) := by decide +kernel
theorem dX7_swap_50 : decode cX7_swap 50 = .ok (.imul, 1) := by decide +kernel
theorem dX7_swap_51 : decode cX7_swap 51 = .ok (.iload_n 3, 1) := by decide +kernel
theorem dX7_swap_52 : decode cX7_swap 52 = .ok (.iadd, 1) := by decide +kernel
theorem dX7_swap_53 : decode cX7_swap 53 = .ok (.lload 4, 2) := by decide +kernel
theorem dX7_swap_55 : decode cX7_swap 55 = .ok (.lastore, 1) := by decide +kernel
theorem dX7_swap_56 : decode cX7_swap 56 = .ok (.iinc 3 1, 3) := by decide +kernel
theorem dX7_swap_59 : decode cX7_swap 59 = .ok (.goto (-57), 3) := by decide +kernel
theorem dX7_swap_62 : decode cX7_swap 62 = .ok (.return_, 1) := by decide +kernel
theorem dX7_takeOff_0 : decode cX7_takeOff 0 = .ok (.aload_n 0, 1) := by decide +kernel
theorem dX7_takeOff_1 : decode cX7_takeOff 1 = .ok (.getfield 23, 3) := by decide +kernel
theorem dX7_takeOff_4 : decode cX7_takeOff 4 = .ok (.bipush 11, 2) := by decide +kernel
theorem dX7_takeOff_6 : decode cX7_takeOff 6 = .ok (.iload_n 1, 1) := by decide +kernel
theorem dX7_takeOff_7 : decode cX7_takeOff 7 = .ok (.imul, 1) := by decide +kernel
theorem dX7_takeOff_8 : decode cX7_takeOff 8 = .ok (.iload_n 3, 1) := by decide +kernel
theorem dX7_takeOff_9 : decode cX7_takeOff 9 = .ok (.iadd, 1) := by decide +kernel
theorem dX7_takeOff_10 : decode cX7_takeOff 10 = .ok (.laload, 1) := by decide +kernel
theorem dX7_takeOff_11 : decode cX7_takeOff 11 = .ok (.lstore 4, 2) := by decide +kernel
theorem dX7_takeOff_13 : decode cX7_takeOff 13 = .ok (.aload_n 0, 1) := by decide +kernel
theorem dX7_takeOff_14 : decode cX7_takeOff 14 = .ok (.getfield 23, 3) := by decide +kernel
theorem dX7_takeOff_17 : decode cX7_takeOff 17 = .ok (.bipush 11, 2) := by decide +kernel
theorem dX7_takeOff_19 : decode cX7_takeOff 19 = .ok (.iload_n 2, 1) := by decide +kernel
theorem dX7_takeOff_20 : decode cX7_takeOff 20 = .ok (.imul, 1) := by decide +kernel
theorem dX7_takeOff_21 : decode cX7_takeOff 21 = .ok (.iload_n 3, 1) := by decide +kernel
theorem dX7_takeOff_22 : decode cX7_takeOff 22 = .ok (.iadd, 1) := by decide +kernel
theorem dX7_takeOff_23 : decode cX7_takeOff 23 = .ok (.laload, 1) := by decide +kernel
theorem dX7_takeOff_24 : decode cX7_takeOff 24 = .ok (.lstore 6, 2) := by decide +kernel
theorem dX7_takeOff_26 : decode cX7_takeOff 26 = .ok (.iconst 0, 1) := by decide +kernel
theorem dX7_takeOff_27 : decode cX7_takeOff 27 = .ok (.istore 8, 2) := by decide +kernel
theorem dX7_takeOff_29 : decode cX7_takeOff 29 = .ok (.iload 8, 2) := by decide +kernel
theorem dX7_takeOff_31 : decode cX7_takeOff 31 = .ok (.bipush 11, 2) := by decide +kernel
theorem dX7_takeOff_33 : decode cX7_takeOff 33 = .ok (.if_icmp .ge 52, 3) := by decide +kernel
theorem dX7_takeOff_36 : decode cX7_takeOff 36 = .ok (.aload_n 0, 1) := by decide +kernel
theorem dX7_takeOff_37 : decode cX7_takeOff 37 = .ok (.getfield 23, 3) := by decide +kernel
theorem dX7_takeOff_40 : decode cX7_takeOff 40 = .ok (.bipush 11, 2) := by decide +kernel
theorem dX7_takeOff_42 : decode cX7_takeOff 42 = .ok (.iload_n 1, 1) := by decide +kernel
theorem dX7_takeOff_43 : decode cX7_takeOff 43 = .ok (.imul, 1) := by decide +kernel
theorem dX7_takeOff_44 : decode cX7_takeOff 44 = .ok (.iload 8, 2) := by decide +kernel
theorem dX7_takeOff_46 : decode cX7_takeOff 46 = .ok (.iadd, 1) := by decide +kernel
theorem dX7_takeOff_47 : decode cX7_takeOff 47 = .ok (.aload_n 0, 1) := by decide +kernel
theorem dX7_takeOff_48 : decode cX7_takeOff 48 = .ok (.getfield 23, 3) := by decide +kernel
theorem dX7_takeOff_51 : decode cX7_takeOff 51 = .ok (.bipush 11, 2) := by decide +kernel
theorem dX7_takeOff_53 : decode cX7_takeOff 53 = .ok (.iload_n 1, 1) := by decide +kernel
theorem dX7_takeOff_54 : decode cX7_takeOff 54 = .ok (.imul, 1) := by decide +kernel
theorem dX7_takeOff_55 : decode cX7_takeOff 55 = .ok (.iload 8, 2) := by decide +kernel
theorem dX7_takeOff_57 : decode cX7_takeOff 57 = .ok (.iadd, 1) := by decide +kernel
theorem dX7_takeOff_58 : decode cX7_takeOff 58 = .ok (.laload, 1) := by decide +kernel
theorem dX7_takeOff_59 : decode cX7_takeOff 59 = .ok (.lload 6, 2) := by decide +kernel
theorem dX7_takeOff_61 : decode cX7_takeOff 61 = .ok (.lmul, 1) := by decide +kernel
theorem dX7_takeOff_62 : decode cX7_takeOff 62 = .ok (.aload_n 0, 1) := by decide +kernel
theorem dX7_takeOff_63 : decode cX7_takeOff 63 = .ok (.getfield 23, 3) := by decide +kernel
theorem dX7_takeOff_66 : decode cX7_takeOff 66 = .ok (.bipush 11, 2) := by decide +kernel
theorem dX7_takeOff_68 : decode cX7_takeOff 68 = .ok (.iload_n 2, 1) := by decide +kernel
theorem dX7_takeOff_69 : decode cX7_takeOff 69 = .ok (.imul, 1) := by decide +kernel
theorem dX7_takeOff_70 : decode cX7_takeOff 70 = .ok (.iload 8, 2) := by decide +kernel
theorem dX7_takeOff_72 : decode cX7_takeOff 72 = .ok (.iadd, 1) := by decide +kernel
theorem dX7_takeOff_73 : decode cX7_takeOff 73 = .ok (.laload, 1) := by decide +kernel
theorem dX7_takeOff_74 : decode cX7_takeOff 74 = .ok (.lload 4, 2) := by decide +kernel
theorem dX7_takeOff_76 : decode cX7_takeOff 76 = .ok (.lmul, 1) := by decide +kernel
theorem dX7_takeOff_77 : decode cX7_takeOff 77 = .ok (.lsub, 1) := by decide +kernel
theorem dX7_takeOff_78 : decode cX7_takeOff 78 = .ok (.lastore, 1) := by decide +kernel
theorem dX7_takeOff_79 : decode cX7_takeOff 79 = .ok (.iinc 8 1, 3) := by decide +kernel
theorem dX7_takeOff_82 : decode cX7_takeOff 82 = .ok (.goto (-53), 3) := by decide +kernel
theorem dX7_takeOff_85 : decode cX7_takeOff 85 = .ok (.aload_n 0, 1) := by decide +kernel
theorem dX7_takeOff_86 : decode cX7_takeOff 86 = .ok (.iload_n 1, 1) := by decide +kernel
theorem dX7_takeOff_87 : decode cX7_takeOff 87 = .ok (.invokevirtual 94, 3) := by decide +kernel
theorem dX7_takeOff_90 : decode cX7_takeOff 90 = .ok (.return_, 1) := by decide +kernel
theorem dX7_solve_0 : decode cX7_solve 0 = .ok (.iconst 0, 1) := by decide +kernel
theorem dX7_solve_1 : decode cX7_solve 1 = .ok (.istore_n 1, 1) := by decide +kernel
theorem dX7_solve_2 : decode cX7_solve 2 = .ok (.iconst 0, 1) := by decide +kernel
theorem dX7_solve_3 : decode cX7_solve 3 = .ok (.istore_n 2, 1) := by decide +kernel
theorem dX7_solve_4 : decode cX7_solve 4 = .ok (.iload_n 2, 1) := by decide +kernel
theorem dX7_solve_5 : decode cX7_solve 5 = .ok (.aload_n 0, 1) := by decide +kernel
theorem dX7_solve_6 : decode cX7_solve 6 = .ok (.getfield 87, 3) := by decide +kernel
theorem dX7_solve_9 : decode cX7_solve 9 = .ok (.if_icmp .ge 126, 3) := by decide +kernel
theorem dX7_solve_12 : decode cX7_solve 12 = .ok (.iload_n 1, 1) := by decide +kernel
theorem dX7_solve_13 : decode cX7_solve 13 = .ok (.istore_n 3, 1) := by decide +kernel
theorem dX7_solve_14 : decode cX7_solve 14 = .ok (.iload_n 3, 1) := by decide +kernel
theorem dX7_solve_15 : decode cX7_solve 15 = .ok (.aload_n 0, 1) := by decide +kernel
theorem dX7_solve_16 : decode cX7_solve 16 = .ok (.getfield 84, 3) := by decide +kernel
theorem dX7_solve_19 : decode cX7_solve 19 = .ok (.if_icmp .ge 25, 3) := by decide +kernel
theorem dX7_solve_22 : decode cX7_solve 22 = .ok (.aload_n 0, 1) := by decide +kernel
theorem dX7_solve_23 : decode cX7_solve 23 = .ok (.getfield 23, 3) := by decide +kernel
theorem dX7_solve_26 : decode cX7_solve 26 = .ok (.bipush 11, 2) := by decide +kernel
theorem dX7_solve_28 : decode cX7_solve 28 = .ok (.iload_n 3, 1) := by decide +kernel
theorem dX7_solve_29 : decode cX7_solve 29 = .ok (.imul, 1) := by decide +kernel
theorem dX7_solve_30 : decode cX7_solve 30 = .ok (.iload_n 2, 1) := by decide +kernel
theorem dX7_solve_31 : decode cX7_solve 31 = .ok (.iadd, 1) := by decide +kernel
theorem dX7_solve_32 : decode cX7_solve 32 = .ok (.laload, 1) := by decide +kernel
theorem dX7_solve_33 : decode cX7_solve 33 = .ok (.lconst 0, 1) := by decide +kernel
theorem dX7_solve_34 : decode cX7_solve 34 = .ok (.lcmp, 1) := by decide +kernel
theorem dX7_solve_35 : decode cX7_solve 35 = .ok (.ifCond .ne 9, 3) := by decide +kernel
theorem dX7_solve_38 : decode cX7_solve 38 = .ok (.iinc 3 1, 3) := by decide +kernel
theorem dX7_solve_41 : decode cX7_solve 41 = .ok (.goto (-27), 3) := by decide +kernel
theorem dX7_solve_44 : decode cX7_solve 44 = .ok (.aload_n 0, 1) := by decide +kernel
theorem dX7_solve_45 : decode cX7_solve 45 = .ok (.getfield 27, 3) := by decide +kernel
theorem dX7_solve_48 : decode cX7_solve 48 = .ok (.iload_n 2, 1) := by decide +kernel
theorem dX7_solve_49 : decode cX7_solve 49 = .ok (.iload_n 3, 1) := by decide +kernel
theorem dX7_solve_50 : decode cX7_solve 50 = .ok (.aload_n 0, 1) := by decide +kernel
theorem dX7_solve_51 : decode cX7_solve 51 = .ok (.getfield 84, 3) := by decide +kernel
theorem dX7_solve_54 : decode cX7_solve 54 = .ok (.if_icmp .ge 7, 3) := by decide +kernel
theorem dX7_solve_57 : decode cX7_solve 57 = .ok (.iload_n 1, 1) := by decide +kernel
theorem dX7_solve_58 : decode cX7_solve 58 = .ok (.goto 4, 3) := by decide +kernel
theorem dX7_solve_61 : decode cX7_solve 61 = .ok (.iconst (-1), 1) := by decide +kernel
theorem dX7_solve_62 : decode cX7_solve 62 = .ok (.iastore, 1) := by decide +kernel
theorem dX7_solve_63 : decode cX7_solve 63 = .ok (.iload_n 3, 1) := by decide +kernel
theorem dX7_solve_64 : decode cX7_solve 64 = .ok (.aload_n 0, 1) := by decide +kernel
theorem dX7_solve_65 : decode cX7_solve 65 = .ok (.getfield 84, 3) := by decide +kernel
theorem dX7_solve_68 : decode cX7_solve 68 = .ok (.if_icmp .ge 61, 3) := by decide +kernel
theorem dX7_solve_71 : decode cX7_solve 71 = .ok (.aload_n 0, 1) := by decide +kernel
theorem dX7_solve_72 : decode cX7_solve 72 = .ok (.iload_n 3, 1) := by decide +kernel
theorem dX7_solve_73 : decode cX7_solve 73 = .ok (.iload_n 1, 1) := by decide +kernel
theorem dX7_solve_74 : decode cX7_solve 74 = .ok (.invokevirtual 97, 3) := by decide +kernel
theorem dX7_solve_77 : decode cX7_solve 77 = .ok (.iconst 0, 1) := by decide +kernel
theorem dX7_solve_78 : decode cX7_solve 78 = .ok (.istore 4, 2) := by decide +kernel
theorem dX7_solve_80 : decode cX7_solve 80 = .ok (.iload 4, 2) := by decide +kernel
theorem dX7_solve_82 : decode cX7_solve 82 = .ok (.aload_n 0, 1) := by decide +kernel
theorem dX7_solve_83 : decode cX7_solve 83 = .ok (.getfield 84, 3) := by decide +kernel
theorem dX7_solve_86 : decode cX7_solve 86 = .ok (.if_icmp .ge 40, 3) := by decide +kernel
theorem dX7_solve_89 : decode cX7_solve 89 = .ok (.iload 4, 2) := by decide +kernel
theorem dX7_solve_91 : decode cX7_solve 91 = .ok (.iload_n 1, 1) := by decide +kernel
theorem dX7_solve_92 : decode cX7_solve 92 = .ok (.if_icmp .eq 28, 3) := by decide +kernel
theorem dX7_solve_95 : decode cX7_solve 95 = .ok (.aload_n 0, 1) := by decide +kernel
theorem dX7_solve_96 : decode cX7_solve 96 = .ok (.getfield 23, 3) := by decide +kernel
theorem dX7_solve_99 : decode cX7_solve 99 = .ok (.bipush 11, 2) := by decide +kernel
theorem dX7_solve_101 : decode cX7_solve 101 = .ok (.iload 4, 2) := by decide +kernel
theorem dX7_solve_103 : decode cX7_solve 103 = .ok (.imul, 1) := by decide +kernel
theorem dX7_solve_104 : decode cX7_solve 104 = .ok (.iload_n 2, 1) := by decide +kernel
theorem dX7_solve_105 : decode cX7_solve 105 = .ok (.iadd, 1) := by decide +kernel
theorem dX7_solve_106 : decode cX7_solve 106 = .ok (.laload, 1) := by decide +kernel
theorem dX7_solve_107 : decode cX7_solve 107 = .ok (.lconst 0, 1) := by decide +kernel
theorem dX7_solve_108 : decode cX7_solve 108 = .ok (.lcmp, 1) := by decide +kernel
theorem dX7_solve_109 : decode cX7_solve 109 = .ok (.ifCond .eq 11, 3) := by decide +kernel
theorem dX7_solve_112 : decode cX7_solve 112 = .ok (.aload_n 0, 1) := by decide +kernel
theorem dX7_solve_113 : decode cX7_solve 113 = .ok (.iload 4, 2) := by decide +kernel
theorem dX7_solve_115 : decode cX7_solve 115 = .ok (.iload_n 1, 1) := by decide +kernel
theorem dX7_solve_116 : decode cX7_solve 116 = .ok (.iload_n 2, 1) := by decide +kernel
theorem dX7_solve_117 : decode cX7_solve 117 = .ok (.invokevirtual 101, 3) := by decide +kernel
theorem dX7_solve_120 : decode cX7_solve 120 = .ok (.iinc 4 1, 3) := by decide +kernel
theorem dX7_solve_123 : decode cX7_solve 123 = .ok (.goto (-43), 3) := by decide +kernel
theorem dX7_solve_126 : decode cX7_solve 126 = .ok (.iinc 1 1, 3) := by decide +kernel
theorem dX7_solve_129 : decode cX7_solve 129 = .ok (.iinc 2 1, 3) := by decide +kernel
theorem dX7_solve_132 : decode cX7_solve 132 = .ok (.goto (-128), 3) := by decide +kernel
theorem dX7_solve_135 : decode cX7_solve 135 = .ok (.aload_n 0, 1) := by decide +kernel
theorem dX7_solve_136 : decode cX7_solve 136 = .ok (.iconst 1, 1) := by decide +kernel
theorem dX7_solve_137 : decode cX7_solve 137 = .ok (.putfield 105, 3) := by decide +kernel
theorem dX7_solve_140 : decode cX7_solve 140 = .ok (.iload_n 1, 1) := by decide +kernel
theorem dX7_solve_141 : decode cX7_solve 141 = .ok (.istore_n 2, 1) := by decide +kernel
theorem dX7_solve_142 : decode cX7_solve 142 = .ok (.iload_n 2, 1) := by decide +kernel
theorem dX7_solve_143 : decode cX7_solve 143 = .ok (.aload_n 0, 1) := by decide +kernel
theorem dX7_solve_144 : decode cX7_solve 144 = .ok (.getfield 84, 3) := by decide +kernel
theorem dX7_solve_147 : decode cX7_solve 147 = .ok (.if_icmp .ge 42, 3) := by decide +kernel
theorem dX7_solve_150 : decode cX7_solve 150 = .ok (.aload_n 0, 1) := by decide +kernel
theorem dX7_solve_151 : decode cX7_solve 151 = .ok (.aload_n 0, 1) := by decide +kernel
theorem dX7_solve_152 : decode cX7_solve 152 = .ok (.getfield 105, 3) := by decide +kernel
theorem dX7_solve_155 : decode cX7_solve 155 = .ok (.ifCond .eq 24, 3) := by decide +kernel
theorem dX7_solve_158 : decode cX7_solve 158 = .ok (.aload_n 0, 1) := by decide +kernel
theorem dX7_solve_159 : decode cX7_solve 159 = .ok (.getfield 23, 3) := by decide +kernel
theorem dX7_solve_162 : decode cX7_solve 162 = .ok (.bipush 11, 2) := by decide +kernel
theorem dX7_solve_164 : decode cX7_solve 164 = .ok (.iload_n 2, 1) := by decide +kernel
theorem dX7_solve_165 : decode cX7_solve 165 = .ok (.imul, 1) := by decide +kernel
theorem dX7_solve_166 : decode cX7_solve 166 = .ok (.bipush 10, 2) := by decide +kernel
theorem dX7_solve_168 : decode cX7_solve 168 = .ok (.iadd, 1) := by decide +kernel
theorem dX7_solve_169 : decode cX7_solve 169 = .ok (.laload, 1) := by decide +kernel
theorem dX7_solve_170 : decode cX7_solve 170 = .ok (.lconst 0, 1) := by decide +kernel
theorem dX7_solve_171 : decode cX7_solve 171 = .ok (.lcmp, 1) := by decide +kernel
theorem dX7_solve_172 : decode cX7_solve 172 = .ok (.ifCond .ne 7, 3) := by decide +kernel
theorem dX7_solve_175 : decode cX7_solve 175 = .ok (.iconst 1, 1) := by decide +kernel
theorem dX7_solve_176 : decode cX7_solve 176 = .ok (.goto 4, 3) := by decide +kernel
theorem dX7_solve_179 : decode cX7_solve 179 = .ok (.iconst 0, 1) := by decide +kernel
theorem dX7_solve_180 : decode cX7_solve 180 = .ok (.putfield 105, 3) := by decide +kernel
theorem dX7_solve_183 : decode cX7_solve 183 = .ok (.iinc 2 1, 3) := by decide +kernel
theorem dX7_solve_186 : decode cX7_solve 186 = .ok (.goto (-44), 3) := by decide +kernel
theorem dX7_solve_189 : decode cX7_solve 189 = .ok (.return_, 1) := by decide +kernel
theorem dX7_isDetermined_0 : decode cX7_isDetermined 0 = .ok (.aload_n 0, 1) := by decide +kernel
theorem dX7_isDetermined_1 : decode cX7_isDetermined 1 = .ok (.getfield 105, 3) := by decide +kernel
theorem dX7_isDetermined_4 : decode cX7_isDetermined 4 = .ok (.ifCond .eq 16, 3) := by decide +kernel
theorem dX7_isDetermined_7 : decode cX7_isDetermined 7 = .ok (.aload_n 0, 1) := by decide +kernel
theorem dX7_isDetermined_8 : decode cX7_isDetermined 8 = .ok (.getfield 27, 3) := by decide +kernel
theorem dX7_isDetermined_11 : decode cX7_isDetermined 11 = .ok (.iload_n 1, 1) := by decide +kernel
theorem dX7_isDetermined_12 : decode cX7_isDetermined 12 = .ok (.iaload, 1) := by decide +kernel
theorem dX7_isDetermined_13 : decode cX7_isDetermined 13 = .ok (.ifCond .lt 7, 3) := by decide +kernel
theorem dX7_isDetermined_16 : decode cX7_isDetermined 16 = .ok (.iconst 1, 1) := by decide +kernel
theorem dX7_isDetermined_17 : decode cX7_isDetermined 17 = .ok (.goto 4, 3) := by decide +kernel
theorem dX7_isDetermined_20 : decode cX7_isDetermined 20 = .ok (.iconst 0, 1) := by decide +kernel
theorem dX7_isDetermined_21 : decode cX7_isDetermined 21 = .ok (.istore_n 2, 1) := by decide +kernel
theorem dX7_isDetermined_22 : decode cX7_isDetermined 22 = .ok (.iconst 0, 1) := by decide +kernel
theorem dX7_isDetermined_23 : decode cX7_isDetermined 23 = .ok (.istore_n 3, 1) := by decide +kernel
theorem dX7_isDetermined_24 : decode cX7_isDetermined 24 = .ok (.iload_n 3, 1) := by decide +kernel
theorem dX7_isDetermined_25 : decode cX7_isDetermined 25 = .ok (.aload_n 0, 1) := by decide +kernel
theorem dX7_isDetermined_26 : decode cX7_isDetermined 26 = .ok (.getfield 87, 3) := by decide +kernel
theorem dX7_isDetermined_29 : decode cX7_isDetermined 29 = .ok (.if_icmp .ge 45, 3) := by decide +kernel
theorem dX7_isDetermined_32 : decode cX7_isDetermined 32 = .ok (.iload_n 2, 1) := by decide +kernel
theorem dX7_isDetermined_33 : decode cX7_isDetermined 33 = .ok (.ifCond .eq 41, 3) := by decide +kernel
theorem dX7_isDetermined_36 : decode cX7_isDetermined 36 = .ok (.iload_n 3, 1) := by decide +kernel
theorem dX7_isDetermined_37 : decode cX7_isDetermined 37 = .ok (.iload_n 1, 1) := by decide +kernel
theorem dX7_isDetermined_38 : decode cX7_isDetermined 38 = .ok (.if_icmp .eq 24, 3) := by decide +kernel
theorem dX7_isDetermined_41 : decode cX7_isDetermined 41 = .ok (.aload_n 0, 1) := by decide +kernel
theorem dX7_isDetermined_42 : decode cX7_isDetermined 42 = .ok (.getfield 23, 3) := by decide +kernel
theorem dX7_isDetermined_45 : decode cX7_isDetermined 45 = .ok (.bipush 11, 2) := by decide +kernel
theorem dX7_isDetermined_47 : decode cX7_isDetermined 47 = .ok (.aload_n 0, 1) := by decide +kernel
theorem dX7_isDetermined_48 : decode cX7_isDetermined 48 = .ok (.getfield 27, 3) := by decide +kernel
theorem dX7_isDetermined_51 : decode cX7_isDetermined 51 = .ok (.iload_n 1, 1) := by decide +kernel
theorem dX7_isDetermined_52 : decode cX7_isDetermined 52 = .ok (.iaload, 1) := by decide +kernel
theorem dX7_isDetermined_53 : decode cX7_isDetermined 53 = .ok (.imul, 1) := by decide +kernel
theorem dX7_isDetermined_54 : decode cX7_isDetermined 54 = .ok (.iload_n 3, 1) := by decide +kernel
theorem dX7_isDetermined_55 : decode cX7_isDetermined 55 = .ok (.iadd, 1) := by decide +kernel
theorem dX7_isDetermined_56 : decode cX7_isDetermined 56 = .ok (.laload, 1) := by decide +kernel
theorem dX7_isDetermined_57 : decode cX7_isDetermined 57 = .ok (.lconst 0, 1) := by decide +kernel
theorem dX7_isDetermined_58 : decode cX7_isDetermined 58 = .ok (.lcmp, 1) := by decide +kernel
theorem dX7_isDetermined_59 : decode cX7_isDetermined 59 = .ok (.ifCond .ne 7, 3) := by decide +kernel
theorem dX7_isDetermined_62 : decode cX7_isDetermined 62 = .ok (.iconst 1, 1) := by decide +kernel
theorem dX7_isDetermined_63 : decode cX7_isDetermined 63 = .ok (.goto 4, 3) := by decide +kernel
theorem dX7_isDetermined_66 : decode cX7_isDetermined 66 = .ok (.iconst 0, 1) := by decide +kernel
theorem dX7_isDetermined_67 : decode cX7_isDetermined 67 = .ok (.istore_n 2, 1) := by decide +kernel
theorem dX7_isDetermined_68 : decode cX7_isDetermined 68 = .ok (.iinc 3 1, 3) := by decide +kernel
theorem dX7_isDetermined_71 : decode cX7_isDetermined 71 = .ok (.goto (-47), 3) := by decide +kernel
theorem dX7_isDetermined_74 : decode cX7_isDetermined 74 = .ok (.iload_n 2, 1) := by decide +kernel
theorem dX7_isDetermined_75 : decode cX7_isDetermined 75 = .ok (.ireturn, 1) := by decide +kernel
theorem dX7_upper_0 : decode cX7_upper 0 = .ok (.aload_n 0, 1) := by decide +kernel
theorem dX7_upper_1 : decode cX7_upper 1 = .ok (.getfield 23, 3) := by decide +kernel
theorem dX7_upper_4 : decode cX7_upper 4 = .ok (.bipush 11, 2) := by decide +kernel
theorem dX7_upper_6 : decode cX7_upper 6 = .ok (.aload_n 0, 1) := by decide +kernel
theorem dX7_upper_7 : decode cX7_upper 7 = .ok (.getfield 27, 3) := by decide +kernel
theorem dX7_upper_10 : decode cX7_upper 10 = .ok (.iload_n 1, 1) := by decide +kernel
theorem dX7_upper_11 : decode cX7_upper 11 = .ok (.iaload, 1) := by decide +kernel
theorem dX7_upper_12 : decode cX7_upper 12 = .ok (.imul, 1) := by decide +kernel
theorem dX7_upper_13 : decode cX7_upper 13 = .ok (.bipush 10, 2) := by decide +kernel
theorem dX7_upper_15 : decode cX7_upper 15 = .ok (.iadd, 1) := by decide +kernel
theorem dX7_upper_16 : decode cX7_upper 16 = .ok (.laload, 1) := by decide +kernel
theorem dX7_upper_17 : decode cX7_upper 17 = .ok (.lstore_n 2, 1) := by decide +kernel
theorem dX7_upper_18 : decode cX7_upper 18 = .ok (.aload_n 0, 1) := by decide +kernel
theorem dX7_upper_19 : decode cX7_upper 19 = .ok (.getfield 23, 3) := by decide +kernel
theorem dX7_upper_22 : decode cX7_upper 22 = .ok (.bipush 11, 2) := by decide +kernel
theorem dX7_upper_24 : decode cX7_upper 24 = .ok (.aload_n 0, 1) := by decide +kernel
theorem dX7_upper_25 : decode cX7_upper 25 = .ok (.getfield 27, 3) := by decide +kernel
theorem dX7_upper_28 : decode cX7_upper 28 = .ok (.iload_n 1, 1) := by decide +kernel
theorem dX7_upper_29 : decode cX7_upper 29 = .ok (.iaload, 1) := by decide +kernel
theorem dX7_upper_30 : decode cX7_upper 30 = .ok (.imul, 1) := by decide +kernel
theorem dX7_upper_31 : decode cX7_upper 31 = .ok (.iload_n 1, 1) := by decide +kernel
theorem dX7_upper_32 : decode cX7_upper 32 = .ok (.iadd, 1) := by decide +kernel
theorem dX7_upper_33 : decode cX7_upper 33 = .ok (.laload, 1) := by decide +kernel
theorem dX7_upper_34 : decode cX7_upper 34 = .ok (.lconst 0, 1) := by decide +kernel
theorem dX7_upper_35 : decode cX7_upper 35 = .ok (.lcmp, 1) := by decide +kernel
theorem dX7_upper_36 : decode cX7_upper 36 = .ok (.ifCond .ge 8, 3) := by decide +kernel
theorem dX7_upper_39 : decode cX7_upper 39 = .ok (.lload_n 2, 1) := by decide +kernel
theorem dX7_upper_40 : decode cX7_upper 40 = .ok (.lneg, 1) := by decide +kernel
theorem dX7_upper_41 : decode cX7_upper 41 = .ok (.goto 4, 3) := by decide +kernel
theorem dX7_upper_44 : decode cX7_upper 44 = .ok (.lload_n 2, 1) := by decide +kernel
theorem dX7_upper_45 : decode cX7_upper 45 = .ok (.lreturn, 1) := by decide +kernel
theorem dX7_lower_0 : decode cX7_lower 0 = .ok (.aload_n 0, 1) := by decide +kernel
theorem dX7_lower_1 : decode cX7_lower 1 = .ok (.getfield 23, 3) := by decide +kernel
theorem dX7_lower_4 : decode cX7_lower 4 = .ok (.bipush 11, 2) := by decide +kernel
theorem dX7_lower_6 : decode cX7_lower 6 = .ok (.aload_n 0, 1) := by decide +kernel
theorem dX7_lower_7 : decode cX7_lower 7 = .ok (.getfield 27, 3) := by decide +kernel
theorem dX7_lower_10 : decode cX7_lower 10 = .ok (.iload_n 1, 1) := by decide +kernel
theorem dX7_lower_11 : decode cX7_lower 11 = .ok (.iaload, 1) := by decide +kernel
theorem dX7_lower_12 : decode cX7_lower 12 = .ok (.imul, 1) := by decide +kernel
theorem dX7_lower_13 : decode cX7_lower 13 = .ok (.iload_n 1, 1) := by decide +kernel
theorem dX7_lower_14 : decode cX7_lower 14 = .ok (.iadd, 1) := by decide +kernel
theorem dX7_lower_15 : decode cX7_lower 15 = .ok (.laload, 1) := by decide +kernel
theorem dX7_lower_16 : decode cX7_lower 16 = .ok (.lstore_n 2, 1) := by decide +kernel
theorem dX7_lower_17 : decode cX7_lower 17 = .ok (.lload_n 2, 1) := by decide +kernel
theorem dX7_lower_18 : decode cX7_lower 18 = .ok (.lconst 0, 1) := by decide +kernel
theorem dX7_lower_19 : decode cX7_lower 19 = .ok (.lcmp, 1) := by decide +kernel
theorem dX7_lower_20 : decode cX7_lower 20 = .ok (.ifCond .ge 8, 3) := by decide +kernel
theorem dX7_lower_23 : decode cX7_lower 23 = .ok (.lload_n 2, 1) := by decide +kernel
theorem dX7_lower_24 : decode cX7_lower 24 = .ok (.lneg, 1) := by decide +kernel
theorem dX7_lower_25 : decode cX7_lower 25 = .ok (.goto 4, 3) := by decide +kernel
theorem dX7_lower_28 : decode cX7_lower 28 = .ok (.lload_n 2, 1) := by decide +kernel
theorem dX7_lower_29 : decode cX7_lower 29 = .ok (.lreturn, 1) := by decide +kernel
theorem dX7_part_0 : decode cX7_part 0 = .ok (.lload_n 0, 1) := by decide +kernel
theorem dX7_part_1 : decode cX7_part 1 = .ok (.lload_n 2, 1) := by decide +kernel
theorem dX7_part_2 : decode cX7_part 2 = .ok (.invokestatic 90, 3) := by decide +kernel
theorem dX7_part_5 : decode cX7_part 5 = .ok (.lstore 5, 2) := by decide +kernel
theorem dX7_part_7 : decode cX7_part 7 = .ok (.iload 4, 2) := by decide +kernel
theorem dX7_part_9 : decode cX7_part 9 = .ok (.ifCond .ne 10, 3) := by decide +kernel
theorem dX7_part_12 : decode cX7_part 12 = .ok (.lload_n 0, 1) := by decide +kernel
theorem dX7_part_13 : decode cX7_part 13 = .ok (.lload 5, 2) := by decide +kernel
theorem dX7_part_15 : decode cX7_part 15 = .ok (.ldiv, 1) := by decide +kernel
theorem dX7_part_16 : decode cX7_part 16 = .ok (.goto 7, 3) := by decide +kernel
theorem dX7_part_19 : decode cX7_part 19 = .ok (.lload_n 2, 1) := by decide +kernel
theorem dX7_part_20 : decode cX7_part 20 = .ok (.lload 5, 2) := by decide +kernel
theorem dX7_part_22 : decode cX7_part 22 = .ok (.ldiv, 1) := by decide +kernel
theorem dX7_part_23 : decode cX7_part 23 = .ok (.lreturn, 1) := by decide +kernel
theorem dX7_laySpeeds_0 : decode cX7_laySpeeds 0 = .ok (.aload_n 0, 1) := by decide +kernel
theorem dX7_laySpeeds_1 : decode cX7_laySpeeds 1 = .ok (.iconst 1, 1) := by decide +kernel
theorem dX7_laySpeeds_2 : decode cX7_laySpeeds 2 = .ok (.aload_n 0, 1) := by decide +kernel
theorem dX7_laySpeeds_3 : decode cX7_laySpeeds 3 = .ok (.getfield 7, 3) := by decide +kernel
theorem dX7_laySpeeds_6 : decode cX7_laySpeeds 6 = .ok (.bipush 33, 2) := by decide +kernel
theorem dX7_laySpeeds_8 : decode cX7_laySpeeds 8 = .ok (.iaload, 1) := by decide +kernel
theorem dX7_laySpeeds_9 : decode cX7_laySpeeds 9 = .ok (.iadd, 1) := by decide +kernel
theorem dX7_laySpeeds_10 : decode cX7_laySpeeds 10 = .ok (.aload_n 0, 1) := by decide +kernel
theorem dX7_laySpeeds_11 : decode cX7_laySpeeds 11 = .ok (.getfield 7, 3) := by decide +kernel
theorem dX7_laySpeeds_14 : decode cX7_laySpeeds 14 = .ok (.bipush 34, 2) := by decide +kernel
theorem dX7_laySpeeds_16 : decode cX7_laySpeeds 16 = .ok (.iaload, 1) := by decide +kernel
theorem dX7_laySpeeds_17 : decode cX7_laySpeeds 17 = .ok (.iadd, 1) := by decide +kernel
theorem dX7_laySpeeds_18 : decode cX7_laySpeeds 18 = .ok (.bipush 6, 2) := by decide +kernel
theorem dX7_laySpeeds_20 : decode cX7_laySpeeds 20 = .ok (.invokevirtual 109, 3) := by decide +kernel
theorem dX7_laySpeeds_23 : decode cX7_laySpeeds 23 = .ok (.aload_n 0, 1) := by decide +kernel
theorem dX7_laySpeeds_24 : decode cX7_laySpeeds 24 = .ok (.getfield 23, 3) := by decide +kernel
theorem dX7_laySpeeds_27 : decode cX7_laySpeeds 27 = .ok (.iconst 0, 1) := by decide +kernel
theorem dX7_laySpeeds_28 : decode cX7_laySpeeds 28 = .ok (.lconst 1, 1) := by decide +kernel
theorem dX7_laySpeeds_29 : decode cX7_laySpeeds 29 = .ok (.lastore, 1) := by decide +kernel
theorem dX7_laySpeeds_30 : decode cX7_laySpeeds 30 = .ok (.aload_n 0, 1) := by decide +kernel
theorem dX7_laySpeeds_31 : decode cX7_laySpeeds 31 = .ok (.getfield 23, 3) := by decide +kernel
theorem dX7_laySpeeds_34 : decode cX7_laySpeeds 34 = .ok (.bipush 10, 2) := by decide +kernel
theorem dX7_laySpeeds_36 : decode cX7_laySpeeds 36 = .ok (.lconst 1, 1) := by decide +kernel
theorem dX7_laySpeeds_37 : decode cX7_laySpeeds 37 = .ok (.lastore, 1) := by decide +kernel
theorem dX7_laySpeeds_38 : decode cX7_laySpeeds 38 = .ok (.iconst 0, 1) := by decide +kernel
theorem dX7_laySpeeds_39 : decode cX7_laySpeeds 39 = .ok (.istore_n 2, 1) := by decide +kernel
theorem dX7_laySpeeds_40 : decode cX7_laySpeeds 40 = .ok (.iload_n 2, 1) := by decide +kernel
theorem dX7_laySpeeds_41 : decode cX7_laySpeeds 41 = .ok (.aload_n 0, 1) := by decide +kernel
theorem dX7_laySpeeds_42 : decode cX7_laySpeeds 42 = .ok (.getfield 7, 3) := by decide +kernel
theorem dX7_laySpeeds_45 : decode cX7_laySpeeds 45 = .ok (.bipush 33, 2) := by decide +kernel
theorem dX7_laySpeeds_47 : decode cX7_laySpeeds 47 = .ok (.iaload, 1) := by decide +kernel
theorem dX7_laySpeeds_48 : decode cX7_laySpeeds 48 = .ok (.if_icmp .ge 106, 3) := by decide +kernel
theorem dX7_laySpeeds_51 : decode cX7_laySpeeds 51 = .ok (.iconst 0, 1) := by decide +kernel
theorem dX7_laySpeeds_52 : decode cX7_laySpeeds 52 = .ok (.iconst 5, 1) := by decide +kernel
theorem dX7_laySpeeds_53 : decode cX7_laySpeeds 53 = .ok (.iload_n 2, 1) := by decide +kernel
theorem dX7_laySpeeds_54 : decode cX7_laySpeeds 54 = .ok (.imul, 1) := by decide +kernel
theorem dX7_laySpeeds_55 : decode cX7_laySpeeds 55 = .ok (.iadd, 1) := by decide +kernel
theorem dX7_laySpeeds_56 : decode cX7_laySpeeds 56 = .ok (.istore_n 3, 1) := by decide +kernel
theorem dX7_laySpeeds_57 : decode cX7_laySpeeds 57 = .ok (.bipush 11, 2) := by decide +kernel
theorem dX7_laySpeeds_59 : decode cX7_laySpeeds 59 = .ok (.iconst 1, 1) := by decide +kernel
theorem dX7_laySpeeds_60 : decode cX7_laySpeeds 60 = .ok (.iload_n 2, 1) := by decide +kernel
theorem dX7_laySpeeds_61 : decode cX7_laySpeeds 61 = .ok (.iadd, 1) := by decide +kernel
theorem dX7_laySpeeds_62 : decode cX7_laySpeeds 62 = .ok (.imul, 1) := by decide +kernel
theorem dX7_laySpeeds_63 : decode cX7_laySpeeds 63 = .ok (.istore 4, 2) := by decide +kernel
theorem dX7_laySpeeds_65 : decode cX7_laySpeeds 65 = .ok (.aload_n 0, 1) := by decide +kernel
theorem dX7_laySpeeds_66 : decode cX7_laySpeeds 66 = .ok (.getfield 23, 3) := by decide +kernel
theorem dX7_laySpeeds_69 : decode cX7_laySpeeds 69 = .ok (.iload 4, 2) := by decide +kernel
theorem dX7_laySpeeds_71 : decode cX7_laySpeeds 71 = .ok (.aload_n 0, 1) := by decide +kernel
theorem dX7_laySpeeds_72 : decode cX7_laySpeeds 72 = .ok (.getfield 7, 3) := by decide +kernel
theorem dX7_laySpeeds_75 : decode cX7_laySpeeds 75 = .ok (.iload_n 3, 1) := by decide +kernel
theorem dX7_laySpeeds_76 : decode cX7_laySpeeds 76 = .ok (.iaload, 1) := by decide +kernel
theorem dX7_laySpeeds_77 : decode cX7_laySpeeds 77 = .ok (.iadd, 1) := by decide +kernel
theorem dX7_laySpeeds_78 : decode cX7_laySpeeds 78 = .ok (.aload_n 0, 1) := by decide +kernel
theorem dX7_laySpeeds_79 : decode cX7_laySpeeds 79 = .ok (.getfield 7, 3) := by decide +kernel
theorem dX7_laySpeeds_82 : decode cX7_laySpeeds 82 = .ok (.iload_n 3, 1) := by decide +kernel
theorem dX7_laySpeeds_83 : decode cX7_laySpeeds 83 = .ok (.iconst 3, 1) := by decide +kernel
theorem dX7_laySpeeds_84 : decode cX7_laySpeeds 84 = .ok (.iadd, 1) := by decide +kernel
theorem dX7_laySpeeds_85 : decode cX7_laySpeeds 85 = .ok (.iaload, 1) := by decide +kernel
theorem dX7_laySpeeds_86 : decode cX7_laySpeeds 86 = .ok (.i2l, 1) := by decide +kernel
theorem dX7_laySpeeds_87 : decode cX7_laySpeeds 87 = .ok (.lastore, 1) := by decide +kernel
theorem dX7_laySpeeds_88 : decode cX7_laySpeeds 88 = .ok (.aload_n 0, 1) := by decide +kernel
theorem dX7_laySpeeds_89 : decode cX7_laySpeeds 89 = .ok (.getfield 23, 3) := by decide +kernel
theorem dX7_laySpeeds_92 : decode cX7_laySpeeds 92 = .ok (.iload 4, 2) := by decide +kernel
theorem dX7_laySpeeds_94 : decode cX7_laySpeeds 94 = .ok (.aload_n 0, 1) := by decide +kernel
theorem dX7_laySpeeds_95 : decode cX7_laySpeeds 95 = .ok (.getfield 7, 3) := by decide +kernel
theorem dX7_laySpeeds_98 : decode cX7_laySpeeds 98 = .ok (.iload_n 3, 1) := by decide +kernel
theorem dX7_laySpeeds_99 : decode cX7_laySpeeds 99 = .ok (.iconst 1, 1) := by decide +kernel
theorem dX7_laySpeeds_100 : decode cX7_laySpeeds 100 = .ok (.iadd, 1) := by decide +kernel
theorem dX7_laySpeeds_101 : decode cX7_laySpeeds 101 = .ok (.iaload, 1) := by decide +kernel
theorem dX7_laySpeeds_102 : decode cX7_laySpeeds 102 = .ok (.iadd, 1) := by decide +kernel
theorem dX7_laySpeeds_103 : decode cX7_laySpeeds 103 = .ok (.aload_n 0, 1) := by decide +kernel
theorem dX7_laySpeeds_104 : decode cX7_laySpeeds 104 = .ok (.getfield 7, 3) := by decide +kernel
theorem dX7_laySpeeds_107 : decode cX7_laySpeeds 107 = .ok (.iload_n 3, 1) := by decide +kernel
theorem dX7_laySpeeds_108 : decode cX7_laySpeeds 108 = .ok (.iconst 4, 1) := by decide +kernel
theorem dX7_laySpeeds_109 : decode cX7_laySpeeds 109 = .ok (.iadd, 1) := by decide +kernel
theorem dX7_laySpeeds_110 : decode cX7_laySpeeds 110 = .ok (.iaload, 1) := by decide +kernel
theorem dX7_laySpeeds_111 : decode cX7_laySpeeds 111 = .ok (.i2l, 1) := by decide +kernel
theorem dX7_laySpeeds_112 : decode cX7_laySpeeds 112 = .ok (.lastore, 1) := by decide +kernel
theorem dX7_laySpeeds_113 : decode cX7_laySpeeds 113 = .ok (.aload_n 0, 1) := by decide +kernel
theorem dX7_laySpeeds_114 : decode cX7_laySpeeds 114 = .ok (.getfield 23, 3) := by decide +kernel
theorem dX7_laySpeeds_117 : decode cX7_laySpeeds 117 = .ok (.iload 4, 2) := by decide +kernel
theorem dX7_laySpeeds_119 : decode cX7_laySpeeds 119 = .ok (.aload_n 0, 1) := by decide +kernel
theorem dX7_laySpeeds_120 : decode cX7_laySpeeds 120 = .ok (.getfield 7, 3) := by decide +kernel
theorem dX7_laySpeeds_123 : decode cX7_laySpeeds 123 = .ok (.iload_n 3, 1) := by decide +kernel
theorem dX7_laySpeeds_124 : decode cX7_laySpeeds 124 = .ok (.iconst 2, 1) := by decide +kernel
theorem dX7_laySpeeds_125 : decode cX7_laySpeeds 125 = .ok (.iadd, 1) := by decide +kernel
theorem dX7_laySpeeds_126 : decode cX7_laySpeeds 126 = .ok (.iaload, 1) := by decide +kernel
theorem dX7_laySpeeds_127 : decode cX7_laySpeeds 127 = .ok (.iadd, 1) := by decide +kernel
theorem dX7_laySpeeds_128 : decode cX7_laySpeeds 128 = .ok (.aload_n 0, 1) := by decide +kernel
theorem dX7_laySpeeds_129 : decode cX7_laySpeeds 129 = .ok (.getfield 7, 3) := by decide +kernel
theorem dX7_laySpeeds_132 : decode cX7_laySpeeds 132 = .ok (.iload_n 3, 1) := by decide +kernel
theorem dX7_laySpeeds_133 : decode cX7_laySpeeds 133 = .ok (.iconst 3, 1) := by decide +kernel
theorem dX7_laySpeeds_134 : decode cX7_laySpeeds 134 = .ok (.iadd, 1) := by decide +kernel
theorem dX7_laySpeeds_135 : decode cX7_laySpeeds 135 = .ok (.iaload, 1) := by decide +kernel
theorem dX7_laySpeeds_136 : decode cX7_laySpeeds 136 = .ok (.ineg, 1) := by decide +kernel
theorem dX7_laySpeeds_137 : decode cX7_laySpeeds 137 = .ok (.aload_n 0, 1) := by decide +kernel
theorem dX7_laySpeeds_138 : decode cX7_laySpeeds 138 = .ok (.getfield 7, 3) := by decide +kernel
theorem dX7_laySpeeds_141 : decode cX7_laySpeeds 141 = .ok (.iload_n 3, 1) := by decide +kernel
theorem dX7_laySpeeds_142 : decode cX7_laySpeeds 142 = .ok (.iconst 4, 1) := by decide +kernel
theorem dX7_laySpeeds_143 : decode cX7_laySpeeds 143 = .ok (.iadd, 1) := by decide +kernel
theorem dX7_laySpeeds_144 : decode cX7_laySpeeds 144 = .ok (.iaload, 1) := by decide +kernel
theorem dX7_laySpeeds_145 : decode cX7_laySpeeds 145 = .ok (.isub, 1) := by decide +kernel
theorem dX7_laySpeeds_146 : decode cX7_laySpeeds 146 = .ok (.i2l, 1) := by decide +kernel
theorem dX7_laySpeeds_147 : decode cX7_laySpeeds 147 = .ok (.lastore, 1) := by decide +kernel
theorem dX7_laySpeeds_148 : decode cX7_laySpeeds 148 = .ok (.iinc 2 1, 3) := by decide +kernel
theorem dX7_laySpeeds_151 : decode cX7_laySpeeds 151 = .ok (.goto (-111), 3) := by decide +kernel
theorem dX7_laySpeeds_154 : decode cX7_laySpeeds 154 = .ok (.iconst 0, 1) := by decide +kernel
theorem dX7_laySpeeds_155 : decode cX7_laySpeeds 155 = .ok (.istore_n 2, 1) := by decide +kernel
theorem dX7_laySpeeds_156 : decode cX7_laySpeeds 156 = .ok (.iload_n 2, 1) := by decide +kernel
theorem dX7_laySpeeds_157 : decode cX7_laySpeeds 157 = .ok (.aload_n 0, 1) := by decide +kernel
theorem dX7_laySpeeds_158 : decode cX7_laySpeeds 158 = .ok (.getfield 7, 3) := by decide +kernel
theorem dX7_laySpeeds_161 : decode cX7_laySpeeds 161 = .ok (.bipush 34, 2) := by decide +kernel
theorem dX7_laySpeeds_163 : decode cX7_laySpeeds 163 = .ok (.iaload, 1) := by decide +kernel
theorem dX7_laySpeeds_164 : decode cX7_laySpeeds 164 = .ok (.if_icmp .ge 81, 3) := by decide +kernel
theorem dX7_laySpeeds_167 : decode cX7_laySpeeds 167 = .ok (.bipush 11, 2) := by decide +kernel
theorem dX7_laySpeeds_169 : decode cX7_laySpeeds 169 = .ok (.iconst 1, 1) := by decide +kernel
theorem dX7_laySpeeds_170 : decode cX7_laySpeeds 170 = .ok (.aload_n 0, 1) := by decide +kernel
theorem dX7_laySpeeds_171 : decode cX7_laySpeeds 171 = .ok (.getfield 7, 3) := by decide +kernel
theorem dX7_laySpeeds_174 : decode cX7_laySpeeds 174 = .ok (.bipush 33, 2) := by decide +kernel
theorem dX7_laySpeeds_176 : decode cX7_laySpeeds 176 = .ok (.iaload, 1) := by decide +kernel
theorem dX7_laySpeeds_177 : decode cX7_laySpeeds 177 = .ok (.iadd, 1) := by decide +kernel
theorem dX7_laySpeeds_178 : decode cX7_laySpeeds 178 = .ok (.iload_n 2, 1) := by decide +kernel
theorem dX7_laySpeeds_179 : decode cX7_laySpeeds 179 = .ok (.iadd, 1) := by decide +kernel
theorem dX7_laySpeeds_180 : decode cX7_laySpeeds 180 = .ok (.imul, 1) := by decide +kernel
theorem dX7_laySpeeds_181 : decode cX7_laySpeeds 181 = .ok (.istore_n 3, 1) := by decide +kernel
theorem dX7_laySpeeds_182 : decode cX7_laySpeeds 182 = .ok (.iload_n 1, 1) := by decide +kernel
theorem dX7_laySpeeds_183 : decode cX7_laySpeeds 183 = .ok (.iload_n 2, 1) := by decide +kernel
theorem dX7_laySpeeds_184 : decode cX7_laySpeeds 184 = .ok (.invokestatic 73, 3) := by decide +kernel
theorem dX7_laySpeeds_187 : decode cX7_laySpeeds 187 = .ok (.ifCond .eq 52, 3) := by decide +kernel
theorem dX7_laySpeeds_190 : decode cX7_laySpeeds 190 = .ok (.aload_n 0, 1) := by decide +kernel
theorem dX7_laySpeeds_191 : decode cX7_laySpeeds 191 = .ok (.getfield 23, 3) := by decide +kernel
theorem dX7_laySpeeds_194 : decode cX7_laySpeeds 194 = .ok (.iload_n 3, 1) := by decide +kernel
theorem dX7_laySpeeds_195 : decode cX7_laySpeeds 195 = .ok (.aload_n 0, 1) := by decide +kernel
theorem dX7_laySpeeds_196 : decode cX7_laySpeeds 196 = .ok (.getfield 7, 3) := by decide +kernel
theorem dX7_laySpeeds_199 : decode cX7_laySpeeds 199 = .ok (.bipush 15, 2) := by decide +kernel
theorem dX7_laySpeeds_201 : decode cX7_laySpeeds 201 = .ok (.iload_n 2, 1) := by decide +kernel
theorem dX7_laySpeeds_202 : decode cX7_laySpeeds 202 = .ok (.iadd, 1) := by decide +kernel
theorem dX7_laySpeeds_203 : decode cX7_laySpeeds 203 = .ok (.iaload, 1) := by decide +kernel
theorem dX7_laySpeeds_204 : decode cX7_laySpeeds 204 = .ok (.iadd, 1) := by decide +kernel
theorem dX7_laySpeeds_205 : decode cX7_laySpeeds 205 = .ok (.lconst 1, 1) := by decide +kernel
theorem dX7_laySpeeds_206 : decode cX7_laySpeeds 206 = .ok (.lastore, 1) := by decide +kernel
theorem dX7_laySpeeds_207 : decode cX7_laySpeeds 207 = .ok (.aload_n 0, 1) := by decide +kernel
theorem dX7_laySpeeds_208 : decode cX7_laySpeeds 208 = .ok (.getfield 7, 3) := by decide +kernel
theorem dX7_laySpeeds_211 : decode cX7_laySpeeds 211 = .ok (.bipush 21, 2) := by decide +kernel
theorem dX7_laySpeeds_213 : decode cX7_laySpeeds 213 = .ok (.iload_n 2, 1) := by decide +kernel
theorem dX7_laySpeeds_214 : decode cX7_laySpeeds 214 = .ok (.iadd, 1) := by decide +kernel
theorem dX7_laySpeeds_215 : decode cX7_laySpeeds 215 = .ok (.iaload, 1) := by decide +kernel
theorem dX7_laySpeeds_216 : decode cX7_laySpeeds 216 = .ok (.iconst (-1), 1) := by decide +kernel
theorem dX7_laySpeeds_217 : decode cX7_laySpeeds 217 = .ok (.if_icmp .eq 22, 3) := by decide +kernel
theorem dX7_laySpeeds_220 : decode cX7_laySpeeds 220 = .ok (.aload_n 0, 1) := by decide +kernel
theorem dX7_laySpeeds_221 : decode cX7_laySpeeds 221 = .ok (.getfield 23, 3) := by decide +kernel
theorem dX7_laySpeeds_224 : decode cX7_laySpeeds 224 = .ok (.iload_n 3, 1) := by decide +kernel
theorem dX7_laySpeeds_225 : decode cX7_laySpeeds 225 = .ok (.aload_n 0, 1) := by decide +kernel
theorem dX7_laySpeeds_226 : decode cX7_laySpeeds 226 = .ok (.getfield 7, 3) := by decide +kernel
theorem dX7_laySpeeds_229 : decode cX7_laySpeeds 229 = .ok (.bipush 21, 2) := by decide +kernel
theorem dX7_laySpeeds_231 : decode cX7_laySpeeds 231 = .ok (.iload_n 2, 1) := by decide +kernel
theorem dX7_laySpeeds_232 : decode cX7_laySpeeds 232 = .ok (.iadd, 1) := by decide +kernel
theorem dX7_laySpeeds_233 : decode cX7_laySpeeds 233 = .ok (.iaload, 1) := by decide +kernel
theorem dX7_laySpeeds_234 : decode cX7_laySpeeds 234 = .ok (.iadd, 1) := by decide +kernel
theorem dX7_laySpeeds_235 : decode cX7_laySpeeds 235 = .ok (.ldc2_w 112, 3) := by decide +kernel
theorem dX7_laySpeeds_238 : decode cX7_laySpeeds 238 = .ok (.lastore, 1) := by decide +kernel
theorem dX7_laySpeeds_239 : decode cX7_laySpeeds 239 = .ok (.iinc 2 1, 3) := by decide +kernel
theorem dX7_laySpeeds_242 : decode cX7_laySpeeds 242 = .ok (.goto (-86), 3) := by decide +kernel
theorem dX7_laySpeeds_245 : decode cX7_laySpeeds 245 = .ok (.aload_n 0, 1) := by decide +kernel
theorem dX7_laySpeeds_246 : decode cX7_laySpeeds 246 = .ok (.invokevirtual 114, 3) := by decide +kernel
theorem dX7_laySpeeds_249 : decode cX7_laySpeeds 249 = .ok (.return_, 1) := by decide +kernel
theorem dX7_stateOf_0 : decode cX7_stateOf 0 = .ok (.aload_n 0, 1) := by decide +kernel
theorem dX7_stateOf_1 : decode cX7_stateOf 1 = .ok (.iload_n 1, 1) := by decide +kernel
theorem dX7_stateOf_2 : decode cX7_stateOf 2 = .ok (.invokevirtual 117, 3) := by decide +kernel
theorem dX7_stateOf_5 : decode cX7_stateOf 5 = .ok (.aload_n 0, 1) := by decide +kernel
theorem dX7_stateOf_6 : decode cX7_stateOf 6 = .ok (.getfield 105, 3) := by decide +kernel
theorem dX7_stateOf_9 : decode cX7_stateOf 9 = .ok (.ifCond .ne 7, 3) := by decide +kernel
theorem dX7_stateOf_12 : decode cX7_stateOf 12 = .ok (.iconst 3, 1) := by decide +kernel
theorem dX7_stateOf_13 : decode cX7_stateOf 13 = .ok (.goto 30, 3) := by decide +kernel
theorem dX7_stateOf_16 : decode cX7_stateOf 16 = .ok (.aload_n 0, 1) := by decide +kernel
theorem dX7_stateOf_17 : decode cX7_stateOf 17 = .ok (.iconst 1, 1) := by decide +kernel
theorem dX7_stateOf_18 : decode cX7_stateOf 18 = .ok (.invokevirtual 120, 3) := by decide +kernel
theorem dX7_stateOf_21 : decode cX7_stateOf 21 = .ok (.ifCond .ne 7, 3) := by decide +kernel
theorem dX7_stateOf_24 : decode cX7_stateOf 24 = .ok (.iconst 2, 1) := by decide +kernel
theorem dX7_stateOf_25 : decode cX7_stateOf 25 = .ok (.goto 18, 3) := by decide +kernel
theorem dX7_stateOf_28 : decode cX7_stateOf 28 = .ok (.aload_n 0, 1) := by decide +kernel
theorem dX7_stateOf_29 : decode cX7_stateOf 29 = .ok (.iconst 1, 1) := by decide +kernel
theorem dX7_stateOf_30 : decode cX7_stateOf 30 = .ok (.invokevirtual 123, 3) := by decide +kernel
theorem dX7_stateOf_33 : decode cX7_stateOf 33 = .ok (.lconst 0, 1) := by decide +kernel
theorem dX7_stateOf_34 : decode cX7_stateOf 34 = .ok (.lcmp, 1) := by decide +kernel
theorem dX7_stateOf_35 : decode cX7_stateOf 35 = .ok (.ifCond .ne 7, 3) := by decide +kernel
theorem dX7_stateOf_38 : decode cX7_stateOf 38 = .ok (.iconst 1, 1) := by decide +kernel
theorem dX7_stateOf_39 : decode cX7_stateOf 39 = .ok (.goto 4, 3) := by decide +kernel
theorem dX7_stateOf_42 : decode cX7_stateOf 42 = .ok (.iconst 0, 1) := by decide +kernel
theorem dX7_stateOf_43 : decode cX7_stateOf 43 = .ok (.ireturn, 1) := by decide +kernel
theorem dX7_state_0 : decode cX7_state 0 = .ok (.aload_n 0, 1) := by decide +kernel
theorem dX7_state_1 : decode cX7_state 1 = .ok (.iconst 0, 1) := by decide +kernel
theorem dX7_state_2 : decode cX7_state 2 = .ok (.putfield 45, 3) := by decide +kernel
theorem dX7_state_5 : decode cX7_state 5 = .ok (.aload_n 0, 1) := by decide +kernel
theorem dX7_state_6 : decode cX7_state 6 = .ok (.aload_n 0, 1) := by decide +kernel
theorem dX7_state_7 : decode cX7_state 7 = .ok (.getfield 7, 3) := by decide +kernel
theorem dX7_state_10 : decode cX7_state 10 = .ok (.bipush 35, 2) := by decide +kernel
theorem dX7_state_12 : decode cX7_state 12 = .ok (.iaload, 1) := by decide +kernel
theorem dX7_state_13 : decode cX7_state 13 = .ok (.invokevirtual 127, 3) := by decide +kernel
theorem dX7_state_16 : decode cX7_state 16 = .ok (.ireturn, 1) := by decide +kernel
theorem dX7_speed_0 : decode cX7_speed 0 = .ok (.aload_n 0, 1) := by decide +kernel
theorem dX7_speed_1 : decode cX7_speed 1 = .ok (.iload_n 1, 1) := by decide +kernel
theorem dX7_speed_2 : decode cX7_speed 2 = .ok (.invokestatic 53, 3) := by decide +kernel
theorem dX7_speed_5 : decode cX7_speed 5 = .ok (.ifCond .ne 7, 3) := by decide +kernel
theorem dX7_speed_8 : decode cX7_speed 8 = .ok (.iconst 1, 1) := by decide +kernel
theorem dX7_speed_9 : decode cX7_speed 9 = .ok (.goto 15, 3) := by decide +kernel
theorem dX7_speed_12 : decode cX7_speed 12 = .ok (.iload_n 2, 1) := by decide +kernel
theorem dX7_speed_13 : decode cX7_speed 13 = .ok (.invokestatic 131, 3) := by decide +kernel
theorem dX7_speed_16 : decode cX7_speed 16 = .ok (.ifCond .ne 7, 3) := by decide +kernel
theorem dX7_speed_19 : decode cX7_speed 19 = .ok (.iconst 2, 1) := by decide +kernel
theorem dX7_speed_20 : decode cX7_speed 20 = .ok (.goto 4, 3) := by decide +kernel
theorem dX7_speed_23 : decode cX7_speed 23 = .ok (.iconst 0, 1) := by decide +kernel
theorem dX7_speed_24 : decode cX7_speed 24 = .ok (.putfield 45, 3) := by decide +kernel
theorem dX7_speed_27 : decode cX7_speed 27 = .ok (.aload_n 0, 1) := by decide +kernel
theorem dX7_speed_28 : decode cX7_speed 28 = .ok (.getfield 45, 3) := by decide +kernel
theorem dX7_speed_31 : decode cX7_speed 31 = .ok (.ifCond .eq 5, 3) := by decide +kernel
theorem dX7_speed_34 : decode cX7_speed 34 = .ok (.lconst 0, 1) := by decide +kernel
theorem dX7_speed_35 : decode cX7_speed 35 = .ok (.lreturn, 1) := by decide +kernel
theorem dX7_speed_36 : decode cX7_speed 36 = .ok (.aload_n 0, 1) := by decide +kernel
theorem dX7_speed_37 : decode cX7_speed 37 = .ok (.aload_n 0, 1) := by decide +kernel
theorem dX7_speed_38 : decode cX7_speed 38 = .ok (.getfield 7, 3) := by decide +kernel
theorem dX7_speed_41 : decode cX7_speed 41 = .ok (.bipush 35, 2) := by decide +kernel
theorem dX7_speed_43 : decode cX7_speed 43 = .ok (.iaload, 1) := by decide +kernel
theorem dX7_speed_44 : decode cX7_speed 44 = .ok (.invokevirtual 117, 3) := by decide +kernel
theorem dX7_speed_47 : decode cX7_speed 47 = .ok (.aload_n 0, 1) := by decide +kernel
theorem dX7_speed_48 : decode cX7_speed 48 = .ok (.aload_n 0, 1) := by decide +kernel
theorem dX7_speed_49 : decode cX7_speed 49 = .ok (.iload_n 1, 1) := by decide +kernel
theorem dX7_speed_50 : decode cX7_speed 50 = .ok (.invokevirtual 120, 3) := by decide +kernel
theorem dX7_speed_53 : decode cX7_speed 53 = .ok (.ifCond .eq 7, 3) := by decide +kernel
theorem dX7_speed_56 : decode cX7_speed 56 = .ok (.iconst 0, 1) := by decide +kernel
theorem dX7_speed_57 : decode cX7_speed 57 = .ok (.goto 4, 3) := by decide +kernel
theorem dX7_speed_60 : decode cX7_speed 60 = .ok (.iconst 3, 1) := by decide +kernel
theorem dX7_speed_61 : decode cX7_speed 61 = .ok (.putfield 45, 3) := by decide +kernel
theorem dX7_speed_64 : decode cX7_speed 64 = .ok (.aload_n 0, 1) := by decide +kernel
theorem dX7_speed_65 : decode cX7_speed 65 = .ok (.getfield 45, 3) := by decide +kernel
theorem dX7_speed_68 : decode cX7_speed 68 = .ok (.ifCond .eq 7, 3) := by decide +kernel
theorem dX7_speed_71 : decode cX7_speed 71 = .ok (.lconst 0, 1) := by decide +kernel
theorem dX7_speed_72 : decode cX7_speed 72 = .ok (.goto 17, 3) := by decide +kernel
theorem dX7_speed_75 : decode cX7_speed 75 = .ok (.aload_n 0, 1) := by decide +kernel
theorem dX7_speed_76 : decode cX7_speed 76 = .ok (.iload_n 1, 1) := by decide +kernel
theorem dX7_speed_77 : decode cX7_speed 77 = .ok (.invokevirtual 123, 3) := by decide +kernel
theorem dX7_speed_80 : decode cX7_speed 80 = .ok (.aload_n 0, 1) := by decide +kernel
theorem dX7_speed_81 : decode cX7_speed 81 = .ok (.iload_n 1, 1) := by decide +kernel
theorem dX7_speed_82 : decode cX7_speed 82 = .ok (.invokevirtual 134, 3) := by decide +kernel
theorem dX7_speed_85 : decode cX7_speed 85 = .ok (.iload_n 2, 1) := by decide +kernel
theorem dX7_speed_86 : decode cX7_speed 86 = .ok (.invokestatic 137, 3) := by decide +kernel
theorem dX7_speed_89 : decode cX7_speed 89 = .ok (.lreturn, 1) := by decide +kernel
theorem dX7_ratioPart_0 : decode cX7_ratioPart 0 = .ok (.aload_n 0, 1) := by decide +kernel
theorem dX7_ratioPart_1 : decode cX7_ratioPart 1 = .ok (.iconst 1, 1) := by decide +kernel
theorem dX7_ratioPart_2 : decode cX7_ratioPart 2 = .ok (.invokevirtual 123, 3) := by decide +kernel
theorem dX7_ratioPart_5 : decode cX7_ratioPart 5 = .ok (.lconst 0, 1) := by decide +kernel
theorem dX7_ratioPart_6 : decode cX7_ratioPart 6 = .ok (.lcmp, 1) := by decide +kernel
theorem dX7_ratioPart_7 : decode cX7_ratioPart 7 = .ok (.ifCond .ge 12, 3) := by decide +kernel
theorem dX7_ratioPart_10 : decode cX7_ratioPart 10 = .ok (.aload_n 0, 1) := by decide +kernel
theorem dX7_ratioPart_11 : decode cX7_ratioPart 11 = .ok (.iconst 1, 1) := by decide +kernel
theorem dX7_ratioPart_12 : decode cX7_ratioPart 12 = .ok (.invokevirtual 134, 3) := by decide +kernel
theorem dX7_ratioPart_15 : decode cX7_ratioPart 15 = .ok (.lneg, 1) := by decide +kernel
theorem dX7_ratioPart_16 : decode cX7_ratioPart 16 = .ok (.goto 8, 3) := by decide +kernel
theorem dX7_ratioPart_19 : decode cX7_ratioPart 19 = .ok (.aload_n 0, 1) := by decide +kernel
theorem dX7_ratioPart_20 : decode cX7_ratioPart 20 = .ok (.iconst 1, 1) := by decide +kernel
theorem dX7_ratioPart_21 : decode cX7_ratioPart 21 = .ok (.invokevirtual 134, 3) := by decide +kernel
theorem dX7_ratioPart_24 : decode cX7_ratioPart 24 = .ok (.lstore_n 2, 1) := by decide +kernel
theorem dX7_ratioPart_25 : decode cX7_ratioPart 25 = .ok (.aload_n 0, 1) := by decide +kernel
theorem dX7_ratioPart_26 : decode cX7_ratioPart 26 = .ok (.iconst 1, 1) := by decide +kernel
theorem dX7_ratioPart_27 : decode cX7_ratioPart 27 = .ok (.invokevirtual 123, 3) := by decide +kernel
theorem dX7_ratioPart_30 : decode cX7_ratioPart 30 = .ok (.lconst 0, 1) := by decide +kernel
theorem dX7_ratioPart_31 : decode cX7_ratioPart 31 = .ok (.lcmp, 1) := by decide +kernel
theorem dX7_ratioPart_32 : decode cX7_ratioPart 32 = .ok (.ifCond .ge 12, 3) := by decide +kernel
theorem dX7_ratioPart_35 : decode cX7_ratioPart 35 = .ok (.aload_n 0, 1) := by decide +kernel
theorem dX7_ratioPart_36 : decode cX7_ratioPart 36 = .ok (.iconst 1, 1) := by decide +kernel
theorem dX7_ratioPart_37 : decode cX7_ratioPart 37 = .ok (.invokevirtual 123, 3) := by decide +kernel
theorem dX7_ratioPart_40 : decode cX7_ratioPart 40 = .ok (.lneg, 1) := by decide +kernel
theorem dX7_ratioPart_41 : decode cX7_ratioPart 41 = .ok (.goto 8, 3) := by decide +kernel
theorem dX7_ratioPart_44 : decode cX7_ratioPart 44 = .ok (.aload_n 0, 1) := by decide +kernel
theorem dX7_ratioPart_45 : decode cX7_ratioPart 45 = .ok (.iconst 1, 1) := by decide +kernel
theorem dX7_ratioPart_46 : decode cX7_ratioPart 46 = .ok (.invokevirtual 123, 3) := by decide +kernel
theorem dX7_ratioPart_49 : decode cX7_ratioPart 49 = .ok (.lstore 4, 2) := by decide +kernel
theorem dX7_ratioPart_51 : decode cX7_ratioPart 51 = .ok (.lload_n 2, 1) := by decide +kernel
theorem dX7_ratioPart_52 : decode cX7_ratioPart 52 = .ok (.lload 4, 2) := by decide +kernel
theorem dX7_ratioPart_54 : decode cX7_ratioPart 54 = .ok (.iload_n 1, 1) := by decide +kernel
theorem dX7_ratioPart_55 : decode cX7_ratioPart 55 = .ok (.invokestatic 137, 3) := by decide +kernel
theorem dX7_ratioPart_58 : decode cX7_ratioPart 58 = .ok (.lreturn, 1) := by decide +kernel
theorem dX7_ratio_0 : decode cX7_ratio 0 = .ok (.aload_n 0, 1) := by decide +kernel
theorem dX7_ratio_1 : decode cX7_ratio 1 = .ok (.iload_n 1, 1) := by decide +kernel
theorem dX7_ratio_2 : decode cX7_ratio 2 = .ok (.invokestatic 131, 3) := by decide +kernel
theorem dX7_ratio_5 : decode cX7_ratio 5 = .ok (.ifCond .ne 7, 3) := by decide +kernel
theorem dX7_ratio_8 : decode cX7_ratio 8 = .ok (.iconst 1, 1) := by decide +kernel
theorem dX7_ratio_9 : decode cX7_ratio 9 = .ok (.goto 22, 3) := by decide +kernel
theorem dX7_ratio_12 : decode cX7_ratio 12 = .ok (.aload_n 0, 1) := by decide +kernel
theorem dX7_ratio_13 : decode cX7_ratio 13 = .ok (.aload_n 0, 1) := by decide +kernel
theorem dX7_ratio_14 : decode cX7_ratio 14 = .ok (.getfield 7, 3) := by decide +kernel
theorem dX7_ratio_17 : decode cX7_ratio 17 = .ok (.bipush 35, 2) := by decide +kernel
theorem dX7_ratio_19 : decode cX7_ratio 19 = .ok (.iaload, 1) := by decide +kernel
theorem dX7_ratio_20 : decode cX7_ratio 20 = .ok (.invokevirtual 127, 3) := by decide +kernel
theorem dX7_ratio_23 : decode cX7_ratio 23 = .ok (.ifCond .eq 7, 3) := by decide +kernel
theorem dX7_ratio_26 : decode cX7_ratio 26 = .ok (.iconst 2, 1) := by decide +kernel
theorem dX7_ratio_27 : decode cX7_ratio 27 = .ok (.goto 4, 3) := by decide +kernel
theorem dX7_ratio_30 : decode cX7_ratio 30 = .ok (.iconst 0, 1) := by decide +kernel
theorem dX7_ratio_31 : decode cX7_ratio 31 = .ok (.putfield 45, 3) := by decide +kernel
theorem dX7_ratio_34 : decode cX7_ratio 34 = .ok (.aload_n 0, 1) := by decide +kernel
theorem dX7_ratio_35 : decode cX7_ratio 35 = .ok (.getfield 45, 3) := by decide +kernel
theorem dX7_ratio_38 : decode cX7_ratio 38 = .ok (.ifCond .eq 7, 3) := by decide +kernel
theorem dX7_ratio_41 : decode cX7_ratio 41 = .ok (.lconst 0, 1) := by decide +kernel
theorem dX7_ratio_42 : decode cX7_ratio 42 = .ok (.goto 8, 3) := by decide +kernel
theorem dX7_ratio_45 : decode cX7_ratio 45 = .ok (.aload_n 0, 1) := by decide +kernel
theorem dX7_ratio_46 : decode cX7_ratio 46 = .ok (.iload_n 1, 1) := by decide +kernel
theorem dX7_ratio_47 : decode cX7_ratio 47 = .ok (.invokevirtual 141, 3) := by decide +kernel
theorem dX7_ratio_50 : decode cX7_ratio 50 = .ok (.lreturn, 1) := by decide +kernel
theorem dX7_ratioAsFloat_0 : decode cX7_ratioAsFloat 0 = .ok (.aload_n 0, 1) := by decide +kernel
theorem dX7_ratioAsFloat_1 : decode cX7_ratioAsFloat 1 = .ok (.aload_n 0, 1) := by decide +kernel
theorem dX7_ratioAsFloat_2 : decode cX7_ratioAsFloat 2 = .ok (.aload_n 0, 1) := by decide +kernel
theorem dX7_ratioAsFloat_3 : decode cX7_ratioAsFloat 3 = .ok (.getfield 7, 3) := by decide +kernel
theorem dX7_ratioAsFloat_6 : decode cX7_ratioAsFloat 6 = .ok (.bipush 35, 2) := by decide +kernel
theorem dX7_ratioAsFloat_8 : decode cX7_ratioAsFloat 8 = .ok (.iaload, 1) := by decide +kernel
theorem dX7_ratioAsFloat_9 : decode cX7_ratioAsFloat 9 = .ok (.invokevirtual 127, 3) := by decide +kernel
theorem dX7_ratioAsFloat_12 : decode cX7_ratioAsFloat 12 = .ok (.ifCond .ne 7, 3) := by decide +kernel
theorem dX7_ratioAsFloat_15 : decode cX7_ratioAsFloat 15 = .ok (.iconst 0, 1) := by decide +kernel
theorem dX7_ratioAsFloat_16 : decode cX7_ratioAsFloat 16 = .ok (.goto 4, 3) := by decide +kernel
theorem dX7_ratioAsFloat_19 : decode cX7_ratioAsFloat 19 = .ok (.iconst 1, 1) := by decide +kernel
theorem dX7_ratioAsFloat_20 : decode cX7_ratioAsFloat 20 = .ok (.putfield 45, 3) := by decide +kernel
theorem dX7_ratioAsFloat_23 : decode cX7_ratioAsFloat 23 = .ok (.aload_n 0, 1) := by decide +kernel
theorem dX7_ratioAsFloat_24 : decode cX7_ratioAsFloat 24 = .ok (.getfield 45, 3) := by decide +kernel
theorem dX7_ratioAsFloat_27 : decode cX7_ratioAsFloat 27 = .ok (.ifCond .eq 7, 3) := by decide +kernel
theorem dX7_ratioAsFloat_30 : decode cX7_ratioAsFloat 30 = .ok (.fconst 0, 1) := by decide +kernel
theorem dX7_ratioAsFloat_31 : decode cX7_ratioAsFloat 31 = .ok (.goto 16, 3) := by decide +kernel
theorem dX7_ratioAsFloat_34 : decode cX7_ratioAsFloat 34 = .ok (.aload_n 0, 1) := by decide +kernel
theorem dX7_ratioAsFloat_35 : decode cX7_ratioAsFloat 35 = .ok (.iconst 0, 1) := by decide +kernel
theorem dX7_ratioAsFloat_36 : decode cX7_ratioAsFloat 36 = .ok (.invokevirtual 141, 3) := by decide +kernel
theorem dX7_ratioAsFloat_39 : decode cX7_ratioAsFloat 39 = .ok (.l2f, 1) := by decide +kernel
theorem dX7_ratioAsFloat_40 : decode cX7_ratioAsFloat 40 = .ok (.aload_n 0, 1) := by decide +kernel
theorem dX7_ratioAsFloat_41 : decode cX7_ratioAsFloat 41 = .ok (.iconst 1, 1) := by decide +kernel
theorem dX7_ratioAsFloat_42 : decode cX7_ratioAsFloat 42 = .ok (.invokevirtual 141, 3) := by decide +kernel
theorem dX7_ratioAsFloat_45 : decode cX7_ratioAsFloat 45 = .ok (.l2f, 1) := by decide +kernel
theorem dX7_ratioAsFloat_46 : decode cX7_ratioAsFloat 46 = .ok (.fdiv, 1) := by decide +kernel
theorem dX7_ratioAsFloat_47 : decode cX7_ratioAsFloat 47 = .ok (.freturn, 1) := by decide +kernel
theorem dX7_layTorques_0 : decode cX7_layTorques 0 = .ok (.aload_n 0, 1) := by decide +kernel
theorem dX7_layTorques_1 : decode cX7_layTorques 1 = .ok (.bipush 6, 2) := by decide +kernel
theorem dX7_layTorques_3 : decode cX7_layTorques 3 = .ok (.bipush 10, 2) := by decide +kernel
theorem dX7_layTorques_5 : decode cX7_layTorques 5 = .ok (.invokevirtual 109, 3) := by decide +kernel
theorem dX7_layTorques_8 : decode cX7_layTorques 8 = .ok (.aload_n 0, 1) := by decide +kernel
theorem dX7_layTorques_9 : decode cX7_layTorques 9 = .ok (.getfield 23, 3) := by decide +kernel
theorem dX7_layTorques_12 : decode cX7_layTorques 12 = .ok (.bipush 10, 2) := by decide +kernel
theorem dX7_layTorques_14 : decode cX7_layTorques 14 = .ok (.ldc2_w 112, 3) := by decide +kernel
theorem dX7_layTorques_17 : decode cX7_layTorques 17 = .ok (.lastore, 1) := by decide +kernel
theorem dX7_layTorques_18 : decode cX7_layTorques 18 = .ok (.aload_n 0, 1) := by decide +kernel
theorem dX7_layTorques_19 : decode cX7_layTorques 19 = .ok (.getfield 23, 3) := by decide +kernel
theorem dX7_layTorques_22 : decode cX7_layTorques 22 = .ok (.bipush 11, 2) := by decide +kernel
theorem dX7_layTorques_24 : decode cX7_layTorques 24 = .ok (.lconst 1, 1) := by decide +kernel
theorem dX7_layTorques_25 : decode cX7_layTorques 25 = .ok (.lastore, 1) := by decide +kernel
theorem dX7_layTorques_26 : decode cX7_layTorques 26 = .ok (.iconst 0, 1) := by decide +kernel
theorem dX7_layTorques_27 : decode cX7_layTorques 27 = .ok (.istore_n 1, 1) := by decide +kernel
theorem dX7_layTorques_28 : decode cX7_layTorques 28 = .ok (.iload_n 1, 1) := by decide +kernel
theorem dX7_layTorques_29 : decode cX7_layTorques 29 = .ok (.aload_n 0, 1) := by decide +kernel
theorem dX7_layTorques_30 : decode cX7_layTorques 30 = .ok (.getfield 7, 3) := by decide +kernel
theorem dX7_layTorques_33 : decode cX7_layTorques 33 = .ok (.bipush 33, 2) := by decide +kernel
theorem dX7_layTorques_35 : decode cX7_layTorques 35 = .ok (.iaload, 1) := by decide +kernel
theorem dX7_layTorques_36 : decode cX7_layTorques 36 = .ok (.if_icmp .ge 110, 3) := by decide +kernel
theorem dX7_layTorques_39 : decode cX7_layTorques 39 = .ok (.iconst 0, 1) := by decide +kernel
theorem dX7_layTorques_40 : decode cX7_layTorques 40 = .ok (.iconst 5, 1) := by decide +kernel
theorem dX7_layTorques_41 : decode cX7_layTorques 41 = .ok (.iload_n 1, 1) := by decide +kernel
theorem dX7_layTorques_42 : decode cX7_layTorques 42 = .ok (.imul, 1) := by decide +kernel
theorem dX7_layTorques_43 : decode cX7_layTorques 43 = .ok (.iadd, 1) := by decide +kernel
theorem dX7_layTorques_44 : decode cX7_layTorques 44 = .ok (.istore_n 2, 1) := by decide +kernel
theorem dX7_layTorques_45 : decode cX7_layTorques 45 = .ok (.aload_n 0, 1) := by decide +kernel
theorem dX7_layTorques_46 : decode cX7_layTorques 46 = .ok (.getfield 23, 3) := by decide +kernel
theorem dX7_layTorques_49 : decode cX7_layTorques 49 = .ok (.bipush 11, 2) := by decide +kernel
theorem dX7_layTorques_51 : decode cX7_layTorques 51 = .ok (.aload_n 0, 1) := by decide +kernel
theorem dX7_layTorques_52 : decode cX7_layTorques 52 = .ok (.getfield 7, 3) := by decide +kernel
theorem dX7_layTorques_55 : decode cX7_layTorques 55 = .ok (.iload_n 2, 1) := by decide +kernel
theorem dX7_layTorques_56 : decode cX7_layTorques 56 = .ok (.iaload, 1) := by decide +kernel
theorem dX7_layTorques_57 : decode cX7_layTorques 57 = .ok (.imul, 1) := by decide +kernel
theorem dX7_layTorques_58 : decode cX7_layTorques 58 = .ok (.iconst 1, 1) := by decide +kernel
theorem dX7_layTorques_59 : decode cX7_layTorques 59 = .ok (.iadd, 1) := by decide +kernel
theorem dX7_layTorques_60 : decode cX7_layTorques 60 = .ok (.iload_n 1, 1) := by decide +kernel
theorem dX7_layTorques_61 : decode cX7_layTorques 61 = .ok (.iadd, 1) := by decide +kernel
theorem dX7_layTorques_62 : decode cX7_layTorques 62 = .ok (.aload_n 0, 1) := by decide +kernel
theorem dX7_layTorques_63 : decode cX7_layTorques 63 = .ok (.getfield 7, 3) := by decide +kernel
theorem dX7_layTorques_66 : decode cX7_layTorques 66 = .ok (.iload_n 2, 1) := by decide +kernel
theorem dX7_layTorques_67 : decode cX7_layTorques 67 = .ok (.iconst 3, 1) := by decide +kernel
theorem dX7_layTorques_68 : decode cX7_layTorques 68 = .ok (.iadd, 1) := by decide +kernel
theorem dX7_layTorques_69 : decode cX7_layTorques 69 = .ok (.iaload, 1) := by decide +kernel
theorem dX7_layTorques_70 : decode cX7_layTorques 70 = .ok (.i2l, 1) := by decide +kernel
theorem dX7_layTorques_71 : decode cX7_layTorques 71 = .ok (.lastore, 1) := by decide +kernel
theorem dX7_layTorques_72 : decode cX7_layTorques 72 = .ok (.aload_n 0, 1) := by decide +kernel
theorem dX7_layTorques_73 : decode cX7_layTorques 73 = .ok (.getfield 23, 3) := by decide +kernel
theorem dX7_layTorques_76 : decode cX7_layTorques 76 = .ok (.bipush 11, 2) := by decide +kernel
theorem dX7_layTorques_78 : decode cX7_layTorques 78 = .ok (.aload_n 0, 1) := by decide +kernel
theorem dX7_layTorques_79 : decode cX7_layTorques 79 = .ok (.getfield 7, 3) := by decide +kernel
theorem dX7_layTorques_82 : decode cX7_layTorques 82 = .ok (.iload_n 2, 1) := by decide +kernel
theorem dX7_layTorques_83 : decode cX7_layTorques 83 = .ok (.iconst 1, 1) := by decide +kernel
theorem dX7_layTorques_84 : decode cX7_layTorques 84 = .ok (.iadd, 1) := by decide +kernel
theorem dX7_layTorques_85 : decode cX7_layTorques 85 = .ok (.iaload, 1) := by decide +kernel
theorem dX7_layTorques_86 : decode cX7_layTorques 86 = .ok (.imul, 1) := by decide +kernel
theorem dX7_layTorques_87 : decode cX7_layTorques 87 = .ok (.iconst 1, 1) := by decide +kernel
theorem dX7_layTorques_88 : decode cX7_layTorques 88 = .ok (.iadd, 1) := by decide +kernel
theorem dX7_layTorques_89 : decode cX7_layTorques 89 = .ok (.iload_n 1, 1) := by decide +kernel
theorem dX7_layTorques_90 : decode cX7_layTorques 90 = .ok (.iadd, 1) := by decide +kernel
theorem dX7_layTorques_91 : decode cX7_layTorques 91 = .ok (.aload_n 0, 1) := by decide +kernel
theorem dX7_layTorques_92 : decode cX7_layTorques 92 = .ok (.getfield 7, 3) := by decide +kernel
theorem dX7_layTorques_95 : decode cX7_layTorques 95 = .ok (.iload_n 2, 1) := by decide +kernel
theorem dX7_layTorques_96 : decode cX7_layTorques 96 = .ok (.iconst 4, 1) := by decide +kernel
theorem dX7_layTorques_97 : decode cX7_layTorques 97 = .ok (.iadd, 1) := by decide +kernel
theorem dX7_layTorques_98 : decode cX7_layTorques 98 = .ok (.iaload, 1) := by decide +kernel
theorem dX7_layTorques_99 : decode cX7_layTorques 99 = .ok (.i2l, 1) := by decide +kernel
theorem dX7_layTorques_100 : decode cX7_layTorques 100 = .ok (.lastore, 1) := by decide +kernel
theorem dX7_layTorques_101 : decode cX7_layTorques 101 = .ok (.aload_n 0, 1) := by decide +kernel
theorem dX7_layTorques_102 : decode cX7_layTorques 102 = .ok (.getfield 23, 3) := by decide +kernel
theorem dX7_layTorques_105 : decode cX7_layTorques 105 = .ok (.bipush 11, 2) := by decide +kernel
theorem dX7_layTorques_107 : decode cX7_layTorques 107 = .ok (.aload_n 0, 1) := by decide +kernel
theorem dX7_layTorques_108 : decode cX7_layTorques 108 = .ok (.getfield 7, 3) := by decide +kernel
theorem dX7_layTorques_111 : decode cX7_layTorques 111 = .ok (.iload_n 2, 1) := by decide +kernel
theorem dX7_layTorques_112 : decode cX7_layTorques 112 = .ok (.iconst 2, 1) := by decide +kernel
theorem dX7_layTorques_113 : decode cX7_layTorques 113 = .ok (.iadd, 1) := by decide +kernel
theorem dX7_layTorques_114 : decode cX7_layTorques 114 = .ok (.iaload, 1) := by decide +kernel
theorem dX7_layTorques_115 : decode cX7_layTorques 115 = .ok (.imul, 1) := by decide +kernel
theorem dX7_layTorques_116 : decode cX7_layTorques 116 = .ok (.iconst 1, 1) := by decide +kernel
theorem dX7_layTorques_117 : decode cX7_layTorques 117 = .ok (.iadd, 1) := by decide +kernel
theorem dX7_layTorques_118 : decode cX7_layTorques 118 = .ok (.iload_n 1, 1) := by decide +kernel
theorem dX7_layTorques_119 : decode cX7_layTorques 119 = .ok (.iadd, 1) := by decide +kernel
theorem dX7_layTorques_120 : decode cX7_layTorques 120 = .ok (.aload_n 0, 1) := by decide +kernel
theorem dX7_layTorques_121 : decode cX7_layTorques 121 = .ok (.getfield 7, 3) := by decide +kernel
theorem dX7_layTorques_124 : decode cX7_layTorques 124 = .ok (.iload_n 2, 1) := by decide +kernel
theorem dX7_layTorques_125 : decode cX7_layTorques 125 = .ok (.iconst 3, 1) := by decide +kernel
theorem dX7_layTorques_126 : decode cX7_layTorques 126 = .ok (.iadd, 1) := by decide +kernel
theorem dX7_layTorques_127 : decode cX7_layTorques 127 = .ok (.iaload, 1) := by decide +kernel
theorem dX7_layTorques_128 : decode cX7_layTorques 128 = .ok (.ineg, 1) := by decide +kernel
theorem dX7_layTorques_129 : decode cX7_layTorques 129 = .ok (.aload_n 0, 1) := by decide +kernel
theorem dX7_layTorques_130 : decode cX7_layTorques 130 = .ok (.getfield 7, 3) := by decide +kernel
theorem dX7_layTorques_133 : decode cX7_layTorques 133 = .ok (.iload_n 2, 1) := by decide +kernel
theorem dX7_layTorques_134 : decode cX7_layTorques 134 = .ok (.iconst 4, 1) := by decide +kernel
theorem dX7_layTorques_135 : decode cX7_layTorques 135 = .ok (.iadd, 1) := by decide +kernel
theorem dX7_layTorques_136 : decode cX7_layTorques 136 = .ok (.iaload, 1) := by decide +kernel
theorem dX7_layTorques_137 : decode cX7_layTorques 137 = .ok (.isub, 1) := by decide +kernel
theorem dX7_layTorques_138 : decode cX7_layTorques 138 = .ok (.i2l, 1) := by decide +kernel
theorem dX7_layTorques_139 : decode cX7_layTorques 139 = .ok (.lastore, 1) := by decide +kernel
theorem dX7_layTorques_140 : decode cX7_layTorques 140 = .ok (.iinc 1 1, 3) := by decide +kernel
theorem dX7_layTorques_143 : decode cX7_layTorques 143 = .ok (.goto (-115), 3) := by decide +kernel
theorem dX7_layTorques_146 : decode cX7_layTorques 146 = .ok (.iconst 0, 1) := by decide +kernel
theorem dX7_layTorques_147 : decode cX7_layTorques 147 = .ok (.istore_n 1, 1) := by decide +kernel
theorem dX7_layTorques_148 : decode cX7_layTorques 148 = .ok (.iload_n 1, 1) := by decide +kernel
theorem dX7_layTorques_149 : decode cX7_layTorques 149 = .ok (.aload_n 0, 1) := by decide +kernel
theorem dX7_layTorques_150 : decode cX7_layTorques 150 = .ok (.getfield 7, 3) := by decide +kernel
theorem dX7_layTorques_153 : decode cX7_layTorques 153 = .ok (.bipush 34, 2) := by decide +kernel
theorem dX7_layTorques_155 : decode cX7_layTorques 155 = .ok (.iaload, 1) := by decide +kernel
theorem dX7_layTorques_156 : decode cX7_layTorques 156 = .ok (.if_icmp .ge 82, 3) := by decide +kernel
theorem dX7_layTorques_159 : decode cX7_layTorques 159 = .ok (.aload_n 0, 1) := by decide +kernel
theorem dX7_layTorques_160 : decode cX7_layTorques 160 = .ok (.getfield 7, 3) := by decide +kernel
theorem dX7_layTorques_163 : decode cX7_layTorques 163 = .ok (.bipush 35, 2) := by decide +kernel
theorem dX7_layTorques_165 : decode cX7_layTorques 165 = .ok (.iaload, 1) := by decide +kernel
theorem dX7_layTorques_166 : decode cX7_layTorques 166 = .ok (.iload_n 1, 1) := by decide +kernel
theorem dX7_layTorques_167 : decode cX7_layTorques 167 = .ok (.invokestatic 73, 3) := by decide +kernel
theorem dX7_layTorques_170 : decode cX7_layTorques 170 = .ok (.ifCond .eq 62, 3) := by decide +kernel
theorem dX7_layTorques_173 : decode cX7_layTorques 173 = .ok (.aload_n 0, 1) := by decide +kernel
theorem dX7_layTorques_174 : decode cX7_layTorques 174 = .ok (.getfield 23, 3) := by decide +kernel
theorem dX7_layTorques_177 : decode cX7_layTorques 177 = .ok (.bipush 11, 2) := by decide +kernel
theorem dX7_layTorques_179 : decode cX7_layTorques 179 = .ok (.aload_n 0, 1) := by decide +kernel
theorem dX7_layTorques_180 : decode cX7_layTorques 180 = .ok (.getfield 7, 3) := by decide +kernel
theorem dX7_layTorques_183 : decode cX7_layTorques 183 = .ok (.bipush 15, 2) := by decide +kernel
theorem dX7_layTorques_185 : decode cX7_layTorques 185 = .ok (.iload_n 1, 1) := by decide +kernel
theorem dX7_layTorques_186 : decode cX7_layTorques 186 = .ok (.iadd, 1) := by decide +kernel
theorem dX7_layTorques_187 : decode cX7_layTorques 187 = .ok (.iaload, 1) := by decide +kernel
theorem dX7_layTorques_188 : decode cX7_layTorques 188 = .ok (.imul, 1) := by decide +kernel
theorem dX7_layTorques_189 : decode cX7_layTorques 189 = .ok (.iconst 4, 1) := by decide +kernel
theorem dX7_layTorques_190 : decode cX7_layTorques 190 = .ok (.iadd, 1) := by decide +kernel
theorem dX7_layTorques_191 : decode cX7_layTorques 191 = .ok (.iload_n 1, 1) := by decide +kernel
theorem dX7_layTorques_192 : decode cX7_layTorques 192 = .ok (.iadd, 1) := by decide +kernel
theorem dX7_layTorques_193 : decode cX7_layTorques 193 = .ok (.lconst 1, 1) := by decide +kernel
theorem dX7_layTorques_194 : decode cX7_layTorques 194 = .ok (.lastore, 1) := by decide +kernel
theorem dX7_layTorques_195 : decode cX7_layTorques 195 = .ok (.aload_n 0, 1) := by decide +kernel
theorem dX7_layTorques_196 : decode cX7_layTorques 196 = .ok (.getfield 7, 3) := by decide +kernel
theorem dX7_layTorques_199 : decode cX7_layTorques 199 = .ok (.bipush 21, 2) := by decide +kernel
theorem dX7_layTorques_201 : decode cX7_layTorques 201 = .ok (.iload_n 1, 1) := by decide +kernel
theorem dX7_layTorques_202 : decode cX7_layTorques 202 = .ok (.iadd, 1) := by decide +kernel
theorem dX7_layTorques_203 : decode cX7_layTorques 203 = .ok (.iaload, 1) := by decide +kernel
theorem dX7_layTorques_204 : decode cX7_layTorques 204 = .ok (.iconst (-1), 1) := by decide +kernel
theorem dX7_layTorques_205 : decode cX7_layTorques 205 = .ok (.if_icmp .eq 27, 3) := by decide +kernel
theorem dX7_layTorques_208 : decode cX7_layTorques 208 = .ok (.aload_n 0, 1) := by decide +kernel
theorem dX7_layTorques_209 : decode cX7_layTorques 209 = .ok (.getfield 23, 3) := by decide +kernel
theorem dX7_layTorques_212 : decode cX7_layTorques 212 = .ok (.bipush 11, 2) := by decide +kernel
theorem dX7_layTorques_214 : decode cX7_layTorques 214 = .ok (.aload_n 0, 1) := by decide +kernel
theorem dX7_layTorques_215 : decode cX7_layTorques 215 = .ok (.getfield 7, 3) := by decide +kernel
theorem dX7_layTorques_218 : decode cX7_layTorques 218 = .ok (.bipush 21, 2) := by decide +kernel
theorem dX7_layTorques_220 : decode cX7_layTorques 220 = .ok (.iload_n 1, 1) := by decide +kernel
theorem dX7_layTorques_221 : decode cX7_layTorques 221 = .ok (.iadd, 1) := by decide +kernel
theorem dX7_layTorques_222 : decode cX7_layTorques 222 = .ok (.iaload, 1) := by decide +kernel
theorem dX7_layTorques_223 : decode cX7_layTorques 223 = .ok (.imul, 1) := by decide +kernel
theorem dX7_layTorques_224 : decode cX7_layTorques 224 = .ok (.iconst 4, 1) := by decide +kernel
theorem dX7_layTorques_225 : decode cX7_layTorques 225 = .ok (.iadd, 1) := by decide +kernel
theorem dX7_layTorques_226 : decode cX7_layTorques 226 = .ok (.iload_n 1, 1) := by decide +kernel
theorem dX7_layTorques_227 : decode cX7_layTorques 227 = .ok (.iadd, 1) := by decide +kernel
theorem dX7_layTorques_228 : decode cX7_layTorques 228 = .ok (.ldc2_w 112, 3) := by decide +kernel
theorem dX7_layTorques_231 : decode cX7_layTorques 231 = .ok (.lastore, 1) := by decide +kernel
theorem dX7_layTorques_232 : decode cX7_layTorques 232 = .ok (.iinc 1 1, 3) := by decide +kernel
theorem dX7_layTorques_235 : decode cX7_layTorques 235 = .ok (.goto (-87), 3) := by decide +kernel
theorem dX7_layTorques_238 : decode cX7_layTorques 238 = .ok (.aload_n 0, 1) := by decide +kernel
theorem dX7_layTorques_239 : decode cX7_layTorques 239 = .ok (.invokevirtual 114, 3) := by decide +kernel
theorem dX7_layTorques_242 : decode cX7_layTorques 242 = .ok (.return_, 1) := by decide +kernel
theorem dX7_outputTorque_0 : decode cX7_outputTorque 0 = .ok (.aload_n 0, 1) := by decide +kernel
theorem dX7_outputTorque_1 : decode cX7_outputTorque 1 = .ok (.iload_n 1, 1) := by decide +kernel
theorem dX7_outputTorque_2 : decode cX7_outputTorque 2 = .ok (.invokestatic 131, 3) := by decide +kernel
theorem dX7_outputTorque_5 : decode cX7_outputTorque 5 = .ok (.ifCond .eq 7, 3) := by decide +kernel
theorem dX7_outputTorque_8 : decode cX7_outputTorque 8 = .ok (.iconst 0, 1) := by decide +kernel
theorem dX7_outputTorque_9 : decode cX7_outputTorque 9 = .ok (.goto 4, 3) := by decide +kernel
theorem dX7_outputTorque_12 : decode cX7_outputTorque 12 = .ok (.iconst 1, 1) := by decide +kernel
theorem dX7_outputTorque_13 : decode cX7_outputTorque 13 = .ok (.putfield 45, 3) := by decide +kernel
theorem dX7_outputTorque_16 : decode cX7_outputTorque 16 = .ok (.aload_n 0, 1) := by decide +kernel
theorem dX7_outputTorque_17 : decode cX7_outputTorque 17 = .ok (.getfield 45, 3) := by decide +kernel
theorem dX7_outputTorque_20 : decode cX7_outputTorque 20 = .ok (.ifCond .eq 5, 3) := by decide +kernel
theorem dX7_outputTorque_23 : decode cX7_outputTorque 23 = .ok (.lconst 0, 1) := by decide +kernel
theorem dX7_outputTorque_24 : decode cX7_outputTorque 24 = .ok (.lreturn, 1) := by decide +kernel
theorem dX7_outputTorque_25 : decode cX7_outputTorque 25 = .ok (.aload_n 0, 1) := by decide +kernel
theorem dX7_outputTorque_26 : decode cX7_outputTorque 26 = .ok (.invokevirtual 144, 3) := by decide +kernel
theorem dX7_outputTorque_29 : decode cX7_outputTorque 29 = .ok (.aload_n 0, 1) := by decide +kernel
theorem dX7_outputTorque_30 : decode cX7_outputTorque 30 = .ok (.aload_n 0, 1) := by decide +kernel
theorem dX7_outputTorque_31 : decode cX7_outputTorque 31 = .ok (.iconst 0, 1) := by decide +kernel
theorem dX7_outputTorque_32 : decode cX7_outputTorque 32 = .ok (.invokevirtual 120, 3) := by decide +kernel
theorem dX7_outputTorque_35 : decode cX7_outputTorque 35 = .ok (.ifCond .eq 7, 3) := by decide +kernel
theorem dX7_outputTorque_38 : decode cX7_outputTorque 38 = .ok (.iconst 0, 1) := by decide +kernel
theorem dX7_outputTorque_39 : decode cX7_outputTorque 39 = .ok (.goto 4, 3) := by decide +kernel
theorem dX7_outputTorque_42 : decode cX7_outputTorque 42 = .ok (.iconst 2, 1) := by decide +kernel
theorem dX7_outputTorque_43 : decode cX7_outputTorque 43 = .ok (.putfield 45, 3) := by decide +kernel
theorem dX7_outputTorque_46 : decode cX7_outputTorque 46 = .ok (.aload_n 0, 1) := by decide +kernel
theorem dX7_outputTorque_47 : decode cX7_outputTorque 47 = .ok (.getfield 45, 3) := by decide +kernel
theorem dX7_outputTorque_50 : decode cX7_outputTorque 50 = .ok (.ifCond .eq 7, 3) := by decide +kernel
theorem dX7_outputTorque_53 : decode cX7_outputTorque 53 = .ok (.lconst 0, 1) := by decide +kernel
theorem dX7_outputTorque_54 : decode cX7_outputTorque 54 = .ok (.goto 17, 3) := by decide +kernel
theorem dX7_outputTorque_57 : decode cX7_outputTorque 57 = .ok (.aload_n 0, 1) := by decide +kernel
theorem dX7_outputTorque_58 : decode cX7_outputTorque 58 = .ok (.iconst 0, 1) := by decide +kernel
theorem dX7_outputTorque_59 : decode cX7_outputTorque 59 = .ok (.invokevirtual 123, 3) := by decide +kernel
theorem dX7_outputTorque_62 : decode cX7_outputTorque 62 = .ok (.aload_n 0, 1) := by decide +kernel
theorem dX7_outputTorque_63 : decode cX7_outputTorque 63 = .ok (.iconst 0, 1) := by decide +kernel
theorem dX7_outputTorque_64 : decode cX7_outputTorque 64 = .ok (.invokevirtual 134, 3) := by decide +kernel
theorem dX7_outputTorque_67 : decode cX7_outputTorque 67 = .ok (.iload_n 1, 1) := by decide +kernel
theorem dX7_outputTorque_68 : decode cX7_outputTorque 68 = .ok (.invokestatic 137, 3) := by decide +kernel
theorem dX7_outputTorque_71 : decode cX7_outputTorque 71 = .ok (.lreturn, 1) := by decide +kernel
theorem dX7_torque_0 : decode cX7_torque 0 = .ok (.aload_n 0, 1) := by decide +kernel
theorem dX7_torque_1 : decode cX7_torque 1 = .ok (.aload_n 0, 1) := by decide +kernel
theorem dX7_torque_2 : decode cX7_torque 2 = .ok (.iload_n 1, 1) := by decide +kernel
theorem dX7_torque_3 : decode cX7_torque 3 = .ok (.invokevirtual 61, 3) := by decide +kernel
theorem dX7_torque_6 : decode cX7_torque 6 = .ok (.ifCond .ne 7, 3) := by decide +kernel
theorem dX7_torque_9 : decode cX7_torque 9 = .ok (.iconst 1, 1) := by decide +kernel
theorem dX7_torque_10 : decode cX7_torque 10 = .ok (.goto 33, 3) := by decide +kernel
theorem dX7_torque_13 : decode cX7_torque 13 = .ok (.iload_n 2, 1) := by decide +kernel
theorem dX7_torque_14 : decode cX7_torque 14 = .ok (.invokestatic 131, 3) := by decide +kernel
theorem dX7_torque_17 : decode cX7_torque 17 = .ok (.ifCond .ne 7, 3) := by decide +kernel
theorem dX7_torque_20 : decode cX7_torque 20 = .ok (.iconst 2, 1) := by decide +kernel
theorem dX7_torque_21 : decode cX7_torque 21 = .ok (.goto 22, 3) := by decide +kernel
theorem dX7_torque_24 : decode cX7_torque 24 = .ok (.aload_n 0, 1) := by decide +kernel
theorem dX7_torque_25 : decode cX7_torque 25 = .ok (.getfield 7, 3) := by decide +kernel
theorem dX7_torque_28 : decode cX7_torque 28 = .ok (.bipush 35, 2) := by decide +kernel
theorem dX7_torque_30 : decode cX7_torque 30 = .ok (.iaload, 1) := by decide +kernel
theorem dX7_torque_31 : decode cX7_torque 31 = .ok (.iload_n 1, 1) := by decide +kernel
theorem dX7_torque_32 : decode cX7_torque 32 = .ok (.invokestatic 73, 3) := by decide +kernel
theorem dX7_torque_35 : decode cX7_torque 35 = .ok (.ifCond .ne 7, 3) := by decide +kernel
theorem dX7_torque_38 : decode cX7_torque 38 = .ok (.iconst 3, 1) := by decide +kernel
theorem dX7_torque_39 : decode cX7_torque 39 = .ok (.goto 4, 3) := by decide +kernel
theorem dX7_torque_42 : decode cX7_torque 42 = .ok (.iconst 0, 1) := by decide +kernel
theorem dX7_torque_43 : decode cX7_torque 43 = .ok (.putfield 45, 3) := by decide +kernel
theorem dX7_torque_46 : decode cX7_torque 46 = .ok (.aload_n 0, 1) := by decide +kernel
theorem dX7_torque_47 : decode cX7_torque 47 = .ok (.getfield 45, 3) := by decide +kernel
theorem dX7_torque_50 : decode cX7_torque 50 = .ok (.ifCond .eq 5, 3) := by decide +kernel
theorem dX7_torque_53 : decode cX7_torque 53 = .ok (.lconst 0, 1) := by decide +kernel
theorem dX7_torque_54 : decode cX7_torque 54 = .ok (.lreturn, 1) := by decide +kernel
theorem dX7_torque_55 : decode cX7_torque 55 = .ok (.aload_n 0, 1) := by decide +kernel
theorem dX7_torque_56 : decode cX7_torque 56 = .ok (.invokevirtual 144, 3) := by decide +kernel
theorem dX7_torque_59 : decode cX7_torque 59 = .ok (.aload_n 0, 1) := by decide +kernel
theorem dX7_torque_60 : decode cX7_torque 60 = .ok (.aload_n 0, 1) := by decide +kernel
theorem dX7_torque_61 : decode cX7_torque 61 = .ok (.iconst 4, 1) := by decide +kernel
theorem dX7_torque_62 : decode cX7_torque 62 = .ok (.iload_n 1, 1) := by decide +kernel
theorem dX7_torque_63 : decode cX7_torque 63 = .ok (.iadd, 1) := by decide +kernel
theorem dX7_torque_64 : decode cX7_torque 64 = .ok (.invokevirtual 120, 3) := by decide +kernel
theorem dX7_torque_67 : decode cX7_torque 67 = .ok (.ifCond .eq 7, 3) := by decide +kernel
theorem dX7_torque_70 : decode cX7_torque 70 = .ok (.iconst 0, 1) := by decide +kernel
theorem dX7_torque_71 : decode cX7_torque 71 = .ok (.goto 4, 3) := by decide +kernel
theorem dX7_torque_74 : decode cX7_torque 74 = .ok (.iconst 3, 1) := by decide +kernel
theorem dX7_torque_75 : decode cX7_torque 75 = .ok (.putfield 45, 3) := by decide +kernel
theorem dX7_torque_78 : decode cX7_torque 78 = .ok (.aload_n 0, 1) := by decide +kernel
theorem dX7_torque_79 : decode cX7_torque 79 = .ok (.getfield 45, 3) := by decide +kernel
theorem dX7_torque_82 : decode cX7_torque 82 = .ok (.ifCond .eq 7, 3) := by decide +kernel
theorem dX7_torque_85 : decode cX7_torque 85 = .ok (.lconst 0, 1) := by decide +kernel
theorem dX7_torque_86 : decode cX7_torque 86 = .ok (.goto 21, 3) := by decide +kernel
theorem dX7_torque_89 : decode cX7_torque 89 = .ok (.aload_n 0, 1) := by decide +kernel
theorem dX7_torque_90 : decode cX7_torque 90 = .ok (.iconst 4, 1) := by decide +kernel
theorem dX7_torque_91 : decode cX7_torque 91 = .ok (.iload_n 1, 1) := by decide +kernel
theorem dX7_torque_92 : decode cX7_torque 92 = .ok (.iadd, 1) := by decide +kernel
theorem dX7_torque_93 : decode cX7_torque 93 = .ok (.invokevirtual 123, 3) := by decide +kernel
theorem dX7_torque_96 : decode cX7_torque 96 = .ok (.aload_n 0, 1) := by decide +kernel
theorem dX7_torque_97 : decode cX7_torque 97 = .ok (.iconst 4, 1) := by decide +kernel
theorem dX7_torque_98 : decode cX7_torque 98 = .ok (.iload_n 1, 1) := by decide +kernel
theorem dX7_torque_99 : decode cX7_torque 99 = .ok (.iadd, 1) := by decide +kernel
theorem dX7_torque_100 : decode cX7_torque 100 = .ok (.invokevirtual 134, 3) := by decide +kernel
theorem dX7_torque_103 : decode cX7_torque 103 = .ok (.iload_n 2, 1) := by decide +kernel
theorem dX7_torque_104 : decode cX7_torque 104 = .ok (.invokestatic 137, 3) := by decide +kernel
theorem dX7_torque_107 : decode cX7_torque 107 = .ok (.lreturn, 1) := by decide +kernel
theorem dX7_slips_0 : decode cX7_slips 0 = .ok (.iconst 0, 1) := by decide +kernel
theorem dX7_slips_1 : decode cX7_slips 1 = .ok (.istore_n 2, 1) := by decide +kernel
theorem dX7_slips_2 : decode cX7_slips 2 = .ok (.iconst 0, 1) := by decide +kernel
theorem dX7_slips_3 : decode cX7_slips 3 = .ok (.istore_n 3, 1) := by decide +kernel
theorem dX7_slips_4 : decode cX7_slips 4 = .ok (.iload_n 3, 1) := by decide +kernel
theorem dX7_slips_5 : decode cX7_slips 5 = .ok (.aload_n 0, 1) := by decide +kernel
theorem dX7_slips_6 : decode cX7_slips 6 = .ok (.getfield 7, 3) := by decide +kernel
theorem dX7_slips_9 : decode cX7_slips 9 = .ok (.bipush 34, 2) := by decide +kernel
theorem dX7_slips_11 : decode cX7_slips 11 = .ok (.iaload, 1) := by decide +kernel
theorem dX7_slips_12 : decode cX7_slips 12 = .ok (.if_icmp .ge 102, 3) := by decide +kernel
theorem dX7_slips_15 : decode cX7_slips 15 = .ok (.aload_n 0, 1) := by decide +kernel
theorem dX7_slips_16 : decode cX7_slips 16 = .ok (.getfield 7, 3) := by decide +kernel
theorem dX7_slips_19 : decode cX7_slips 19 = .ok (.bipush 35, 2) := by decide +kernel
theorem dX7_slips_21 : decode cX7_slips 21 = .ok (.iaload, 1) := by decide +kernel
theorem dX7_slips_22 : decode cX7_slips 22 = .ok (.iload_n 3, 1) := by decide +kernel
theorem dX7_slips_23 : decode cX7_slips 23 = .ok (.invokestatic 73, 3) := by decide +kernel
theorem dX7_slips_26 : decode cX7_slips 26 = .ok (.ifCond .eq 82, 3) := by decide +kernel
theorem dX7_slips_29 : decode cX7_slips 29 = .ok (.aload_n 0, 1) := by decide +kernel
theorem dX7_slips_30 : decode cX7_slips 30 = .ok (.iconst 4, 1) := by decide +kernel
theorem dX7_slips_31 : decode cX7_slips 31 = .ok (.iload_n 3, 1) := by decide +kernel
theorem dX7_slips_32 : decode cX7_slips 32 = .ok (.iadd, 1) := by decide +kernel
theorem dX7_slips_33 : decode cX7_slips 33 = .ok (.invokevirtual 120, 3) := by decide +kernel
theorem dX7_slips_36 : decode cX7_slips 36 = .ok (.ifCond .eq 72, 3) := by decide +kernel
theorem dX7_slips_39 : decode cX7_slips 39 = .ok (.aload_n 0, 1) := by decide +kernel
theorem dX7_slips_40 : decode cX7_slips 40 = .ok (.iconst 4, 1) := by decide +kernel
theorem dX7_slips_41 : decode cX7_slips 41 = .ok (.iload_n 3, 1) := by decide +kernel
theorem dX7_slips_42 : decode cX7_slips 42 = .ok (.iadd, 1) := by decide +kernel
theorem dX7_slips_43 : decode cX7_slips 43 = .ok (.invokevirtual 123, 3) := by decide +kernel
theorem dX7_slips_46 : decode cX7_slips 46 = .ok (.lconst 0, 1) := by decide +kernel
theorem dX7_slips_47 : decode cX7_slips 47 = .ok (.lcmp, 1) := by decide +kernel
theorem dX7_slips_48 : decode cX7_slips 48 = .ok (.ifCond .ge 14, 3) := by decide +kernel
theorem dX7_slips_51 : decode cX7_slips 51 = .ok (.aload_n 0, 1) := by decide +kernel
theorem dX7_slips_52 : decode cX7_slips 52 = .ok (.iconst 4, 1) := by decide +kernel
theorem dX7_slips_53 : decode cX7_slips 53 = .ok (.iload_n 3, 1) := by decide +kernel
theorem dX7_slips_54 : decode cX7_slips 54 = .ok (.iadd, 1) := by decide +kernel
theorem dX7_slips_55 : decode cX7_slips 55 = .ok (.invokevirtual 123, 3) := by decide +kernel
theorem dX7_slips_58 : decode cX7_slips 58 = .ok (.lneg, 1) := by decide +kernel
theorem dX7_slips_59 : decode cX7_slips 59 = .ok (.goto 10, 3) := by decide +kernel
theorem dX7_slips_62 : decode cX7_slips 62 = .ok (.aload_n 0, 1) := by decide +kernel
theorem dX7_slips_63 : decode cX7_slips 63 = .ok (.iconst 4, 1) := by decide +kernel
theorem dX7_slips_64 : decode cX7_slips 64 = .ok (.iload_n 3, 1) := by decide +kernel
theorem dX7_slips_65 : decode cX7_slips 65 = .ok (.iadd, 1) := by decide +kernel
theorem dX7_slips_66 : decode cX7_slips 66 = .ok (.invokevirtual 123, 3) := by decide +kernel
theorem dX7_slips_69 : decode cX7_slips 69 = .ok (.lstore 4, 2) := by decide +kernel
theorem dX7_slips_71 : decode cX7_slips 71 = .ok (.iload_n 2, 1) := by decide +kernel
theorem dX7_slips_72 : decode cX7_slips 72 = .ok (.iload_n 1, 1) := by decide +kernel
theorem dX7_slips_73 : decode cX7_slips 73 = .ok (.i2l, 1) := by decide +kernel
theorem dX7_slips_74 : decode cX7_slips 74 = .ok (.lload 4, 2) := by decide +kernel
theorem dX7_slips_76 : decode cX7_slips 76 = .ok (.lmul, 1) := by decide +kernel
theorem dX7_slips_77 : decode cX7_slips 77 = .ok (.aload_n 0, 1) := by decide +kernel
theorem dX7_slips_78 : decode cX7_slips 78 = .ok (.getfield 7, 3) := by decide +kernel
theorem dX7_slips_81 : decode cX7_slips 81 = .ok (.bipush 27, 2) := by decide +kernel
theorem dX7_slips_83 : decode cX7_slips 83 = .ok (.iload_n 3, 1) := by decide +kernel
theorem dX7_slips_84 : decode cX7_slips 84 = .ok (.iadd, 1) := by decide +kernel
theorem dX7_slips_85 : decode cX7_slips 85 = .ok (.iaload, 1) := by decide +kernel
theorem dX7_slips_86 : decode cX7_slips 86 = .ok (.i2l, 1) := by decide +kernel
theorem dX7_slips_87 : decode cX7_slips 87 = .ok (.aload_n 0, 1) := by decide +kernel
theorem dX7_slips_88 : decode cX7_slips 88 = .ok (.iconst 4, 1) := by decide +kernel
theorem dX7_slips_89 : decode cX7_slips 89 = .ok (.iload_n 3, 1) := by decide +kernel
theorem dX7_slips_90 : decode cX7_slips 90 = .ok (.iadd, 1) := by decide +kernel
theorem dX7_slips_91 : decode cX7_slips 91 = .ok (.invokevirtual 134, 3) := by decide +kernel
theorem dX7_slips_94 : decode cX7_slips 94 = .ok (.lmul, 1) := by decide +kernel
theorem dX7_slips_95 : decode cX7_slips 95 = .ok (.lcmp, 1) := by decide +kernel
theorem dX7_slips_96 : decode cX7_slips 96 = .ok (.ifCond .le 9, 3) := by decide +kernel
theorem dX7_slips_99 : decode cX7_slips 99 = .ok (.iconst 1, 1) := by decide +kernel
theorem dX7_slips_100 : decode cX7_slips 100 = .ok (.iload_n 3, 1) := by decide +kernel
theorem dX7_slips_101 : decode cX7_slips 101 = .ok (.ishl, 1) := by decide +kernel
theorem dX7_slips_102 : decode cX7_slips 102 = .ok (.goto 4, 3) := by decide +kernel
theorem dX7_slips_105 : decode cX7_slips 105 = .ok (.iconst 0, 1) := by decide +kernel
theorem dX7_slips_106 : decode cX7_slips 106 = .ok (.ior, 1) := by decide +kernel
theorem dX7_slips_107 : decode cX7_slips 107 = .ok (.istore_n 2, 1) := by decide +kernel
theorem dX7_slips_108 : decode cX7_slips 108 = .ok (.iinc 3 1, 3) := by decide +kernel
theorem dX7_slips_111 : decode cX7_slips 111 = .ok (.goto (-107), 3) := by decide +kernel
theorem dX7_slips_114 : decode cX7_slips 114 = .ok (.iload_n 2, 1) := by decide +kernel
theorem dX7_slips_115 : decode cX7_slips 115 = .ok (.ireturn, 1) := by decide +kernel
theorem dX7_slipping_0 : decode cX7_slipping 0 = .ok (.aload_n 0, 1) := by decide +kernel
theorem dX7_slipping_1 : decode cX7_slipping 1 = .ok (.iload_n 1, 1) := by decide +kernel
theorem dX7_slipping_2 : decode cX7_slipping 2 = .ok (.iconst 1, 1) := by decide +kernel
theorem dX7_slipping_3 : decode cX7_slipping 3 = .ok (.sipush 10000, 3) := by decide +kernel
theorem dX7_slipping_6 : decode cX7_slipping 6 = .ok (.invokestatic 49, 3) := by decide +kernel
theorem dX7_slipping_9 : decode cX7_slipping 9 = .ok (.ifCond .eq 7, 3) := by decide +kernel
theorem dX7_slipping_12 : decode cX7_slipping 12 = .ok (.iconst 0, 1) := by decide +kernel
theorem dX7_slipping_13 : decode cX7_slipping 13 = .ok (.goto 4, 3) := by decide +kernel
theorem dX7_slipping_16 : decode cX7_slipping 16 = .ok (.iconst 1, 1) := by decide +kernel
theorem dX7_slipping_17 : decode cX7_slipping 17 = .ok (.putfield 45, 3) := by decide +kernel
theorem dX7_slipping_20 : decode cX7_slipping 20 = .ok (.aload_n 0, 1) := by decide +kernel
theorem dX7_slipping_21 : decode cX7_slipping 21 = .ok (.getfield 45, 3) := by decide +kernel
theorem dX7_slipping_24 : decode cX7_slipping 24 = .ok (.ifCond .eq 5, 3) := by decide +kernel
theorem dX7_slipping_27 : decode cX7_slipping 27 = .ok (.iconst 0, 1) := by decide +kernel
theorem dX7_slipping_28 : decode cX7_slipping 28 = .ok (.ireturn, 1) := by decide +kernel
theorem dX7_slipping_29 : decode cX7_slipping 29 = .ok (.aload_n 0, 1) := by decide +kernel
theorem dX7_slipping_30 : decode cX7_slipping 30 = .ok (.invokevirtual 144, 3) := by decide +kernel
theorem dX7_slipping_33 : decode cX7_slipping 33 = .ok (.aload_n 0, 1) := by decide +kernel
theorem dX7_slipping_34 : decode cX7_slipping 34 = .ok (.iload_n 1, 1) := by decide +kernel
theorem dX7_slipping_35 : decode cX7_slipping 35 = .ok (.invokevirtual 147, 3) := by decide +kernel
theorem dX7_slipping_38 : decode cX7_slipping 38 = .ok (.ireturn, 1) := by decide +kernel
theorem dX7_greatestTorque_0 : decode cX7_greatestTorque 0 = .ok (.aload_n 0, 1) := by decide +kernel
theorem dX7_greatestTorque_1 : decode cX7_greatestTorque 1 = .ok (.aload_n 0, 1) := by decide +kernel
theorem dX7_greatestTorque_2 : decode cX7_greatestTorque 2 = .ok (.aload_n 0, 1) := by decide +kernel
theorem dX7_greatestTorque_3 : decode cX7_greatestTorque 3 = .ok (.getfield 7, 3) := by decide +kernel
theorem dX7_greatestTorque_6 : decode cX7_greatestTorque 6 = .ok (.bipush 35, 2) := by decide +kernel
theorem dX7_greatestTorque_8 : decode cX7_greatestTorque 8 = .ok (.iaload, 1) := by decide +kernel
theorem dX7_greatestTorque_9 : decode cX7_greatestTorque 9 = .ok (.invokevirtual 127, 3) := by decide +kernel
theorem dX7_greatestTorque_12 : decode cX7_greatestTorque 12 = .ok (.ifCond .ne 7, 3) := by decide +kernel
theorem dX7_greatestTorque_15 : decode cX7_greatestTorque 15 = .ok (.iconst 0, 1) := by decide +kernel
theorem dX7_greatestTorque_16 : decode cX7_greatestTorque 16 = .ok (.goto 4, 3) := by decide +kernel
theorem dX7_greatestTorque_19 : decode cX7_greatestTorque 19 = .ok (.iconst 1, 1) := by decide +kernel
theorem dX7_greatestTorque_20 : decode cX7_greatestTorque 20 = .ok (.putfield 45, 3) := by decide +kernel
theorem dX7_greatestTorque_23 : decode cX7_greatestTorque 23 = .ok (.aload_n 0, 1) := by decide +kernel
theorem dX7_greatestTorque_24 : decode cX7_greatestTorque 24 = .ok (.getfield 45, 3) := by decide +kernel
theorem dX7_greatestTorque_27 : decode cX7_greatestTorque 27 = .ok (.ifCond .eq 5, 3) := by decide +kernel
theorem dX7_greatestTorque_30 : decode cX7_greatestTorque 30 = .ok (.iconst 0, 1) := by decide +kernel
theorem dX7_greatestTorque_31 : decode cX7_greatestTorque 31 = .ok (.ireturn, 1) := by decide +kernel
theorem dX7_greatestTorque_32 : decode cX7_greatestTorque 32 = .ok (.aload_n 0, 1) := by decide +kernel
theorem dX7_greatestTorque_33 : decode cX7_greatestTorque 33 = .ok (.invokevirtual 144, 3) := by decide +kernel
theorem dX7_greatestTorque_36 : decode cX7_greatestTorque 36 = .ok (.sipush 10000, 3) := by decide +kernel
theorem dX7_greatestTorque_39 : decode cX7_greatestTorque 39 = .ok (.istore_n 1, 1) := by decide +kernel
theorem dX7_greatestTorque_40 : decode cX7_greatestTorque 40 = .ok (.iload_n 1, 1) := by decide +kernel
theorem dX7_greatestTorque_41 : decode cX7_greatestTorque 41 = .ok (.ifCond .le 17, 3) := by decide +kernel
theorem dX7_greatestTorque_44 : decode cX7_greatestTorque 44 = .ok (.aload_n 0, 1) := by decide +kernel
theorem dX7_greatestTorque_45 : decode cX7_greatestTorque 45 = .ok (.iload_n 1, 1) := by decide +kernel
theorem dX7_greatestTorque_46 : decode cX7_greatestTorque 46 = .ok (.invokevirtual 147, 3) := by decide +kernel
theorem dX7_greatestTorque_49 : decode cX7_greatestTorque 49 = .ok (.ifCond .eq 9, 3) := by decide +kernel
theorem dX7_greatestTorque_52 : decode cX7_greatestTorque 52 = .ok (.iinc 1 (-1), 3) := by decide +kernel
theorem dX7_greatestTorque_55 : decode cX7_greatestTorque 55 = .ok (.goto (-15), 3) := by decide +kernel
theorem dX7_greatestTorque_58 : decode cX7_greatestTorque 58 = .ok (.iload_n 1, 1) := by decide +kernel
theorem dX7_greatestTorque_59 : decode cX7_greatestTorque 59 = .ok (.ireturn, 1) := by decide +kernel
theorem dX7_isGear_0 : decode cX7_isGear 0 = .ok (.aload_n 0, 1) := by decide +kernel
theorem dX7_isGear_1 : decode cX7_isGear 1 = .ok (.getfield 30, 3) := by decide +kernel
theorem dX7_isGear_4 : decode cX7_isGear 4 = .ok (.iload_n 1, 1) := by decide +kernel
theorem dX7_isGear_5 : decode cX7_isGear 5 = .ok (.iaload, 1) := by decide +kernel
theorem dX7_isGear_6 : decode cX7_isGear 6 = .ok (.ifCond .ne 7, 3) := by decide +kernel
theorem dX7_isGear_9 : decode cX7_isGear 9 = .ok (.iconst 1, 1) := by decide +kernel
theorem dX7_isGear_10 : decode cX7_isGear 10 = .ok (.goto 4, 3) := by decide +kernel
theorem dX7_isGear_13 : decode cX7_isGear 13 = .ok (.iconst 0, 1) := by decide +kernel
theorem dX7_isGear_14 : decode cX7_isGear 14 = .ok (.istore_n 2, 1) := by decide +kernel
theorem dX7_isGear_15 : decode cX7_isGear 15 = .ok (.iconst 0, 1) := by decide +kernel
theorem dX7_isGear_16 : decode cX7_isGear 16 = .ok (.istore_n 3, 1) := by decide +kernel
theorem dX7_isGear_17 : decode cX7_isGear 17 = .ok (.iload_n 3, 1) := by decide +kernel
theorem dX7_isGear_18 : decode cX7_isGear 18 = .ok (.iload_n 1, 1) := by decide +kernel
theorem dX7_isGear_19 : decode cX7_isGear 19 = .ok (.if_icmp .ge 37, 3) := by decide +kernel
theorem dX7_isGear_22 : decode cX7_isGear 22 = .ok (.iload_n 2, 1) := by decide +kernel
theorem dX7_isGear_23 : decode cX7_isGear 23 = .ok (.ifCond .eq 25, 3) := by decide +kernel
theorem dX7_isGear_26 : decode cX7_isGear 26 = .ok (.iload_n 3, 1) := by decide +kernel
theorem dX7_isGear_27 : decode cX7_isGear 27 = .ok (.iload_n 1, 1) := by decide +kernel
theorem dX7_isGear_28 : decode cX7_isGear 28 = .ok (.iconst (-1), 1) := by decide +kernel
theorem dX7_isGear_29 : decode cX7_isGear 29 = .ok (.ixor, 1) := by decide +kernel
theorem dX7_isGear_30 : decode cX7_isGear 30 = .ok (.iand, 1) := by decide +kernel
theorem dX7_isGear_31 : decode cX7_isGear 31 = .ok (.ifCond .ne 13, 3) := by decide +kernel
theorem dX7_isGear_34 : decode cX7_isGear 34 = .ok (.aload_n 0, 1) := by decide +kernel
theorem dX7_isGear_35 : decode cX7_isGear 35 = .ok (.getfield 30, 3) := by decide +kernel
theorem dX7_isGear_38 : decode cX7_isGear 38 = .ok (.iload_n 3, 1) := by decide +kernel
theorem dX7_isGear_39 : decode cX7_isGear 39 = .ok (.iaload, 1) := by decide +kernel
theorem dX7_isGear_40 : decode cX7_isGear 40 = .ok (.iconst 2, 1) := by decide +kernel
theorem dX7_isGear_41 : decode cX7_isGear 41 = .ok (.if_icmp .ne 7, 3) := by decide +kernel
theorem dX7_isGear_44 : decode cX7_isGear 44 = .ok (.iconst 1, 1) := by decide +kernel
theorem dX7_isGear_45 : decode cX7_isGear 45 = .ok (.goto 4, 3) := by decide +kernel
theorem dX7_isGear_48 : decode cX7_isGear 48 = .ok (.iconst 0, 1) := by decide +kernel
theorem dX7_isGear_49 : decode cX7_isGear 49 = .ok (.istore_n 2, 1) := by decide +kernel
theorem dX7_isGear_50 : decode cX7_isGear 50 = .ok (.iinc 3 1, 3) := by decide +kernel
theorem dX7_isGear_53 : decode cX7_isGear 53 = .ok (.goto (-36), 3) := by decide +kernel
theorem dX7_isGear_56 : decode cX7_isGear 56 = .ok (.iload_n 2, 1) := by decide +kernel
theorem dX7_isGear_57 : decode cX7_isGear 57 = .ok (.ireturn, 1) := by decide +kernel
theorem dX7_layGears_0 : decode cX7_layGears 0 = .ok (.iconst 1, 1) := by decide +kernel
theorem dX7_layGears_1 : decode cX7_layGears 1 = .ok (.aload_n 0, 1) := by decide +kernel
theorem dX7_layGears_2 : decode cX7_layGears 2 = .ok (.getfield 7, 3) := by decide +kernel
theorem dX7_layGears_5 : decode cX7_layGears 5 = .ok (.bipush 34, 2) := by decide +kernel
theorem dX7_layGears_7 : decode cX7_layGears 7 = .ok (.iaload, 1) := by decide +kernel
theorem dX7_layGears_8 : decode cX7_layGears 8 = .ok (.ishl, 1) := by decide +kernel
theorem dX7_layGears_9 : decode cX7_layGears 9 = .ok (.istore_n 1, 1) := by decide +kernel
theorem dX7_layGears_10 : decode cX7_layGears 10 = .ok (.iconst 0, 1) := by decide +kernel
theorem dX7_layGears_11 : decode cX7_layGears 11 = .ok (.istore_n 2, 1) := by decide +kernel
theorem dX7_layGears_12 : decode cX7_layGears 12 = .ok (.iload_n 2, 1) := by decide +kernel
theorem dX7_layGears_13 : decode cX7_layGears 13 = .ok (.iload_n 1, 1) := by decide +kernel
theorem dX7_layGears_14 : decode cX7_layGears 14 = .ok (.if_icmp .ge 20, 3) := by decide +kernel
theorem dX7_layGears_17 : decode cX7_layGears 17 = .ok (.aload_n 0, 1) := by decide +kernel
theorem dX7_layGears_18 : decode cX7_layGears 18 = .ok (.getfield 30, 3) := by decide +kernel
theorem dX7_layGears_21 : decode cX7_layGears 21 = .ok (.iload_n 2, 1) := by decide +kernel
theorem dX7_layGears_22 : decode cX7_layGears 22 = .ok (.aload_n 0, 1) := by decide +kernel
theorem dX7_layGears_23 : decode cX7_layGears 23 = .ok (.iload_n 2, 1) := by decide +kernel
theorem dX7_layGears_24 : decode cX7_layGears 24 = .ok (.invokevirtual 127, 3) := by decide +kernel
theorem dX7_layGears_27 : decode cX7_layGears 27 = .ok (.iastore, 1) := by decide +kernel
theorem dX7_layGears_28 : decode cX7_layGears 28 = .ok (.iinc 2 1, 3) := by decide +kernel
theorem dX7_layGears_31 : decode cX7_layGears 31 = .ok (.goto (-19), 3) := by decide +kernel
theorem dX7_layGears_34 : decode cX7_layGears 34 = .ok (.aload_n 0, 1) := by decide +kernel
theorem dX7_layGears_35 : decode cX7_layGears 35 = .ok (.iconst 0, 1) := by decide +kernel
theorem dX7_layGears_36 : decode cX7_layGears 36 = .ok (.putfield 67, 3) := by decide +kernel
theorem dX7_layGears_39 : decode cX7_layGears 39 = .ok (.iconst 0, 1) := by decide +kernel
theorem dX7_layGears_40 : decode cX7_layGears 40 = .ok (.istore_n 2, 1) := by decide +kernel
theorem dX7_layGears_41 : decode cX7_layGears 41 = .ok (.iload_n 2, 1) := by decide +kernel
theorem dX7_layGears_42 : decode cX7_layGears 42 = .ok (.iload_n 1, 1) := by decide +kernel
theorem dX7_layGears_43 : decode cX7_layGears 43 = .ok (.if_icmp .ge 162, 3) := by decide +kernel
theorem dX7_layGears_46 : decode cX7_layGears 46 = .ok (.aload_n 0, 1) := by decide +kernel
theorem dX7_layGears_47 : decode cX7_layGears 47 = .ok (.iload_n 2, 1) := by decide +kernel
theorem dX7_layGears_48 : decode cX7_layGears 48 = .ok (.invokevirtual 150, 3) := by decide +kernel
theorem dX7_layGears_51 : decode cX7_layGears 51 = .ok (.ifCond .eq 148, 3) := by decide +kernel
theorem dX7_layGears_54 : decode cX7_layGears 54 = .ok (.aload_n 0, 1) := by decide +kernel
theorem dX7_layGears_55 : decode cX7_layGears 55 = .ok (.iload_n 2, 1) := by decide +kernel
theorem dX7_layGears_56 : decode cX7_layGears 56 = .ok (.invokevirtual 117, 3) := by decide +kernel
theorem dX7_layGears_59 : decode cX7_layGears 59 = .ok (.aload_n 0, 1) := by decide +kernel
theorem dX7_layGears_60 : decode cX7_layGears 60 = .ok (.iconst 0, 1) := by decide +kernel
theorem dX7_layGears_61 : decode cX7_layGears 61 = .ok (.invokevirtual 141, 3) := by decide +kernel
theorem dX7_layGears_64 : decode cX7_layGears 64 = .ok (.lstore_n 3, 1) := by decide +kernel
theorem dX7_layGears_65 : decode cX7_layGears 65 = .ok (.aload_n 0, 1) := by decide +kernel
theorem dX7_layGears_66 : decode cX7_layGears 66 = .ok (.iconst 1, 1) := by decide +kernel
theorem dX7_layGears_67 : decode cX7_layGears 67 = .ok (.invokevirtual 141, 3) := by decide +kernel
theorem dX7_layGears_70 : decode cX7_layGears 70 = .ok (.lstore 5, 2) := by decide +kernel
theorem dX7_layGears_72 : decode cX7_layGears 72 = .ok (.aload_n 0, 1) := by decide +kernel
theorem dX7_layGears_73 : decode cX7_layGears 73 = .ok (.getfield 67, 3) := by decide +kernel
theorem dX7_layGears_76 : decode cX7_layGears 76 = .ok (.istore 7, 2) := by decide +kernel
theorem dX7_layGears_78 : decode cX7_layGears 78 = .ok (.iload 7, 2) := by decide +kernel
theorem dX7_layGears_80 : decode cX7_layGears 80 = .ok (.ifCond .le 84, 3) := by decide +kernel
theorem dX7_layGears_83 : decode cX7_layGears 83 = .ok (.lload_n 3, 1) := by decide +kernel
theorem dX7_layGears_84 : decode cX7_layGears 84 = .ok (.aload_n 0, 1) := by decide +kernel
theorem dX7_layGears_85 : decode cX7_layGears 85 = .ok (.getfield 39, 3) := by decide +kernel
theorem dX7_layGears_88 : decode cX7_layGears 88 = .ok (.iload 7, 2) := by decide +kernel
theorem dX7_layGears_90 : decode cX7_layGears 90 = .ok (.iconst 1, 1) := by decide +kernel
theorem dX7_layGears_91 : decode cX7_layGears 91 = .ok (.isub, 1) := by decide +kernel
theorem dX7_layGears_92 : decode cX7_layGears 92 = .ok (.laload, 1) := by decide +kernel
theorem dX7_layGears_93 : decode cX7_layGears 93 = .ok (.lmul, 1) := by decide +kernel
theorem dX7_layGears_94 : decode cX7_layGears 94 = .ok (.aload_n 0, 1) := by decide +kernel
theorem dX7_layGears_95 : decode cX7_layGears 95 = .ok (.getfield 36, 3) := by decide +kernel
theorem dX7_layGears_98 : decode cX7_layGears 98 = .ok (.iload 7, 2) := by decide +kernel
theorem dX7_layGears_100 : decode cX7_layGears 100 = .ok (.iconst 1, 1) := by decide +kernel
theorem dX7_layGears_101 : decode cX7_layGears 101 = .ok (.isub, 1) := by decide +kernel
theorem dX7_layGears_102 : decode cX7_layGears 102 = .ok (.laload, 1) := by decide +kernel
theorem dX7_layGears_103 : decode cX7_layGears 103 = .ok (.lload 5, 2) := by decide +kernel
theorem dX7_layGears_105 : decode cX7_layGears 105 = .ok (.lmul, 1) := by decide +kernel
theorem dX7_layGears_106 : decode cX7_layGears 106 = .ok (.lcmp, 1) := by decide +kernel
theorem dX7_layGears_107 : decode cX7_layGears 107 = .ok (.ifCond .ge 57, 3) := by decide +kernel
theorem dX7_layGears_110 : decode cX7_layGears 110 = .ok (.aload_n 0, 1) := by decide +kernel
theorem dX7_layGears_111 : decode cX7_layGears 111 = .ok (.getfield 33, 3) := by decide +kernel
theorem dX7_layGears_114 : decode cX7_layGears 114 = .ok (.iload 7, 2) := by decide +kernel
theorem dX7_layGears_116 : decode cX7_layGears 116 = .ok (.aload_n 0, 1) := by decide +kernel
theorem dX7_layGears_117 : decode cX7_layGears 117 = .ok (.getfield 33, 3) := by decide +kernel
theorem dX7_layGears_120 : decode cX7_layGears 120 = .ok (.iload 7, 2) := by decide +kernel
theorem dX7_layGears_122 : decode cX7_layGears 122 = .ok (.iconst 1, 1) := by decide +kernel
theorem dX7_layGears_123 : decode cX7_layGears 123 = .ok (.isub, 1) := by decide +kernel
theorem dX7_layGears_124 : decode cX7_layGears 124 = .ok (.iaload, 1) := by decide +kernel
theorem dX7_layGears_125 : decode cX7_layGears 125 = .ok (.iastore, 1) := by decide +kernel
theorem dX7_layGears_126 : decode cX7_layGears 126 = .ok (.aload_n 0, 1) := by decide +kernel
theorem dX7_layGears_127 : decode cX7_layGears 127 = .ok (.getfield 36, 3) := by decide +kernel
theorem dX7_layGears_130 : decode cX7_layGears 130 = .ok (.iload 7, 2) := by decide +kernel
theorem dX7_layGears_132 : decode cX7_layGears 132 = .ok (.aload_n 0, 1) := by decide +kernel
theorem dX7_layGears_133 : decode cX7_layGears 133 = .ok (.getfield 36, 3) := by decide +kernel
theorem dX7_layGears_136 : decode cX7_layGears 136 = .ok (.iload 7, 2) := by decide +kernel
theorem dX7_layGears_138 : decode cX7_layGears 138 = .ok (.iconst 1, 1) := by decide +kernel
theorem dX7_layGears_139 : decode cX7_layGears 139 = .ok (.isub, 1) := by decide +kernel
theorem dX7_layGears_140 : decode cX7_layGears 140 = .ok (.laload, 1) := by decide +kernel
theorem dX7_layGears_141 : decode cX7_layGears 141 = .ok (.lastore, 1) := by decide +kernel
theorem dX7_layGears_142 : decode cX7_layGears 142 = .ok (.aload_n 0, 1) := by decide +kernel
theorem dX7_layGears_143 : decode cX7_layGears 143 = .ok (.getfield 39, 3) := by decide +kernel
theorem dX7_layGears_146 : decode cX7_layGears 146 = .ok (.iload 7, 2) := by decide +kernel
theorem dX7_layGears_148 : decode cX7_layGears 148 = .ok (.aload_n 0, 1) := by decide +kernel
theorem dX7_layGears_149 : decode cX7_layGears 149 = .ok (.getfield 39, 3) := by decide +kernel
theorem dX7_layGears_152 : decode cX7_layGears 152 = .ok (.iload 7, 2) := by decide +kernel
theorem dX7_layGears_154 : decode cX7_layGears 154 = .ok (.iconst 1, 1) := by decide +kernel
theorem dX7_layGears_155 : decode cX7_layGears 155 = .ok (.isub, 1) := by decide +kernel
theorem dX7_layGears_156 : decode cX7_layGears 156 = .ok (.laload, 1) := by decide +kernel
theorem dX7_layGears_157 : decode cX7_layGears 157 = .ok (.lastore, 1) := by decide +kernel
theorem dX7_layGears_158 : decode cX7_layGears 158 = .ok (.iinc 7 (-1), 3) := by decide +kernel
theorem dX7_layGears_161 : decode cX7_layGears 161 = .ok (.goto (-83), 3) := by decide +kernel
theorem dX7_layGears_164 : decode cX7_layGears 164 = .ok (.aload_n 0, 1) := by decide +kernel
theorem dX7_layGears_165 : decode cX7_layGears 165 = .ok (.getfield 33, 3) := by decide +kernel
theorem dX7_layGears_168 : decode cX7_layGears 168 = .ok (.iload 7, 2) := by decide +kernel
theorem dX7_layGears_170 : decode cX7_layGears 170 = .ok (.iload_n 2, 1) := by decide +kernel
theorem dX7_layGears_171 : decode cX7_layGears 171 = .ok (.iastore, 1) := by decide +kernel
theorem dX7_layGears_172 : decode cX7_layGears 172 = .ok (.aload_n 0, 1) := by decide +kernel
theorem dX7_layGears_173 : decode cX7_layGears 173 = .ok (.getfield 36, 3) := by decide +kernel
theorem dX7_layGears_176 : decode cX7_layGears 176 = .ok (.iload 7, 2) := by decide +kernel
theorem dX7_layGears_178 : decode cX7_layGears 178 = .ok (.lload_n 3, 1) := by decide +kernel
theorem dX7_layGears_179 : decode cX7_layGears 179 = .ok (.lastore, 1) := by decide +kernel
theorem dX7_layGears_180 : decode cX7_layGears 180 = .ok (.aload_n 0, 1) := by decide +kernel
theorem dX7_layGears_181 : decode cX7_layGears 181 = .ok (.getfield 39, 3) := by decide +kernel
theorem dX7_layGears_184 : decode cX7_layGears 184 = .ok (.iload 7, 2) := by decide +kernel
theorem dX7_layGears_186 : decode cX7_layGears 186 = .ok (.lload 5, 2) := by decide +kernel
theorem dX7_layGears_188 : decode cX7_layGears 188 = .ok (.lastore, 1) := by decide +kernel
theorem dX7_layGears_189 : decode cX7_layGears 189 = .ok (.aload_n 0, 1) := by decide +kernel
theorem dX7_layGears_190 : decode cX7_layGears 190 = .ok (.dup, 1) := by decide +kernel
theorem dX7_layGears_191 : decode cX7_layGears 191 = .ok (.getfield 67, 3) := by decide +kernel
theorem dX7_layGears_194 : decode cX7_layGears 194 = .ok (.iconst 1, 1) := by decide +kernel
theorem dX7_layGears_195 : decode cX7_layGears 195 = .ok (.iadd, 1) := by decide +kernel
theorem dX7_layGears_196 : decode cX7_layGears 196 = .ok (.putfield 67, 3) := by decide +kernel
theorem dX7_layGears_199 : decode cX7_layGears 199 = .ok (.iinc 2 1, 3) := by decide +kernel
theorem dX7_layGears_202 : decode cX7_layGears 202 = .ok (.goto (-161), 3) := by decide +kernel
theorem dX7_layGears_205 : decode cX7_layGears 205 = .ok (.return_, 1) := by decide +kernel
theorem dX7_isNumber_0 : decode cX7_isNumber 0 = .ok (.iload_n 1, 1) := by decide +kernel
theorem dX7_isNumber_1 : decode cX7_isNumber 1 = .ok (.iconst 0, 1) := by decide +kernel
theorem dX7_isNumber_2 : decode cX7_isNumber 2 = .ok (.aload_n 0, 1) := by decide +kernel
theorem dX7_isNumber_3 : decode cX7_isNumber 3 = .ok (.getfield 67, 3) := by decide +kernel
theorem dX7_isNumber_6 : decode cX7_isNumber 6 = .ok (.iconst 1, 1) := by decide +kernel
theorem dX7_isNumber_7 : decode cX7_isNumber 7 = .ok (.isub, 1) := by decide +kernel
theorem dX7_isNumber_8 : decode cX7_isNumber 8 = .ok (.invokestatic 49, 3) := by decide +kernel
theorem dX7_isNumber_11 : decode cX7_isNumber 11 = .ok (.ireturn, 1) := by decide +kernel
theorem dX7_gear_0 : decode cX7_gear 0 = .ok (.aload_n 0, 1) := by decide +kernel
theorem dX7_gear_1 : decode cX7_gear 1 = .ok (.invokevirtual 64, 3) := by decide +kernel
theorem dX7_gear_4 : decode cX7_gear 4 = .ok (.aload_n 0, 1) := by decide +kernel
theorem dX7_gear_5 : decode cX7_gear 5 = .ok (.aload_n 0, 1) := by decide +kernel
theorem dX7_gear_6 : decode cX7_gear 6 = .ok (.iload_n 1, 1) := by decide +kernel
theorem dX7_gear_7 : decode cX7_gear 7 = .ok (.invokevirtual 153, 3) := by decide +kernel
theorem dX7_gear_10 : decode cX7_gear 10 = .ok (.ifCond .eq 7, 3) := by decide +kernel
theorem dX7_gear_13 : decode cX7_gear 13 = .ok (.iconst 0, 1) := by decide +kernel
theorem dX7_gear_14 : decode cX7_gear 14 = .ok (.goto 4, 3) := by decide +kernel
theorem dX7_gear_17 : decode cX7_gear 17 = .ok (.iconst 1, 1) := by decide +kernel
theorem dX7_gear_18 : decode cX7_gear 18 = .ok (.putfield 45, 3) := by decide +kernel
theorem dX7_gear_21 : decode cX7_gear 21 = .ok (.aload_n 0, 1) := by decide +kernel
theorem dX7_gear_22 : decode cX7_gear 22 = .ok (.getfield 45, 3) := by decide +kernel
theorem dX7_gear_25 : decode cX7_gear 25 = .ok (.ifCond .eq 7, 3) := by decide +kernel
theorem dX7_gear_28 : decode cX7_gear 28 = .ok (.iconst 0, 1) := by decide +kernel
theorem dX7_gear_29 : decode cX7_gear 29 = .ok (.goto 9, 3) := by decide +kernel
theorem dX7_gear_32 : decode cX7_gear 32 = .ok (.aload_n 0, 1) := by decide +kernel
theorem dX7_gear_33 : decode cX7_gear 33 = .ok (.getfield 33, 3) := by decide +kernel
theorem dX7_gear_36 : decode cX7_gear 36 = .ok (.iload_n 1, 1) := by decide +kernel
theorem dX7_gear_37 : decode cX7_gear 37 = .ok (.iaload, 1) := by decide +kernel
theorem dX7_gear_38 : decode cX7_gear 38 = .ok (.ireturn, 1) := by decide +kernel
theorem dX7_indexOf_0 : decode cX7_indexOf 0 = .ok (.aload_n 0, 1) := by decide +kernel
theorem dX7_indexOf_1 : decode cX7_indexOf 1 = .ok (.aload_n 0, 1) := by decide +kernel
theorem dX7_indexOf_2 : decode cX7_indexOf 2 = .ok (.iload_n 1, 1) := by decide +kernel
theorem dX7_indexOf_3 : decode cX7_indexOf 3 = .ok (.invokevirtual 81, 3) := by decide +kernel
theorem dX7_indexOf_6 : decode cX7_indexOf 6 = .ok (.ifCond .eq 7, 3) := by decide +kernel
theorem dX7_indexOf_9 : decode cX7_indexOf 9 = .ok (.iconst 0, 1) := by decide +kernel
theorem dX7_indexOf_10 : decode cX7_indexOf 10 = .ok (.goto 4, 3) := by decide +kernel
theorem dX7_indexOf_13 : decode cX7_indexOf 13 = .ok (.iconst 1, 1) := by decide +kernel
theorem dX7_indexOf_14 : decode cX7_indexOf 14 = .ok (.putfield 45, 3) := by decide +kernel
theorem dX7_indexOf_17 : decode cX7_indexOf 17 = .ok (.aload_n 0, 1) := by decide +kernel
theorem dX7_indexOf_18 : decode cX7_indexOf 18 = .ok (.getfield 45, 3) := by decide +kernel
theorem dX7_indexOf_21 : decode cX7_indexOf 21 = .ok (.ifCond .eq 5, 3) := by decide +kernel
theorem dX7_indexOf_24 : decode cX7_indexOf 24 = .ok (.iconst 0, 1) := by decide +kernel
theorem dX7_indexOf_25 : decode cX7_indexOf 25 = .ok (.ireturn, 1) := by decide +kernel
theorem dX7_indexOf_26 : decode cX7_indexOf 26 = .ok (.aload_n 0, 1) := by decide +kernel
theorem dX7_indexOf_27 : decode cX7_indexOf 27 = .ok (.invokevirtual 64, 3) := by decide +kernel
theorem dX7_indexOf_30 : decode cX7_indexOf 30 = .ok (.iconst (-1), 1) := by decide +kernel
theorem dX7_indexOf_31 : decode cX7_indexOf 31 = .ok (.istore_n 2, 1) := by decide +kernel
theorem dX7_indexOf_32 : decode cX7_indexOf 32 = .ok (.iconst 0, 1) := by decide +kernel
theorem dX7_indexOf_33 : decode cX7_indexOf 33 = .ok (.istore_n 3, 1) := by decide +kernel
theorem dX7_indexOf_34 : decode cX7_indexOf 34 = .ok (.iload_n 3, 1) := by decide +kernel
theorem dX7_indexOf_35 : decode cX7_indexOf 35 = .ok (.aload_n 0, 1) := by decide +kernel
theorem dX7_indexOf_36 : decode cX7_indexOf 36 = .ok (.getfield 67, 3) := by decide +kernel
theorem dX7_indexOf_39 : decode cX7_indexOf 39 = .ok (.if_icmp .ge 25, 3) := by decide +kernel
theorem dX7_indexOf_42 : decode cX7_indexOf 42 = .ok (.aload_n 0, 1) := by decide +kernel
theorem dX7_indexOf_43 : decode cX7_indexOf 43 = .ok (.getfield 33, 3) := by decide +kernel
theorem dX7_indexOf_46 : decode cX7_indexOf 46 = .ok (.iload_n 3, 1) := by decide +kernel
theorem dX7_indexOf_47 : decode cX7_indexOf 47 = .ok (.iaload, 1) := by decide +kernel
theorem dX7_indexOf_48 : decode cX7_indexOf 48 = .ok (.iload_n 1, 1) := by decide +kernel
theorem dX7_indexOf_49 : decode cX7_indexOf 49 = .ok (.if_icmp .ne 7, 3) := by decide +kernel
theorem dX7_indexOf_52 : decode cX7_indexOf 52 = .ok (.iload_n 3, 1) := by decide +kernel
theorem dX7_indexOf_53 : decode cX7_indexOf 53 = .ok (.goto 4, 3) := by decide +kernel
theorem dX7_indexOf_56 : decode cX7_indexOf 56 = .ok (.iload_n 2, 1) := by decide +kernel
theorem dX7_indexOf_57 : decode cX7_indexOf 57 = .ok (.istore_n 2, 1) := by decide +kernel
theorem dX7_indexOf_58 : decode cX7_indexOf 58 = .ok (.iinc 3 1, 3) := by decide +kernel
theorem dX7_indexOf_61 : decode cX7_indexOf 61 = .ok (.goto (-27), 3) := by decide +kernel
theorem dX7_indexOf_64 : decode cX7_indexOf 64 = .ok (.iload_n 2, 1) := by decide +kernel
theorem dX7_indexOf_65 : decode cX7_indexOf 65 = .ok (.ireturn, 1) := by decide +kernel
theorem dX7_gearRatio_0 : decode cX7_gearRatio 0 = .ok (.aload_n 0, 1) := by decide +kernel
theorem dX7_gearRatio_1 : decode cX7_gearRatio 1 = .ok (.invokevirtual 64, 3) := by decide +kernel
theorem dX7_gearRatio_4 : decode cX7_gearRatio 4 = .ok (.aload_n 0, 1) := by decide +kernel
theorem dX7_gearRatio_5 : decode cX7_gearRatio 5 = .ok (.aload_n 0, 1) := by decide +kernel
theorem dX7_gearRatio_6 : decode cX7_gearRatio 6 = .ok (.iload_n 1, 1) := by decide +kernel
theorem dX7_gearRatio_7 : decode cX7_gearRatio 7 = .ok (.invokevirtual 153, 3) := by decide +kernel
theorem dX7_gearRatio_10 : decode cX7_gearRatio 10 = .ok (.ifCond .ne 7, 3) := by decide +kernel
theorem dX7_gearRatio_13 : decode cX7_gearRatio 13 = .ok (.iconst 1, 1) := by decide +kernel
theorem dX7_gearRatio_14 : decode cX7_gearRatio 14 = .ok (.goto 15, 3) := by decide +kernel
theorem dX7_gearRatio_17 : decode cX7_gearRatio 17 = .ok (.iload_n 2, 1) := by decide +kernel
theorem dX7_gearRatio_18 : decode cX7_gearRatio 18 = .ok (.invokestatic 131, 3) := by decide +kernel
theorem dX7_gearRatio_21 : decode cX7_gearRatio 21 = .ok (.ifCond .ne 7, 3) := by decide +kernel
theorem dX7_gearRatio_24 : decode cX7_gearRatio 24 = .ok (.iconst 2, 1) := by decide +kernel
theorem dX7_gearRatio_25 : decode cX7_gearRatio 25 = .ok (.goto 4, 3) := by decide +kernel
theorem dX7_gearRatio_28 : decode cX7_gearRatio 28 = .ok (.iconst 0, 1) := by decide +kernel
theorem dX7_gearRatio_29 : decode cX7_gearRatio 29 = .ok (.putfield 45, 3) := by decide +kernel
theorem dX7_gearRatio_32 : decode cX7_gearRatio 32 = .ok (.aload_n 0, 1) := by decide +kernel
theorem dX7_gearRatio_33 : decode cX7_gearRatio 33 = .ok (.getfield 45, 3) := by decide +kernel
theorem dX7_gearRatio_36 : decode cX7_gearRatio 36 = .ok (.ifCond .eq 7, 3) := by decide +kernel
theorem dX7_gearRatio_39 : decode cX7_gearRatio 39 = .ok (.lconst 0, 1) := by decide +kernel
theorem dX7_gearRatio_40 : decode cX7_gearRatio 40 = .ok (.goto 22, 3) := by decide +kernel
theorem dX7_gearRatio_43 : decode cX7_gearRatio 43 = .ok (.iload_n 2, 1) := by decide +kernel
theorem dX7_gearRatio_44 : decode cX7_gearRatio 44 = .ok (.ifCond .ne 12, 3) := by decide +kernel
theorem dX7_gearRatio_47 : decode cX7_gearRatio 47 = .ok (.aload_n 0, 1) := by decide +kernel
theorem dX7_gearRatio_48 : decode cX7_gearRatio 48 = .ok (.getfield 36, 3) := by decide +kernel
theorem dX7_gearRatio_51 : decode cX7_gearRatio 51 = .ok (.iload_n 1, 1) := by decide +kernel
theorem dX7_gearRatio_52 : decode cX7_gearRatio 52 = .ok (.laload, 1) := by decide +kernel
theorem dX7_gearRatio_53 : decode cX7_gearRatio 53 = .ok (.goto 9, 3) := by decide +kernel
theorem dX7_gearRatio_56 : decode cX7_gearRatio 56 = .ok (.aload_n 0, 1) := by decide +kernel
theorem dX7_gearRatio_57 : decode cX7_gearRatio 57 = .ok (.getfield 39, 3) := by decide +kernel
theorem dX7_gearRatio_60 : decode cX7_gearRatio 60 = .ok (.iload_n 1, 1) := by decide +kernel
theorem dX7_gearRatio_61 : decode cX7_gearRatio 61 = .ok (.laload, 1) := by decide +kernel
theorem dX7_gearRatio_62 : decode cX7_gearRatio 62 = .ok (.lreturn, 1) := by decide +kernel
theorem dX7_ratioOf_0 : decode cX7_ratioOf 0 = .ok (.aload_n 0, 1) := by decide +kernel
theorem dX7_ratioOf_1 : decode cX7_ratioOf 1 = .ok (.getfield 36, 3) := by decide +kernel
theorem dX7_ratioOf_4 : decode cX7_ratioOf 4 = .ok (.iload_n 1, 1) := by decide +kernel
theorem dX7_ratioOf_5 : decode cX7_ratioOf 5 = .ok (.laload, 1) := by decide +kernel
theorem dX7_ratioOf_6 : decode cX7_ratioOf 6 = .ok (.l2f, 1) := by decide +kernel
theorem dX7_ratioOf_7 : decode cX7_ratioOf 7 = .ok (.aload_n 0, 1) := by decide +kernel
theorem dX7_ratioOf_8 : decode cX7_ratioOf 8 = .ok (.getfield 39, 3) := by decide +kernel
theorem dX7_ratioOf_11 : decode cX7_ratioOf 11 = .ok (.iload_n 1, 1) := by decide +kernel
theorem dX7_ratioOf_12 : decode cX7_ratioOf 12 = .ok (.laload, 1) := by decide +kernel
theorem dX7_ratioOf_13 : decode cX7_ratioOf 13 = .ok (.l2f, 1) := by decide +kernel
theorem dX7_ratioOf_14 : decode cX7_ratioOf 14 = .ok (.fdiv, 1) := by decide +kernel
theorem dX7_ratioOf_15 : decode cX7_ratioOf 15 = .ok (.freturn, 1) := by decide +kernel
theorem dX7_step_0 : decode cX7_step 0 = .ok (.aload_n 0, 1) := by decide +kernel
theorem dX7_step_1 : decode cX7_step 1 = .ok (.invokevirtual 64, 3) := by decide +kernel
theorem dX7_step_4 : decode cX7_step 4 = .ok (.aload_n 0, 1) := by decide +kernel
theorem dX7_step_5 : decode cX7_step 5 = .ok (.aload_n 0, 1) := by decide +kernel
theorem dX7_step_6 : decode cX7_step 6 = .ok (.iload_n 1, 1) := by decide +kernel
theorem dX7_step_7 : decode cX7_step 7 = .ok (.invokevirtual 153, 3) := by decide +kernel
theorem dX7_step_10 : decode cX7_step 10 = .ok (.ifCond .eq 17, 3) := by decide +kernel
theorem dX7_step_13 : decode cX7_step 13 = .ok (.iload_n 1, 1) := by decide +kernel
theorem dX7_step_14 : decode cX7_step 14 = .ok (.iconst 1, 1) := by decide +kernel
theorem dX7_step_15 : decode cX7_step 15 = .ok (.iadd, 1) := by decide +kernel
theorem dX7_step_16 : decode cX7_step 16 = .ok (.aload_n 0, 1) := by decide +kernel
theorem dX7_step_17 : decode cX7_step 17 = .ok (.getfield 67, 3) := by decide +kernel
theorem dX7_step_20 : decode cX7_step 20 = .ok (.if_icmp .ge 7, 3) := by decide +kernel
theorem dX7_step_23 : decode cX7_step 23 = .ok (.iconst 0, 1) := by decide +kernel
theorem dX7_step_24 : decode cX7_step 24 = .ok (.goto 4, 3) := by decide +kernel
theorem dX7_step_27 : decode cX7_step 27 = .ok (.iconst 1, 1) := by decide +kernel
theorem dX7_step_28 : decode cX7_step 28 = .ok (.putfield 45, 3) := by decide +kernel
theorem dX7_step_31 : decode cX7_step 31 = .ok (.aload_n 0, 1) := by decide +kernel
theorem dX7_step_32 : decode cX7_step 32 = .ok (.getfield 45, 3) := by decide +kernel
theorem dX7_step_35 : decode cX7_step 35 = .ok (.ifCond .eq 7, 3) := by decide +kernel
theorem dX7_step_38 : decode cX7_step 38 = .ok (.fconst 0, 1) := by decide +kernel
theorem dX7_step_39 : decode cX7_step 39 = .ok (.goto 16, 3) := by decide +kernel
theorem dX7_step_42 : decode cX7_step 42 = .ok (.aload_n 0, 1) := by decide +kernel
theorem dX7_step_43 : decode cX7_step 43 = .ok (.iload_n 1, 1) := by decide +kernel
theorem dX7_step_44 : decode cX7_step 44 = .ok (.iconst 1, 1) := by decide +kernel
theorem dX7_step_45 : decode cX7_step 45 = .ok (.iadd, 1) := by decide +kernel
theorem dX7_step_46 : decode cX7_step 46 = .ok (.invokevirtual 156, 3) := by decide +kernel
theorem dX7_step_49 : decode cX7_step 49 = .ok (.aload_n 0, 1) := by decide +kernel
theorem dX7_step_50 : decode cX7_step 50 = .ok (.iload_n 1, 1) := by decide +kernel
theorem dX7_step_51 : decode cX7_step 51 = .ok (.invokevirtual 156, 3) := by decide +kernel
theorem dX7_step_54 : decode cX7_step 54 = .ok (.fdiv, 1) := by decide +kernel
theorem dX7_step_55 : decode cX7_step 55 = .ok (.freturn, 1) := by decide +kernel
theorem dX7_bits_0 : decode cX7_bits 0 = .ok (.iconst 0, 1) := by decide +kernel
theorem dX7_bits_1 : decode cX7_bits 1 = .ok (.istore_n 1, 1) := by decide +kernel
theorem dX7_bits_2 : decode cX7_bits 2 = .ok (.iconst 0, 1) := by decide +kernel
theorem dX7_bits_3 : decode cX7_bits 3 = .ok (.istore_n 2, 1) := by decide +kernel
theorem dX7_bits_4 : decode cX7_bits 4 = .ok (.iload_n 2, 1) := by decide +kernel
theorem dX7_bits_5 : decode cX7_bits 5 = .ok (.bipush 6, 2) := by decide +kernel
theorem dX7_bits_7 : decode cX7_bits 7 = .ok (.if_icmp .ge 17, 3) := by decide +kernel
theorem dX7_bits_10 : decode cX7_bits 10 = .ok (.iload_n 1, 1) := by decide +kernel
theorem dX7_bits_11 : decode cX7_bits 11 = .ok (.iload_n 0, 1) := by decide +kernel
theorem dX7_bits_12 : decode cX7_bits 12 = .ok (.iload_n 2, 1) := by decide +kernel
theorem dX7_bits_13 : decode cX7_bits 13 = .ok (.ishr, 1) := by decide +kernel
theorem dX7_bits_14 : decode cX7_bits 14 = .ok (.iconst 1, 1) := by decide +kernel
theorem dX7_bits_15 : decode cX7_bits 15 = .ok (.iand, 1) := by decide +kernel
theorem dX7_bits_16 : decode cX7_bits 16 = .ok (.iadd, 1) := by decide +kernel
theorem dX7_bits_17 : decode cX7_bits 17 = .ok (.istore_n 1, 1) := by decide +kernel
theorem dX7_bits_18 : decode cX7_bits 18 = .ok (.iinc 2 1, 3) := by decide +kernel
theorem dX7_bits_21 : decode cX7_bits 21 = .ok (.goto (-17), 3) := by decide +kernel
theorem dX7_bits_24 : decode cX7_bits 24 = .ok (.iload_n 1, 1) := by decide +kernel
theorem dX7_bits_25 : decode cX7_bits 25 = .ok (.ireturn, 1) := by decide +kernel
theorem dX7_areNeighbours_0 : decode cX7_areNeighbours 0 = .ok (.aload_n 0, 1) := by decide +kernel
theorem dX7_areNeighbours_1 : decode cX7_areNeighbours 1 = .ok (.getfield 33, 3) := by decide +kernel
theorem dX7_areNeighbours_4 : decode cX7_areNeighbours 4 = .ok (.iload_n 1, 1) := by decide +kernel
theorem dX7_areNeighbours_5 : decode cX7_areNeighbours 5 = .ok (.iaload, 1) := by decide +kernel
theorem dX7_areNeighbours_6 : decode cX7_areNeighbours 6 = .ok (.aload_n 0, 1) := by decide +kernel
theorem dX7_areNeighbours_7 : decode cX7_areNeighbours 7 = .ok (.getfield 33, 3) := by decide +kernel
theorem dX7_areNeighbours_10 : decode cX7_areNeighbours 10 = .ok (.iload_n 2, 1) := by decide +kernel
theorem dX7_areNeighbours_11 : decode cX7_areNeighbours 11 = .ok (.iaload, 1) := by decide +kernel
theorem dX7_areNeighbours_12 : decode cX7_areNeighbours 12 = .ok (.iconst (-1), 1) := by decide +kernel
theorem dX7_areNeighbours_13 : decode cX7_areNeighbours 13 = .ok (.ixor, 1) := by decide +kernel
theorem dX7_areNeighbours_14 : decode cX7_areNeighbours 14 = .ok (.iand, 1) := by decide +kernel
theorem dX7_areNeighbours_15 : decode cX7_areNeighbours 15 = .ok (.invokestatic 160, 3) := by decide +kernel
theorem dX7_areNeighbours_18 : decode cX7_areNeighbours 18 = .ok (.iconst 1, 1) := by decide +kernel
theorem dX7_areNeighbours_19 : decode cX7_areNeighbours 19 = .ok (.if_icmp .ne 29, 3) := by decide +kernel
theorem dX7_areNeighbours_22 : decode cX7_areNeighbours 22 = .ok (.aload_n 0, 1) := by decide +kernel
theorem dX7_areNeighbours_23 : decode cX7_areNeighbours 23 = .ok (.getfield 33, 3) := by decide +kernel
theorem dX7_areNeighbours_26 : decode cX7_areNeighbours 26 = .ok (.iload_n 2, 1) := by decide +kernel
theorem dX7_areNeighbours_27 : decode cX7_areNeighbours 27 = .ok (.iaload, 1) := by decide +kernel
theorem dX7_areNeighbours_28 : decode cX7_areNeighbours 28 = .ok (.aload_n 0, 1) := by decide +kernel
theorem dX7_areNeighbours_29 : decode cX7_areNeighbours 29 = .ok (.getfield 33, 3) := by decide +kernel
theorem dX7_areNeighbours_32 : decode cX7_areNeighbours 32 = .ok (.iload_n 1, 1) := by decide +kernel
theorem dX7_areNeighbours_33 : decode cX7_areNeighbours 33 = .ok (.iaload, 1) := by decide +kernel
theorem dX7_areNeighbours_34 : decode cX7_areNeighbours 34 = .ok (.iconst (-1), 1) := by decide +kernel
theorem dX7_areNeighbours_35 : decode cX7_areNeighbours 35 = .ok (.ixor, 1) := by decide +kernel
theorem dX7_areNeighbours_36 : decode cX7_areNeighbours 36 = .ok (.iand, 1) := by decide +kernel
theorem dX7_areNeighbours_37 : decode cX7_areNeighbours 37 = .ok (.invokestatic 160, 3) := by decide +kernel
theorem dX7_areNeighbours_40 : decode cX7_areNeighbours 40 = .ok (.iconst 1, 1) := by decide +kernel
theorem dX7_areNeighbours_41 : decode cX7_areNeighbours 41 = .ok (.if_icmp .ne 7, 3) := by decide +kernel
theorem dX7_areNeighbours_44 : decode cX7_areNeighbours 44 = .ok (.iconst 1, 1) := by decide +kernel
theorem dX7_areNeighbours_45 : decode cX7_areNeighbours 45 = .ok (.goto 4, 3) := by decide +kernel
theorem dX7_areNeighbours_48 : decode cX7_areNeighbours 48 = .ok (.iconst 0, 1) := by decide +kernel
theorem dX7_areNeighbours_49 : decode cX7_areNeighbours 49 = .ok (.ireturn, 1) := by decide +kernel
theorem dX7_layAway_0 : decode cX7_layAway 0 = .ok (.iconst 0, 1) := by decide +kernel
theorem dX7_layAway_1 : decode cX7_layAway 1 = .ok (.istore_n 2, 1) := by decide +kernel
theorem dX7_layAway_2 : decode cX7_layAway 2 = .ok (.iload_n 2, 1) := by decide +kernel
theorem dX7_layAway_3 : decode cX7_layAway 3 = .ok (.aload_n 0, 1) := by decide +kernel
theorem dX7_layAway_4 : decode cX7_layAway 4 = .ok (.getfield 67, 3) := by decide +kernel
theorem dX7_layAway_7 : decode cX7_layAway 7 = .ok (.if_icmp .ge 25, 3) := by decide +kernel
theorem dX7_layAway_10 : decode cX7_layAway 10 = .ok (.aload_n 0, 1) := by decide +kernel
theorem dX7_layAway_11 : decode cX7_layAway 11 = .ok (.getfield 42, 3) := by decide +kernel
theorem dX7_layAway_14 : decode cX7_layAway 14 = .ok (.iload_n 2, 1) := by decide +kernel
theorem dX7_layAway_15 : decode cX7_layAway 15 = .ok (.iload_n 2, 1) := by decide +kernel
theorem dX7_layAway_16 : decode cX7_layAway 16 = .ok (.iload_n 1, 1) := by decide +kernel
theorem dX7_layAway_17 : decode cX7_layAway 17 = .ok (.if_icmp .ne 7, 3) := by decide +kernel
theorem dX7_layAway_20 : decode cX7_layAway 20 = .ok (.iconst 0, 1) := by decide +kernel
theorem dX7_layAway_21 : decode cX7_layAway 21 = .ok (.goto 4, 3) := by decide +kernel
theorem dX7_layAway_24 : decode cX7_layAway 24 = .ok (.iconst (-1), 1) := by decide +kernel
theorem dX7_layAway_25 : decode cX7_layAway 25 = .ok (.iastore, 1) := by decide +kernel
theorem dX7_layAway_26 : decode cX7_layAway 26 = .ok (.iinc 2 1, 3) := by decide +kernel
theorem dX7_layAway_29 : decode cX7_layAway 29 = .ok (.goto (-27), 3) := by decide +kernel
theorem dX7_layAway_32 : decode cX7_layAway 32 = .ok (.iconst 1, 1) := by decide +kernel
theorem dX7_layAway_33 : decode cX7_layAway 33 = .ok (.istore_n 2, 1) := by decide +kernel
theorem dX7_layAway_34 : decode cX7_layAway 34 = .ok (.iload_n 2, 1) := by decide +kernel
theorem dX7_layAway_35 : decode cX7_layAway 35 = .ok (.aload_n 0, 1) := by decide +kernel
theorem dX7_layAway_36 : decode cX7_layAway 36 = .ok (.getfield 67, 3) := by decide +kernel
theorem dX7_layAway_39 : decode cX7_layAway 39 = .ok (.if_icmp .ge 87, 3) := by decide +kernel
theorem dX7_layAway_42 : decode cX7_layAway 42 = .ok (.iconst 0, 1) := by decide +kernel
theorem dX7_layAway_43 : decode cX7_layAway 43 = .ok (.istore_n 3, 1) := by decide +kernel
theorem dX7_layAway_44 : decode cX7_layAway 44 = .ok (.iload_n 3, 1) := by decide +kernel
theorem dX7_layAway_45 : decode cX7_layAway 45 = .ok (.aload_n 0, 1) := by decide +kernel
theorem dX7_layAway_46 : decode cX7_layAway 46 = .ok (.getfield 67, 3) := by decide +kernel
theorem dX7_layAway_49 : decode cX7_layAway 49 = .ok (.if_icmp .ge 71, 3) := by decide +kernel
theorem dX7_layAway_52 : decode cX7_layAway 52 = .ok (.iconst 0, 1) := by decide +kernel
theorem dX7_layAway_53 : decode cX7_layAway 53 = .ok (.istore 4, 2) := by decide +kernel
theorem dX7_layAway_55 : decode cX7_layAway 55 = .ok (.iload 4, 2) := by decide +kernel
theorem dX7_layAway_57 : decode cX7_layAway 57 = .ok (.aload_n 0, 1) := by decide +kernel
theorem dX7_layAway_58 : decode cX7_layAway 58 = .ok (.getfield 67, 3) := by decide +kernel
theorem dX7_layAway_61 : decode cX7_layAway 61 = .ok (.if_icmp .ge 53, 3) := by decide +kernel
theorem dX7_layAway_64 : decode cX7_layAway 64 = .ok (.aload_n 0, 1) := by decide +kernel
theorem dX7_layAway_65 : decode cX7_layAway 65 = .ok (.getfield 42, 3) := by decide +kernel
theorem dX7_layAway_68 : decode cX7_layAway 68 = .ok (.iload_n 3, 1) := by decide +kernel
theorem dX7_layAway_69 : decode cX7_layAway 69 = .ok (.iaload, 1) := by decide +kernel
theorem dX7_layAway_70 : decode cX7_layAway 70 = .ok (.iconst (-1), 1) := by decide +kernel
theorem dX7_layAway_71 : decode cX7_layAway 71 = .ok (.if_icmp .ne 43, 3) := by decide +kernel
theorem dX7_layAway_74 : decode cX7_layAway 74 = .ok (.aload_n 0, 1) := by decide +kernel
theorem dX7_layAway_75 : decode cX7_layAway 75 = .ok (.getfield 42, 3) := by decide +kernel
theorem dX7_layAway_78 : decode cX7_layAway 78 = .ok (.iload_n 3, 1) := by decide +kernel
theorem dX7_layAway_79 : decode cX7_layAway 79 = .ok (.aload_n 0, 1) := by decide +kernel
theorem dX7_layAway_80 : decode cX7_layAway 80 = .ok (.getfield 42, 3) := by decide +kernel
theorem dX7_layAway_83 : decode cX7_layAway 83 = .ok (.iload 4, 2) := by decide +kernel
theorem dX7_layAway_85 : decode cX7_layAway 85 = .ok (.iaload, 1) := by decide +kernel
theorem dX7_layAway_86 : decode cX7_layAway 86 = .ok (.iload_n 2, 1) := by decide +kernel
theorem dX7_layAway_87 : decode cX7_layAway 87 = .ok (.iconst 1, 1) := by decide +kernel
theorem dX7_layAway_88 : decode cX7_layAway 88 = .ok (.isub, 1) := by decide +kernel
theorem dX7_layAway_89 : decode cX7_layAway 89 = .ok (.if_icmp .ne 17, 3) := by decide +kernel
theorem dX7_layAway_92 : decode cX7_layAway 92 = .ok (.aload_n 0, 1) := by decide +kernel
theorem dX7_layAway_93 : decode cX7_layAway 93 = .ok (.iload_n 3, 1) := by decide +kernel
theorem dX7_layAway_94 : decode cX7_layAway 94 = .ok (.iload 4, 2) := by decide +kernel
theorem dX7_layAway_96 : decode cX7_layAway 96 = .ok (.invokevirtual 163, 3) := by decide +kernel
theorem dX7_layAway_99 : decode cX7_layAway 99 = .ok (.ifCond .eq 7, 3) := by decide +kernel
theorem dX7_layAway_102 : decode cX7_layAway 102 = .ok (.iload_n 2, 1) := by decide +kernel
theorem dX7_layAway_103 : decode cX7_layAway 103 = .ok (.goto 4, 3) := by decide +kernel
theorem dX7_layAway_106 : decode cX7_layAway 106 = .ok (.iconst (-1), 1) := by decide +kernel
theorem dX7_layAway_107 : decode cX7_layAway 107 = .ok (.iastore, 1) := by decide +kernel
theorem dX7_layAway_108 : decode cX7_layAway 108 = .ok (.iinc 4 1, 3) := by decide +kernel
theorem dX7_layAway_111 : decode cX7_layAway 111 = .ok (.goto (-56), 3) := by decide +kernel
theorem dX7_layAway_114 : decode cX7_layAway 114 = .ok (.iinc 3 1, 3) := by decide +kernel
theorem dX7_layAway_117 : decode cX7_layAway 117 = .ok (.goto (-73), 3) := by decide +kernel
theorem dX7_layAway_120 : decode cX7_layAway 120 = .ok (.iinc 2 1, 3) := by decide +kernel
theorem dX7_layAway_123 : decode cX7_layAway 123 = .ok (.goto (-89), 3) := by decide +kernel
theorem dX7_layAway_126 : decode cX7_layAway 126 = .ok (.return_, 1) := by decide +kernel
theorem dX7_fewestShifts_0 : decode cX7_fewestShifts 0 = .ok (.aload_n 0, 1) := by decide +kernel
theorem dX7_fewestShifts_1 : decode cX7_fewestShifts 1 = .ok (.invokevirtual 64, 3) := by decide +kernel
theorem dX7_fewestShifts_4 : decode cX7_fewestShifts 4 = .ok (.aload_n 0, 1) := by decide +kernel
theorem dX7_fewestShifts_5 : decode cX7_fewestShifts 5 = .ok (.aload_n 0, 1) := by decide +kernel
theorem dX7_fewestShifts_6 : decode cX7_fewestShifts 6 = .ok (.iload_n 1, 1) := by decide +kernel
theorem dX7_fewestShifts_7 : decode cX7_fewestShifts 7 = .ok (.invokevirtual 153, 3) := by decide +kernel
theorem dX7_fewestShifts_10 : decode cX7_fewestShifts 10 = .ok (.ifCond .eq 15, 3) := by decide +kernel
theorem dX7_fewestShifts_13 : decode cX7_fewestShifts 13 = .ok (.aload_n 0, 1) := by decide +kernel
theorem dX7_fewestShifts_14 : decode cX7_fewestShifts 14 = .ok (.iload_n 2, 1) := by decide +kernel
theorem dX7_fewestShifts_15 : decode cX7_fewestShifts 15 = .ok (.invokevirtual 153, 3) := by decide +kernel
theorem dX7_fewestShifts_18 : decode cX7_fewestShifts 18 = .ok (.ifCond .eq 7, 3) := by decide +kernel
theorem dX7_fewestShifts_21 : decode cX7_fewestShifts 21 = .ok (.iconst 0, 1) := by decide +kernel
theorem dX7_fewestShifts_22 : decode cX7_fewestShifts 22 = .ok (.goto 4, 3) := by decide +kernel
theorem dX7_fewestShifts_25 : decode cX7_fewestShifts 25 = .ok (.iconst 1, 1) := by decide +kernel
theorem dX7_fewestShifts_26 : decode cX7_fewestShifts 26 = .ok (.putfield 45, 3) := by decide +kernel
theorem dX7_fewestShifts_29 : decode cX7_fewestShifts 29 = .ok (.aload_n 0, 1) := by decide +kernel
theorem dX7_fewestShifts_30 : decode cX7_fewestShifts 30 = .ok (.getfield 45, 3) := by decide +kernel
theorem dX7_fewestShifts_33 : decode cX7_fewestShifts 33 = .ok (.ifCond .eq 5, 3) := by decide +kernel
theorem dX7_fewestShifts_36 : decode cX7_fewestShifts 36 = .ok (.iconst 0, 1) := by decide +kernel
theorem dX7_fewestShifts_37 : decode cX7_fewestShifts 37 = .ok (.ireturn, 1) := by decide +kernel
theorem dX7_fewestShifts_38 : decode cX7_fewestShifts 38 = .ok (.aload_n 0, 1) := by decide +kernel
theorem dX7_fewestShifts_39 : decode cX7_fewestShifts 39 = .ok (.iload_n 2, 1) := by decide +kernel
theorem dX7_fewestShifts_40 : decode cX7_fewestShifts 40 = .ok (.invokevirtual 166, 3) := by decide +kernel
theorem dX7_fewestShifts_43 : decode cX7_fewestShifts 43 = .ok (.aload_n 0, 1) := by decide +kernel
theorem dX7_fewestShifts_44 : decode cX7_fewestShifts 44 = .ok (.getfield 42, 3) := by decide +kernel
theorem dX7_fewestShifts_47 : decode cX7_fewestShifts 47 = .ok (.iload_n 1, 1) := by decide +kernel
theorem dX7_fewestShifts_48 : decode cX7_fewestShifts 48 = .ok (.iaload, 1) := by decide +kernel
theorem dX7_fewestShifts_49 : decode cX7_fewestShifts 49 = .ok (.ireturn, 1) := by decide +kernel
theorem dX7_shift_0 : decode cX7_shift 0 = .ok (.aload_n 0, 1) := by decide +kernel
theorem dX7_shift_1 : decode cX7_shift 1 = .ok (.invokevirtual 64, 3) := by decide +kernel
theorem dX7_shift_4 : decode cX7_shift 4 = .ok (.aload_n 0, 1) := by decide +kernel
theorem dX7_shift_5 : decode cX7_shift 5 = .ok (.aload_n 0, 1) := by decide +kernel
theorem dX7_shift_6 : decode cX7_shift 6 = .ok (.iload_n 1, 1) := by decide +kernel
theorem dX7_shift_7 : decode cX7_shift 7 = .ok (.invokevirtual 153, 3) := by decide +kernel
theorem dX7_shift_10 : decode cX7_shift 10 = .ok (.ifCond .eq 15, 3) := by decide +kernel
theorem dX7_shift_13 : decode cX7_shift 13 = .ok (.aload_n 0, 1) := by decide +kernel
theorem dX7_shift_14 : decode cX7_shift 14 = .ok (.iload_n 2, 1) := by decide +kernel
theorem dX7_shift_15 : decode cX7_shift 15 = .ok (.invokevirtual 153, 3) := by decide +kernel
theorem dX7_shift_18 : decode cX7_shift 18 = .ok (.ifCond .eq 7, 3) := by decide +kernel
theorem dX7_shift_21 : decode cX7_shift 21 = .ok (.iconst 0, 1) := by decide +kernel
theorem dX7_shift_22 : decode cX7_shift 22 = .ok (.goto 4, 3) := by decide +kernel
theorem dX7_shift_25 : decode cX7_shift 25 = .ok (.iconst 1, 1) := by decide +kernel
theorem dX7_shift_26 : decode cX7_shift 26 = .ok (.putfield 45, 3) := by decide +kernel
theorem dX7_shift_29 : decode cX7_shift 29 = .ok (.aload_n 0, 1) := by decide +kernel
theorem dX7_shift_30 : decode cX7_shift 30 = .ok (.getfield 45, 3) := by decide +kernel
theorem dX7_shift_33 : decode cX7_shift 33 = .ok (.ifCond .eq 5, 3) := by decide +kernel
theorem dX7_shift_36 : decode cX7_shift 36 = .ok (.iconst 0, 1) := by decide +kernel
theorem dX7_shift_37 : decode cX7_shift 37 = .ok (.ireturn, 1) := by decide +kernel
theorem dX7_shift_38 : decode cX7_shift 38 = .ok (.aload_n 0, 1) := by decide +kernel
theorem dX7_shift_39 : decode cX7_shift 39 = .ok (.iload_n 2, 1) := by decide +kernel
theorem dX7_shift_40 : decode cX7_shift 40 = .ok (.invokevirtual 166, 3) := by decide +kernel
theorem dX7_shift_43 : decode cX7_shift 43 = .ok (.iload_n 3, 1) := by decide +kernel
theorem dX7_shift_44 : decode cX7_shift 44 = .ok (.iconst 0, 1) := by decide +kernel
theorem dX7_shift_45 : decode cX7_shift 45 = .ok (.aload_n 0, 1) := by decide +kernel
theorem dX7_shift_46 : decode cX7_shift 46 = .ok (.getfield 42, 3) := by decide +kernel
theorem dX7_shift_49 : decode cX7_shift 49 = .ok (.iload_n 1, 1) := by decide +kernel
theorem dX7_shift_50 : decode cX7_shift 50 = .ok (.iaload, 1) := by decide +kernel
theorem dX7_shift_51 : decode cX7_shift 51 = .ok (.invokestatic 49, 3) := by decide +kernel
theorem dX7_shift_54 : decode cX7_shift 54 = .ok (.ifCond .ne 5, 3) := by decide +kernel
theorem dX7_shift_57 : decode cX7_shift 57 = .ok (.iconst (-1), 1) := by decide +kernel
theorem dX7_shift_58 : decode cX7_shift 58 = .ok (.ireturn, 1) := by decide +kernel
theorem dX7_shift_59 : decode cX7_shift 59 = .ok (.iload_n 1, 1) := by decide +kernel
theorem dX7_shift_60 : decode cX7_shift 60 = .ok (.istore 4, 2) := by decide +kernel
theorem dX7_shift_62 : decode cX7_shift 62 = .ok (.iconst 0, 1) := by decide +kernel
theorem dX7_shift_63 : decode cX7_shift 63 = .ok (.istore 5, 2) := by decide +kernel
theorem dX7_shift_65 : decode cX7_shift 65 = .ok (.iload 5, 2) := by decide +kernel
theorem dX7_shift_67 : decode cX7_shift 67 = .ok (.iload_n 3, 1) := by decide +kernel
theorem dX7_shift_68 : decode cX7_shift 68 = .ok (.if_icmp .ge 52, 3) := by decide +kernel
theorem dX7_shift_71 : decode cX7_shift 71 = .ok (.iconst 0, 1) := by decide +kernel
theorem dX7_shift_72 : decode cX7_shift 72 = .ok (.istore 6, 2) := by decide +kernel
theorem dX7_shift_74 : decode cX7_shift 74 = .ok (.aload_n 0, 1) := by decide +kernel
theorem dX7_shift_75 : decode cX7_shift 75 = .ok (.getfield 42, 3) := by decide +kernel
theorem dX7_shift_78 : decode cX7_shift 78 = .ok (.iload 6, 2) := by decide +kernel
theorem dX7_shift_80 : decode cX7_shift 80 = .ok (.iaload, 1) := by decide +kernel
theorem dX7_shift_81 : decode cX7_shift 81 = .ok (.aload_n 0, 1) := by decide +kernel
theorem dX7_shift_82 : decode cX7_shift 82 = .ok (.getfield 42, 3) := by decide +kernel
theorem dX7_shift_85 : decode cX7_shift 85 = .ok (.iload 4, 2) := by decide +kernel
theorem dX7_shift_87 : decode cX7_shift 87 = .ok (.iaload, 1) := by decide +kernel
theorem dX7_shift_88 : decode cX7_shift 88 = .ok (.iconst 1, 1) := by decide +kernel
theorem dX7_shift_89 : decode cX7_shift 89 = .ok (.isub, 1) := by decide +kernel
theorem dX7_shift_90 : decode cX7_shift 90 = .ok (.if_icmp .ne 14, 3) := by decide +kernel
theorem dX7_shift_93 : decode cX7_shift 93 = .ok (.aload_n 0, 1) := by decide +kernel
theorem dX7_shift_94 : decode cX7_shift 94 = .ok (.iload 4, 2) := by decide +kernel
theorem dX7_shift_96 : decode cX7_shift 96 = .ok (.iload 6, 2) := by decide +kernel
theorem dX7_shift_98 : decode cX7_shift 98 = .ok (.invokevirtual 163, 3) := by decide +kernel
theorem dX7_shift_101 : decode cX7_shift 101 = .ok (.ifCond .ne 9, 3) := by decide +kernel
theorem dX7_shift_104 : decode cX7_shift 104 = .ok (.iinc 6 1, 3) := by decide +kernel
theorem dX7_shift_107 : decode cX7_shift 107 = .ok (.goto (-33), 3) := by decide +kernel
theorem dX7_shift_110 : decode cX7_shift 110 = .ok (.iload 6, 2) := by decide +kernel
theorem dX7_shift_112 : decode cX7_shift 112 = .ok (.istore 4, 2) := by decide +kernel
theorem dX7_shift_114 : decode cX7_shift 114 = .ok (.iinc 5 1, 3) := by decide +kernel
theorem dX7_shift_117 : decode cX7_shift 117 = .ok (.goto (-52), 3) := by decide +kernel
theorem dX7_shift_120 : decode cX7_shift 120 = .ok (.iload 4, 2) := by decide +kernel
theorem dX7_shift_122 : decode cX7_shift 122 = .ok (.ireturn, 1) := by decide +kernel
theorem dX7_save_0 : decode cX7_save 0 = .ok (.aload_n 0, 1) := by decide +kernel
theorem dX7_save_1 : decode cX7_save 1 = .ok (.iload_n 1, 1) := by decide +kernel
theorem dX7_save_2 : decode cX7_save 2 = .ok (.iconst 0, 1) := by decide +kernel
theorem dX7_save_3 : decode cX7_save 3 = .ok (.iconst 1, 1) := by decide +kernel
theorem dX7_save_4 : decode cX7_save 4 = .ok (.invokestatic 49, 3) := by decide +kernel
theorem dX7_save_7 : decode cX7_save 7 = .ok (.ifCond .eq 7, 3) := by decide +kernel
theorem dX7_save_10 : decode cX7_save 10 = .ok (.iconst 0, 1) := by decide +kernel
theorem dX7_save_11 : decode cX7_save 11 = .ok (.goto 4, 3) := by decide +kernel
theorem dX7_save_14 : decode cX7_save 14 = .ok (.iconst 1, 1) := by decide +kernel
theorem dX7_save_15 : decode cX7_save 15 = .ok (.putfield 45, 3) := by decide +kernel
theorem dX7_save_18 : decode cX7_save 18 = .ok (.aload_n 0, 1) := by decide +kernel
theorem dX7_save_19 : decode cX7_save 19 = .ok (.getfield 45, 3) := by decide +kernel
theorem dX7_save_22 : decode cX7_save 22 = .ok (.ifCond .ne 41, 3) := by decide +kernel
theorem dX7_save_25 : decode cX7_save 25 = .ok (.iconst 0, 1) := by decide +kernel
theorem dX7_save_26 : decode cX7_save 26 = .ok (.istore_n 2, 1) := by decide +kernel
theorem dX7_save_27 : decode cX7_save 27 = .ok (.iload_n 2, 1) := by decide +kernel
theorem dX7_save_28 : decode cX7_save 28 = .ok (.bipush 36, 2) := by decide +kernel
theorem dX7_save_30 : decode cX7_save 30 = .ok (.if_icmp .ge 26, 3) := by decide +kernel
theorem dX7_save_33 : decode cX7_save 33 = .ok (.aload_n 0, 1) := by decide +kernel
theorem dX7_save_34 : decode cX7_save 34 = .ok (.getfield 13, 3) := by decide +kernel
theorem dX7_save_37 : decode cX7_save 37 = .ok (.bipush 36, 2) := by decide +kernel
theorem dX7_save_39 : decode cX7_save 39 = .ok (.iload_n 1, 1) := by decide +kernel
theorem dX7_save_40 : decode cX7_save 40 = .ok (.imul, 1) := by decide +kernel
theorem dX7_save_41 : decode cX7_save 41 = .ok (.iload_n 2, 1) := by decide +kernel
theorem dX7_save_42 : decode cX7_save 42 = .ok (.iadd, 1) := by decide +kernel
theorem dX7_save_43 : decode cX7_save 43 = .ok (.aload_n 0, 1) := by decide +kernel
theorem dX7_save_44 : decode cX7_save 44 = .ok (.getfield 7, 3) := by decide +kernel
theorem dX7_save_47 : decode cX7_save 47 = .ok (.iload_n 2, 1) := by decide +kernel
theorem dX7_save_48 : decode cX7_save 48 = .ok (.iaload, 1) := by decide +kernel
theorem dX7_save_49 : decode cX7_save 49 = .ok (.iastore, 1) := by decide +kernel
theorem dX7_save_50 : decode cX7_save 50 = .ok (.iinc 2 1, 3) := by decide +kernel
theorem dX7_save_53 : decode cX7_save 53 = .ok (.goto (-26), 3) := by decide +kernel
theorem dX7_save_56 : decode cX7_save 56 = .ok (.aload_n 0, 1) := by decide +kernel
theorem dX7_save_57 : decode cX7_save 57 = .ok (.getfield 16, 3) := by decide +kernel
theorem dX7_save_60 : decode cX7_save 60 = .ok (.iload_n 1, 1) := by decide +kernel
theorem dX7_save_61 : decode cX7_save 61 = .ok (.iconst 1, 1) := by decide +kernel
theorem dX7_save_62 : decode cX7_save 62 = .ok (.bastore, 1) := by decide +kernel
theorem dX7_save_63 : decode cX7_save 63 = .ok (.return_, 1) := by decide +kernel
theorem dX7_restore_0 : decode cX7_restore 0 = .ok (.aload_n 0, 1) := by decide +kernel
theorem dX7_restore_1 : decode cX7_restore 1 = .ok (.iload_n 1, 1) := by decide +kernel
theorem dX7_restore_2 : decode cX7_restore 2 = .ok (.iconst 0, 1) := by decide +kernel
theorem dX7_restore_3 : decode cX7_restore 3 = .ok (.iconst 1, 1) := by decide +kernel
theorem dX7_restore_4 : decode cX7_restore 4 = .ok (.invokestatic 49, 3) := by decide +kernel
theorem dX7_restore_7 : decode cX7_restore 7 = .ok (.ifCond .ne 7, 3) := by decide +kernel
theorem dX7_restore_10 : decode cX7_restore 10 = .ok (.iconst 1, 1) := by decide +kernel
theorem dX7_restore_11 : decode cX7_restore 11 = .ok (.goto 17, 3) := by decide +kernel
theorem dX7_restore_14 : decode cX7_restore 14 = .ok (.aload_n 0, 1) := by decide +kernel
theorem dX7_restore_15 : decode cX7_restore 15 = .ok (.getfield 16, 3) := by decide +kernel
theorem dX7_restore_18 : decode cX7_restore 18 = .ok (.iload_n 1, 1) := by decide +kernel
theorem dX7_restore_19 : decode cX7_restore 19 = .ok (.baload, 1) := by decide +kernel
theorem dX7_restore_20 : decode cX7_restore 20 = .ok (.ifCond .ne 7, 3) := by decide +kernel
theorem dX7_restore_23 : decode cX7_restore 23 = .ok (.iconst 2, 1) := by decide +kernel
theorem dX7_restore_24 : decode cX7_restore 24 = .ok (.goto 4, 3) := by decide +kernel
theorem dX7_restore_27 : decode cX7_restore 27 = .ok (.iconst 0, 1) := by decide +kernel
theorem dX7_restore_28 : decode cX7_restore 28 = .ok (.putfield 45, 3) := by decide +kernel
theorem dX7_restore_31 : decode cX7_restore 31 = .ok (.aload_n 0, 1) := by decide +kernel
theorem dX7_restore_32 : decode cX7_restore 32 = .ok (.getfield 45, 3) := by decide +kernel
theorem dX7_restore_35 : decode cX7_restore 35 = .ok (.ifCond .ne 39, 3) := by decide +kernel
theorem dX7_restore_38 : decode cX7_restore 38 = .ok (.iconst 0, 1) := by decide +kernel
theorem dX7_restore_39 : decode cX7_restore 39 = .ok (.istore_n 2, 1) := by decide +kernel
theorem dX7_restore_40 : decode cX7_restore 40 = .ok (.iload_n 2, 1) := by decide +kernel
theorem dX7_restore_41 : decode cX7_restore 41 = .ok (.bipush 36, 2) := by decide +kernel
theorem dX7_restore_43 : decode cX7_restore 43 = .ok (.if_icmp .ge 26, 3) := by decide +kernel
theorem dX7_restore_46 : decode cX7_restore 46 = .ok (.aload_n 0, 1) := by decide +kernel
theorem dX7_restore_47 : decode cX7_restore 47 = .ok (.getfield 7, 3) := by decide +kernel
theorem dX7_restore_50 : decode cX7_restore 50 = .ok (.iload_n 2, 1) := by decide +kernel
theorem dX7_restore_51 : decode cX7_restore 51 = .ok (.aload_n 0, 1) := by decide +kernel
theorem dX7_restore_52 : decode cX7_restore 52 = .ok (.getfield 13, 3) := by decide +kernel
theorem dX7_restore_55 : decode cX7_restore 55 = .ok (.bipush 36, 2) := by decide +kernel
theorem dX7_restore_57 : decode cX7_restore 57 = .ok (.iload_n 1, 1) := by decide +kernel
theorem dX7_restore_58 : decode cX7_restore 58 = .ok (.imul, 1) := by decide +kernel
theorem dX7_restore_59 : decode cX7_restore 59 = .ok (.iload_n 2, 1) := by decide +kernel
theorem dX7_restore_60 : decode cX7_restore 60 = .ok (.iadd, 1) := by decide +kernel
theorem dX7_restore_61 : decode cX7_restore 61 = .ok (.iaload, 1) := by decide +kernel
theorem dX7_restore_62 : decode cX7_restore 62 = .ok (.iastore, 1) := by decide +kernel
theorem dX7_restore_63 : decode cX7_restore 63 = .ok (.iinc 2 1, 3) := by decide +kernel
theorem dX7_restore_66 : decode cX7_restore 66 = .ok (.goto (-26), 3) := by decide +kernel
theorem dX7_restore_69 : decode cX7_restore 69 = .ok (.aload_n 0, 1) := by decide +kernel
theorem dX7_restore_70 : decode cX7_restore 70 = .ok (.iconst 0, 1) := by decide +kernel
theorem dX7_restore_71 : decode cX7_restore 71 = .ok (.putfield 70, 3) := by decide +kernel
theorem dX7_restore_74 : decode cX7_restore 74 = .ok (.return_, 1) := by decide +kernel
end
section
theorem dL_addSet_0 : decode cL_addSet 0 = .ok (.aload 6, 2) := by decide +kernel
theorem dL_addSet_2 : decode cL_addSet 2 = .ok (.iconst 0, 1) := by decide +kernel
theorem dL_addSet_3 : decode cL_addSet 3 = .ok (.aload_n 0, 1) := by decide +kernel
theorem dL_addSet_4 : decode cL_addSet 4 = .ok (.iload_n 1, 1) := by decide +kernel
theorem dL_addSet_5 : decode cL_addSet 5 = .ok (.iload_n 2, 1) := by decide +kernel
theorem dL_addSet_6 : decode cL_addSet 6 = .ok (.iload_n 3, 1) := by decide +kernel
theorem dL_addSet_7 : decode cL_addSet 7 = .ok (.iload 4, 2) := by decide +kernel
theorem dL_addSet_9 : decode cL_addSet 9 = .ok (.iload 5, 2) := by decide +kernel
theorem dL_addSet_11 : decode cL_addSet 11 = .ok (.invokevirtual 7, 3) := by decide +kernel
theorem dL_addSet_14 : decode cL_addSet 14 = .ok (.i2l, 1) := by decide +kernel
theorem dL_addSet_15 : decode cL_addSet 15 = .ok (.lastore, 1) := by decide +kernel
theorem dL_addSet_16 : decode cL_addSet 16 = .ok (.goto 15, 3) := by decide +kernel
theorem dL_addSet_19 : decode cL_addSet 19 = .ok (.astore 7, 2) := by decide +kernel
theorem dL_addSet_21 : decode cL_addSet 21 = .ok (.iconst 1, 1) := by decide +kernel
theorem dL_addSet_22 : decode cL_addSet 22 = .ok (.ireturn, 1) := by decide +kernel
theorem dL_addSet_23 : decode cL_addSet 23 = .ok (.astore 7, 2) := by decide +kernel
theorem dL_addSet_25 : decode cL_addSet 25 = .ok (.iconst 2, 1) := by decide +kernel
theorem dL_addSet_26 : decode cL_addSet 26 = .ok (.ireturn, 1) := by decide +kernel
theorem dL_addSet_27 : decode cL_addSet 27 = .ok (.astore 7, 2) := by decide +kernel
theorem dL_addSet_29 : decode cL_addSet 29 = .ok (.iconst 3, 1) := by decide +kernel
theorem dL_addSet_30 : decode cL_addSet 30 = .ok (.ireturn, 1) := by decide +kernel
theorem dL_addSet_31 : decode cL_addSet 31 = .ok (.iconst 0, 1) := by decide +kernel
theorem dL_addSet_32 : decode cL_addSet 32 = .ok (.ireturn, 1) := by decide +kernel
theorem dL_addBrake_0 : decode cL_addBrake 0 = .ok (.aload_n 2, 1) := by decide +kernel
theorem dL_addBrake_1 : decode cL_addBrake 1 = .ok (.iconst 0, 1) := by decide +kernel
theorem dL_addBrake_2 : decode cL_addBrake 2 = .ok (.aload_n 0, 1) := by decide +kernel
theorem dL_addBrake_3 : decode cL_addBrake 3 = .ok (.iload_n 1, 1) := by decide +kernel
theorem dL_addBrake_4 : decode cL_addBrake 4 = .ok (.invokevirtual 19, 3) := by decide +kernel
theorem dL_addBrake_7 : decode cL_addBrake 7 = .ok (.i2l, 1) := by decide +kernel
theorem dL_addBrake_8 : decode cL_addBrake 8 = .ok (.lastore, 1) := by decide +kernel
theorem dL_addBrake_9 : decode cL_addBrake 9 = .ok (.goto 9, 3) := by decide +kernel
theorem dL_addBrake_12 : decode cL_addBrake 12 = .ok (.astore_n 3, 1) := by decide +kernel
theorem dL_addBrake_13 : decode cL_addBrake 13 = .ok (.iconst 1, 1) := by decide +kernel
theorem dL_addBrake_14 : decode cL_addBrake 14 = .ok (.ireturn, 1) := by decide +kernel
theorem dL_addBrake_15 : decode cL_addBrake 15 = .ok (.astore_n 3, 1) := by decide +kernel
theorem dL_addBrake_16 : decode cL_addBrake 16 = .ok (.iconst 2, 1) := by decide +kernel
theorem dL_addBrake_17 : decode cL_addBrake 17 = .ok (.ireturn, 1) := by decide +kernel
theorem dL_addBrake_18 : decode cL_addBrake 18 = .ok (.iconst 0, 1) := by decide +kernel
theorem dL_addBrake_19 : decode cL_addBrake 19 = .ok (.ireturn, 1) := by decide +kernel
theorem dL_addClutch_0 : decode cL_addClutch 0 = .ok (.aload_n 3, 1) := by decide +kernel
theorem dL_addClutch_1 : decode cL_addClutch 1 = .ok (.iconst 0, 1) := by decide +kernel
theorem dL_addClutch_2 : decode cL_addClutch 2 = .ok (.aload_n 0, 1) := by decide +kernel
theorem dL_addClutch_3 : decode cL_addClutch 3 = .ok (.iload_n 1, 1) := by decide +kernel
theorem dL_addClutch_4 : decode cL_addClutch 4 = .ok (.iload_n 2, 1) := by decide +kernel
theorem dL_addClutch_5 : decode cL_addClutch 5 = .ok (.invokevirtual 23, 3) := by decide +kernel
theorem dL_addClutch_8 : decode cL_addClutch 8 = .ok (.i2l, 1) := by decide +kernel
theorem dL_addClutch_9 : decode cL_addClutch 9 = .ok (.lastore, 1) := by decide +kernel
theorem dL_addClutch_10 : decode cL_addClutch 10 = .ok (.goto 15, 3) := by decide +kernel
theorem dL_addClutch_13 : decode cL_addClutch 13 = .ok (.astore 4, 2) := by decide +kernel
theorem dL_addClutch_15 : decode cL_addClutch 15 = .ok (.iconst 1, 1) := by decide +kernel
theorem dL_addClutch_16 : decode cL_addClutch 16 = .ok (.ireturn, 1) := by decide +kernel
theorem dL_addClutch_17 : decode cL_addClutch 17 = .ok (.astore 4, 2) := by decide +kernel
theorem dL_addClutch_19 : decode cL_addClutch 19 = .ok (.iconst 2, 1) := by decide +kernel
theorem dL_addClutch_20 : decode cL_addClutch 20 = .ok (.ireturn, 1) := by decide +kernel
theorem dL_addClutch_21 : decode cL_addClutch 21 = .ok (.astore 4, 2) := by decide +kernel
theorem dL_addClutch_23 : decode cL_addClutch 23 = .ok (.iconst 3, 1) := by decide +kernel
theorem dL_addClutch_24 : decode cL_addClutch 24 = .ok (.ireturn, 1) := by decide +kernel
theorem dL_addClutch_25 : decode cL_addClutch 25 = .ok (.iconst 0, 1) := by decide +kernel
theorem dL_addClutch_26 : decode cL_addClutch 26 = .ok (.ireturn, 1) := by decide +kernel
theorem dL_setCapacity_0 : decode cL_setCapacity 0 = .ok (.aload_n 3, 1) := by decide +kernel
theorem dL_setCapacity_1 : decode cL_setCapacity 1 = .ok (.iconst 0, 1) := by decide +kernel
theorem dL_setCapacity_2 : decode cL_setCapacity 2 = .ok (.aload_n 0, 1) := by decide +kernel
theorem dL_setCapacity_3 : decode cL_setCapacity 3 = .ok (.iload_n 1, 1) := by decide +kernel
theorem dL_setCapacity_4 : decode cL_setCapacity 4 = .ok (.iload_n 2, 1) := by decide +kernel
theorem dL_setCapacity_5 : decode cL_setCapacity 5 = .ok (.invokevirtual 27, 3) := by decide +kernel
theorem dL_setCapacity_8 : decode cL_setCapacity 8 = .ok (.i2l, 1) := by decide +kernel
theorem dL_setCapacity_9 : decode cL_setCapacity 9 = .ok (.lastore, 1) := by decide +kernel
theorem dL_setCapacity_10 : decode cL_setCapacity 10 = .ok (.goto 11, 3) := by decide +kernel
theorem dL_setCapacity_13 : decode cL_setCapacity 13 = .ok (.astore 4, 2) := by decide +kernel
theorem dL_setCapacity_15 : decode cL_setCapacity 15 = .ok (.iconst 1, 1) := by decide +kernel
theorem dL_setCapacity_16 : decode cL_setCapacity 16 = .ok (.ireturn, 1) := by decide +kernel
theorem dL_setCapacity_17 : decode cL_setCapacity 17 = .ok (.astore 4, 2) := by decide +kernel
theorem dL_setCapacity_19 : decode cL_setCapacity 19 = .ok (.iconst 2, 1) := by decide +kernel
theorem dL_setCapacity_20 : decode cL_setCapacity 20 = .ok (.ireturn, 1) := by decide +kernel
theorem dL_setCapacity_21 : decode cL_setCapacity 21 = .ok (.iconst 0, 1) := by decide +kernel
theorem dL_setCapacity_22 : decode cL_setCapacity 22 = .ok (.ireturn, 1) := by decide +kernel
theorem dL_count_0 : decode cL_count 0 = .ok (.aload_n 2, 1) := by decide +kernel
theorem dL_count_1 : decode cL_count 1 = .ok (.iconst 0, 1) := by decide +kernel
theorem dL_count_2 : decode cL_count 2 = .ok (.aload_n 0, 1) := by decide +kernel
theorem dL_count_3 : decode cL_count 3 = .ok (.iload_n 1, 1) := by decide +kernel
theorem dL_count_4 : decode cL_count 4 = .ok (.invokevirtual 30, 3) := by decide +kernel
theorem dL_count_7 : decode cL_count 7 = .ok (.i2l, 1) := by decide +kernel
theorem dL_count_8 : decode cL_count 8 = .ok (.lastore, 1) := by decide +kernel
theorem dL_count_9 : decode cL_count 9 = .ok (.goto 6, 3) := by decide +kernel
theorem dL_count_12 : decode cL_count 12 = .ok (.astore_n 3, 1) := by decide +kernel
theorem dL_count_13 : decode cL_count 13 = .ok (.iconst 1, 1) := by decide +kernel
theorem dL_count_14 : decode cL_count 14 = .ok (.ireturn, 1) := by decide +kernel
theorem dL_count_15 : decode cL_count 15 = .ok (.iconst 0, 1) := by decide +kernel
theorem dL_count_16 : decode cL_count 16 = .ok (.ireturn, 1) := by decide +kernel
theorem dL_engage_0 : decode cL_engage 0 = .ok (.aload_n 2, 1) := by decide +kernel
theorem dL_engage_1 : decode cL_engage 1 = .ok (.iconst 0, 1) := by decide +kernel
theorem dL_engage_2 : decode cL_engage 2 = .ok (.aload_n 0, 1) := by decide +kernel
theorem dL_engage_3 : decode cL_engage 3 = .ok (.iload_n 1, 1) := by decide +kernel
theorem dL_engage_4 : decode cL_engage 4 = .ok (.invokevirtual 33, 3) := by decide +kernel
theorem dL_engage_7 : decode cL_engage 7 = .ok (.ifCond .eq 7, 3) := by decide +kernel
theorem dL_engage_10 : decode cL_engage 10 = .ok (.lconst 1, 1) := by decide +kernel
theorem dL_engage_11 : decode cL_engage 11 = .ok (.goto 4, 3) := by decide +kernel
theorem dL_engage_14 : decode cL_engage 14 = .ok (.lconst 0, 1) := by decide +kernel
theorem dL_engage_15 : decode cL_engage 15 = .ok (.lastore, 1) := by decide +kernel
theorem dL_engage_16 : decode cL_engage 16 = .ok (.goto 6, 3) := by decide +kernel
theorem dL_engage_19 : decode cL_engage 19 = .ok (.astore_n 3, 1) := by decide +kernel
theorem dL_engage_20 : decode cL_engage 20 = .ok (.iconst 1, 1) := by decide +kernel
theorem dL_engage_21 : decode cL_engage 21 = .ok (.ireturn, 1) := by decide +kernel
theorem dL_engage_22 : decode cL_engage 22 = .ok (.iconst 0, 1) := by decide +kernel
theorem dL_engage_23 : decode cL_engage 23 = .ok (.ireturn, 1) := by decide +kernel
theorem dL_release_0 : decode cL_release 0 = .ok (.aload_n 2, 1) := by decide +kernel
theorem dL_release_1 : decode cL_release 1 = .ok (.iconst 0, 1) := by decide +kernel
theorem dL_release_2 : decode cL_release 2 = .ok (.aload_n 0, 1) := by decide +kernel
theorem dL_release_3 : decode cL_release 3 = .ok (.iload_n 1, 1) := by decide +kernel
theorem dL_release_4 : decode cL_release 4 = .ok (.invokevirtual 37, 3) := by decide +kernel
theorem dL_release_7 : decode cL_release 7 = .ok (.ifCond .eq 7, 3) := by decide +kernel
theorem dL_release_10 : decode cL_release 10 = .ok (.lconst 1, 1) := by decide +kernel
theorem dL_release_11 : decode cL_release 11 = .ok (.goto 4, 3) := by decide +kernel
theorem dL_release_14 : decode cL_release 14 = .ok (.lconst 0, 1) := by decide +kernel
theorem dL_release_15 : decode cL_release 15 = .ok (.lastore, 1) := by decide +kernel
theorem dL_release_16 : decode cL_release 16 = .ok (.goto 6, 3) := by decide +kernel
theorem dL_release_19 : decode cL_release 19 = .ok (.astore_n 3, 1) := by decide +kernel
theorem dL_release_20 : decode cL_release 20 = .ok (.iconst 1, 1) := by decide +kernel
theorem dL_release_21 : decode cL_release 21 = .ok (.ireturn, 1) := by decide +kernel
theorem dL_release_22 : decode cL_release 22 = .ok (.iconst 0, 1) := by decide +kernel
theorem dL_release_23 : decode cL_release 23 = .ok (.ireturn, 1) := by decide +kernel
theorem dL_select_0 : decode cL_select 0 = .ok (.aload_n 2, 1) := by decide +kernel
theorem dL_select_1 : decode cL_select 1 = .ok (.iconst 0, 1) := by decide +kernel
theorem dL_select_2 : decode cL_select 2 = .ok (.aload_n 0, 1) := by decide +kernel
theorem dL_select_3 : decode cL_select 3 = .ok (.iload_n 1, 1) := by decide +kernel
theorem dL_select_4 : decode cL_select 4 = .ok (.invokevirtual 40, 3) := by decide +kernel
theorem dL_select_7 : decode cL_select 7 = .ok (.i2l, 1) := by decide +kernel
theorem dL_select_8 : decode cL_select 8 = .ok (.lastore, 1) := by decide +kernel
theorem dL_select_9 : decode cL_select 9 = .ok (.goto 6, 3) := by decide +kernel
theorem dL_select_12 : decode cL_select 12 = .ok (.astore_n 3, 1) := by decide +kernel
theorem dL_select_13 : decode cL_select 13 = .ok (.iconst 1, 1) := by decide +kernel
theorem dL_select_14 : decode cL_select 14 = .ok (.ireturn, 1) := by decide +kernel
theorem dL_select_15 : decode cL_select 15 = .ok (.iconst 0, 1) := by decide +kernel
theorem dL_select_16 : decode cL_select 16 = .ok (.ireturn, 1) := by decide +kernel
theorem dL_speed_0 : decode cL_speed 0 = .ok (.aload_n 3, 1) := by decide +kernel
theorem dL_speed_1 : decode cL_speed 1 = .ok (.iconst 0, 1) := by decide +kernel
theorem dL_speed_2 : decode cL_speed 2 = .ok (.aload_n 0, 1) := by decide +kernel
theorem dL_speed_3 : decode cL_speed 3 = .ok (.iload_n 1, 1) := by decide +kernel
theorem dL_speed_4 : decode cL_speed 4 = .ok (.iload_n 2, 1) := by decide +kernel
theorem dL_speed_5 : decode cL_speed 5 = .ok (.invokevirtual 43, 3) := by decide +kernel
theorem dL_speed_8 : decode cL_speed 8 = .ok (.lastore, 1) := by decide +kernel
theorem dL_speed_9 : decode cL_speed 9 = .ok (.goto 15, 3) := by decide +kernel
theorem dL_speed_12 : decode cL_speed 12 = .ok (.astore 4, 2) := by decide +kernel
theorem dL_speed_14 : decode cL_speed 14 = .ok (.iconst 1, 1) := by decide +kernel
theorem dL_speed_15 : decode cL_speed 15 = .ok (.ireturn, 1) := by decide +kernel
theorem dL_speed_16 : decode cL_speed 16 = .ok (.astore 4, 2) := by decide +kernel
theorem dL_speed_18 : decode cL_speed 18 = .ok (.iconst 2, 1) := by decide +kernel
theorem dL_speed_19 : decode cL_speed 19 = .ok (.ireturn, 1) := by decide +kernel
theorem dL_speed_20 : decode cL_speed 20 = .ok (.astore 4, 2) := by decide +kernel
theorem dL_speed_22 : decode cL_speed 22 = .ok (.iconst 3, 1) := by decide +kernel
theorem dL_speed_23 : decode cL_speed 23 = .ok (.ireturn, 1) := by decide +kernel
theorem dL_speed_24 : decode cL_speed 24 = .ok (.iconst 0, 1) := by decide +kernel
theorem dL_speed_25 : decode cL_speed 25 = .ok (.ireturn, 1) := by decide +kernel
theorem dL_ratio_0 : decode cL_ratio 0 = .ok (.aload_n 2, 1) := by decide +kernel
theorem dL_ratio_1 : decode cL_ratio 1 = .ok (.iconst 0, 1) := by decide +kernel
theorem dL_ratio_2 : decode cL_ratio 2 = .ok (.aload_n 0, 1) := by decide +kernel
theorem dL_ratio_3 : decode cL_ratio 3 = .ok (.iload_n 1, 1) := by decide +kernel
theorem dL_ratio_4 : decode cL_ratio 4 = .ok (.invokevirtual 47, 3) := by decide +kernel
theorem dL_ratio_7 : decode cL_ratio 7 = .ok (.lastore, 1) := by decide +kernel
theorem dL_ratio_8 : decode cL_ratio 8 = .ok (.goto 9, 3) := by decide +kernel
theorem dL_ratio_11 : decode cL_ratio 11 = .ok (.astore_n 3, 1) := by decide +kernel
theorem dL_ratio_12 : decode cL_ratio 12 = .ok (.iconst 1, 1) := by decide +kernel
theorem dL_ratio_13 : decode cL_ratio 13 = .ok (.ireturn, 1) := by decide +kernel
theorem dL_ratio_14 : decode cL_ratio 14 = .ok (.astore_n 3, 1) := by decide +kernel
theorem dL_ratio_15 : decode cL_ratio 15 = .ok (.iconst 2, 1) := by decide +kernel
theorem dL_ratio_16 : decode cL_ratio 16 = .ok (.ireturn, 1) := by decide +kernel
theorem dL_ratio_17 : decode cL_ratio 17 = .ok (.iconst 0, 1) := by decide +kernel
theorem dL_ratio_18 : decode cL_ratio 18 = .ok (.ireturn, 1) := by decide +kernel
theorem dL_ratioAsFloat_0 : decode cL_ratioAsFloat 0 = .ok (.aload_n 1, 1) := by decide +kernel
theorem dL_ratioAsFloat_1 : decode cL_ratioAsFloat 1 = .ok (.iconst 0, 1) := by decide +kernel
theorem dL_ratioAsFloat_2 : decode cL_ratioAsFloat 2 = .ok (.aload_n 0, 1) := by decide +kernel
theorem dL_ratioAsFloat_3 : decode cL_ratioAsFloat 3 = .ok (.invokevirtual 51, 3) := by decide +kernel
theorem dL_ratioAsFloat_6 : decode cL_ratioAsFloat 6 = .ok (.f2d, 1) := by decide +kernel
theorem dL_ratioAsFloat_7 : decode cL_ratioAsFloat 7 = .ok (.dastore, 1) := by decide +kernel
theorem dL_ratioAsFloat_8 : decode cL_ratioAsFloat 8 = .ok (.goto 6, 3) := by decide +kernel
theorem dL_ratioAsFloat_11 : decode cL_ratioAsFloat 11 = .ok (.astore_n 2, 1) := by decide +kernel
theorem dL_ratioAsFloat_12 : decode cL_ratioAsFloat 12 = .ok (.iconst 1, 1) := by decide +kernel
theorem dL_ratioAsFloat_13 : decode cL_ratioAsFloat 13 = .ok (.ireturn, 1) := by decide +kernel
theorem dL_ratioAsFloat_14 : decode cL_ratioAsFloat 14 = .ok (.iconst 0, 1) := by decide +kernel
theorem dL_ratioAsFloat_15 : decode cL_ratioAsFloat 15 = .ok (.ireturn, 1) := by decide +kernel
theorem dL_outputTorque_0 : decode cL_outputTorque 0 = .ok (.aload_n 2, 1) := by decide +kernel
theorem dL_outputTorque_1 : decode cL_outputTorque 1 = .ok (.iconst 0, 1) := by decide +kernel
theorem dL_outputTorque_2 : decode cL_outputTorque 2 = .ok (.aload_n 0, 1) := by decide +kernel
theorem dL_outputTorque_3 : decode cL_outputTorque 3 = .ok (.iload_n 1, 1) := by decide +kernel
theorem dL_outputTorque_4 : decode cL_outputTorque 4 = .ok (.invokevirtual 55, 3) := by decide +kernel
theorem dL_outputTorque_7 : decode cL_outputTorque 7 = .ok (.lastore, 1) := by decide +kernel
theorem dL_outputTorque_8 : decode cL_outputTorque 8 = .ok (.goto 9, 3) := by decide +kernel
theorem dL_outputTorque_11 : decode cL_outputTorque 11 = .ok (.astore_n 3, 1) := by decide +kernel
theorem dL_outputTorque_12 : decode cL_outputTorque 12 = .ok (.iconst 1, 1) := by decide +kernel
theorem dL_outputTorque_13 : decode cL_outputTorque 13 = .ok (.ireturn, 1) := by decide +kernel
theorem dL_outputTorque_14 : decode cL_outputTorque 14 = .ok (.astore_n 3, 1) := by decide +kernel
theorem dL_outputTorque_15 : decode cL_outputTorque 15 = .ok (.iconst 2, 1) := by decide +kernel
theorem dL_outputTorque_16 : decode cL_outputTorque 16 = .ok (.ireturn, 1) := by decide +kernel
theorem dL_outputTorque_17 : decode cL_outputTorque 17 = .ok (.iconst 0, 1) := by decide +kernel
theorem dL_outputTorque_18 : decode cL_outputTorque 18 = .ok (.ireturn, 1) := by decide +kernel
theorem dL_torque_0 : decode cL_torque 0 = .ok (.aload_n 3, 1) := by decide +kernel
theorem dL_torque_1 : decode cL_torque 1 = .ok (.iconst 0, 1) := by decide +kernel
theorem dL_torque_2 : decode cL_torque 2 = .ok (.aload_n 0, 1) := by decide +kernel
theorem dL_torque_3 : decode cL_torque 3 = .ok (.iload_n 1, 1) := by decide +kernel
theorem dL_torque_4 : decode cL_torque 4 = .ok (.iload_n 2, 1) := by decide +kernel
theorem dL_torque_5 : decode cL_torque 5 = .ok (.invokevirtual 58, 3) := by decide +kernel
theorem dL_torque_8 : decode cL_torque 8 = .ok (.lastore, 1) := by decide +kernel
theorem dL_torque_9 : decode cL_torque 9 = .ok (.goto 15, 3) := by decide +kernel
theorem dL_torque_12 : decode cL_torque 12 = .ok (.astore 4, 2) := by decide +kernel
theorem dL_torque_14 : decode cL_torque 14 = .ok (.iconst 1, 1) := by decide +kernel
theorem dL_torque_15 : decode cL_torque 15 = .ok (.ireturn, 1) := by decide +kernel
theorem dL_torque_16 : decode cL_torque 16 = .ok (.astore 4, 2) := by decide +kernel
theorem dL_torque_18 : decode cL_torque 18 = .ok (.iconst 2, 1) := by decide +kernel
theorem dL_torque_19 : decode cL_torque 19 = .ok (.ireturn, 1) := by decide +kernel
theorem dL_torque_20 : decode cL_torque 20 = .ok (.astore 4, 2) := by decide +kernel
theorem dL_torque_22 : decode cL_torque 22 = .ok (.iconst 3, 1) := by decide +kernel
theorem dL_torque_23 : decode cL_torque 23 = .ok (.ireturn, 1) := by decide +kernel
theorem dL_torque_24 : decode cL_torque 24 = .ok (.iconst 0, 1) := by decide +kernel
theorem dL_torque_25 : decode cL_torque 25 = .ok (.ireturn, 1) := by decide +kernel
theorem dL_slipping_0 : decode cL_slipping 0 = .ok (.aload_n 2, 1) := by decide +kernel
theorem dL_slipping_1 : decode cL_slipping 1 = .ok (.iconst 0, 1) := by decide +kernel
theorem dL_slipping_2 : decode cL_slipping 2 = .ok (.aload_n 0, 1) := by decide +kernel
theorem dL_slipping_3 : decode cL_slipping 3 = .ok (.iload_n 1, 1) := by decide +kernel
theorem dL_slipping_4 : decode cL_slipping 4 = .ok (.invokevirtual 61, 3) := by decide +kernel
theorem dL_slipping_7 : decode cL_slipping 7 = .ok (.i2l, 1) := by decide +kernel
theorem dL_slipping_8 : decode cL_slipping 8 = .ok (.lastore, 1) := by decide +kernel
theorem dL_slipping_9 : decode cL_slipping 9 = .ok (.goto 6, 3) := by decide +kernel
theorem dL_slipping_12 : decode cL_slipping 12 = .ok (.astore_n 3, 1) := by decide +kernel
theorem dL_slipping_13 : decode cL_slipping 13 = .ok (.iconst 1, 1) := by decide +kernel
theorem dL_slipping_14 : decode cL_slipping 14 = .ok (.ireturn, 1) := by decide +kernel
theorem dL_slipping_15 : decode cL_slipping 15 = .ok (.iconst 0, 1) := by decide +kernel
theorem dL_slipping_16 : decode cL_slipping 16 = .ok (.ireturn, 1) := by decide +kernel
theorem dL_greatestTorque_0 : decode cL_greatestTorque 0 = .ok (.aload_n 1, 1) := by decide +kernel
theorem dL_greatestTorque_1 : decode cL_greatestTorque 1 = .ok (.iconst 0, 1) := by decide +kernel
theorem dL_greatestTorque_2 : decode cL_greatestTorque 2 = .ok (.aload_n 0, 1) := by decide +kernel
theorem dL_greatestTorque_3 : decode cL_greatestTorque 3 = .ok (.invokevirtual 64, 3) := by decide +kernel
theorem dL_greatestTorque_6 : decode cL_greatestTorque 6 = .ok (.i2l, 1) := by decide +kernel
theorem dL_greatestTorque_7 : decode cL_greatestTorque 7 = .ok (.lastore, 1) := by decide +kernel
theorem dL_greatestTorque_8 : decode cL_greatestTorque 8 = .ok (.goto 6, 3) := by decide +kernel
theorem dL_greatestTorque_11 : decode cL_greatestTorque 11 = .ok (.astore_n 2, 1) := by decide +kernel
theorem dL_greatestTorque_12 : decode cL_greatestTorque 12 = .ok (.iconst 1, 1) := by decide +kernel
theorem dL_greatestTorque_13 : decode cL_greatestTorque 13 = .ok (.ireturn, 1) := by decide +kernel
theorem dL_greatestTorque_14 : decode cL_greatestTorque 14 = .ok (.iconst 0, 1) := by decide +kernel
theorem dL_greatestTorque_15 : decode cL_greatestTorque 15 = .ok (.ireturn, 1) := by decide +kernel
theorem dL_gear_0 : decode cL_gear 0 = .ok (.aload_n 2, 1) := by decide +kernel
theorem dL_gear_1 : decode cL_gear 1 = .ok (.iconst 0, 1) := by decide +kernel
theorem dL_gear_2 : decode cL_gear 2 = .ok (.aload_n 0, 1) := by decide +kernel
theorem dL_gear_3 : decode cL_gear 3 = .ok (.iload_n 1, 1) := by decide +kernel
theorem dL_gear_4 : decode cL_gear 4 = .ok (.invokevirtual 68, 3) := by decide +kernel
theorem dL_gear_7 : decode cL_gear 7 = .ok (.i2l, 1) := by decide +kernel
theorem dL_gear_8 : decode cL_gear 8 = .ok (.lastore, 1) := by decide +kernel
theorem dL_gear_9 : decode cL_gear 9 = .ok (.goto 6, 3) := by decide +kernel
theorem dL_gear_12 : decode cL_gear 12 = .ok (.astore_n 3, 1) := by decide +kernel
theorem dL_gear_13 : decode cL_gear 13 = .ok (.iconst 1, 1) := by decide +kernel
theorem dL_gear_14 : decode cL_gear 14 = .ok (.ireturn, 1) := by decide +kernel
theorem dL_gear_15 : decode cL_gear 15 = .ok (.iconst 0, 1) := by decide +kernel
theorem dL_gear_16 : decode cL_gear 16 = .ok (.ireturn, 1) := by decide +kernel
theorem dL_indexOf_0 : decode cL_indexOf 0 = .ok (.aload_n 2, 1) := by decide +kernel
theorem dL_indexOf_1 : decode cL_indexOf 1 = .ok (.iconst 0, 1) := by decide +kernel
theorem dL_indexOf_2 : decode cL_indexOf 2 = .ok (.aload_n 0, 1) := by decide +kernel
theorem dL_indexOf_3 : decode cL_indexOf 3 = .ok (.iload_n 1, 1) := by decide +kernel
theorem dL_indexOf_4 : decode cL_indexOf 4 = .ok (.invokevirtual 71, 3) := by decide +kernel
theorem dL_indexOf_7 : decode cL_indexOf 7 = .ok (.i2l, 1) := by decide +kernel
theorem dL_indexOf_8 : decode cL_indexOf 8 = .ok (.lastore, 1) := by decide +kernel
theorem dL_indexOf_9 : decode cL_indexOf 9 = .ok (.goto 6, 3) := by decide +kernel
theorem dL_indexOf_12 : decode cL_indexOf 12 = .ok (.astore_n 3, 1) := by decide +kernel
theorem dL_indexOf_13 : decode cL_indexOf 13 = .ok (.iconst 1, 1) := by decide +kernel
theorem dL_indexOf_14 : decode cL_indexOf 14 = .ok (.ireturn, 1) := by decide +kernel
theorem dL_indexOf_15 : decode cL_indexOf 15 = .ok (.iconst 0, 1) := by decide +kernel
theorem dL_indexOf_16 : decode cL_indexOf 16 = .ok (.ireturn, 1) := by decide +kernel
theorem dL_gearRatio_0 : decode cL_gearRatio 0 = .ok (.aload_n 3, 1) := by decide +kernel
theorem dL_gearRatio_1 : decode cL_gearRatio 1 = .ok (.iconst 0, 1) := by decide +kernel
theorem dL_gearRatio_2 : decode cL_gearRatio 2 = .ok (.aload_n 0, 1) := by decide +kernel
theorem dL_gearRatio_3 : decode cL_gearRatio 3 = .ok (.iload_n 1, 1) := by decide +kernel
theorem dL_gearRatio_4 : decode cL_gearRatio 4 = .ok (.iload_n 2, 1) := by decide +kernel
theorem dL_gearRatio_5 : decode cL_gearRatio 5 = .ok (.invokevirtual 74, 3) := by decide +kernel
theorem dL_gearRatio_8 : decode cL_gearRatio 8 = .ok (.lastore, 1) := by decide +kernel
theorem dL_gearRatio_9 : decode cL_gearRatio 9 = .ok (.goto 11, 3) := by decide +kernel
theorem dL_gearRatio_12 : decode cL_gearRatio 12 = .ok (.astore 4, 2) := by decide +kernel
theorem dL_gearRatio_14 : decode cL_gearRatio 14 = .ok (.iconst 1, 1) := by decide +kernel
theorem dL_gearRatio_15 : decode cL_gearRatio 15 = .ok (.ireturn, 1) := by decide +kernel
theorem dL_gearRatio_16 : decode cL_gearRatio 16 = .ok (.astore 4, 2) := by decide +kernel
theorem dL_gearRatio_18 : decode cL_gearRatio 18 = .ok (.iconst 2, 1) := by decide +kernel
theorem dL_gearRatio_19 : decode cL_gearRatio 19 = .ok (.ireturn, 1) := by decide +kernel
theorem dL_gearRatio_20 : decode cL_gearRatio 20 = .ok (.iconst 0, 1) := by decide +kernel
theorem dL_gearRatio_21 : decode cL_gearRatio 21 = .ok (.ireturn, 1) := by decide +kernel
theorem dL_step_0 : decode cL_step 0 = .ok (.aload_n 2, 1) := by decide +kernel
theorem dL_step_1 : decode cL_step 1 = .ok (.iconst 0, 1) := by decide +kernel
theorem dL_step_2 : decode cL_step 2 = .ok (.aload_n 0, 1) := by decide +kernel
theorem dL_step_3 : decode cL_step 3 = .ok (.iload_n 1, 1) := by decide +kernel
theorem dL_step_4 : decode cL_step 4 = .ok (.invokevirtual 77, 3) := by decide +kernel
theorem dL_step_7 : decode cL_step 7 = .ok (.f2d, 1) := by decide +kernel
theorem dL_step_8 : decode cL_step 8 = .ok (.dastore, 1) := by decide +kernel
theorem dL_step_9 : decode cL_step 9 = .ok (.goto 6, 3) := by decide +kernel
theorem dL_step_12 : decode cL_step 12 = .ok (.astore_n 3, 1) := by decide +kernel
theorem dL_step_13 : decode cL_step 13 = .ok (.iconst 1, 1) := by decide +kernel
theorem dL_step_14 : decode cL_step 14 = .ok (.ireturn, 1) := by decide +kernel
theorem dL_step_15 : decode cL_step 15 = .ok (.iconst 0, 1) := by decide +kernel
theorem dL_step_16 : decode cL_step 16 = .ok (.ireturn, 1) := by decide +kernel
theorem dL_fewestShifts_0 : decode cL_fewestShifts 0 = .ok (.aload_n 3, 1) := by decide +kernel
theorem dL_fewestShifts_1 : decode cL_fewestShifts 1 = .ok (.iconst 0, 1) := by decide +kernel
theorem dL_fewestShifts_2 : decode cL_fewestShifts 2 = .ok (.aload_n 0, 1) := by decide +kernel
theorem dL_fewestShifts_3 : decode cL_fewestShifts 3 = .ok (.iload_n 1, 1) := by decide +kernel
theorem dL_fewestShifts_4 : decode cL_fewestShifts 4 = .ok (.iload_n 2, 1) := by decide +kernel
theorem dL_fewestShifts_5 : decode cL_fewestShifts 5 = .ok (.invokevirtual 81, 3) := by decide +kernel
theorem dL_fewestShifts_8 : decode cL_fewestShifts 8 = .ok (.i2l, 1) := by decide +kernel
theorem dL_fewestShifts_9 : decode cL_fewestShifts 9 = .ok (.lastore, 1) := by decide +kernel
theorem dL_fewestShifts_10 : decode cL_fewestShifts 10 = .ok (.goto 7, 3) := by decide +kernel
theorem dL_fewestShifts_13 : decode cL_fewestShifts 13 = .ok (.astore 4, 2) := by decide +kernel
theorem dL_fewestShifts_15 : decode cL_fewestShifts 15 = .ok (.iconst 1, 1) := by decide +kernel
theorem dL_fewestShifts_16 : decode cL_fewestShifts 16 = .ok (.ireturn, 1) := by decide +kernel
theorem dL_fewestShifts_17 : decode cL_fewestShifts 17 = .ok (.iconst 0, 1) := by decide +kernel
theorem dL_fewestShifts_18 : decode cL_fewestShifts 18 = .ok (.ireturn, 1) := by decide +kernel
theorem dL_shift_0 : decode cL_shift 0 = .ok (.aload 4, 2) := by decide +kernel
theorem dL_shift_2 : decode cL_shift 2 = .ok (.iconst 0, 1) := by decide +kernel
theorem dL_shift_3 : decode cL_shift 3 = .ok (.aload_n 0, 1) := by decide +kernel
theorem dL_shift_4 : decode cL_shift 4 = .ok (.iload_n 1, 1) := by decide +kernel
theorem dL_shift_5 : decode cL_shift 5 = .ok (.iload_n 2, 1) := by decide +kernel
theorem dL_shift_6 : decode cL_shift 6 = .ok (.iload_n 3, 1) := by decide +kernel
theorem dL_shift_7 : decode cL_shift 7 = .ok (.invokevirtual 84, 3) := by decide +kernel
theorem dL_shift_10 : decode cL_shift 10 = .ok (.i2l, 1) := by decide +kernel
theorem dL_shift_11 : decode cL_shift 11 = .ok (.lastore, 1) := by decide +kernel
theorem dL_shift_12 : decode cL_shift 12 = .ok (.goto 7, 3) := by decide +kernel
theorem dL_shift_15 : decode cL_shift 15 = .ok (.astore 5, 2) := by decide +kernel
theorem dL_shift_17 : decode cL_shift 17 = .ok (.iconst 1, 1) := by decide +kernel
theorem dL_shift_18 : decode cL_shift 18 = .ok (.ireturn, 1) := by decide +kernel
theorem dL_shift_19 : decode cL_shift 19 = .ok (.iconst 0, 1) := by decide +kernel
theorem dL_shift_20 : decode cL_shift 20 = .ok (.ireturn, 1) := by decide +kernel
theorem dL_save_0 : decode cL_save 0 = .ok (.aload_n 0, 1) := by decide +kernel
theorem dL_save_1 : decode cL_save 1 = .ok (.iload_n 1, 1) := by decide +kernel
theorem dL_save_2 : decode cL_save 2 = .ok (.invokevirtual 88, 3) := by decide +kernel
theorem dL_save_5 : decode cL_save 5 = .ok (.goto 6, 3) := by decide +kernel
theorem dL_save_8 : decode cL_save 8 = .ok (.astore_n 2, 1) := by decide +kernel
theorem dL_save_9 : decode cL_save 9 = .ok (.iconst 1, 1) := by decide +kernel
theorem dL_save_10 : decode cL_save 10 = .ok (.ireturn, 1) := by decide +kernel
theorem dL_save_11 : decode cL_save 11 = .ok (.iconst 0, 1) := by decide +kernel
theorem dL_save_12 : decode cL_save 12 = .ok (.ireturn, 1) := by decide +kernel
theorem dL_restore_0 : decode cL_restore 0 = .ok (.aload_n 0, 1) := by decide +kernel
theorem dL_restore_1 : decode cL_restore 1 = .ok (.iload_n 1, 1) := by decide +kernel
theorem dL_restore_2 : decode cL_restore 2 = .ok (.invokevirtual 92, 3) := by decide +kernel
theorem dL_restore_5 : decode cL_restore 5 = .ok (.goto 9, 3) := by decide +kernel
theorem dL_restore_8 : decode cL_restore 8 = .ok (.astore_n 2, 1) := by decide +kernel
theorem dL_restore_9 : decode cL_restore 9 = .ok (.iconst 1, 1) := by decide +kernel
theorem dL_restore_10 : decode cL_restore 10 = .ok (.ireturn, 1) := by decide +kernel
theorem dL_restore_11 : decode cL_restore 11 = .ok (.astore_n 2, 1) := by decide +kernel
theorem dL_restore_12 : decode cL_restore 12 = .ok (.iconst 2, 1) := by decide +kernel
theorem dL_restore_13 : decode cL_restore 13 = .ok (.ireturn, 1) := by decide +kernel
theorem dL_restore_14 : decode cL_restore 14 = .ok (.iconst 0, 1) := by decide +kernel
theorem dL_restore_15 : decode cL_restore 15 = .ok (.ireturn, 1) := by decide +kernel
theorem dL_law_0 : decode cL_law 0 = .ok (.new 8, 3) := by decide +kernel
theorem dL_law_3 : decode cL_law 3 = .ok (.dup, 1) := by decide +kernel
theorem dL_law_4 : decode cL_law 4 = .ok (.invokespecial 95, 3) := by decide +kernel
theorem dL_law_7 : decode cL_law 7 = .ok (.astore_n 1, 1) := by decide +kernel
theorem dL_law_8 : decode cL_law 8 = .ok (.new 96, 3) := by decide +kernel
theorem dL_law_11 : decode cL_law 11 = .ok (.dup, 1) := by decide +kernel
theorem dL_law_12 : decode cL_law 12 = .ok (.invokespecial 98, 3) := by decide +kernel
theorem dL_law_15 : decode cL_law 15 = .ok (.astore_n 2, 1) := by decide +kernel
theorem dL_law_16 : decode cL_law 16 = .ok (.iconst 1, 1) := by decide +kernel
theorem dL_law_17 : decode cL_law 17 = .ok (.newarray .long, 2) := by decide +kernel
theorem dL_law_19 : decode cL_law 19 = .ok (.astore_n 3, 1) := by decide +kernel
theorem dL_law_20 : decode cL_law 20 = .ok (.iconst 1, 1) := by decide +kernel
theorem dL_law_21 : decode cL_law 21 = .ok (.newarray .double, 2) := by decide +kernel
theorem dL_law_23 : decode cL_law 23 = .ok (.astore 4, 2) := by decide +kernel
theorem dL_law_25 : decode cL_law 25 = .ok (.iconst 0, 1) := by decide +kernel
theorem dL_law_26 : decode cL_law 26 = .ok (.istore 5, 2) := by decide +kernel
theorem dL_law_28 : decode cL_law 28 = .ok (.iload 5, 2) := by decide +kernel
theorem dL_law_30 : decode cL_law 30 = .ok (.aload_n 0, 1) := by decide +kernel
theorem dL_law_31 : decode cL_law 31 = .ok (.arraylength, 1) := by decide +kernel
theorem dL_law_32 : decode cL_law 32 = .ok (.bipush 6, 2) := by decide +kernel
theorem dL_law_34 : decode cL_law 34 = .ok (.isub, 1) := by decide +kernel
theorem dL_law_35 : decode cL_law 35 = .ok (.if_icmp .gt 1612, 3) := by decide +kernel
theorem dL_law_38 : decode cL_law 38 = .ok (.aload_n 0, 1) := by decide +kernel
theorem dL_law_39 : decode cL_law 39 = .ok (.iload 5, 2) := by decide +kernel
theorem dL_law_41 : decode cL_law 41 = .ok (.iaload, 1) := by decide +kernel
theorem dL_law_42 : decode cL_law 42 = .ok (.bipush 31, 2) := by decide +kernel
theorem dL_law_44 : decode cL_law 44 = .ok (.iand, 1) := by decide +kernel
theorem dL_law_45 : decode cL_law 45 = .ok (.tableswitch 1596 0 26 #[123, 227, 283, 351, 419, 475, 538, 601, 657, 670, 683, 696, 709, 776, 831, 897, 952, 1019, 1075, 1119, 1175, 1231, 1298, 1376, 1444, 1524, 1560], 123) := by decide +kernel
theorem dL_law_168 : decode cL_law 168 = .ok (.aload_n 1, 1) := by decide +kernel
theorem dL_law_169 : decode cL_law 169 = .ok (.aload_n 0, 1) := by decide +kernel
theorem dL_law_170 : decode cL_law 170 = .ok (.iload 5, 2) := by decide +kernel
theorem dL_law_172 : decode cL_law 172 = .ok (.iconst 1, 1) := by decide +kernel
theorem dL_law_173 : decode cL_law 173 = .ok (.iadd, 1) := by decide +kernel
theorem dL_law_174 : decode cL_law 174 = .ok (.iaload, 1) := by decide +kernel
theorem dL_law_175 : decode cL_law 175 = .ok (.aload_n 0, 1) := by decide +kernel
theorem dL_law_176 : decode cL_law 176 = .ok (.iload 5, 2) := by decide +kernel
theorem dL_law_178 : decode cL_law 178 = .ok (.iconst 2, 1) := by decide +kernel
theorem dL_law_179 : decode cL_law 179 = .ok (.iadd, 1) := by decide +kernel
theorem dL_law_180 : decode cL_law 180 = .ok (.iaload, 1) := by decide +kernel
theorem dL_law_181 : decode cL_law 181 = .ok (.aload_n 0, 1) := by decide +kernel
theorem dL_law_182 : decode cL_law 182 = .ok (.iload 5, 2) := by decide +kernel
theorem dL_law_184 : decode cL_law 184 = .ok (.iconst 3, 1) := by decide +kernel
theorem dL_law_185 : decode cL_law 185 = .ok (.iadd, 1) := by decide +kernel
theorem dL_law_186 : decode cL_law 186 = .ok (.iaload, 1) := by decide +kernel
theorem dL_law_187 : decode cL_law 187 = .ok (.aload_n 0, 1) := by decide +kernel
theorem dL_law_188 : decode cL_law 188 = .ok (.iload 5, 2) := by decide +kernel
theorem dL_law_190 : decode cL_law 190 = .ok (.iconst 4, 1) := by decide +kernel
theorem dL_law_191 : decode cL_law 191 = .ok (.iadd, 1) := by decide +kernel
theorem dL_law_192 : decode cL_law 192 = .ok (.iaload, 1) := by decide +kernel
theorem dL_law_193 : decode cL_law 193 = .ok (.aload_n 0, 1) := by decide +kernel
theorem dL_law_194 : decode cL_law 194 = .ok (.iload 5, 2) := by decide +kernel
theorem dL_law_196 : decode cL_law 196 = .ok (.iconst 5, 1) := by decide +kernel
theorem dL_law_197 : decode cL_law 197 = .ok (.iadd, 1) := by decide +kernel
theorem dL_law_198 : decode cL_law 198 = .ok (.iaload, 1) := by decide +kernel
theorem dL_law_199 : decode cL_law 199 = .ok (.aload_n 3, 1) := by decide +kernel
theorem dL_law_200 : decode cL_law 200 = .ok (.invokestatic 99, 3) := by decide +kernel
theorem dL_law_203 : decode cL_law 203 = .ok (.istore 6, 2) := by decide +kernel
theorem dL_law_205 : decode cL_law 205 = .ok (.aload_n 2, 1) := by decide +kernel
theorem dL_law_206 : decode cL_law 206 = .ok (.aload_n 0, 1) := by decide +kernel
theorem dL_law_207 : decode cL_law 207 = .ok (.iload 5, 2) := by decide +kernel
theorem dL_law_209 : decode cL_law 209 = .ok (.iconst 1, 1) := by decide +kernel
theorem dL_law_210 : decode cL_law 210 = .ok (.iadd, 1) := by decide +kernel
theorem dL_law_211 : decode cL_law 211 = .ok (.iaload, 1) := by decide +kernel
theorem dL_law_212 : decode cL_law 212 = .ok (.aload_n 0, 1) := by decide +kernel
theorem dL_law_213 : decode cL_law 213 = .ok (.iload 5, 2) := by decide +kernel
theorem dL_law_215 : decode cL_law 215 = .ok (.iconst 2, 1) := by decide +kernel
theorem dL_law_216 : decode cL_law 216 = .ok (.iadd, 1) := by decide +kernel
theorem dL_law_217 : decode cL_law 217 = .ok (.iaload, 1) := by decide +kernel
theorem dL_law_218 : decode cL_law 218 = .ok (.aload_n 0, 1) := by decide +kernel
theorem dL_law_219 : decode cL_law 219 = .ok (.iload 5, 2) := by decide +kernel
theorem dL_law_221 : decode cL_law 221 = .ok (.iconst 3, 1) := by decide +kernel
theorem dL_law_222 : decode cL_law 222 = .ok (.iadd, 1) := by decide +kernel
theorem dL_law_223 : decode cL_law 223 = .ok (.iaload, 1) := by decide +kernel
theorem dL_law_224 : decode cL_law 224 = .ok (.aload_n 0, 1) := by decide +kernel
theorem dL_law_225 : decode cL_law 225 = .ok (.iload 5, 2) := by decide +kernel
theorem dL_law_227 : decode cL_law 227 = .ok (.iconst 4, 1) := by decide +kernel
theorem dL_law_228 : decode cL_law 228 = .ok (.iadd, 1) := by decide +kernel
theorem dL_law_229 : decode cL_law 229 = .ok (.iaload, 1) := by decide +kernel
theorem dL_law_230 : decode cL_law 230 = .ok (.aload_n 0, 1) := by decide +kernel
theorem dL_law_231 : decode cL_law 231 = .ok (.iload 5, 2) := by decide +kernel
theorem dL_law_233 : decode cL_law 233 = .ok (.iconst 5, 1) := by decide +kernel
theorem dL_law_234 : decode cL_law 234 = .ok (.iadd, 1) := by decide +kernel
theorem dL_law_235 : decode cL_law 235 = .ok (.iaload, 1) := by decide +kernel
theorem dL_law_236 : decode cL_law 236 = .ok (.invokevirtual 104, 3) := by decide +kernel
theorem dL_law_239 : decode cL_law 239 = .ok (.istore 7, 2) := by decide +kernel
theorem dL_law_241 : decode cL_law 241 = .ok (.aload_n 2, 1) := by decide +kernel
theorem dL_law_242 : decode cL_law 242 = .ok (.invokevirtual 105, 3) := by decide +kernel
theorem dL_law_245 : decode cL_law 245 = .ok (.iload 6, 2) := by decide +kernel
theorem dL_law_247 : decode cL_law 247 = .ok (.if_icmp .eq 5, 3) := by decide +kernel
theorem dL_law_250 : decode cL_law 250 = .ok (.iconst 0, 1) := by decide +kernel
theorem dL_law_251 : decode cL_law 251 = .ok (.ireturn, 1) := by decide +kernel
theorem dL_law_252 : decode cL_law 252 = .ok (.iload 6, 2) := by decide +kernel
theorem dL_law_254 : decode cL_law 254 = .ok (.ifCond .ne 15, 3) := by decide +kernel
theorem dL_law_257 : decode cL_law 257 = .ok (.aload_n 3, 1) := by decide +kernel
theorem dL_law_258 : decode cL_law 258 = .ok (.iconst 0, 1) := by decide +kernel
theorem dL_law_259 : decode cL_law 259 = .ok (.laload, 1) := by decide +kernel
theorem dL_law_260 : decode cL_law 260 = .ok (.iload 7, 2) := by decide +kernel
theorem dL_law_262 : decode cL_law 262 = .ok (.i2l, 1) := by decide +kernel
theorem dL_law_263 : decode cL_law 263 = .ok (.lcmp, 1) := by decide +kernel
theorem dL_law_264 : decode cL_law 264 = .ok (.ifCond .eq 5, 3) := by decide +kernel
theorem dL_law_267 : decode cL_law 267 = .ok (.iconst 0, 1) := by decide +kernel
theorem dL_law_268 : decode cL_law 268 = .ok (.ireturn, 1) := by decide +kernel
theorem dL_law_269 : decode cL_law 269 = .ok (.goto 1372, 3) := by decide +kernel
theorem dL_law_272 : decode cL_law 272 = .ok (.aload_n 1, 1) := by decide +kernel
theorem dL_law_273 : decode cL_law 273 = .ok (.aload_n 0, 1) := by decide +kernel
theorem dL_law_274 : decode cL_law 274 = .ok (.iload 5, 2) := by decide +kernel
theorem dL_law_276 : decode cL_law 276 = .ok (.iconst 1, 1) := by decide +kernel
theorem dL_law_277 : decode cL_law 277 = .ok (.iadd, 1) := by decide +kernel
theorem dL_law_278 : decode cL_law 278 = .ok (.iaload, 1) := by decide +kernel
theorem dL_law_279 : decode cL_law 279 = .ok (.aload_n 3, 1) := by decide +kernel
theorem dL_law_280 : decode cL_law 280 = .ok (.invokestatic 108, 3) := by decide +kernel
theorem dL_law_283 : decode cL_law 283 = .ok (.istore 6, 2) := by decide +kernel
theorem dL_law_285 : decode cL_law 285 = .ok (.aload_n 2, 1) := by decide +kernel
theorem dL_law_286 : decode cL_law 286 = .ok (.aload_n 0, 1) := by decide +kernel
theorem dL_law_287 : decode cL_law 287 = .ok (.iload 5, 2) := by decide +kernel
theorem dL_law_289 : decode cL_law 289 = .ok (.iconst 1, 1) := by decide +kernel
theorem dL_law_290 : decode cL_law 290 = .ok (.iadd, 1) := by decide +kernel
theorem dL_law_291 : decode cL_law 291 = .ok (.iaload, 1) := by decide +kernel
theorem dL_law_292 : decode cL_law 292 = .ok (.invokevirtual 111, 3) := by decide +kernel
theorem dL_law_295 : decode cL_law 295 = .ok (.istore 7, 2) := by decide +kernel
theorem dL_law_297 : decode cL_law 297 = .ok (.aload_n 2, 1) := by decide +kernel
theorem dL_law_298 : decode cL_law 298 = .ok (.invokevirtual 105, 3) := by decide +kernel
theorem dL_law_301 : decode cL_law 301 = .ok (.iload 6, 2) := by decide +kernel
theorem dL_law_303 : decode cL_law 303 = .ok (.if_icmp .eq 5, 3) := by decide +kernel
theorem dL_law_306 : decode cL_law 306 = .ok (.iconst 0, 1) := by decide +kernel
theorem dL_law_307 : decode cL_law 307 = .ok (.ireturn, 1) := by decide +kernel
theorem dL_law_308 : decode cL_law 308 = .ok (.iload 6, 2) := by decide +kernel
theorem dL_law_310 : decode cL_law 310 = .ok (.ifCond .ne 15, 3) := by decide +kernel
theorem dL_law_313 : decode cL_law 313 = .ok (.aload_n 3, 1) := by decide +kernel
theorem dL_law_314 : decode cL_law 314 = .ok (.iconst 0, 1) := by decide +kernel
theorem dL_law_315 : decode cL_law 315 = .ok (.laload, 1) := by decide +kernel
theorem dL_law_316 : decode cL_law 316 = .ok (.iload 7, 2) := by decide +kernel
theorem dL_law_318 : decode cL_law 318 = .ok (.i2l, 1) := by decide +kernel
theorem dL_law_319 : decode cL_law 319 = .ok (.lcmp, 1) := by decide +kernel
theorem dL_law_320 : decode cL_law 320 = .ok (.ifCond .eq 5, 3) := by decide +kernel
theorem dL_law_323 : decode cL_law 323 = .ok (.iconst 0, 1) := by decide +kernel
theorem dL_law_324 : decode cL_law 324 = .ok (.ireturn, 1) := by decide +kernel
theorem dL_law_325 : decode cL_law 325 = .ok (.goto 1316, 3) := by decide +kernel
theorem dL_law_328 : decode cL_law 328 = .ok (.aload_n 1, 1) := by decide +kernel
theorem dL_law_329 : decode cL_law 329 = .ok (.aload_n 0, 1) := by decide +kernel
theorem dL_law_330 : decode cL_law 330 = .ok (.iload 5, 2) := by decide +kernel
theorem dL_law_332 : decode cL_law 332 = .ok (.iconst 1, 1) := by decide +kernel
theorem dL_law_333 : decode cL_law 333 = .ok (.iadd, 1) := by decide +kernel
theorem dL_law_334 : decode cL_law 334 = .ok (.iaload, 1) := by decide +kernel
theorem dL_law_335 : decode cL_law 335 = .ok (.aload_n 0, 1) := by decide +kernel
theorem dL_law_336 : decode cL_law 336 = .ok (.iload 5, 2) := by decide +kernel
theorem dL_law_338 : decode cL_law 338 = .ok (.iconst 2, 1) := by decide +kernel
theorem dL_law_339 : decode cL_law 339 = .ok (.iadd, 1) := by decide +kernel
theorem dL_law_340 : decode cL_law 340 = .ok (.iaload, 1) := by decide +kernel
theorem dL_law_341 : decode cL_law 341 = .ok (.aload_n 3, 1) := by decide +kernel
theorem dL_law_342 : decode cL_law 342 = .ok (.invokestatic 112, 3) := by decide +kernel
theorem dL_law_345 : decode cL_law 345 = .ok (.istore 6, 2) := by decide +kernel
theorem dL_law_347 : decode cL_law 347 = .ok (.aload_n 2, 1) := by decide +kernel
theorem dL_law_348 : decode cL_law 348 = .ok (.aload_n 0, 1) := by decide +kernel
theorem dL_law_349 : decode cL_law 349 = .ok (.iload 5, 2) := by decide +kernel
theorem dL_law_351 : decode cL_law 351 = .ok (.iconst 1, 1) := by decide +kernel
theorem dL_law_352 : decode cL_law 352 = .ok (.iadd, 1) := by decide +kernel
theorem dL_law_353 : decode cL_law 353 = .ok (.iaload, 1) := by decide +kernel
theorem dL_law_354 : decode cL_law 354 = .ok (.aload_n 0, 1) := by decide +kernel
theorem dL_law_355 : decode cL_law 355 = .ok (.iload 5, 2) := by decide +kernel
theorem dL_law_357 : decode cL_law 357 = .ok (.iconst 2, 1) := by decide +kernel
theorem dL_law_358 : decode cL_law 358 = .ok (.iadd, 1) := by decide +kernel
theorem dL_law_359 : decode cL_law 359 = .ok (.iaload, 1) := by decide +kernel
theorem dL_law_360 : decode cL_law 360 = .ok (.invokevirtual 115, 3) := by decide +kernel
theorem dL_law_363 : decode cL_law 363 = .ok (.istore 7, 2) := by decide +kernel
theorem dL_law_365 : decode cL_law 365 = .ok (.aload_n 2, 1) := by decide +kernel
theorem dL_law_366 : decode cL_law 366 = .ok (.invokevirtual 105, 3) := by decide +kernel
theorem dL_law_369 : decode cL_law 369 = .ok (.iload 6, 2) := by decide +kernel
theorem dL_law_371 : decode cL_law 371 = .ok (.if_icmp .eq 5, 3) := by decide +kernel
theorem dL_law_374 : decode cL_law 374 = .ok (.iconst 0, 1) := by decide +kernel
theorem dL_law_375 : decode cL_law 375 = .ok (.ireturn, 1) := by decide +kernel
theorem dL_law_376 : decode cL_law 376 = .ok (.iload 6, 2) := by decide +kernel
theorem dL_law_378 : decode cL_law 378 = .ok (.ifCond .ne 15, 3) := by decide +kernel
theorem dL_law_381 : decode cL_law 381 = .ok (.aload_n 3, 1) := by decide +kernel
theorem dL_law_382 : decode cL_law 382 = .ok (.iconst 0, 1) := by decide +kernel
theorem dL_law_383 : decode cL_law 383 = .ok (.laload, 1) := by decide +kernel
theorem dL_law_384 : decode cL_law 384 = .ok (.iload 7, 2) := by decide +kernel
theorem dL_law_386 : decode cL_law 386 = .ok (.i2l, 1) := by decide +kernel
theorem dL_law_387 : decode cL_law 387 = .ok (.lcmp, 1) := by decide +kernel
theorem dL_law_388 : decode cL_law 388 = .ok (.ifCond .eq 5, 3) := by decide +kernel
theorem dL_law_391 : decode cL_law 391 = .ok (.iconst 0, 1) := by decide +kernel
theorem dL_law_392 : decode cL_law 392 = .ok (.ireturn, 1) := by decide +kernel
theorem dL_law_393 : decode cL_law 393 = .ok (.goto 1248, 3) := by decide +kernel
theorem dL_law_396 : decode cL_law 396 = .ok (.aload_n 1, 1) := by decide +kernel
theorem dL_law_397 : decode cL_law 397 = .ok (.aload_n 0, 1) := by decide +kernel
theorem dL_law_398 : decode cL_law 398 = .ok (.iload 5, 2) := by decide +kernel
theorem dL_law_400 : decode cL_law 400 = .ok (.iconst 1, 1) := by decide +kernel
theorem dL_law_401 : decode cL_law 401 = .ok (.iadd, 1) := by decide +kernel
theorem dL_law_402 : decode cL_law 402 = .ok (.iaload, 1) := by decide +kernel
theorem dL_law_403 : decode cL_law 403 = .ok (.aload_n 0, 1) := by decide +kernel
theorem dL_law_404 : decode cL_law 404 = .ok (.iload 5, 2) := by decide +kernel
theorem dL_law_406 : decode cL_law 406 = .ok (.iconst 2, 1) := by decide +kernel
theorem dL_law_407 : decode cL_law 407 = .ok (.iadd, 1) := by decide +kernel
theorem dL_law_408 : decode cL_law 408 = .ok (.iaload, 1) := by decide +kernel
theorem dL_law_409 : decode cL_law 409 = .ok (.aload_n 3, 1) := by decide +kernel
theorem dL_law_410 : decode cL_law 410 = .ok (.invokestatic 116, 3) := by decide +kernel
theorem dL_law_413 : decode cL_law 413 = .ok (.istore 6, 2) := by decide +kernel
theorem dL_law_415 : decode cL_law 415 = .ok (.aload_n 2, 1) := by decide +kernel
theorem dL_law_416 : decode cL_law 416 = .ok (.aload_n 0, 1) := by decide +kernel
theorem dL_law_417 : decode cL_law 417 = .ok (.iload 5, 2) := by decide +kernel
theorem dL_law_419 : decode cL_law 419 = .ok (.iconst 1, 1) := by decide +kernel
theorem dL_law_420 : decode cL_law 420 = .ok (.iadd, 1) := by decide +kernel
theorem dL_law_421 : decode cL_law 421 = .ok (.iaload, 1) := by decide +kernel
theorem dL_law_422 : decode cL_law 422 = .ok (.aload_n 0, 1) := by decide +kernel
theorem dL_law_423 : decode cL_law 423 = .ok (.iload 5, 2) := by decide +kernel
theorem dL_law_425 : decode cL_law 425 = .ok (.iconst 2, 1) := by decide +kernel
theorem dL_law_426 : decode cL_law 426 = .ok (.iadd, 1) := by decide +kernel
theorem dL_law_427 : decode cL_law 427 = .ok (.iaload, 1) := by decide +kernel
theorem dL_law_428 : decode cL_law 428 = .ok (.invokevirtual 118, 3) := by decide +kernel
theorem dL_law_431 : decode cL_law 431 = .ok (.istore 7, 2) := by decide +kernel
theorem dL_law_433 : decode cL_law 433 = .ok (.aload_n 2, 1) := by decide +kernel
theorem dL_law_434 : decode cL_law 434 = .ok (.invokevirtual 105, 3) := by decide +kernel
theorem dL_law_437 : decode cL_law 437 = .ok (.iload 6, 2) := by decide +kernel
theorem dL_law_439 : decode cL_law 439 = .ok (.if_icmp .eq 5, 3) := by decide +kernel
theorem dL_law_442 : decode cL_law 442 = .ok (.iconst 0, 1) := by decide +kernel
theorem dL_law_443 : decode cL_law 443 = .ok (.ireturn, 1) := by decide +kernel
theorem dL_law_444 : decode cL_law 444 = .ok (.iload 6, 2) := by decide +kernel
theorem dL_law_446 : decode cL_law 446 = .ok (.ifCond .ne 15, 3) := by decide +kernel
theorem dL_law_449 : decode cL_law 449 = .ok (.aload_n 3, 1) := by decide +kernel
theorem dL_law_450 : decode cL_law 450 = .ok (.iconst 0, 1) := by decide +kernel
theorem dL_law_451 : decode cL_law 451 = .ok (.laload, 1) := by decide +kernel
theorem dL_law_452 : decode cL_law 452 = .ok (.iload 7, 2) := by decide +kernel
theorem dL_law_454 : decode cL_law 454 = .ok (.i2l, 1) := by decide +kernel
theorem dL_law_455 : decode cL_law 455 = .ok (.lcmp, 1) := by decide +kernel
theorem dL_law_456 : decode cL_law 456 = .ok (.ifCond .eq 5, 3) := by decide +kernel
theorem dL_law_459 : decode cL_law 459 = .ok (.iconst 0, 1) := by decide +kernel
theorem dL_law_460 : decode cL_law 460 = .ok (.ireturn, 1) := by decide +kernel
theorem dL_law_461 : decode cL_law 461 = .ok (.goto 1180, 3) := by decide +kernel
theorem dL_law_464 : decode cL_law 464 = .ok (.aload_n 1, 1) := by decide +kernel
theorem dL_law_465 : decode cL_law 465 = .ok (.aload_n 0, 1) := by decide +kernel
theorem dL_law_466 : decode cL_law 466 = .ok (.iload 5, 2) := by decide +kernel
theorem dL_law_468 : decode cL_law 468 = .ok (.iconst 1, 1) := by decide +kernel
theorem dL_law_469 : decode cL_law 469 = .ok (.iadd, 1) := by decide +kernel
theorem dL_law_470 : decode cL_law 470 = .ok (.iaload, 1) := by decide +kernel
theorem dL_law_471 : decode cL_law 471 = .ok (.aload_n 3, 1) := by decide +kernel
theorem dL_law_472 : decode cL_law 472 = .ok (.invokestatic 119, 3) := by decide +kernel
theorem dL_law_475 : decode cL_law 475 = .ok (.istore 6, 2) := by decide +kernel
theorem dL_law_477 : decode cL_law 477 = .ok (.aload_n 2, 1) := by decide +kernel
theorem dL_law_478 : decode cL_law 478 = .ok (.aload_n 0, 1) := by decide +kernel
theorem dL_law_479 : decode cL_law 479 = .ok (.iload 5, 2) := by decide +kernel
theorem dL_law_481 : decode cL_law 481 = .ok (.iconst 1, 1) := by decide +kernel
theorem dL_law_482 : decode cL_law 482 = .ok (.iadd, 1) := by decide +kernel
theorem dL_law_483 : decode cL_law 483 = .ok (.iaload, 1) := by decide +kernel
theorem dL_law_484 : decode cL_law 484 = .ok (.invokevirtual 121, 3) := by decide +kernel
theorem dL_law_487 : decode cL_law 487 = .ok (.istore 7, 2) := by decide +kernel
theorem dL_law_489 : decode cL_law 489 = .ok (.aload_n 2, 1) := by decide +kernel
theorem dL_law_490 : decode cL_law 490 = .ok (.invokevirtual 105, 3) := by decide +kernel
theorem dL_law_493 : decode cL_law 493 = .ok (.iload 6, 2) := by decide +kernel
theorem dL_law_495 : decode cL_law 495 = .ok (.if_icmp .eq 5, 3) := by decide +kernel
theorem dL_law_498 : decode cL_law 498 = .ok (.iconst 0, 1) := by decide +kernel
theorem dL_law_499 : decode cL_law 499 = .ok (.ireturn, 1) := by decide +kernel
theorem dL_law_500 : decode cL_law 500 = .ok (.iload 6, 2) := by decide +kernel
theorem dL_law_502 : decode cL_law 502 = .ok (.ifCond .ne 15, 3) := by decide +kernel
theorem dL_law_505 : decode cL_law 505 = .ok (.aload_n 3, 1) := by decide +kernel
theorem dL_law_506 : decode cL_law 506 = .ok (.iconst 0, 1) := by decide +kernel
theorem dL_law_507 : decode cL_law 507 = .ok (.laload, 1) := by decide +kernel
theorem dL_law_508 : decode cL_law 508 = .ok (.iload 7, 2) := by decide +kernel
theorem dL_law_510 : decode cL_law 510 = .ok (.i2l, 1) := by decide +kernel
theorem dL_law_511 : decode cL_law 511 = .ok (.lcmp, 1) := by decide +kernel
theorem dL_law_512 : decode cL_law 512 = .ok (.ifCond .eq 5, 3) := by decide +kernel
theorem dL_law_515 : decode cL_law 515 = .ok (.iconst 0, 1) := by decide +kernel
theorem dL_law_516 : decode cL_law 516 = .ok (.ireturn, 1) := by decide +kernel
theorem dL_law_517 : decode cL_law 517 = .ok (.goto 1124, 3) := by decide +kernel
theorem dL_law_520 : decode cL_law 520 = .ok (.aload_n 1, 1) := by decide +kernel
theorem dL_law_521 : decode cL_law 521 = .ok (.aload_n 0, 1) := by decide +kernel
theorem dL_law_522 : decode cL_law 522 = .ok (.iload 5, 2) := by decide +kernel
theorem dL_law_524 : decode cL_law 524 = .ok (.iconst 1, 1) := by decide +kernel
theorem dL_law_525 : decode cL_law 525 = .ok (.iadd, 1) := by decide +kernel
theorem dL_law_526 : decode cL_law 526 = .ok (.iaload, 1) := by decide +kernel
theorem dL_law_527 : decode cL_law 527 = .ok (.aload_n 3, 1) := by decide +kernel
theorem dL_law_528 : decode cL_law 528 = .ok (.invokestatic 122, 3) := by decide +kernel
theorem dL_law_531 : decode cL_law 531 = .ok (.istore 6, 2) := by decide +kernel
theorem dL_law_533 : decode cL_law 533 = .ok (.aload_n 2, 1) := by decide +kernel
theorem dL_law_534 : decode cL_law 534 = .ok (.aload_n 0, 1) := by decide +kernel
theorem dL_law_535 : decode cL_law 535 = .ok (.iload 5, 2) := by decide +kernel
theorem dL_law_537 : decode cL_law 537 = .ok (.iconst 1, 1) := by decide +kernel
theorem dL_law_538 : decode cL_law 538 = .ok (.iadd, 1) := by decide +kernel
theorem dL_law_539 : decode cL_law 539 = .ok (.iaload, 1) := by decide +kernel
theorem dL_law_540 : decode cL_law 540 = .ok (.invokevirtual 124, 3) := by decide +kernel
theorem dL_law_543 : decode cL_law 543 = .ok (.istore 7, 2) := by decide +kernel
theorem dL_law_545 : decode cL_law 545 = .ok (.aload_n 2, 1) := by decide +kernel
theorem dL_law_546 : decode cL_law 546 = .ok (.invokevirtual 105, 3) := by decide +kernel
theorem dL_law_549 : decode cL_law 549 = .ok (.iload 6, 2) := by decide +kernel
theorem dL_law_551 : decode cL_law 551 = .ok (.if_icmp .eq 5, 3) := by decide +kernel
theorem dL_law_554 : decode cL_law 554 = .ok (.iconst 0, 1) := by decide +kernel
theorem dL_law_555 : decode cL_law 555 = .ok (.ireturn, 1) := by decide +kernel
theorem dL_law_556 : decode cL_law 556 = .ok (.iload 6, 2) := by decide +kernel
theorem dL_law_558 : decode cL_law 558 = .ok (.ifCond .ne 22, 3) := by decide +kernel
theorem dL_law_561 : decode cL_law 561 = .ok (.aload_n 3, 1) := by decide +kernel
theorem dL_law_562 : decode cL_law 562 = .ok (.iconst 0, 1) := by decide +kernel
theorem dL_law_563 : decode cL_law 563 = .ok (.laload, 1) := by decide +kernel
theorem dL_law_564 : decode cL_law 564 = .ok (.iload 7, 2) := by decide +kernel
theorem dL_law_566 : decode cL_law 566 = .ok (.ifCond .eq 7, 3) := by decide +kernel
theorem dL_law_569 : decode cL_law 569 = .ok (.lconst 1, 1) := by decide +kernel
theorem dL_law_570 : decode cL_law 570 = .ok (.goto 4, 3) := by decide +kernel
theorem dL_law_573 : decode cL_law 573 = .ok (.lconst 0, 1) := by decide +kernel
theorem dL_law_574 : decode cL_law 574 = .ok (.lcmp, 1) := by decide +kernel
theorem dL_law_575 : decode cL_law 575 = .ok (.ifCond .eq 5, 3) := by decide +kernel
theorem dL_law_578 : decode cL_law 578 = .ok (.iconst 0, 1) := by decide +kernel
theorem dL_law_579 : decode cL_law 579 = .ok (.ireturn, 1) := by decide +kernel
theorem dL_law_580 : decode cL_law 580 = .ok (.goto 1061, 3) := by decide +kernel
theorem dL_law_583 : decode cL_law 583 = .ok (.aload_n 1, 1) := by decide +kernel
theorem dL_law_584 : decode cL_law 584 = .ok (.aload_n 0, 1) := by decide +kernel
theorem dL_law_585 : decode cL_law 585 = .ok (.iload 5, 2) := by decide +kernel
theorem dL_law_587 : decode cL_law 587 = .ok (.iconst 1, 1) := by decide +kernel
theorem dL_law_588 : decode cL_law 588 = .ok (.iadd, 1) := by decide +kernel
theorem dL_law_589 : decode cL_law 589 = .ok (.iaload, 1) := by decide +kernel
theorem dL_law_590 : decode cL_law 590 = .ok (.aload_n 3, 1) := by decide +kernel
theorem dL_law_591 : decode cL_law 591 = .ok (.invokestatic 125, 3) := by decide +kernel
theorem dL_law_594 : decode cL_law 594 = .ok (.istore 6, 2) := by decide +kernel
theorem dL_law_596 : decode cL_law 596 = .ok (.aload_n 2, 1) := by decide +kernel
theorem dL_law_597 : decode cL_law 597 = .ok (.aload_n 0, 1) := by decide +kernel
theorem dL_law_598 : decode cL_law 598 = .ok (.iload 5, 2) := by decide +kernel
theorem dL_law_600 : decode cL_law 600 = .ok (.iconst 1, 1) := by decide +kernel
theorem dL_law_601 : decode cL_law 601 = .ok (.iadd, 1) := by decide +kernel
theorem dL_law_602 : decode cL_law 602 = .ok (.iaload, 1) := by decide +kernel
theorem dL_law_603 : decode cL_law 603 = .ok (.invokevirtual 127, 3) := by decide +kernel
theorem dL_law_606 : decode cL_law 606 = .ok (.istore 7, 2) := by decide +kernel
theorem dL_law_608 : decode cL_law 608 = .ok (.aload_n 2, 1) := by decide +kernel
theorem dL_law_609 : decode cL_law 609 = .ok (.invokevirtual 105, 3) := by decide +kernel
theorem dL_law_612 : decode cL_law 612 = .ok (.iload 6, 2) := by decide +kernel
theorem dL_law_614 : decode cL_law 614 = .ok (.if_icmp .eq 5, 3) := by decide +kernel
theorem dL_law_617 : decode cL_law 617 = .ok (.iconst 0, 1) := by decide +kernel
theorem dL_law_618 : decode cL_law 618 = .ok (.ireturn, 1) := by decide +kernel
theorem dL_law_619 : decode cL_law 619 = .ok (.iload 6, 2) := by decide +kernel
theorem dL_law_621 : decode cL_law 621 = .ok (.ifCond .ne 22, 3) := by decide +kernel
theorem dL_law_624 : decode cL_law 624 = .ok (.aload_n 3, 1) := by decide +kernel
theorem dL_law_625 : decode cL_law 625 = .ok (.iconst 0, 1) := by decide +kernel
theorem dL_law_626 : decode cL_law 626 = .ok (.laload, 1) := by decide +kernel
theorem dL_law_627 : decode cL_law 627 = .ok (.iload 7, 2) := by decide +kernel
theorem dL_law_629 : decode cL_law 629 = .ok (.ifCond .eq 7, 3) := by decide +kernel
theorem dL_law_632 : decode cL_law 632 = .ok (.lconst 1, 1) := by decide +kernel
theorem dL_law_633 : decode cL_law 633 = .ok (.goto 4, 3) := by decide +kernel
theorem dL_law_636 : decode cL_law 636 = .ok (.lconst 0, 1) := by decide +kernel
theorem dL_law_637 : decode cL_law 637 = .ok (.lcmp, 1) := by decide +kernel
theorem dL_law_638 : decode cL_law 638 = .ok (.ifCond .eq 5, 3) := by decide +kernel
theorem dL_law_641 : decode cL_law 641 = .ok (.iconst 0, 1) := by decide +kernel
theorem dL_law_642 : decode cL_law 642 = .ok (.ireturn, 1) := by decide +kernel
theorem dL_law_643 : decode cL_law 643 = .ok (.goto 998, 3) := by decide +kernel
theorem dL_law_646 : decode cL_law 646 = .ok (.aload_n 1, 1) := by decide +kernel
theorem dL_law_647 : decode cL_law 647 = .ok (.aload_n 0, 1) := by decide +kernel
theorem dL_law_648 : decode cL_law 648 = .ok (.iload 5, 2) := by decide +kernel
theorem dL_law_650 : decode cL_law 650 = .ok (.iconst 1, 1) := by decide +kernel
theorem dL_law_651 : decode cL_law 651 = .ok (.iadd, 1) := by decide +kernel
theorem dL_law_652 : decode cL_law 652 = .ok (.iaload, 1) := by decide +kernel
theorem dL_law_653 : decode cL_law 653 = .ok (.aload_n 3, 1) := by decide +kernel
theorem dL_law_654 : decode cL_law 654 = .ok (.invokestatic 128, 3) := by decide +kernel
theorem dL_law_657 : decode cL_law 657 = .ok (.istore 6, 2) := by decide +kernel
theorem dL_law_659 : decode cL_law 659 = .ok (.aload_n 2, 1) := by decide +kernel
theorem dL_law_660 : decode cL_law 660 = .ok (.aload_n 0, 1) := by decide +kernel
theorem dL_law_661 : decode cL_law 661 = .ok (.iload 5, 2) := by decide +kernel
theorem dL_law_663 : decode cL_law 663 = .ok (.iconst 1, 1) := by decide +kernel
theorem dL_law_664 : decode cL_law 664 = .ok (.iadd, 1) := by decide +kernel
theorem dL_law_665 : decode cL_law 665 = .ok (.iaload, 1) := by decide +kernel
theorem dL_law_666 : decode cL_law 666 = .ok (.invokevirtual 130, 3) := by decide +kernel
theorem dL_law_669 : decode cL_law 669 = .ok (.istore 7, 2) := by decide +kernel
theorem dL_law_671 : decode cL_law 671 = .ok (.aload_n 2, 1) := by decide +kernel
theorem dL_law_672 : decode cL_law 672 = .ok (.invokevirtual 105, 3) := by decide +kernel
theorem dL_law_675 : decode cL_law 675 = .ok (.iload 6, 2) := by decide +kernel
theorem dL_law_677 : decode cL_law 677 = .ok (.if_icmp .eq 5, 3) := by decide +kernel
theorem dL_law_680 : decode cL_law 680 = .ok (.iconst 0, 1) := by decide +kernel
theorem dL_law_681 : decode cL_law 681 = .ok (.ireturn, 1) := by decide +kernel
theorem dL_law_682 : decode cL_law 682 = .ok (.iload 6, 2) := by decide +kernel
theorem dL_law_684 : decode cL_law 684 = .ok (.ifCond .ne 15, 3) := by decide +kernel
theorem dL_law_687 : decode cL_law 687 = .ok (.aload_n 3, 1) := by decide +kernel
theorem dL_law_688 : decode cL_law 688 = .ok (.iconst 0, 1) := by decide +kernel
theorem dL_law_689 : decode cL_law 689 = .ok (.laload, 1) := by decide +kernel
theorem dL_law_690 : decode cL_law 690 = .ok (.iload 7, 2) := by decide +kernel
theorem dL_law_692 : decode cL_law 692 = .ok (.i2l, 1) := by decide +kernel
theorem dL_law_693 : decode cL_law 693 = .ok (.lcmp, 1) := by decide +kernel
theorem dL_law_694 : decode cL_law 694 = .ok (.ifCond .eq 5, 3) := by decide +kernel
theorem dL_law_697 : decode cL_law 697 = .ok (.iconst 0, 1) := by decide +kernel
theorem dL_law_698 : decode cL_law 698 = .ok (.ireturn, 1) := by decide +kernel
theorem dL_law_699 : decode cL_law 699 = .ok (.goto 942, 3) := by decide +kernel
theorem dL_law_702 : decode cL_law 702 = .ok (.aload_n 1, 1) := by decide +kernel
theorem dL_law_703 : decode cL_law 703 = .ok (.invokevirtual 131, 3) := by decide +kernel
theorem dL_law_706 : decode cL_law 706 = .ok (.aload_n 2, 1) := by decide +kernel
theorem dL_law_707 : decode cL_law 707 = .ok (.invokevirtual 135, 3) := by decide +kernel
theorem dL_law_710 : decode cL_law 710 = .ok (.if_icmp .eq 931, 3) := by decide +kernel
theorem dL_law_713 : decode cL_law 713 = .ok (.iconst 0, 1) := by decide +kernel
theorem dL_law_714 : decode cL_law 714 = .ok (.ireturn, 1) := by decide +kernel
theorem dL_law_715 : decode cL_law 715 = .ok (.aload_n 1, 1) := by decide +kernel
theorem dL_law_716 : decode cL_law 716 = .ok (.invokevirtual 136, 3) := by decide +kernel
theorem dL_law_719 : decode cL_law 719 = .ok (.aload_n 2, 1) := by decide +kernel
theorem dL_law_720 : decode cL_law 720 = .ok (.invokevirtual 139, 3) := by decide +kernel
theorem dL_law_723 : decode cL_law 723 = .ok (.if_icmp .eq 918, 3) := by decide +kernel
theorem dL_law_726 : decode cL_law 726 = .ok (.iconst 0, 1) := by decide +kernel
theorem dL_law_727 : decode cL_law 727 = .ok (.ireturn, 1) := by decide +kernel
theorem dL_law_728 : decode cL_law 728 = .ok (.aload_n 1, 1) := by decide +kernel
theorem dL_law_729 : decode cL_law 729 = .ok (.invokevirtual 140, 3) := by decide +kernel
theorem dL_law_732 : decode cL_law 732 = .ok (.aload_n 2, 1) := by decide +kernel
theorem dL_law_733 : decode cL_law 733 = .ok (.invokevirtual 143, 3) := by decide +kernel
theorem dL_law_736 : decode cL_law 736 = .ok (.if_icmp .eq 905, 3) := by decide +kernel
theorem dL_law_739 : decode cL_law 739 = .ok (.iconst 0, 1) := by decide +kernel
theorem dL_law_740 : decode cL_law 740 = .ok (.ireturn, 1) := by decide +kernel
theorem dL_law_741 : decode cL_law 741 = .ok (.aload_n 1, 1) := by decide +kernel
theorem dL_law_742 : decode cL_law 742 = .ok (.invokevirtual 144, 3) := by decide +kernel
theorem dL_law_745 : decode cL_law 745 = .ok (.aload_n 2, 1) := by decide +kernel
theorem dL_law_746 : decode cL_law 746 = .ok (.invokevirtual 147, 3) := by decide +kernel
theorem dL_law_749 : decode cL_law 749 = .ok (.if_icmp .eq 892, 3) := by decide +kernel
theorem dL_law_752 : decode cL_law 752 = .ok (.iconst 0, 1) := by decide +kernel
theorem dL_law_753 : decode cL_law 753 = .ok (.ireturn, 1) := by decide +kernel
theorem dL_law_754 : decode cL_law 754 = .ok (.aload_n 1, 1) := by decide +kernel
theorem dL_law_755 : decode cL_law 755 = .ok (.aload_n 0, 1) := by decide +kernel
theorem dL_law_756 : decode cL_law 756 = .ok (.iload 5, 2) := by decide +kernel
theorem dL_law_758 : decode cL_law 758 = .ok (.iconst 1, 1) := by decide +kernel
theorem dL_law_759 : decode cL_law 759 = .ok (.iadd, 1) := by decide +kernel
theorem dL_law_760 : decode cL_law 760 = .ok (.iaload, 1) := by decide +kernel
theorem dL_law_761 : decode cL_law 761 = .ok (.aload_n 0, 1) := by decide +kernel
theorem dL_law_762 : decode cL_law 762 = .ok (.iload 5, 2) := by decide +kernel
theorem dL_law_764 : decode cL_law 764 = .ok (.iconst 2, 1) := by decide +kernel
theorem dL_law_765 : decode cL_law 765 = .ok (.iadd, 1) := by decide +kernel
theorem dL_law_766 : decode cL_law 766 = .ok (.iaload, 1) := by decide +kernel
theorem dL_law_767 : decode cL_law 767 = .ok (.aload_n 3, 1) := by decide +kernel
theorem dL_law_768 : decode cL_law 768 = .ok (.invokestatic 148, 3) := by decide +kernel
theorem dL_law_771 : decode cL_law 771 = .ok (.istore 6, 2) := by decide +kernel
theorem dL_law_773 : decode cL_law 773 = .ok (.aload_n 2, 1) := by decide +kernel
theorem dL_law_774 : decode cL_law 774 = .ok (.aload_n 0, 1) := by decide +kernel
theorem dL_law_775 : decode cL_law 775 = .ok (.iload 5, 2) := by decide +kernel
theorem dL_law_777 : decode cL_law 777 = .ok (.iconst 1, 1) := by decide +kernel
theorem dL_law_778 : decode cL_law 778 = .ok (.iadd, 1) := by decide +kernel
theorem dL_law_779 : decode cL_law 779 = .ok (.iaload, 1) := by decide +kernel
theorem dL_law_780 : decode cL_law 780 = .ok (.aload_n 0, 1) := by decide +kernel
theorem dL_law_781 : decode cL_law 781 = .ok (.iload 5, 2) := by decide +kernel
theorem dL_law_783 : decode cL_law 783 = .ok (.iconst 2, 1) := by decide +kernel
theorem dL_law_784 : decode cL_law 784 = .ok (.iadd, 1) := by decide +kernel
theorem dL_law_785 : decode cL_law 785 = .ok (.iaload, 1) := by decide +kernel
theorem dL_law_786 : decode cL_law 786 = .ok (.invokevirtual 150, 3) := by decide +kernel
theorem dL_law_789 : decode cL_law 789 = .ok (.lstore 7, 2) := by decide +kernel
theorem dL_law_791 : decode cL_law 791 = .ok (.aload_n 2, 1) := by decide +kernel
theorem dL_law_792 : decode cL_law 792 = .ok (.invokevirtual 105, 3) := by decide +kernel
theorem dL_law_795 : decode cL_law 795 = .ok (.iload 6, 2) := by decide +kernel
theorem dL_law_797 : decode cL_law 797 = .ok (.if_icmp .eq 5, 3) := by decide +kernel
theorem dL_law_800 : decode cL_law 800 = .ok (.iconst 0, 1) := by decide +kernel
theorem dL_law_801 : decode cL_law 801 = .ok (.ireturn, 1) := by decide +kernel
theorem dL_law_802 : decode cL_law 802 = .ok (.iload 6, 2) := by decide +kernel
theorem dL_law_804 : decode cL_law 804 = .ok (.ifCond .ne 14, 3) := by decide +kernel
theorem dL_law_807 : decode cL_law 807 = .ok (.aload_n 3, 1) := by decide +kernel
theorem dL_law_808 : decode cL_law 808 = .ok (.iconst 0, 1) := by decide +kernel
theorem dL_law_809 : decode cL_law 809 = .ok (.laload, 1) := by decide +kernel
theorem dL_law_810 : decode cL_law 810 = .ok (.lload 7, 2) := by decide +kernel
theorem dL_law_812 : decode cL_law 812 = .ok (.lcmp, 1) := by decide +kernel
theorem dL_law_813 : decode cL_law 813 = .ok (.ifCond .eq 5, 3) := by decide +kernel
theorem dL_law_816 : decode cL_law 816 = .ok (.iconst 0, 1) := by decide +kernel
theorem dL_law_817 : decode cL_law 817 = .ok (.ireturn, 1) := by decide +kernel
theorem dL_law_818 : decode cL_law 818 = .ok (.goto 823, 3) := by decide +kernel
theorem dL_law_821 : decode cL_law 821 = .ok (.aload_n 1, 1) := by decide +kernel
theorem dL_law_822 : decode cL_law 822 = .ok (.aload_n 0, 1) := by decide +kernel
theorem dL_law_823 : decode cL_law 823 = .ok (.iload 5, 2) := by decide +kernel
theorem dL_law_825 : decode cL_law 825 = .ok (.iconst 1, 1) := by decide +kernel
theorem dL_law_826 : decode cL_law 826 = .ok (.iadd, 1) := by decide +kernel
theorem dL_law_827 : decode cL_law 827 = .ok (.iaload, 1) := by decide +kernel
theorem dL_law_828 : decode cL_law 828 = .ok (.aload_n 3, 1) := by decide +kernel
theorem dL_law_829 : decode cL_law 829 = .ok (.invokestatic 151, 3) := by decide +kernel
theorem dL_law_832 : decode cL_law 832 = .ok (.istore 6, 2) := by decide +kernel
theorem dL_law_834 : decode cL_law 834 = .ok (.aload_n 2, 1) := by decide +kernel
theorem dL_law_835 : decode cL_law 835 = .ok (.aload_n 0, 1) := by decide +kernel
theorem dL_law_836 : decode cL_law 836 = .ok (.iload 5, 2) := by decide +kernel
theorem dL_law_838 : decode cL_law 838 = .ok (.iconst 1, 1) := by decide +kernel
theorem dL_law_839 : decode cL_law 839 = .ok (.iadd, 1) := by decide +kernel
theorem dL_law_840 : decode cL_law 840 = .ok (.iaload, 1) := by decide +kernel
theorem dL_law_841 : decode cL_law 841 = .ok (.invokevirtual 153, 3) := by decide +kernel
theorem dL_law_844 : decode cL_law 844 = .ok (.lstore 7, 2) := by decide +kernel
theorem dL_law_846 : decode cL_law 846 = .ok (.aload_n 2, 1) := by decide +kernel
theorem dL_law_847 : decode cL_law 847 = .ok (.invokevirtual 105, 3) := by decide +kernel
theorem dL_law_850 : decode cL_law 850 = .ok (.iload 6, 2) := by decide +kernel
theorem dL_law_852 : decode cL_law 852 = .ok (.if_icmp .eq 5, 3) := by decide +kernel
theorem dL_law_855 : decode cL_law 855 = .ok (.iconst 0, 1) := by decide +kernel
theorem dL_law_856 : decode cL_law 856 = .ok (.ireturn, 1) := by decide +kernel
theorem dL_law_857 : decode cL_law 857 = .ok (.iload 6, 2) := by decide +kernel
theorem dL_law_859 : decode cL_law 859 = .ok (.ifCond .ne 14, 3) := by decide +kernel
theorem dL_law_862 : decode cL_law 862 = .ok (.aload_n 3, 1) := by decide +kernel
theorem dL_law_863 : decode cL_law 863 = .ok (.iconst 0, 1) := by decide +kernel
theorem dL_law_864 : decode cL_law 864 = .ok (.laload, 1) := by decide +kernel
theorem dL_law_865 : decode cL_law 865 = .ok (.lload 7, 2) := by decide +kernel
theorem dL_law_867 : decode cL_law 867 = .ok (.lcmp, 1) := by decide +kernel
theorem dL_law_868 : decode cL_law 868 = .ok (.ifCond .eq 5, 3) := by decide +kernel
theorem dL_law_871 : decode cL_law 871 = .ok (.iconst 0, 1) := by decide +kernel
theorem dL_law_872 : decode cL_law 872 = .ok (.ireturn, 1) := by decide +kernel
theorem dL_law_873 : decode cL_law 873 = .ok (.goto 768, 3) := by decide +kernel
theorem dL_law_876 : decode cL_law 876 = .ok (.aload_n 1, 1) := by decide +kernel
theorem dL_law_877 : decode cL_law 877 = .ok (.aload 4, 2) := by decide +kernel
theorem dL_law_879 : decode cL_law 879 = .ok (.invokestatic 154, 3) := by decide +kernel
theorem dL_law_882 : decode cL_law 882 = .ok (.istore 6, 2) := by decide +kernel
theorem dL_law_884 : decode cL_law 884 = .ok (.aload_n 2, 1) := by decide +kernel
theorem dL_law_885 : decode cL_law 885 = .ok (.invokevirtual 157, 3) := by decide +kernel
theorem dL_law_888 : decode cL_law 888 = .ok (.fstore 7, 2) := by decide +kernel
theorem dL_law_890 : decode cL_law 890 = .ok (.aload_n 2, 1) := by decide +kernel
theorem dL_law_891 : decode cL_law 891 = .ok (.invokevirtual 105, 3) := by decide +kernel
theorem dL_law_894 : decode cL_law 894 = .ok (.iload 6, 2) := by decide +kernel
theorem dL_law_896 : decode cL_law 896 = .ok (.if_icmp .eq 5, 3) := by decide +kernel
theorem dL_law_899 : decode cL_law 899 = .ok (.iconst 0, 1) := by decide +kernel
theorem dL_law_900 : decode cL_law 900 = .ok (.ireturn, 1) := by decide +kernel
theorem dL_law_901 : decode cL_law 901 = .ok (.iload 6, 2) := by decide +kernel
theorem dL_law_903 : decode cL_law 903 = .ok (.ifCond .ne 36, 3) := by decide +kernel
theorem dL_law_906 : decode cL_law 906 = .ok (.aload 4, 2) := by decide +kernel
theorem dL_law_908 : decode cL_law 908 = .ok (.iconst 0, 1) := by decide +kernel
theorem dL_law_909 : decode cL_law 909 = .ok (.daload, 1) := by decide +kernel
theorem dL_law_910 : decode cL_law 910 = .ok (.fload 7, 2) := by decide +kernel
theorem dL_law_912 : decode cL_law 912 = .ok (.f2d, 1) := by decide +kernel
theorem dL_law_913 : decode cL_law 913 = .ok (.dcmp .l, 1) := by decide +kernel
theorem dL_law_914 : decode cL_law 914 = .ok (.ifCond .eq 25, 3) := by decide +kernel
theorem dL_law_917 : decode cL_law 917 = .ok (.aload 4, 2) := by decide +kernel
theorem dL_law_919 : decode cL_law 919 = .ok (.iconst 0, 1) := by decide +kernel
theorem dL_law_920 : decode cL_law 920 = .ok (.daload, 1) := by decide +kernel
theorem dL_law_921 : decode cL_law 921 = .ok (.aload 4, 2) := by decide +kernel
theorem dL_law_923 : decode cL_law 923 = .ok (.iconst 0, 1) := by decide +kernel
theorem dL_law_924 : decode cL_law 924 = .ok (.daload, 1) := by decide +kernel
theorem dL_law_925 : decode cL_law 925 = .ok (.dcmp .l, 1) := by decide +kernel
theorem dL_law_926 : decode cL_law 926 = .ok (.ifCond .eq 11, 3) := by decide +kernel
theorem dL_law_929 : decode cL_law 929 = .ok (.fload 7, 2) := by decide +kernel
theorem dL_law_931 : decode cL_law 931 = .ok (.fload 7, 2) := by decide +kernel
theorem dL_law_933 : decode cL_law 933 = .ok (.fcmp .l, 1) := by decide +kernel
theorem dL_law_934 : decode cL_law 934 = .ok (.ifCond .ne 5, 3) := by decide +kernel
theorem dL_law_937 : decode cL_law 937 = .ok (.iconst 0, 1) := by decide +kernel
theorem dL_law_938 : decode cL_law 938 = .ok (.ireturn, 1) := by decide +kernel
theorem dL_law_939 : decode cL_law 939 = .ok (.goto 702, 3) := by decide +kernel
theorem dL_law_942 : decode cL_law 942 = .ok (.aload_n 1, 1) := by decide +kernel
theorem dL_law_943 : decode cL_law 943 = .ok (.aload_n 0, 1) := by decide +kernel
theorem dL_law_944 : decode cL_law 944 = .ok (.iload 5, 2) := by decide +kernel
theorem dL_law_946 : decode cL_law 946 = .ok (.iconst 1, 1) := by decide +kernel
theorem dL_law_947 : decode cL_law 947 = .ok (.iadd, 1) := by decide +kernel
theorem dL_law_948 : decode cL_law 948 = .ok (.iaload, 1) := by decide +kernel
theorem dL_law_949 : decode cL_law 949 = .ok (.aload_n 3, 1) := by decide +kernel
theorem dL_law_950 : decode cL_law 950 = .ok (.invokestatic 158, 3) := by decide +kernel
theorem dL_law_953 : decode cL_law 953 = .ok (.istore 6, 2) := by decide +kernel
theorem dL_law_955 : decode cL_law 955 = .ok (.aload_n 2, 1) := by decide +kernel
theorem dL_law_956 : decode cL_law 956 = .ok (.aload_n 0, 1) := by decide +kernel
theorem dL_law_957 : decode cL_law 957 = .ok (.iload 5, 2) := by decide +kernel
theorem dL_law_959 : decode cL_law 959 = .ok (.iconst 1, 1) := by decide +kernel
theorem dL_law_960 : decode cL_law 960 = .ok (.iadd, 1) := by decide +kernel
theorem dL_law_961 : decode cL_law 961 = .ok (.iaload, 1) := by decide +kernel
theorem dL_law_962 : decode cL_law 962 = .ok (.invokevirtual 160, 3) := by decide +kernel
theorem dL_law_965 : decode cL_law 965 = .ok (.lstore 7, 2) := by decide +kernel
theorem dL_law_967 : decode cL_law 967 = .ok (.aload_n 2, 1) := by decide +kernel
theorem dL_law_968 : decode cL_law 968 = .ok (.invokevirtual 105, 3) := by decide +kernel
theorem dL_law_971 : decode cL_law 971 = .ok (.iload 6, 2) := by decide +kernel
theorem dL_law_973 : decode cL_law 973 = .ok (.if_icmp .eq 5, 3) := by decide +kernel
theorem dL_law_976 : decode cL_law 976 = .ok (.iconst 0, 1) := by decide +kernel
theorem dL_law_977 : decode cL_law 977 = .ok (.ireturn, 1) := by decide +kernel
theorem dL_law_978 : decode cL_law 978 = .ok (.iload 6, 2) := by decide +kernel
theorem dL_law_980 : decode cL_law 980 = .ok (.ifCond .ne 14, 3) := by decide +kernel
theorem dL_law_983 : decode cL_law 983 = .ok (.aload_n 3, 1) := by decide +kernel
theorem dL_law_984 : decode cL_law 984 = .ok (.iconst 0, 1) := by decide +kernel
theorem dL_law_985 : decode cL_law 985 = .ok (.laload, 1) := by decide +kernel
theorem dL_law_986 : decode cL_law 986 = .ok (.lload 7, 2) := by decide +kernel
theorem dL_law_988 : decode cL_law 988 = .ok (.lcmp, 1) := by decide +kernel
theorem dL_law_989 : decode cL_law 989 = .ok (.ifCond .eq 5, 3) := by decide +kernel
theorem dL_law_992 : decode cL_law 992 = .ok (.iconst 0, 1) := by decide +kernel
theorem dL_law_993 : decode cL_law 993 = .ok (.ireturn, 1) := by decide +kernel
theorem dL_law_994 : decode cL_law 994 = .ok (.goto 647, 3) := by decide +kernel
theorem dL_law_997 : decode cL_law 997 = .ok (.aload_n 1, 1) := by decide +kernel
theorem dL_law_998 : decode cL_law 998 = .ok (.aload_n 0, 1) := by decide +kernel
theorem dL_law_999 : decode cL_law 999 = .ok (.iload 5, 2) := by decide +kernel
theorem dL_law_1001 : decode cL_law 1001 = .ok (.iconst 1, 1) := by decide +kernel
theorem dL_law_1002 : decode cL_law 1002 = .ok (.iadd, 1) := by decide +kernel
theorem dL_law_1003 : decode cL_law 1003 = .ok (.iaload, 1) := by decide +kernel
theorem dL_law_1004 : decode cL_law 1004 = .ok (.aload_n 0, 1) := by decide +kernel
theorem dL_law_1005 : decode cL_law 1005 = .ok (.iload 5, 2) := by decide +kernel
theorem dL_law_1007 : decode cL_law 1007 = .ok (.iconst 2, 1) := by decide +kernel
theorem dL_law_1008 : decode cL_law 1008 = .ok (.iadd, 1) := by decide +kernel
theorem dL_law_1009 : decode cL_law 1009 = .ok (.iaload, 1) := by decide +kernel
theorem dL_law_1010 : decode cL_law 1010 = .ok (.aload_n 3, 1) := by decide +kernel
theorem dL_law_1011 : decode cL_law 1011 = .ok (.invokestatic 161, 3) := by decide +kernel
theorem dL_law_1014 : decode cL_law 1014 = .ok (.istore 6, 2) := by decide +kernel
theorem dL_law_1016 : decode cL_law 1016 = .ok (.aload_n 2, 1) := by decide +kernel
theorem dL_law_1017 : decode cL_law 1017 = .ok (.aload_n 0, 1) := by decide +kernel
theorem dL_law_1018 : decode cL_law 1018 = .ok (.iload 5, 2) := by decide +kernel
theorem dL_law_1020 : decode cL_law 1020 = .ok (.iconst 1, 1) := by decide +kernel
theorem dL_law_1021 : decode cL_law 1021 = .ok (.iadd, 1) := by decide +kernel
theorem dL_law_1022 : decode cL_law 1022 = .ok (.iaload, 1) := by decide +kernel
theorem dL_law_1023 : decode cL_law 1023 = .ok (.aload_n 0, 1) := by decide +kernel
theorem dL_law_1024 : decode cL_law 1024 = .ok (.iload 5, 2) := by decide +kernel
theorem dL_law_1026 : decode cL_law 1026 = .ok (.iconst 2, 1) := by decide +kernel
theorem dL_law_1027 : decode cL_law 1027 = .ok (.iadd, 1) := by decide +kernel
theorem dL_law_1028 : decode cL_law 1028 = .ok (.iaload, 1) := by decide +kernel
theorem dL_law_1029 : decode cL_law 1029 = .ok (.invokevirtual 163, 3) := by decide +kernel
theorem dL_law_1032 : decode cL_law 1032 = .ok (.lstore 7, 2) := by decide +kernel
theorem dL_law_1034 : decode cL_law 1034 = .ok (.aload_n 2, 1) := by decide +kernel
theorem dL_law_1035 : decode cL_law 1035 = .ok (.invokevirtual 105, 3) := by decide +kernel
theorem dL_law_1038 : decode cL_law 1038 = .ok (.iload 6, 2) := by decide +kernel
theorem dL_law_1040 : decode cL_law 1040 = .ok (.if_icmp .eq 5, 3) := by decide +kernel
theorem dL_law_1043 : decode cL_law 1043 = .ok (.iconst 0, 1) := by decide +kernel
theorem dL_law_1044 : decode cL_law 1044 = .ok (.ireturn, 1) := by decide +kernel
theorem dL_law_1045 : decode cL_law 1045 = .ok (.iload 6, 2) := by decide +kernel
theorem dL_law_1047 : decode cL_law 1047 = .ok (.ifCond .ne 14, 3) := by decide +kernel
theorem dL_law_1050 : decode cL_law 1050 = .ok (.aload_n 3, 1) := by decide +kernel
theorem dL_law_1051 : decode cL_law 1051 = .ok (.iconst 0, 1) := by decide +kernel
theorem dL_law_1052 : decode cL_law 1052 = .ok (.laload, 1) := by decide +kernel
theorem dL_law_1053 : decode cL_law 1053 = .ok (.lload 7, 2) := by decide +kernel
theorem dL_law_1055 : decode cL_law 1055 = .ok (.lcmp, 1) := by decide +kernel
theorem dL_law_1056 : decode cL_law 1056 = .ok (.ifCond .eq 5, 3) := by decide +kernel
theorem dL_law_1059 : decode cL_law 1059 = .ok (.iconst 0, 1) := by decide +kernel
theorem dL_law_1060 : decode cL_law 1060 = .ok (.ireturn, 1) := by decide +kernel
theorem dL_law_1061 : decode cL_law 1061 = .ok (.goto 580, 3) := by decide +kernel
theorem dL_law_1064 : decode cL_law 1064 = .ok (.aload_n 1, 1) := by decide +kernel
theorem dL_law_1065 : decode cL_law 1065 = .ok (.aload_n 0, 1) := by decide +kernel
theorem dL_law_1066 : decode cL_law 1066 = .ok (.iload 5, 2) := by decide +kernel
theorem dL_law_1068 : decode cL_law 1068 = .ok (.iconst 1, 1) := by decide +kernel
theorem dL_law_1069 : decode cL_law 1069 = .ok (.iadd, 1) := by decide +kernel
theorem dL_law_1070 : decode cL_law 1070 = .ok (.iaload, 1) := by decide +kernel
theorem dL_law_1071 : decode cL_law 1071 = .ok (.aload_n 3, 1) := by decide +kernel
theorem dL_law_1072 : decode cL_law 1072 = .ok (.invokestatic 164, 3) := by decide +kernel
theorem dL_law_1075 : decode cL_law 1075 = .ok (.istore 6, 2) := by decide +kernel
theorem dL_law_1077 : decode cL_law 1077 = .ok (.aload_n 2, 1) := by decide +kernel
theorem dL_law_1078 : decode cL_law 1078 = .ok (.aload_n 0, 1) := by decide +kernel
theorem dL_law_1079 : decode cL_law 1079 = .ok (.iload 5, 2) := by decide +kernel
theorem dL_law_1081 : decode cL_law 1081 = .ok (.iconst 1, 1) := by decide +kernel
theorem dL_law_1082 : decode cL_law 1082 = .ok (.iadd, 1) := by decide +kernel
theorem dL_law_1083 : decode cL_law 1083 = .ok (.iaload, 1) := by decide +kernel
theorem dL_law_1084 : decode cL_law 1084 = .ok (.invokevirtual 166, 3) := by decide +kernel
theorem dL_law_1087 : decode cL_law 1087 = .ok (.istore 7, 2) := by decide +kernel
theorem dL_law_1089 : decode cL_law 1089 = .ok (.aload_n 2, 1) := by decide +kernel
theorem dL_law_1090 : decode cL_law 1090 = .ok (.invokevirtual 105, 3) := by decide +kernel
theorem dL_law_1093 : decode cL_law 1093 = .ok (.iload 6, 2) := by decide +kernel
theorem dL_law_1095 : decode cL_law 1095 = .ok (.if_icmp .eq 5, 3) := by decide +kernel
theorem dL_law_1098 : decode cL_law 1098 = .ok (.iconst 0, 1) := by decide +kernel
theorem dL_law_1099 : decode cL_law 1099 = .ok (.ireturn, 1) := by decide +kernel
theorem dL_law_1100 : decode cL_law 1100 = .ok (.iload 6, 2) := by decide +kernel
theorem dL_law_1102 : decode cL_law 1102 = .ok (.ifCond .ne 15, 3) := by decide +kernel
theorem dL_law_1105 : decode cL_law 1105 = .ok (.aload_n 3, 1) := by decide +kernel
theorem dL_law_1106 : decode cL_law 1106 = .ok (.iconst 0, 1) := by decide +kernel
theorem dL_law_1107 : decode cL_law 1107 = .ok (.laload, 1) := by decide +kernel
theorem dL_law_1108 : decode cL_law 1108 = .ok (.iload 7, 2) := by decide +kernel
theorem dL_law_1110 : decode cL_law 1110 = .ok (.i2l, 1) := by decide +kernel
theorem dL_law_1111 : decode cL_law 1111 = .ok (.lcmp, 1) := by decide +kernel
theorem dL_law_1112 : decode cL_law 1112 = .ok (.ifCond .eq 5, 3) := by decide +kernel
theorem dL_law_1115 : decode cL_law 1115 = .ok (.iconst 0, 1) := by decide +kernel
theorem dL_law_1116 : decode cL_law 1116 = .ok (.ireturn, 1) := by decide +kernel
theorem dL_law_1117 : decode cL_law 1117 = .ok (.goto 524, 3) := by decide +kernel
theorem dL_law_1120 : decode cL_law 1120 = .ok (.aload_n 1, 1) := by decide +kernel
theorem dL_law_1121 : decode cL_law 1121 = .ok (.aload_n 3, 1) := by decide +kernel
theorem dL_law_1122 : decode cL_law 1122 = .ok (.invokestatic 167, 3) := by decide +kernel
theorem dL_law_1125 : decode cL_law 1125 = .ok (.istore 6, 2) := by decide +kernel
theorem dL_law_1127 : decode cL_law 1127 = .ok (.aload_n 2, 1) := by decide +kernel
theorem dL_law_1128 : decode cL_law 1128 = .ok (.invokevirtual 170, 3) := by decide +kernel
theorem dL_law_1131 : decode cL_law 1131 = .ok (.istore 7, 2) := by decide +kernel
theorem dL_law_1133 : decode cL_law 1133 = .ok (.aload_n 2, 1) := by decide +kernel
theorem dL_law_1134 : decode cL_law 1134 = .ok (.invokevirtual 105, 3) := by decide +kernel
theorem dL_law_1137 : decode cL_law 1137 = .ok (.iload 6, 2) := by decide +kernel
theorem dL_law_1139 : decode cL_law 1139 = .ok (.if_icmp .eq 5, 3) := by decide +kernel
theorem dL_law_1142 : decode cL_law 1142 = .ok (.iconst 0, 1) := by decide +kernel
theorem dL_law_1143 : decode cL_law 1143 = .ok (.ireturn, 1) := by decide +kernel
theorem dL_law_1144 : decode cL_law 1144 = .ok (.iload 6, 2) := by decide +kernel
theorem dL_law_1146 : decode cL_law 1146 = .ok (.ifCond .ne 15, 3) := by decide +kernel
theorem dL_law_1149 : decode cL_law 1149 = .ok (.aload_n 3, 1) := by decide +kernel
theorem dL_law_1150 : decode cL_law 1150 = .ok (.iconst 0, 1) := by decide +kernel
theorem dL_law_1151 : decode cL_law 1151 = .ok (.laload, 1) := by decide +kernel
theorem dL_law_1152 : decode cL_law 1152 = .ok (.iload 7, 2) := by decide +kernel
theorem dL_law_1154 : decode cL_law 1154 = .ok (.i2l, 1) := by decide +kernel
theorem dL_law_1155 : decode cL_law 1155 = .ok (.lcmp, 1) := by decide +kernel
theorem dL_law_1156 : decode cL_law 1156 = .ok (.ifCond .eq 5, 3) := by decide +kernel
theorem dL_law_1159 : decode cL_law 1159 = .ok (.iconst 0, 1) := by decide +kernel
theorem dL_law_1160 : decode cL_law 1160 = .ok (.ireturn, 1) := by decide +kernel
theorem dL_law_1161 : decode cL_law 1161 = .ok (.goto 480, 3) := by decide +kernel
theorem dL_law_1164 : decode cL_law 1164 = .ok (.aload_n 1, 1) := by decide +kernel
theorem dL_law_1165 : decode cL_law 1165 = .ok (.aload_n 0, 1) := by decide +kernel
theorem dL_law_1166 : decode cL_law 1166 = .ok (.iload 5, 2) := by decide +kernel
theorem dL_law_1168 : decode cL_law 1168 = .ok (.iconst 1, 1) := by decide +kernel
theorem dL_law_1169 : decode cL_law 1169 = .ok (.iadd, 1) := by decide +kernel
theorem dL_law_1170 : decode cL_law 1170 = .ok (.iaload, 1) := by decide +kernel
theorem dL_law_1171 : decode cL_law 1171 = .ok (.aload_n 3, 1) := by decide +kernel
theorem dL_law_1172 : decode cL_law 1172 = .ok (.invokestatic 171, 3) := by decide +kernel
theorem dL_law_1175 : decode cL_law 1175 = .ok (.istore 6, 2) := by decide +kernel
theorem dL_law_1177 : decode cL_law 1177 = .ok (.aload_n 2, 1) := by decide +kernel
theorem dL_law_1178 : decode cL_law 1178 = .ok (.aload_n 0, 1) := by decide +kernel
theorem dL_law_1179 : decode cL_law 1179 = .ok (.iload 5, 2) := by decide +kernel
theorem dL_law_1181 : decode cL_law 1181 = .ok (.iconst 1, 1) := by decide +kernel
theorem dL_law_1182 : decode cL_law 1182 = .ok (.iadd, 1) := by decide +kernel
theorem dL_law_1183 : decode cL_law 1183 = .ok (.iaload, 1) := by decide +kernel
theorem dL_law_1184 : decode cL_law 1184 = .ok (.invokevirtual 173, 3) := by decide +kernel
theorem dL_law_1187 : decode cL_law 1187 = .ok (.istore 7, 2) := by decide +kernel
theorem dL_law_1189 : decode cL_law 1189 = .ok (.aload_n 2, 1) := by decide +kernel
theorem dL_law_1190 : decode cL_law 1190 = .ok (.invokevirtual 105, 3) := by decide +kernel
theorem dL_law_1193 : decode cL_law 1193 = .ok (.iload 6, 2) := by decide +kernel
theorem dL_law_1195 : decode cL_law 1195 = .ok (.if_icmp .eq 5, 3) := by decide +kernel
theorem dL_law_1198 : decode cL_law 1198 = .ok (.iconst 0, 1) := by decide +kernel
theorem dL_law_1199 : decode cL_law 1199 = .ok (.ireturn, 1) := by decide +kernel
theorem dL_law_1200 : decode cL_law 1200 = .ok (.iload 6, 2) := by decide +kernel
theorem dL_law_1202 : decode cL_law 1202 = .ok (.ifCond .ne 15, 3) := by decide +kernel
theorem dL_law_1205 : decode cL_law 1205 = .ok (.aload_n 3, 1) := by decide +kernel
theorem dL_law_1206 : decode cL_law 1206 = .ok (.iconst 0, 1) := by decide +kernel
theorem dL_law_1207 : decode cL_law 1207 = .ok (.laload, 1) := by decide +kernel
theorem dL_law_1208 : decode cL_law 1208 = .ok (.iload 7, 2) := by decide +kernel
theorem dL_law_1210 : decode cL_law 1210 = .ok (.i2l, 1) := by decide +kernel
theorem dL_law_1211 : decode cL_law 1211 = .ok (.lcmp, 1) := by decide +kernel
theorem dL_law_1212 : decode cL_law 1212 = .ok (.ifCond .eq 5, 3) := by decide +kernel
theorem dL_law_1215 : decode cL_law 1215 = .ok (.iconst 0, 1) := by decide +kernel
theorem dL_law_1216 : decode cL_law 1216 = .ok (.ireturn, 1) := by decide +kernel
theorem dL_law_1217 : decode cL_law 1217 = .ok (.goto 424, 3) := by decide +kernel
theorem dL_law_1220 : decode cL_law 1220 = .ok (.aload_n 1, 1) := by decide +kernel
theorem dL_law_1221 : decode cL_law 1221 = .ok (.aload_n 0, 1) := by decide +kernel
theorem dL_law_1222 : decode cL_law 1222 = .ok (.iload 5, 2) := by decide +kernel
theorem dL_law_1224 : decode cL_law 1224 = .ok (.iconst 1, 1) := by decide +kernel
theorem dL_law_1225 : decode cL_law 1225 = .ok (.iadd, 1) := by decide +kernel
theorem dL_law_1226 : decode cL_law 1226 = .ok (.iaload, 1) := by decide +kernel
theorem dL_law_1227 : decode cL_law 1227 = .ok (.aload_n 3, 1) := by decide +kernel
theorem dL_law_1228 : decode cL_law 1228 = .ok (.invokestatic 174, 3) := by decide +kernel
theorem dL_law_1231 : decode cL_law 1231 = .ok (.istore 6, 2) := by decide +kernel
theorem dL_law_1233 : decode cL_law 1233 = .ok (.aload_n 2, 1) := by decide +kernel
theorem dL_law_1234 : decode cL_law 1234 = .ok (.aload_n 0, 1) := by decide +kernel
theorem dL_law_1235 : decode cL_law 1235 = .ok (.iload 5, 2) := by decide +kernel
theorem dL_law_1237 : decode cL_law 1237 = .ok (.iconst 1, 1) := by decide +kernel
theorem dL_law_1238 : decode cL_law 1238 = .ok (.iadd, 1) := by decide +kernel
theorem dL_law_1239 : decode cL_law 1239 = .ok (.iaload, 1) := by decide +kernel
theorem dL_law_1240 : decode cL_law 1240 = .ok (.invokevirtual 176, 3) := by decide +kernel
theorem dL_law_1243 : decode cL_law 1243 = .ok (.istore 7, 2) := by decide +kernel
theorem dL_law_1245 : decode cL_law 1245 = .ok (.aload_n 2, 1) := by decide +kernel
theorem dL_law_1246 : decode cL_law 1246 = .ok (.invokevirtual 105, 3) := by decide +kernel
theorem dL_law_1249 : decode cL_law 1249 = .ok (.iload 6, 2) := by decide +kernel
theorem dL_law_1251 : decode cL_law 1251 = .ok (.if_icmp .eq 5, 3) := by decide +kernel
theorem dL_law_1254 : decode cL_law 1254 = .ok (.iconst 0, 1) := by decide +kernel
theorem dL_law_1255 : decode cL_law 1255 = .ok (.ireturn, 1) := by decide +kernel
theorem dL_law_1256 : decode cL_law 1256 = .ok (.iload 6, 2) := by decide +kernel
theorem dL_law_1258 : decode cL_law 1258 = .ok (.ifCond .ne 15, 3) := by decide +kernel
theorem dL_law_1261 : decode cL_law 1261 = .ok (.aload_n 3, 1) := by decide +kernel
theorem dL_law_1262 : decode cL_law 1262 = .ok (.iconst 0, 1) := by decide +kernel
theorem dL_law_1263 : decode cL_law 1263 = .ok (.laload, 1) := by decide +kernel
theorem dL_law_1264 : decode cL_law 1264 = .ok (.iload 7, 2) := by decide +kernel
theorem dL_law_1266 : decode cL_law 1266 = .ok (.i2l, 1) := by decide +kernel
theorem dL_law_1267 : decode cL_law 1267 = .ok (.lcmp, 1) := by decide +kernel
theorem dL_law_1268 : decode cL_law 1268 = .ok (.ifCond .eq 5, 3) := by decide +kernel
theorem dL_law_1271 : decode cL_law 1271 = .ok (.iconst 0, 1) := by decide +kernel
theorem dL_law_1272 : decode cL_law 1272 = .ok (.ireturn, 1) := by decide +kernel
theorem dL_law_1273 : decode cL_law 1273 = .ok (.goto 368, 3) := by decide +kernel
theorem dL_law_1276 : decode cL_law 1276 = .ok (.aload_n 1, 1) := by decide +kernel
theorem dL_law_1277 : decode cL_law 1277 = .ok (.aload_n 0, 1) := by decide +kernel
theorem dL_law_1278 : decode cL_law 1278 = .ok (.iload 5, 2) := by decide +kernel
theorem dL_law_1280 : decode cL_law 1280 = .ok (.iconst 1, 1) := by decide +kernel
theorem dL_law_1281 : decode cL_law 1281 = .ok (.iadd, 1) := by decide +kernel
theorem dL_law_1282 : decode cL_law 1282 = .ok (.iaload, 1) := by decide +kernel
theorem dL_law_1283 : decode cL_law 1283 = .ok (.aload_n 0, 1) := by decide +kernel
theorem dL_law_1284 : decode cL_law 1284 = .ok (.iload 5, 2) := by decide +kernel
theorem dL_law_1286 : decode cL_law 1286 = .ok (.iconst 2, 1) := by decide +kernel
theorem dL_law_1287 : decode cL_law 1287 = .ok (.iadd, 1) := by decide +kernel
theorem dL_law_1288 : decode cL_law 1288 = .ok (.iaload, 1) := by decide +kernel
theorem dL_law_1289 : decode cL_law 1289 = .ok (.aload_n 3, 1) := by decide +kernel
theorem dL_law_1290 : decode cL_law 1290 = .ok (.invokestatic 177, 3) := by decide +kernel
theorem dL_law_1293 : decode cL_law 1293 = .ok (.istore 6, 2) := by decide +kernel
theorem dL_law_1295 : decode cL_law 1295 = .ok (.aload_n 2, 1) := by decide +kernel
theorem dL_law_1296 : decode cL_law 1296 = .ok (.aload_n 0, 1) := by decide +kernel
theorem dL_law_1297 : decode cL_law 1297 = .ok (.iload 5, 2) := by decide +kernel
theorem dL_law_1299 : decode cL_law 1299 = .ok (.iconst 1, 1) := by decide +kernel
theorem dL_law_1300 : decode cL_law 1300 = .ok (.iadd, 1) := by decide +kernel
theorem dL_law_1301 : decode cL_law 1301 = .ok (.iaload, 1) := by decide +kernel
theorem dL_law_1302 : decode cL_law 1302 = .ok (.aload_n 0, 1) := by decide +kernel
theorem dL_law_1303 : decode cL_law 1303 = .ok (.iload 5, 2) := by decide +kernel
theorem dL_law_1305 : decode cL_law 1305 = .ok (.iconst 2, 1) := by decide +kernel
theorem dL_law_1306 : decode cL_law 1306 = .ok (.iadd, 1) := by decide +kernel
theorem dL_law_1307 : decode cL_law 1307 = .ok (.iaload, 1) := by decide +kernel
theorem dL_law_1308 : decode cL_law 1308 = .ok (.invokevirtual 179, 3) := by decide +kernel
theorem dL_law_1311 : decode cL_law 1311 = .ok (.lstore 7, 2) := by decide +kernel
theorem dL_law_1313 : decode cL_law 1313 = .ok (.aload_n 2, 1) := by decide +kernel
theorem dL_law_1314 : decode cL_law 1314 = .ok (.invokevirtual 105, 3) := by decide +kernel
theorem dL_law_1317 : decode cL_law 1317 = .ok (.iload 6, 2) := by decide +kernel
theorem dL_law_1319 : decode cL_law 1319 = .ok (.if_icmp .eq 5, 3) := by decide +kernel
theorem dL_law_1322 : decode cL_law 1322 = .ok (.iconst 0, 1) := by decide +kernel
theorem dL_law_1323 : decode cL_law 1323 = .ok (.ireturn, 1) := by decide +kernel
theorem dL_law_1324 : decode cL_law 1324 = .ok (.iload 6, 2) := by decide +kernel
theorem dL_law_1326 : decode cL_law 1326 = .ok (.ifCond .ne 14, 3) := by decide +kernel
theorem dL_law_1329 : decode cL_law 1329 = .ok (.aload_n 3, 1) := by decide +kernel
theorem dL_law_1330 : decode cL_law 1330 = .ok (.iconst 0, 1) := by decide +kernel
theorem dL_law_1331 : decode cL_law 1331 = .ok (.laload, 1) := by decide +kernel
theorem dL_law_1332 : decode cL_law 1332 = .ok (.lload 7, 2) := by decide +kernel
theorem dL_law_1334 : decode cL_law 1334 = .ok (.lcmp, 1) := by decide +kernel
theorem dL_law_1335 : decode cL_law 1335 = .ok (.ifCond .eq 5, 3) := by decide +kernel
theorem dL_law_1338 : decode cL_law 1338 = .ok (.iconst 0, 1) := by decide +kernel
theorem dL_law_1339 : decode cL_law 1339 = .ok (.ireturn, 1) := by decide +kernel
theorem dL_law_1340 : decode cL_law 1340 = .ok (.goto 301, 3) := by decide +kernel
theorem dL_law_1343 : decode cL_law 1343 = .ok (.aload_n 1, 1) := by decide +kernel
theorem dL_law_1344 : decode cL_law 1344 = .ok (.aload_n 0, 1) := by decide +kernel
theorem dL_law_1345 : decode cL_law 1345 = .ok (.iload 5, 2) := by decide +kernel
theorem dL_law_1347 : decode cL_law 1347 = .ok (.iconst 1, 1) := by decide +kernel
theorem dL_law_1348 : decode cL_law 1348 = .ok (.iadd, 1) := by decide +kernel
theorem dL_law_1349 : decode cL_law 1349 = .ok (.iaload, 1) := by decide +kernel
theorem dL_law_1350 : decode cL_law 1350 = .ok (.aload 4, 2) := by decide +kernel
theorem dL_law_1352 : decode cL_law 1352 = .ok (.invokestatic 180, 3) := by decide +kernel
theorem dL_law_1355 : decode cL_law 1355 = .ok (.istore 6, 2) := by decide +kernel
theorem dL_law_1357 : decode cL_law 1357 = .ok (.aload_n 2, 1) := by decide +kernel
theorem dL_law_1358 : decode cL_law 1358 = .ok (.aload_n 0, 1) := by decide +kernel
theorem dL_law_1359 : decode cL_law 1359 = .ok (.iload 5, 2) := by decide +kernel
theorem dL_law_1361 : decode cL_law 1361 = .ok (.iconst 1, 1) := by decide +kernel
theorem dL_law_1362 : decode cL_law 1362 = .ok (.iadd, 1) := by decide +kernel
theorem dL_law_1363 : decode cL_law 1363 = .ok (.iaload, 1) := by decide +kernel
theorem dL_law_1364 : decode cL_law 1364 = .ok (.invokevirtual 183, 3) := by decide +kernel
theorem dL_law_1367 : decode cL_law 1367 = .ok (.fstore 7, 2) := by decide +kernel
theorem dL_law_1369 : decode cL_law 1369 = .ok (.aload_n 2, 1) := by decide +kernel
theorem dL_law_1370 : decode cL_law 1370 = .ok (.invokevirtual 105, 3) := by decide +kernel
theorem dL_law_1373 : decode cL_law 1373 = .ok (.iload 6, 2) := by decide +kernel
theorem dL_law_1375 : decode cL_law 1375 = .ok (.if_icmp .eq 5, 3) := by decide +kernel
theorem dL_law_1378 : decode cL_law 1378 = .ok (.iconst 0, 1) := by decide +kernel
theorem dL_law_1379 : decode cL_law 1379 = .ok (.ireturn, 1) := by decide +kernel
theorem dL_law_1380 : decode cL_law 1380 = .ok (.iload 6, 2) := by decide +kernel
theorem dL_law_1382 : decode cL_law 1382 = .ok (.ifCond .ne 36, 3) := by decide +kernel
theorem dL_law_1385 : decode cL_law 1385 = .ok (.aload 4, 2) := by decide +kernel
theorem dL_law_1387 : decode cL_law 1387 = .ok (.iconst 0, 1) := by decide +kernel
theorem dL_law_1388 : decode cL_law 1388 = .ok (.daload, 1) := by decide +kernel
theorem dL_law_1389 : decode cL_law 1389 = .ok (.fload 7, 2) := by decide +kernel
theorem dL_law_1391 : decode cL_law 1391 = .ok (.f2d, 1) := by decide +kernel
theorem dL_law_1392 : decode cL_law 1392 = .ok (.dcmp .l, 1) := by decide +kernel
theorem dL_law_1393 : decode cL_law 1393 = .ok (.ifCond .eq 25, 3) := by decide +kernel
theorem dL_law_1396 : decode cL_law 1396 = .ok (.aload 4, 2) := by decide +kernel
theorem dL_law_1398 : decode cL_law 1398 = .ok (.iconst 0, 1) := by decide +kernel
theorem dL_law_1399 : decode cL_law 1399 = .ok (.daload, 1) := by decide +kernel
theorem dL_law_1400 : decode cL_law 1400 = .ok (.aload 4, 2) := by decide +kernel
theorem dL_law_1402 : decode cL_law 1402 = .ok (.iconst 0, 1) := by decide +kernel
theorem dL_law_1403 : decode cL_law 1403 = .ok (.daload, 1) := by decide +kernel
theorem dL_law_1404 : decode cL_law 1404 = .ok (.dcmp .l, 1) := by decide +kernel
theorem dL_law_1405 : decode cL_law 1405 = .ok (.ifCond .eq 11, 3) := by decide +kernel
theorem dL_law_1408 : decode cL_law 1408 = .ok (.fload 7, 2) := by decide +kernel
theorem dL_law_1410 : decode cL_law 1410 = .ok (.fload 7, 2) := by decide +kernel
theorem dL_law_1412 : decode cL_law 1412 = .ok (.fcmp .l, 1) := by decide +kernel
theorem dL_law_1413 : decode cL_law 1413 = .ok (.ifCond .ne 5, 3) := by decide +kernel
theorem dL_law_1416 : decode cL_law 1416 = .ok (.iconst 0, 1) := by decide +kernel
theorem dL_law_1417 : decode cL_law 1417 = .ok (.ireturn, 1) := by decide +kernel
theorem dL_law_1418 : decode cL_law 1418 = .ok (.goto 223, 3) := by decide +kernel
theorem dL_law_1421 : decode cL_law 1421 = .ok (.aload_n 1, 1) := by decide +kernel
theorem dL_law_1422 : decode cL_law 1422 = .ok (.aload_n 0, 1) := by decide +kernel
theorem dL_law_1423 : decode cL_law 1423 = .ok (.iload 5, 2) := by decide +kernel
theorem dL_law_1425 : decode cL_law 1425 = .ok (.iconst 1, 1) := by decide +kernel
theorem dL_law_1426 : decode cL_law 1426 = .ok (.iadd, 1) := by decide +kernel
theorem dL_law_1427 : decode cL_law 1427 = .ok (.iaload, 1) := by decide +kernel
theorem dL_law_1428 : decode cL_law 1428 = .ok (.aload_n 0, 1) := by decide +kernel
theorem dL_law_1429 : decode cL_law 1429 = .ok (.iload 5, 2) := by decide +kernel
theorem dL_law_1431 : decode cL_law 1431 = .ok (.iconst 2, 1) := by decide +kernel
theorem dL_law_1432 : decode cL_law 1432 = .ok (.iadd, 1) := by decide +kernel
theorem dL_law_1433 : decode cL_law 1433 = .ok (.iaload, 1) := by decide +kernel
theorem dL_law_1434 : decode cL_law 1434 = .ok (.aload_n 3, 1) := by decide +kernel
theorem dL_law_1435 : decode cL_law 1435 = .ok (.invokestatic 184, 3) := by decide +kernel
theorem dL_law_1438 : decode cL_law 1438 = .ok (.istore 6, 2) := by decide +kernel
theorem dL_law_1440 : decode cL_law 1440 = .ok (.aload_n 2, 1) := by decide +kernel
theorem dL_law_1441 : decode cL_law 1441 = .ok (.aload_n 0, 1) := by decide +kernel
theorem dL_law_1442 : decode cL_law 1442 = .ok (.iload 5, 2) := by decide +kernel
theorem dL_law_1444 : decode cL_law 1444 = .ok (.iconst 1, 1) := by decide +kernel
theorem dL_law_1445 : decode cL_law 1445 = .ok (.iadd, 1) := by decide +kernel
theorem dL_law_1446 : decode cL_law 1446 = .ok (.iaload, 1) := by decide +kernel
theorem dL_law_1447 : decode cL_law 1447 = .ok (.aload_n 0, 1) := by decide +kernel
theorem dL_law_1448 : decode cL_law 1448 = .ok (.iload 5, 2) := by decide +kernel
theorem dL_law_1450 : decode cL_law 1450 = .ok (.iconst 2, 1) := by decide +kernel
theorem dL_law_1451 : decode cL_law 1451 = .ok (.iadd, 1) := by decide +kernel
theorem dL_law_1452 : decode cL_law 1452 = .ok (.iaload, 1) := by decide +kernel
theorem dL_law_1453 : decode cL_law 1453 = .ok (.invokevirtual 186, 3) := by decide +kernel
theorem dL_law_1456 : decode cL_law 1456 = .ok (.istore 7, 2) := by decide +kernel
theorem dL_law_1458 : decode cL_law 1458 = .ok (.aload_n 2, 1) := by decide +kernel
theorem dL_law_1459 : decode cL_law 1459 = .ok (.invokevirtual 105, 3) := by decide +kernel
theorem dL_law_1462 : decode cL_law 1462 = .ok (.iload 6, 2) := by decide +kernel
theorem dL_law_1464 : decode cL_law 1464 = .ok (.if_icmp .eq 5, 3) := by decide +kernel
theorem dL_law_1467 : decode cL_law 1467 = .ok (.iconst 0, 1) := by decide +kernel
theorem dL_law_1468 : decode cL_law 1468 = .ok (.ireturn, 1) := by decide +kernel
theorem dL_law_1469 : decode cL_law 1469 = .ok (.iload 6, 2) := by decide +kernel
theorem dL_law_1471 : decode cL_law 1471 = .ok (.ifCond .ne 15, 3) := by decide +kernel
theorem dL_law_1474 : decode cL_law 1474 = .ok (.aload_n 3, 1) := by decide +kernel
theorem dL_law_1475 : decode cL_law 1475 = .ok (.iconst 0, 1) := by decide +kernel
theorem dL_law_1476 : decode cL_law 1476 = .ok (.laload, 1) := by decide +kernel
theorem dL_law_1477 : decode cL_law 1477 = .ok (.iload 7, 2) := by decide +kernel
theorem dL_law_1479 : decode cL_law 1479 = .ok (.i2l, 1) := by decide +kernel
theorem dL_law_1480 : decode cL_law 1480 = .ok (.lcmp, 1) := by decide +kernel
theorem dL_law_1481 : decode cL_law 1481 = .ok (.ifCond .eq 5, 3) := by decide +kernel
theorem dL_law_1484 : decode cL_law 1484 = .ok (.iconst 0, 1) := by decide +kernel
theorem dL_law_1485 : decode cL_law 1485 = .ok (.ireturn, 1) := by decide +kernel
theorem dL_law_1486 : decode cL_law 1486 = .ok (.goto 155, 3) := by decide +kernel
theorem dL_law_1489 : decode cL_law 1489 = .ok (.aload_n 1, 1) := by decide +kernel
theorem dL_law_1490 : decode cL_law 1490 = .ok (.aload_n 0, 1) := by decide +kernel
theorem dL_law_1491 : decode cL_law 1491 = .ok (.iload 5, 2) := by decide +kernel
theorem dL_law_1493 : decode cL_law 1493 = .ok (.iconst 1, 1) := by decide +kernel
theorem dL_law_1494 : decode cL_law 1494 = .ok (.iadd, 1) := by decide +kernel
theorem dL_law_1495 : decode cL_law 1495 = .ok (.iaload, 1) := by decide +kernel
theorem dL_law_1496 : decode cL_law 1496 = .ok (.aload_n 0, 1) := by decide +kernel
theorem dL_law_1497 : decode cL_law 1497 = .ok (.iload 5, 2) := by decide +kernel
theorem dL_law_1499 : decode cL_law 1499 = .ok (.iconst 2, 1) := by decide +kernel
theorem dL_law_1500 : decode cL_law 1500 = .ok (.iadd, 1) := by decide +kernel
theorem dL_law_1501 : decode cL_law 1501 = .ok (.iaload, 1) := by decide +kernel
theorem dL_law_1502 : decode cL_law 1502 = .ok (.aload_n 0, 1) := by decide +kernel
theorem dL_law_1503 : decode cL_law 1503 = .ok (.iload 5, 2) := by decide +kernel
theorem dL_law_1505 : decode cL_law 1505 = .ok (.iconst 3, 1) := by decide +kernel
theorem dL_law_1506 : decode cL_law 1506 = .ok (.iadd, 1) := by decide +kernel
theorem dL_law_1507 : decode cL_law 1507 = .ok (.iaload, 1) := by decide +kernel
theorem dL_law_1508 : decode cL_law 1508 = .ok (.aload_n 3, 1) := by decide +kernel
theorem dL_law_1509 : decode cL_law 1509 = .ok (.invokestatic 187, 3) := by decide +kernel
theorem dL_law_1512 : decode cL_law 1512 = .ok (.istore 6, 2) := by decide +kernel
theorem dL_law_1514 : decode cL_law 1514 = .ok (.aload_n 2, 1) := by decide +kernel
theorem dL_law_1515 : decode cL_law 1515 = .ok (.aload_n 0, 1) := by decide +kernel
theorem dL_law_1516 : decode cL_law 1516 = .ok (.iload 5, 2) := by decide +kernel
theorem dL_law_1518 : decode cL_law 1518 = .ok (.iconst 1, 1) := by decide +kernel
theorem dL_law_1519 : decode cL_law 1519 = .ok (.iadd, 1) := by decide +kernel
theorem dL_law_1520 : decode cL_law 1520 = .ok (.iaload, 1) := by decide +kernel
theorem dL_law_1521 : decode cL_law 1521 = .ok (.aload_n 0, 1) := by decide +kernel
theorem dL_law_1522 : decode cL_law 1522 = .ok (.iload 5, 2) := by decide +kernel
theorem dL_law_1524 : decode cL_law 1524 = .ok (.iconst 2, 1) := by decide +kernel
theorem dL_law_1525 : decode cL_law 1525 = .ok (.iadd, 1) := by decide +kernel
theorem dL_law_1526 : decode cL_law 1526 = .ok (.iaload, 1) := by decide +kernel
theorem dL_law_1527 : decode cL_law 1527 = .ok (.aload_n 0, 1) := by decide +kernel
theorem dL_law_1528 : decode cL_law 1528 = .ok (.iload 5, 2) := by decide +kernel
theorem dL_law_1530 : decode cL_law 1530 = .ok (.iconst 3, 1) := by decide +kernel
theorem dL_law_1531 : decode cL_law 1531 = .ok (.iadd, 1) := by decide +kernel
theorem dL_law_1532 : decode cL_law 1532 = .ok (.iaload, 1) := by decide +kernel
theorem dL_law_1533 : decode cL_law 1533 = .ok (.invokevirtual 190, 3) := by decide +kernel
theorem dL_law_1536 : decode cL_law 1536 = .ok (.istore 7, 2) := by decide +kernel
theorem dL_law_1538 : decode cL_law 1538 = .ok (.aload_n 2, 1) := by decide +kernel
theorem dL_law_1539 : decode cL_law 1539 = .ok (.invokevirtual 105, 3) := by decide +kernel
theorem dL_law_1542 : decode cL_law 1542 = .ok (.iload 6, 2) := by decide +kernel
theorem dL_law_1544 : decode cL_law 1544 = .ok (.if_icmp .eq 5, 3) := by decide +kernel
theorem dL_law_1547 : decode cL_law 1547 = .ok (.iconst 0, 1) := by decide +kernel
theorem dL_law_1548 : decode cL_law 1548 = .ok (.ireturn, 1) := by decide +kernel
theorem dL_law_1549 : decode cL_law 1549 = .ok (.iload 6, 2) := by decide +kernel
theorem dL_law_1551 : decode cL_law 1551 = .ok (.ifCond .ne 15, 3) := by decide +kernel
theorem dL_law_1554 : decode cL_law 1554 = .ok (.aload_n 3, 1) := by decide +kernel
theorem dL_law_1555 : decode cL_law 1555 = .ok (.iconst 0, 1) := by decide +kernel
theorem dL_law_1556 : decode cL_law 1556 = .ok (.laload, 1) := by decide +kernel
theorem dL_law_1557 : decode cL_law 1557 = .ok (.iload 7, 2) := by decide +kernel
theorem dL_law_1559 : decode cL_law 1559 = .ok (.i2l, 1) := by decide +kernel
theorem dL_law_1560 : decode cL_law 1560 = .ok (.lcmp, 1) := by decide +kernel
theorem dL_law_1561 : decode cL_law 1561 = .ok (.ifCond .eq 5, 3) := by decide +kernel
theorem dL_law_1564 : decode cL_law 1564 = .ok (.iconst 0, 1) := by decide +kernel
theorem dL_law_1565 : decode cL_law 1565 = .ok (.ireturn, 1) := by decide +kernel
theorem dL_law_1566 : decode cL_law 1566 = .ok (.goto 75, 3) := by decide +kernel
theorem dL_law_1569 : decode cL_law 1569 = .ok (.aload_n 1, 1) := by decide +kernel
theorem dL_law_1570 : decode cL_law 1570 = .ok (.aload_n 0, 1) := by decide +kernel
theorem dL_law_1571 : decode cL_law 1571 = .ok (.iload 5, 2) := by decide +kernel
theorem dL_law_1573 : decode cL_law 1573 = .ok (.iconst 1, 1) := by decide +kernel
theorem dL_law_1574 : decode cL_law 1574 = .ok (.iadd, 1) := by decide +kernel
theorem dL_law_1575 : decode cL_law 1575 = .ok (.iaload, 1) := by decide +kernel
theorem dL_law_1576 : decode cL_law 1576 = .ok (.invokestatic 191, 3) := by decide +kernel
theorem dL_law_1579 : decode cL_law 1579 = .ok (.istore 6, 2) := by decide +kernel
theorem dL_law_1581 : decode cL_law 1581 = .ok (.aload_n 2, 1) := by decide +kernel
theorem dL_law_1582 : decode cL_law 1582 = .ok (.aload_n 0, 1) := by decide +kernel
theorem dL_law_1583 : decode cL_law 1583 = .ok (.iload 5, 2) := by decide +kernel
theorem dL_law_1585 : decode cL_law 1585 = .ok (.iconst 1, 1) := by decide +kernel
theorem dL_law_1586 : decode cL_law 1586 = .ok (.iadd, 1) := by decide +kernel
theorem dL_law_1587 : decode cL_law 1587 = .ok (.iaload, 1) := by decide +kernel
theorem dL_law_1588 : decode cL_law 1588 = .ok (.invokevirtual 194, 3) := by decide +kernel
theorem dL_law_1591 : decode cL_law 1591 = .ok (.aload_n 2, 1) := by decide +kernel
theorem dL_law_1592 : decode cL_law 1592 = .ok (.invokevirtual 105, 3) := by decide +kernel
theorem dL_law_1595 : decode cL_law 1595 = .ok (.iload 6, 2) := by decide +kernel
theorem dL_law_1597 : decode cL_law 1597 = .ok (.if_icmp .eq 5, 3) := by decide +kernel
theorem dL_law_1600 : decode cL_law 1600 = .ok (.iconst 0, 1) := by decide +kernel
theorem dL_law_1601 : decode cL_law 1601 = .ok (.ireturn, 1) := by decide +kernel
theorem dL_law_1602 : decode cL_law 1602 = .ok (.goto 39, 3) := by decide +kernel
theorem dL_law_1605 : decode cL_law 1605 = .ok (.aload_n 1, 1) := by decide +kernel
theorem dL_law_1606 : decode cL_law 1606 = .ok (.aload_n 0, 1) := by decide +kernel
theorem dL_law_1607 : decode cL_law 1607 = .ok (.iload 5, 2) := by decide +kernel
theorem dL_law_1609 : decode cL_law 1609 = .ok (.iconst 1, 1) := by decide +kernel
theorem dL_law_1610 : decode cL_law 1610 = .ok (.iadd, 1) := by decide +kernel
theorem dL_law_1611 : decode cL_law 1611 = .ok (.iaload, 1) := by decide +kernel
theorem dL_law_1612 : decode cL_law 1612 = .ok (.invokestatic 195, 3) := by decide +kernel
theorem dL_law_1615 : decode cL_law 1615 = .ok (.istore 6, 2) := by decide +kernel
theorem dL_law_1617 : decode cL_law 1617 = .ok (.aload_n 2, 1) := by decide +kernel
theorem dL_law_1618 : decode cL_law 1618 = .ok (.aload_n 0, 1) := by decide +kernel
theorem dL_law_1619 : decode cL_law 1619 = .ok (.iload 5, 2) := by decide +kernel
theorem dL_law_1621 : decode cL_law 1621 = .ok (.iconst 1, 1) := by decide +kernel
theorem dL_law_1622 : decode cL_law 1622 = .ok (.iadd, 1) := by decide +kernel
theorem dL_law_1623 : decode cL_law 1623 = .ok (.iaload, 1) := by decide +kernel
theorem dL_law_1624 : decode cL_law 1624 = .ok (.invokevirtual 197, 3) := by decide +kernel
theorem dL_law_1627 : decode cL_law 1627 = .ok (.aload_n 2, 1) := by decide +kernel
theorem dL_law_1628 : decode cL_law 1628 = .ok (.invokevirtual 105, 3) := by decide +kernel
theorem dL_law_1631 : decode cL_law 1631 = .ok (.iload 6, 2) := by decide +kernel
theorem dL_law_1633 : decode cL_law 1633 = .ok (.if_icmp .eq 5, 3) := by decide +kernel
theorem dL_law_1636 : decode cL_law 1636 = .ok (.iconst 0, 1) := by decide +kernel
theorem dL_law_1637 : decode cL_law 1637 = .ok (.ireturn, 1) := by decide +kernel
theorem dL_law_1638 : decode cL_law 1638 = .ok (.goto 3, 3) := by decide +kernel
theorem dL_law_1641 : decode cL_law 1641 = .ok (.iinc 5 6, 3) := by decide +kernel
theorem dL_law_1644 : decode cL_law 1644 = .ok (.goto (-1616), 3) := by decide +kernel
theorem dL_law_1647 : decode cL_law 1647 = .ok (.iconst 1, 1) := by decide +kernel
theorem dL_law_1648 : decode cL_law 1648 = .ok (.ireturn, 1) := by decide +kernel
end
section
/-! minors of whole numbers, by expansion along the first column -/
section MN
def mx (f : (Nat → Int) → List (Nat → Int) → Int) : List (Nat → Int) → Int
  | [] => 0
  | r :: rs => f r rs - mx (fun t q => f t (r :: q)) rs
def mn : List Nat → List (Nat → Int) → Int
  | [] => fun rs => match rs with
    | [] => 1
    | _ :: _ => 0
  | j :: cs => fun rs => mx (fun r q => r j * mn cs q) rs
theorem mn_cons (j : Nat) (cs : List Nat) (r : Nat → Int) (rs : List (Nat → Int)) : mn (j :: cs) (r :: rs) = r j * mn cs rs - mx (fun t q => t j * mn cs (r :: q)) rs := rfl
theorem mn_nil_rows (j : Nat) (cs : List Nat) : mn (j :: cs) [] = 0 := rfl
theorem mx_congr : ∀ (rs : List (Nat → Int)) (f g : (Nat → Int) → List (Nat → Int) → Int), (∀ r q, (r :: q).Perm rs → f r q = g r q) → mx f rs = mx g rs
  | [], _, _, _ => rfl
  | r :: rs, f, g, h => by
    show f r rs - mx _ rs = g r rs - mx _ rs
    rw [h r rs (List.Perm.refl _), mx_congr rs (fun t q => f t (r :: q)) (fun t q => g t (r :: q)) (fun t q hq => h t (r :: q) ((List.Perm.swap r t q).trans (hq.cons r)))]
theorem mx_lin (a b : Int) : ∀ (rs : List (Nat → Int)) (f g : (Nat → Int) → List (Nat → Int) → Int), mx (fun r q => a * f r q + b * g r q) rs = a * mx f rs + b * mx g rs
  | [], _, _ => by simp [mx]
  | r :: rs, f, g => by
    show (a * f r rs + b * g r rs) - mx (fun t q => a * f t (r :: q) + b * g t (r :: q)) rs = a * (f r rs - mx (fun t q => f t (r :: q)) rs) + b * (g r rs - mx (fun t q => g t (r :: q)) rs)
    rw [mx_lin a b rs (fun t q => f t (r :: q)) (fun t q => g t (r :: q))]
    grind
theorem mx_zero (rs : List (Nat → Int)) (f : (Nat → Int) → List (Nat → Int) → Int) (h : ∀ r q, (r :: q).Perm rs → f r q = 0) : mx f rs = 0 := by
  have h1 := mx_congr rs f (fun r q => 0 * f r q + 0 * f r q) (fun r q hq => by rw [h r q hq]; simp)
  rw [h1, mx_lin]
  simp
/-- what changes its sign with two neighbours -/
def mAlt (F : List (Nat → Int) → Int) : Prop := ∀ xs a b ys, F (xs ++ a :: b :: ys) = - F (xs ++ b :: a :: ys)
theorem mx_alt : ∀ (xs : List (Nat → Int)) (f : (Nat → Int) → List (Nat → Int) → Int), (∀ t, mAlt (f t)) → ∀ a b ys, mx f (xs ++ a :: b :: ys) = - mx f (xs ++ b :: a :: ys)
  | [], f, h, a, b, ys => by
    show f a (b :: ys) - (f b (a :: ys) - mx (fun t q => f t (a :: b :: q)) ys) = -(f b (a :: ys) - (f a (b :: ys) - mx (fun t q => f t (b :: a :: q)) ys))
    have h1 : mx (fun t q => f t (a :: b :: q)) ys = mx (fun t q => (-1) * f t (b :: a :: q) + 0 * f t q) ys := mx_congr ys _ _ (fun t q _ => by
      have := h t [] a b q
      simp only [List.nil_append] at this
      rw [this]
      grind)
    rw [h1, mx_lin]
    grind
  | x :: xs, f, h, a, b, ys => by
    show f x (xs ++ a :: b :: ys) - mx (fun t q => f t (x :: q)) (xs ++ a :: b :: ys) = -(f x (xs ++ b :: a :: ys) - mx (fun t q => f t (x :: q)) (xs ++ b :: a :: ys))
    rw [h x xs a b ys, mx_alt xs (fun t q => f t (x :: q)) (fun t zs a b ws => h t (x :: zs) a b ws) a b ys]
    grind
theorem mn_one : mn [] [] = 1 := rfl
theorem mn_over (r : Nat → Int) (rs : List (Nat → Int)) : mn [] (r :: rs) = 0 := rfl
theorem mn_alt : ∀ (cs : List Nat), mAlt (mn cs)
  | [] => fun xs a b ys => by
    cases xs with
    | nil => rfl
    | cons x xs => rfl
  | j :: cs => fun xs a b ys => mx_alt xs (fun r q => r j * mn cs q) (fun t zs a b ws => by
      show t j * mn cs (zs ++ a :: b :: ws) = -(t j * mn cs (zs ++ b :: a :: ws))
      rw [mn_alt cs zs a b ws]
      grind) a b ys
theorem alt_perm {l l' : List (Nat → Int)} (h : l.Perm l') : ∃ e : Int, (e = 1 ∨ e = -1) ∧ ∀ F, mAlt F → F l = e * F l' := by
  induction h with
  | nil => exact ⟨1, Or.inl rfl, fun F _ => by simp⟩
  | @cons x l1 l2 h ih =>
    obtain ⟨e, he, h1⟩ := ih
    exact ⟨e, he, fun F hF => h1 (fun q => F (x :: q)) (fun xs a b ys => hF (x :: xs) a b ys)⟩
  | swap x y l => exact ⟨-1, Or.inr rfl, fun F hF => by
      have := hF [] y x l
      simp only [List.nil_append] at this
      rw [this]
      grind⟩
  | trans h1 h2 ih1 ih2 =>
    obtain ⟨e1, g1, k1⟩ := ih1
    obtain ⟨e2, g2, k2⟩ := ih2
    refine ⟨e1 * e2, ?_, fun F hF => by rw [k1 F hF, k2 F hF]; grind⟩
    rcases g1 with rfl | rfl <;> rcases g2 with rfl | rfl <;> simp
theorem mn_perm {l l' : List (Nat → Int)} (h : l.Perm l') : ∃ e : Int, (e = 1 ∨ e = -1) ∧ ∀ cs, mn cs l = e * mn cs l' := by
  obtain ⟨e, he, h1⟩ := alt_perm h
  exact ⟨e, he, fun cs => h1 _ (mn_alt cs)⟩
theorem mn_dup {a : Nat → Int} {l : List (Nat → Int)} (h : a ∈ l) (cs : List Nat) : mn cs (a :: l) = 0 := by
  obtain ⟨s, t, rfl⟩ := List.append_of_mem h
  obtain ⟨e, he, h1⟩ := mn_perm (show (a :: (s ++ a :: t)).Perm (a :: a :: (s ++ t)) from List.Perm.cons a List.perm_middle)
  have h2 := mn_alt cs [] a a (s ++ t)
  simp only [List.nil_append] at h2
  have h3 : mn cs (a :: a :: (s ++ t)) = 0 := by omega
  rw [h1 cs, h3]
  simp
theorem mn_lin (c d : Int) {u v w : Nat → Int} (hw : ∀ j, w j = c * u j + d * v j) : ∀ (cs : List Nat) (l : List (Nat → Int)), mn cs (w :: l) = c * mn cs (u :: l) + d * mn cs (v :: l)
  | [], l => by simp [mn_over]
  | j :: cs, l => by
    rw [mn_cons, mn_cons, mn_cons, hw j]
    have h1 : mx (fun t q => t j * mn cs (w :: q)) l = mx (fun t q => c * (t j * mn cs (u :: q)) + d * (t j * mn cs (v :: q))) l := mx_congr l _ _ (fun t q _ => by
      rw [mn_lin c d hw cs q]
      grind)
    rw [h1, mx_lin]
    grind
/-- only the entries in the columns at hand count -/
theorem mn_zero_row {w : Nat → Int} : ∀ (cs : List Nat) (l : List (Nat → Int)), (∀ j ∈ cs, w j = 0) → mn cs (w :: l) = 0
  | [], l, _ => rfl
  | j :: cs, l, h => by
    rw [mn_cons, h j List.mem_cons_self]
    have h1 : mx (fun t q => t j * mn cs (w :: q)) l = 0 := mx_zero l _ (fun t q _ => by
      rw [mn_zero_row cs q (fun k hk => h k (List.mem_cons_of_mem _ hk))]
      simp)
    rw [h1]
    simp
theorem mn_zero_col {j : Nat} (cs : List Nat) (l : List (Nat → Int)) (h : ∀ r ∈ l, r j = 0) : mn (j :: cs) l = 0 := by
  show mx (fun r q => r j * mn cs q) l = 0
  refine mx_zero l _ (fun r q hq => ?_)
  rw [h r (hq.subset List.mem_cons_self)]
  simp
/-- one row more: the others stand on columns of their own -/
theorem mn_front {w : Nat → Int} (j : Nat) (cs : List Nat) (l : List (Nat → Int)) (h : ∀ k ∈ cs, w k = 0) : mn (j :: cs) (w :: l) = mn cs l * w j := by
  rw [mn_cons]
  have h1 : mx (fun t q => t j * mn cs (w :: q)) l = 0 := mx_zero l _ (fun t q _ => by
    rw [mn_zero_row cs q h]
    simp)
  rw [h1]
  grind
/-- a diagonal -/
theorem mn_diag {V : Nat → Nat → Int} : ∀ (ps : List (Nat × Nat)), (∀ q ∈ ps, V q.1 q.2 ≠ 0) → ps.Pairwise (fun a b => V b.1 a.2 = 0) → mn (ps.map Prod.snd) (ps.map (fun q => V q.1)) ≠ 0
  | [], _, _ => by simp [mn]
  | q :: ps, h, hp => by
    rw [List.map_cons, List.map_cons, mn_cons]
    have hp' := List.pairwise_cons.mp hp
    have h1 : mx (fun t z => t q.2 * mn (ps.map Prod.snd) (V q.1 :: z)) (ps.map (fun q => V q.1)) = 0 := mx_zero _ _ (fun t z hz => by
      obtain ⟨b, hb, rfl⟩ := List.mem_map.mp (hz.subset List.mem_cons_self)
      rw [hp'.1 b hb]
      simp)
    rw [h1]
    have h2 := mn_diag ps (fun q hq => h q (List.mem_cons_of_mem _ hq)) hp'.2
    have h3 := h q List.mem_cons_self
    simp only [Int.sub_zero]
    exact Int.mul_ne_zero h3 h2
end MN
end
section
/-! bounds of minors; the elimination over whole numbers -/
section EL
def mxs (f : (Nat → Int) → List (Nat → Int) → Nat) : List (Nat → Int) → Nat
  | [] => 0
  | r :: rs => f r rs + mxs (fun t q => f t (r :: q)) rs
theorem mxs_le : ∀ (rs : List (Nat → Int)) (f g : (Nat → Int) → List (Nat → Int) → Nat), (∀ r q, (r :: q).Perm rs → f r q ≤ g r q) → mxs f rs ≤ mxs g rs
  | [], _, _, _ => Nat.le_refl _
  | r :: rs, f, g, h => Nat.add_le_add (h r rs (List.Perm.refl _)) (mxs_le rs _ _ (fun t q hq => h t (r :: q) ((List.Perm.swap r t q).trans (hq.cons r))))
theorem mx_abs : ∀ (rs : List (Nat → Int)) (f : (Nat → Int) → List (Nat → Int) → Int), (mx f rs).natAbs ≤ mxs (fun r q => (f r q).natAbs) rs
  | [], _ => Nat.le_refl _
  | r :: rs, f => by
    show (f r rs - mx (fun t q => f t (r :: q)) rs).natAbs ≤ (f r rs).natAbs + mxs (fun t q => (f t (r :: q)).natAbs) rs
    have := mx_abs rs (fun t q => f t (r :: q))
    omega
def pW (y : (Nat → Int) → Nat) : List (Nat → Int) → Nat
  | [] => 1
  | r :: rs => y r * pW y rs
theorem pW_le {y z : (Nat → Int) → Nat} : ∀ (l : List (Nat → Int)), (∀ r ∈ l, y r ≤ z r) → pW y l ≤ pW z l
  | [], _ => Nat.le_refl _
  | r :: l, h => Nat.mul_le_mul (h r List.mem_cons_self) (pW_le l (fun q hq => h q (List.mem_cons_of_mem _ hq)))
theorem mxs_mul (a : Nat) : ∀ (rs : List (Nat → Int)) (f : (Nat → Int) → List (Nat → Int) → Nat), mxs (fun r q => a * f r q) rs = a * mxs f rs
  | [], _ => rfl
  | r :: rs, f => by
    show a * f r rs + mxs (fun t q => a * f t (r :: q)) rs = a * (f r rs + mxs (fun t q => f t (r :: q)) rs)
    rw [mxs_mul a rs (fun t q => f t (r :: q)), Nat.mul_add]
theorem mxs_prod (x y : (Nat → Int) → Nat) : ∀ (l : List (Nat → Int)), mxs (fun r q => x r * pW y q) l ≤ pW (fun r => x r + y r) l
  | [] => Nat.zero_le _
  | r :: l => by
    show x r * pW y l + mxs (fun t q => x t * pW y (r :: q)) l ≤ (x r + y r) * pW (fun r => x r + y r) l
    have h1 : mxs (fun t q => x t * pW y (r :: q)) l = y r * mxs (fun t q => x t * pW y q) l := by
      rw [← mxs_mul]
      congr 1
      funext t q
      show x t * (y r * pW y q) = y r * (x t * pW y q)
      rw [← Nat.mul_assoc, ← Nat.mul_assoc, Nat.mul_comm (x t)]
    rw [h1, Nat.add_mul]
    exact Nat.add_le_add (Nat.mul_le_mul_left _ (pW_le l (fun q _ => Nat.le_add_left _ _))) (Nat.mul_le_mul_left _ (mxs_prod x y l))
def rN (cs : List Nat) (w : Nat → Int) : Nat := match cs with
  | [] => 0
  | j :: cs => (w j).natAbs + rN cs w
theorem mn_rows : ∀ (cs : List Nat) (l : List (Nat → Int)), (mn cs l).natAbs ≤ pW (rN cs) l
  | [], [] => Nat.le_refl _
  | [], r :: l => Nat.zero_le _
  | j :: cs, l => by
    refine Nat.le_trans (mx_abs l _) (Nat.le_trans (mxs_le l _ (fun r q => (r j).natAbs * pW (rN cs) q) (fun r q _ => ?_)) (mxs_prod (fun r => (r j).natAbs) (rN cs) l))
    rw [Int.natAbs_mul]
    exact Nat.mul_le_mul_left _ (mn_rows cs q)
def cN (l : List (Nat → Int)) (j : Nat) : Nat := match l with
  | [] => 0
  | r :: l => (r j).natAbs + cN l j
def pC (y : Nat → Nat) : List Nat → Nat
  | [] => 1
  | r :: rs => y r * pC y rs
theorem pC_le {y z : Nat → Nat} : ∀ (l : List Nat), (∀ r ∈ l, y r ≤ z r) → pC y l ≤ pC z l
  | [], _ => Nat.le_refl _
  | r :: l, h => Nat.mul_le_mul (h r List.mem_cons_self) (pC_le l (fun q hq => h q (List.mem_cons_of_mem _ hq)))
theorem cN_perm {l l' : List (Nat → Int)} (h : l.Perm l') (j : Nat) : cN l j = cN l' j := by
  induction h with
  | nil => rfl
  | cons x _ ih => show _ + _ = _ + _; rw [ih]
  | swap x y l => show _ + (_ + _) = _ + (_ + _); omega
  | trans _ _ h1 h2 => rw [h1, h2]
theorem mxs_cN (j : Nat) (a : Nat) : ∀ (l : List (Nat → Int)), mxs (fun r _ => (r j).natAbs * a) l = cN l j * a
  | [] => by simp [mxs, cN]
  | r :: l => by
    show (r j).natAbs * a + mxs (fun t _ => (t j).natAbs * a) l = ((r j).natAbs + cN l j) * a
    rw [mxs_cN j a l, Nat.add_mul]
theorem mn_cols : ∀ (cs : List Nat) (l : List (Nat → Int)), (mn cs l).natAbs ≤ pC (cN l) cs
  | [], [] => Nat.le_refl _
  | [], r :: l => Nat.zero_le _
  | j :: cs, l => by
    refine Nat.le_trans (mx_abs l _) (Nat.le_trans (mxs_le l _ (fun r _ => (r j).natAbs * pC (cN l) cs) (fun r q hq => ?_)) (Nat.le_of_eq (mxs_cN j _ l)))
    rw [Int.natAbs_mul]
    refine Nat.mul_le_mul_left _ (Nat.le_trans (mn_cols cs q) (pC_le cs (fun k _ => ?_)))
    rw [← cN_perm hq k]
    exact Nat.le_add_left _ _
/-! the greatest common factor of a row's first n -/
def gU (e : Nat → Int) : Nat → Nat
  | 0 => 0
  | n + 1 => Nat.gcd (gU e n) (e n).natAbs
theorem gU_dvd {e : Nat → Int} : ∀ {n j : Nat}, j < n → gU e n ∣ (e j).natAbs
  | n + 1, j, h => by
    rcases Nat.lt_or_ge j n with q | q
    · exact Nat.dvd_trans (Nat.gcd_dvd_left _ _) (gU_dvd q)
    · have : j = n := by omega
      subst this
      exact Nat.gcd_dvd_right _ _
theorem gU_of {e : Nat → Int} {d : Nat} : ∀ {n : Nat}, (∀ j, j < n → d ∣ (e j).natAbs) → d ∣ gU e n
  | 0, _ => Nat.dvd_zero d
  | n + 1, h => Nat.dvd_gcd (gU_of (fun j hj => h j (by omega))) (h n (by omega))
theorem gU_congr {e f : Nat → Int} : ∀ {n : Nat}, (∀ j, j < n → e j = f j) → gU e n = gU f n
  | 0, _ => rfl
  | n + 1, h => by
    show Nat.gcd _ _ = Nat.gcd _ _
    rw [gU_congr (fun j hj => h j (by omega)), h n (by omega)]
theorem gU_mul (g : Int) (e : Nat → Int) : ∀ n, gU (fun j => g * e j) n = g.natAbs * gU e n
  | 0 => rfl
  | n + 1 => by
    show Nat.gcd (gU (fun j => g * e j) n) (g * e n).natAbs = g.natAbs * Nat.gcd (gU e n) (e n).natAbs
    rw [gU_mul g e n, Int.natAbs_mul, Nat.gcd_mul_left]
theorem gU_zero {e : Nat → Int} {n : Nat} (h : gU e n = 0) : ∀ j, j < n → e j = 0 := fun j hj => by
  have := gU_dvd (e := e) hj
  rw [h] at this
  have := Nat.eq_zero_of_zero_dvd this
  omega
/-- a row without a common factor is the least of its kind -/
theorem prim_le {v w : Nat → Int} {al be : Int} {n : Nat} (hg : gU v n ≤ 1) (ha : al ≠ 0) (h : ∀ j, j < n → al * v j = be * w j) : ∀ j, j < n → (v j).natAbs ≤ (w j).natAbs := by
  intro j hj
  rcases Nat.eq_zero_or_pos (gU v n) with h0 | h0
  · rw [gU_zero h0 j hj]; exact Nat.zero_le _
  have h1 : gU v n = 1 := by omega
  have hN : ∀ k, k < n → al.natAbs * (v k).natAbs = be.natAbs * (w k).natAbs := fun k hk => by
    rw [← Int.natAbs_mul, ← Int.natAbs_mul, h k hk]
  have hd : be.natAbs ∣ al.natAbs := by
    have h2 : be.natAbs ∣ gU (fun k => al * v k) n := gU_of (fun k hk => by
      show be.natAbs ∣ (al * v k).natAbs
      rw [h k hk, Int.natAbs_mul]
      exact Nat.dvd_mul_right _ _)
    rw [gU_mul, h1, Nat.mul_one] at h2
    exact h2
  obtain ⟨z, hz⟩ := hd
  have hap : 0 < al.natAbs := Int.natAbs_pos.mpr ha
  have hb : 0 < be.natAbs := Nat.pos_of_ne_zero fun q => by rw [hz, q, Nat.zero_mul] at hap; exact absurd hap (Nat.lt_irrefl _)
  have hz0 : 0 < z := Nat.pos_of_ne_zero fun q => by rw [hz, q, Nat.mul_zero] at hap; exact absurd hap (Nat.lt_irrefl _)
  have h3 := hN j hj
  rw [hz, Nat.mul_assoc] at h3
  have h4 := Nat.eq_of_mul_eq_mul_left hb h3
  rw [← h4]
  exact Nat.le_mul_of_pos_left _ hz0
/-! one stage of the elimination -/
def Elim (v w u : Nat → Int) (t : Nat) : Prop := ∃ g : Int, 0 < g ∧ (∀ j, g * u j = v j * w t - w j * v t) ∧ gU u 11 ≤ 1
def Stage (V V' : Nat → Nat → Int) (r t n : Nat) : Prop := V' r = V r ∧ ∀ k, k < n → k ≠ r → (V k t = 0 ∧ V' k = V k) ∨ Elim (V k) (V r) (V' k) t
theorem step_minor {U U' : Nat → Nat → Int} {rs : List Nat} {k r t : Nat} (hn : rs.Nodup) (hk : k ∈ rs) (hr : r ∈ rs) (hkr : k ≠ r) (he : ∀ i, i ≠ k → U' i = U i) (hp : U r t ≠ 0) (h : U' k = U k ∨ Elim (U k) (U r) (U' k) t) : ∃ al be : Int, al ≠ 0 ∧ be ≠ 0 ∧ ∀ cs, al * mn cs (rs.map U') = be * mn cs (rs.map U) := by
  rcases h with h | ⟨g, hg, hj, -⟩
  · have : U' = U := funext fun i => by
      by_cases q : i = k
      · subst q; exact h
      · exact he i q
    rw [this]
    exact ⟨1, 1, by decide, by decide, fun _ => rfl⟩
  have hpm := List.perm_cons_erase hk
  have htl : (rs.erase k).map U' = (rs.erase k).map U := List.map_congr_left (fun i hi => he i (fun q => by subst q; exact hn.not_mem_erase hi))
  obtain ⟨e1, g1, k1⟩ := mn_perm (hpm.map U')
  obtain ⟨e2, g2, k2⟩ := mn_perm (hpm.map U)
  rw [List.map_cons, htl] at k1
  rw [List.map_cons] at k2
  have hrin : U r ∈ (rs.erase k).map U := List.mem_map.mpr ⟨r, (List.mem_erase_of_ne (fun q => hkr q.symm)).mpr hr, rfl⟩
  have hx : ∀ cs, g * mn cs (U' k :: (rs.erase k).map U) = U r t * mn cs (U k :: (rs.erase k).map U) := fun cs => by
    have a1 := mn_lin g 0 (u := U' k) (v := U' k) (w := fun j => g * U' k j) (fun j => by simp) cs ((rs.erase k).map U)
    have a2 := mn_lin (U r t) (-(U k t)) (u := U k) (v := U r) (w := fun j => g * U' k j) (fun j => by rw [hj j]; grind) cs ((rs.erase k).map U)
    rw [mn_dup hrin] at a2
    rw [a1] at a2
    grind
  refine ⟨g * e1, U r t * e2, ?_, ?_, fun cs => ?_⟩
  · rcases g1 with rfl | rfl <;> omega
  · rcases g2 with rfl | rfl
    · rw [Int.mul_one]; exact hp
    · rw [Int.mul_neg, Int.mul_one]; omega
  · rw [k1 cs, k2 cs]
    have := hx cs
    rcases g1 with rfl | rfl <;> rcases g2 with rfl | rfl <;> grind
theorem stage_minor {V V' : Nat → Nat → Int} {r t n : Nat} (hs : Stage V V' r t n) (hp : V r t ≠ 0) {rs : List Nat} (hn : rs.Nodup) (hr : r ∈ rs) (hb : ∀ i ∈ rs, i < n) : ∃ al be : Int, al ≠ 0 ∧ be ≠ 0 ∧ ∀ cs, al * mn cs (rs.map V') = be * mn cs (rs.map V) := by
  have key : ∀ S : List Nat, S.Nodup → (∀ i ∈ S, i ∈ rs) → ∃ al be : Int, al ≠ 0 ∧ be ≠ 0 ∧ ∀ cs, al * mn cs (rs.map (fun k => if k ∈ S then V' k else V k)) = be * mn cs (rs.map V) := by
    intro S
    induction S with
    | nil =>
      intro _ _
      refine ⟨1, 1, by decide, by decide, fun cs => ?_⟩
      have : (fun k => if k ∈ ([] : List Nat) then V' k else V k) = V := funext fun k => by simp
      rw [this]
    | cons k S ih =>
      intro hS hin
      obtain ⟨hkS, hS2⟩ := List.nodup_cons.mp hS
      obtain ⟨a1, b1, ha1, hb1, h1⟩ := ih hS2 (fun i hi => hin i (List.mem_cons_of_mem _ hi))
      by_cases hkr : k = r
      · subst hkr
        refine ⟨a1, b1, ha1, hb1, fun cs => ?_⟩
        have : (fun i => if i ∈ k :: S then V' i else V i) = (fun i => if i ∈ S then V' i else V i) := funext fun i => by
          by_cases q : i = k
          · subst q; simp [hkS, hs.1]
          · simp [q]
        rw [this]
        exact h1 cs
      · have hk := hin k List.mem_cons_self
        obtain ⟨a2, b2, ha2, hb2, h2⟩ := step_minor (U := fun i => if i ∈ S then V' i else V i) (U' := fun i => if i ∈ k :: S then V' i else V i) (k := k) (r := r) (t := t) hn hk hr hkr (fun i hi => by simp [hi]) (by
            show (if r ∈ S then V' r else V r) t ≠ 0
            split
            · rw [hs.1]; exact hp
            · exact hp) (by
            have e1 : (if k ∈ k :: S then V' k else V k) = V' k := by simp
            have e2 : (if k ∈ S then V' k else V k) = V k := by simp [hkS]
            have e3 : (if r ∈ S then V' r else V r) = V r := by
              split
              · exact hs.1
              · rfl
            show (if k ∈ k :: S then V' k else V k) = (if k ∈ S then V' k else V k) ∨ Elim (if k ∈ S then V' k else V k) (if r ∈ S then V' r else V r) (if k ∈ k :: S then V' k else V k) t
            rw [e1, e2, e3]
            rcases hs.2 k (hb k hk) hkr with q | q
            · exact Or.inl q.2
            · exact Or.inr q)
        refine ⟨a1 * a2, b1 * b2, Int.mul_ne_zero ha1 ha2, Int.mul_ne_zero hb1 hb2, fun cs => ?_⟩
        have e1 := h1 cs
        have e2 := h2 cs
        grind
  obtain ⟨al, be, ha, hbe, h⟩ := key rs hn (fun i hi => hi)
  refine ⟨al, be, ha, hbe, fun cs => ?_⟩
  have : rs.map V' = rs.map (fun k => if k ∈ rs then V' k else V k) := List.map_congr_left (fun i hi => by simp [hi])
  rw [this]
  exact h cs
/-! solutions -/
def dt (v x : Nat → Int) : Nat → Int
  | 0 => 0
  | n + 1 => dt v x n + v n * x n
def HS (V : Nat → Nat → Int) (n : Nat) (x : Nat → Int) : Prop := ∀ i, i < n → dt (V i) x 11 = 0
theorem dt_lin (x : Nat → Int) {g c d : Int} {u v w : Nat → Int} (h : ∀ j, g * u j = v j * c - w j * d) : ∀ n, g * dt u x n = dt v x n * c - dt w x n * d
  | 0 => by simp [dt]
  | n + 1 => by
    show g * (dt u x n + u n * x n) = (dt v x n + v n * x n) * c - (dt w x n + w n * x n) * d
    have h1 := dt_lin x h n
    have h2 := h n
    grind
theorem stage_sol {V V' : Nat → Nat → Int} {r t n : Nat} (hs : Stage V V' r t n) (hp : V r t ≠ 0) (hr : r < n) (x : Nat → Int) : HS V' n x ↔ HS V n x := by
  constructor
  · intro h k hk
    have h0 := h r hr
    rw [hs.1] at h0
    by_cases q : k = r
    · subst q; exact h0
    rcases hs.2 k hk q with z | ⟨g, hg, hj, -⟩
    · rw [← z.2]; exact h k hk
    · have h1 := dt_lin x hj 11
      rw [h k hk, h0] at h1
      have h2 : dt (V k) x 11 * V r t = 0 := by grind
      rcases Int.mul_eq_zero.mp h2 with z | z
      · exact z
      · exact absurd z hp
  · intro h k hk
    by_cases q : k = r
    · subst q; rw [hs.1]; exact h k hk
    rcases hs.2 k hk q with z | ⟨g, hg, hj, -⟩
    · rw [z.2]; exact h k hk
    · have h1 := dt_lin x hj 11
      rw [h k hk, h r hr] at h1
      have h2 : g * dt (V' k) x 11 = 0 := by grind
      rcases Int.mul_eq_zero.mp h2 with z | z
      · omega
      · exact z
/-! what holds between two stages -/
def BB : Nat := 351232000
def MB (M0 : Nat → Nat → Int) (n : Nat) : Prop := ∀ (rs cs : List Nat), rs.Nodup → (∀ r ∈ rs, r < n) → cs.Nodup → (∀ c ∈ cs, c < 11) → (mn cs (rs.map M0)).natAbs ≤ BB
def EInv (M0 V : Nat → Nat → Int) (n : Nat) (ps : List (Nat × Nat)) : Prop := (∀ q ∈ ps, q.1 < n ∧ q.2 < 10) ∧ (ps.map Prod.fst).Nodup ∧ (∀ q ∈ ps, V q.1 q.2 ≠ 0 ∧ ∀ k, k < n → k ≠ q.1 → V k q.2 = 0) ∧
  (∀ rs : List Nat, rs.Nodup → (∀ i ∈ rs, i < n) → (∀ q ∈ ps, q.1 ∈ rs) → ∃ al be : Int, al ≠ 0 ∧ be ≠ 0 ∧ ∀ cs, al * mn cs (rs.map V) = be * mn cs (rs.map M0)) ∧
  (∀ i, i < n → V i = M0 i ∨ gU (V i) 11 ≤ 1) ∧ (∀ x, HS V n x ↔ HS M0 n x)
theorem EInv_start (M0 : Nat → Nat → Int) (n : Nat) : EInv M0 M0 n [] := ⟨fun q h => absurd h List.not_mem_nil, List.nodup_nil, fun q h => absurd h List.not_mem_nil, fun _ _ _ _ => ⟨1, 1, by decide, by decide, fun _ => rfl⟩, fun _ _ => Or.inl rfl, fun _ => Iff.rfl⟩
theorem EInv_stage {M0 V V' : Nat → Nat → Int} {n r t : Nat} {ps : List (Nat × Nat)} (h : EInv M0 V n ps) (hr : r < n) (hf : ∀ q ∈ ps, q.1 ≠ r) (ht : t < 10) (hp : V r t ≠ 0) (hs : Stage V V' r t n) : EInv M0 V' n ((r, t) :: ps) := by
  obtain ⟨h1, h2, h3, h4, h5, h6⟩ := h
  refine ⟨?_, ?_, ?_, ?_, ?_, fun x => (stage_sol hs hp hr x).trans (h6 x)⟩
  · intro q hq
    rcases List.mem_cons.mp hq with rfl | hq
    · exact ⟨hr, ht⟩
    · exact h1 q hq
  · rw [List.map_cons, List.nodup_cons]
    refine ⟨fun q => ?_, h2⟩
    obtain ⟨z, hz, e⟩ := List.mem_map.mp q
    exact hf z hz e
  · intro q hq
    rcases List.mem_cons.mp hq with rfl | hq
    · refine ⟨by rw [hs.1]; exact hp, fun k hk hkr => ?_⟩
      rcases hs.2 k hk hkr with z | ⟨g, hg, hj, -⟩
      · rw [z.2]; exact z.1
      · have := hj t
        have h0 : g * V' k t = 0 := by rw [this]; grind
        rcases Int.mul_eq_zero.mp h0 with z | z
        · omega
        · exact z
    · obtain ⟨hne, hz⟩ := h3 q hq
      have hq1 := h1 q hq
      have hrq : V r q.2 = 0 := hz r hr (fun z => hf q hq z.symm)
      constructor
      · rcases hs.2 q.1 hq1.1 (hf q hq) with z | ⟨g, hg, hj, -⟩
        · rw [z.2]; exact hne
        · intro q0
          have := hj q.2
          rw [q0, hrq] at this
          have h0 : V q.1 q.2 * V r t = 0 := by grind
          rcases Int.mul_eq_zero.mp h0 with z | z
          · exact hne z
          · exact hp z
      · intro k hk hkq
        by_cases hkr : k = r
        · subst hkr; rw [hs.1]; exact hrq
        rcases hs.2 k hk hkr with z | ⟨g, hg, hj, -⟩
        · rw [z.2]; exact hz k hk hkq
        · have := hj q.2
          rw [hrq, hz k hk hkq] at this
          have h0 : g * V' k q.2 = 0 := by grind
          rcases Int.mul_eq_zero.mp h0 with z | z
          · omega
          · exact z
  · intro rs hn hb hin
    obtain ⟨a1, b1, ha1, hb1, k1⟩ := h4 rs hn hb (fun q hq => hin q (List.mem_cons_of_mem _ hq))
    obtain ⟨a2, b2, ha2, hb2, k2⟩ := stage_minor hs hp hn (hin (r, t) List.mem_cons_self) hb
    refine ⟨a1 * a2, b1 * b2, Int.mul_ne_zero ha1 ha2, Int.mul_ne_zero hb1 hb2, fun cs => ?_⟩
    have e1 := k1 cs
    have e2 := k2 cs
    grind
  · intro i hi
    by_cases q : i = r
    · subst q; rw [hs.1]; exact h5 i hi
    rcases hs.2 i hi q with z | ⟨g, -, -, z⟩
    · rw [z.2]; exact h5 i hi
    · exact Or.inr z
/-- between two stages no number is greater than a minor -/
theorem EInv_bound {M0 V : Nat → Nat → Int} {n : Nat} {ps : List (Nat × Nat)} (h : EInv M0 V n ps) (hB : MB M0 n) (h0 : ∀ i j, i < n → j < 11 → (M0 i j).natAbs ≤ BB) : ∀ i j, i < n → j < 11 → (V i j).natAbs ≤ BB := by
  obtain ⟨h1, h2, h3, h4, h5, h6⟩ := h
  intro i j hi hj
  rcases h5 i hi with e | hg
  · rw [e]; exact h0 i j hi hj
  let qs := ps.filter (fun q => !(q.1 == i))
  have hqs : ∀ q ∈ qs, q ∈ ps ∧ q.1 ≠ i := fun q hq => by
    obtain ⟨a, b⟩ := List.mem_filter.mp hq
    exact ⟨a, by simpa using b⟩
  have hzero : ∀ k ∈ qs.map Prod.snd, V i k = 0 := fun k hk => by
    obtain ⟨q, hq, rfl⟩ := List.mem_map.mp hk
    exact (h3 q (hqs q hq).1).2 i hi (fun z => (hqs q hq).2 z.symm)
  have hnd1 : (qs.map Prod.fst).Nodup := h2.sublist (List.filter_sublist.map _)
  have hnd : (i :: qs.map Prod.fst).Nodup := List.nodup_cons.mpr ⟨fun q => by
    obtain ⟨z, hz, e⟩ := List.mem_map.mp q
    exact (hqs z hz).2 e, hnd1⟩
  have hlt : ∀ k ∈ i :: qs.map Prod.fst, k < n := fun k hk => by
    rcases List.mem_cons.mp hk with rfl | hk
    · exact hi
    · obtain ⟨q, hq, rfl⟩ := List.mem_map.mp hk
      exact (h1 q (hqs q hq).1).1
  obtain ⟨al, be, ha, hb, hk⟩ := h4 (i :: qs.map Prod.fst) hnd hlt (fun q hq => by
    by_cases z : q.1 = i
    · rw [z]; exact List.mem_cons_self
    · exact List.mem_cons_of_mem _ (List.mem_map.mpr ⟨q, List.mem_filter.mpr ⟨hq, by simpa using z⟩, rfl⟩))
  have hpw : qs.Pairwise (fun a b => V b.1 a.2 = 0) := by
    have hp1 : qs.Pairwise (fun a b => a.1 ≠ b.1) := List.pairwise_map.mp hnd1
    refine (List.Pairwise.imp_of_mem (fun {a b} ha hb hab => ?_) hp1)
    exact (h3 a (hqs a ha).1).2 b.1 (h1 b (hqs b hb).1).1 (fun z => hab z.symm)
  have hdg := mn_diag (V := V) qs (fun q hq => (h3 q (hqs q hq).1).1) hpw
  have hrel : ∀ k, k < 11 → (al * mn (qs.map Prod.snd) (qs.map (fun q => V q.1))) * V i k = be * mn (k :: qs.map Prod.snd) ((i :: qs.map Prod.fst).map M0) := fun k _ => by
    rw [← hk (k :: qs.map Prod.snd), List.map_cons, mn_front k _ _ hzero, List.map_map]
    show al * mn (qs.map Prod.snd) (qs.map (fun q => V q.1)) * V i k = al * (mn (qs.map Prod.snd) (qs.map (fun q => V q.1)) * V i k)
    rw [Int.mul_assoc]
  have hle := prim_le hg (Int.mul_ne_zero ha hdg) hrel j hj
  by_cases hin : j ∈ qs.map Prod.snd
  · rw [hzero j hin]; exact Nat.zero_le _
  · refine Nat.le_trans hle (hB _ _ hnd hlt (List.nodup_cons.mpr ⟨hin, ?_⟩) (fun k hk => ?_))
    · have hp1 : qs.Pairwise (fun a b => a.1 ≠ b.1) := List.pairwise_map.mp hnd1
      refine List.pairwise_map.mpr (List.Pairwise.imp_of_mem (fun {a b} ha hb hab => ?_) hp1)
      intro z
      have e1 := (h3 a (hqs a ha).1).2 b.1 (h1 b (hqs b hb).1).1 (fun z => hab z.symm)
      rw [z] at e1
      exact (h3 b (hqs b hb).1).1 e1
    · rcases List.mem_cons.mp hk with rfl | hk
      · exact hj
      · obtain ⟨q, hq, rfl⟩ := List.mem_map.mp hk
        have := (h1 q (hqs q hq).1).2
        omega
end EL
end
section
/-! what the last stage tells of the solutions -/
section FI
theorem dt_two {v x : Nat → Int} {a b : Nat} (hab : a ≠ b) : ∀ n, (∀ j, j < n → j ≠ a → j ≠ b → v j * x j = 0) → dt v x n = (if a < n then v a * x a else 0) + (if b < n then v b * x b else 0)
  | 0, _ => by simp [dt]
  | n + 1, h => by
    show dt v x n + v n * x n = _
    rw [dt_two hab n (fun j hj => h j (by omega))]
    by_cases h1 : n = a
    · subst h1
      rw [if_neg (Nat.lt_irrefl _), if_pos (Nat.lt_succ_self _)]
      by_cases h2 : b < n
      · rw [if_pos h2, if_pos (by omega)]; omega
      · rw [if_neg h2, if_neg (by omega)]; omega
    · by_cases h3 : n = b
      · subst h3
        rw [if_neg (Nat.lt_irrefl n), if_pos (Nat.lt_succ_self n)]
        by_cases h2 : a < n
        · rw [if_pos h2, if_pos (by omega)]; omega
        · rw [if_neg h2, if_neg (by omega)]; omega
      · rw [h n (Nat.lt_succ_self n) h1 h3]
        have e1 : (a < n + 1) = (a < n) := propext ⟨fun q => by omega, fun q => by omega⟩
        have e2 : (b < n + 1) = (b < n) := propext ⟨fun q => by omega, fun q => by omega⟩
        simp only [e1, e2]
        omega
theorem dt_set {v x z : Nat → Int} {p : Nat} (hz : ∀ j, j ≠ p → z j = x j) : ∀ n, dt v z n = dt v x n + (if p < n then v p * (z p - x p) else 0)
  | 0 => by simp [dt]
  | n + 1 => by
    show dt v z n + v n * z n = dt v x n + v n * x n + _
    rw [dt_set hz n]
    by_cases h1 : n = p
    · subst h1
      rw [if_neg (Nat.lt_irrefl _), if_pos (Nat.lt_succ_self _)]
      grind
    · rw [hz n h1]
      have e1 : (p < n + 1) = (p < n) := propext ⟨fun q => by omega, fun q => by omega⟩
      simp only [e1]
      omega
theorem dt_scale (v x : Nat → Int) (c : Int) : ∀ n, dt v (fun j => c * x j) n = c * dt v x n
  | 0 => by simp [dt]
  | n + 1 => by
    show dt v (fun j => c * x j) n + v n * (c * x n) = c * (dt v x n + v n * x n)
    rw [dt_scale v x c n]
    grind
theorem dt_build {V : Nat → Nat → Int} (y : Nat → Int) : ∀ (ps : List (Nat × Nat)), (∀ q ∈ ps, V q.1 q.2 ≠ 0 ∧ q.2 < 10) → ps.Pairwise (fun a b => V b.1 a.2 = 0) → ∃ (x : Nat → Int) (d : Int), d ≠ 0 ∧ (∀ j, j ∉ ps.map Prod.snd → x j = d * y j) ∧ ∀ q ∈ ps, dt (V q.1) x 11 = 0
  | [], _, _ => ⟨y, 1, by decide, fun j _ => by simp, fun q h => absurd h List.not_mem_nil⟩
  | p :: ps, h, hp => by
    obtain ⟨hp1, hp2⟩ := List.pairwise_cons.mp hp
    obtain ⟨x, d, hd, hx, hz⟩ := dt_build y ps (fun q hq => h q (List.mem_cons_of_mem _ hq)) hp2
    obtain ⟨hne, hlt⟩ := h p List.mem_cons_self
    let w : Nat → Int := fun j => if j = p.2 then V p.1 p.2 * x p.2 - dt (V p.1) x 11 else V p.1 p.2 * x j
    have hw : ∀ j, j ≠ p.2 → w j = V p.1 p.2 * x j := fun j hj => if_neg hj
    have hwp : w p.2 = V p.1 p.2 * x p.2 - dt (V p.1) x 11 := if_pos rfl
    refine ⟨w, d * V p.1 p.2, Int.mul_ne_zero hd hne, fun j hj => ?_, fun q hq => ?_⟩
    · rw [List.map_cons, List.mem_cons, not_or] at hj
      rw [hw j hj.1, hx j hj.2]
      grind
    · have e := dt_set (v := V q.1) (x := fun j => V p.1 p.2 * x j) (z := w) (p := p.2) hw 11
      rw [if_pos (show p.2 < 11 by omega), dt_scale, hwp] at e
      rcases List.mem_cons.mp hq with rfl | hq
      · rw [e]; grind
      · rw [e, hz q hq, hp1 q hq]; grind
def Solv (S : (Nat → Int) → Prop) : Prop := ∃ x, S x ∧ x 10 ≠ 0
def DetS (S : (Nat → Int) → Prop) (t : Nat) : Prop := ∀ x, S x → x 10 = 0 → x t = 0
def Fin (V : Nat → Nat → Int) (n : Nat) (ps : List (Nat × Nat)) : Prop := ∀ i, i < n → (∀ q ∈ ps, q.1 ≠ i) → ∀ j, j < 10 → V i j = 0
variable {M0 V : Nat → Nat → Int} {n : Nat} {ps : List (Nat × Nat)}
theorem fin_pw (h : EInv M0 V n ps) : ps.Pairwise (fun a b => V b.1 a.2 = 0) := by
  obtain ⟨h1, h2, h3, -⟩ := h
  have hp1 : ps.Pairwise (fun a b => a.1 ≠ b.1) := List.pairwise_map.mp h2
  exact List.Pairwise.imp_of_mem (fun {a b} ha hb hab => (h3 a ha).2 b.1 (h1 b hb).1 (fun z => hab z.symm)) hp1
theorem fin_free {i : Nat} (hF : Fin V n ps) (hi : i < n) (hf : ∀ q ∈ ps, q.1 ≠ i) (x : Nat → Int) : dt (V i) x 11 = V i 10 * x 10 := by
  have := dt_two (v := V i) (x := x) (a := 10) (b := 11) (by decide) 11 (fun j hj h1 _ => by rw [hF i hi hf j (by omega)]; simp)
  rw [this, if_pos (by decide), if_neg (by decide)]
  simp
/-- a solution of given values off the pivots' columns -/
theorem fin_build (h : EInv M0 V n ps) (hF : Fin V n ps) (y : Nat → Int) (hy : y 10 = 0 ∨ ∀ i, i < n → (∀ q ∈ ps, q.1 ≠ i) → V i 10 = 0) : ∃ (x : Nat → Int) (d : Int), d ≠ 0 ∧ (∀ j, j ∉ ps.map Prod.snd → x j = d * y j) ∧ HS M0 n x := by
  obtain ⟨x, d, hd, hx, hz⟩ := dt_build (V := V) y ps (fun q hq => ⟨(h.2.2.1 q hq).1, (h.1 q hq).2⟩) (fin_pw h)
  refine ⟨x, d, hd, hx, (h.2.2.2.2.2 x).mp (fun i hi => ?_)⟩
  by_cases q : ∃ q ∈ ps, q.1 = i
  · obtain ⟨z, hzm, rfl⟩ := q
    exact hz z hzm
  · have hf : ∀ q ∈ ps, q.1 ≠ i := fun z hz1 e => q ⟨z, hz1, e⟩
    rw [fin_free hF hi hf]
    rcases hy with e | e
    · rw [hx 10 (fun z => by obtain ⟨w, hw, e2⟩ := List.mem_map.mp z; have := (h.1 w hw).2; omega), e]
      simp
    · rw [e i hi hf]; simp
theorem fin_solv (h : EInv M0 V n ps) (hF : Fin V n ps) : Solv (HS M0 n) ↔ ∀ i, i < n → (∀ q ∈ ps, q.1 ≠ i) → V i 10 = 0 := by
  constructor
  · rintro ⟨x, hx, h10⟩ i hi hf
    have := (h.2.2.2.2.2 x).mpr hx i hi
    rw [fin_free hF hi hf] at this
    rcases Int.mul_eq_zero.mp this with z | z
    · exact z
    · exact absurd z h10
  · intro h0
    obtain ⟨x, d, hd, hx, hs⟩ := fin_build h hF (fun j => if j = 10 then 1 else 0) (Or.inr h0)
    refine ⟨x, hs, ?_⟩
    rw [hx 10 (fun z => by obtain ⟨w, hw, e2⟩ := List.mem_map.mp z; have := (h.1 w hw).2; omega)]
    simpa using hd
theorem fin_val (h : EInv M0 V n ps) {r t : Nat} (hr : r < n) (ht : t < 10) (hz : ∀ o, o < 10 → ¬ o = t → V r o = 0) {x : Nat → Int} (hx : HS M0 n x) : V r t * x t = -(V r 10 * x 10) := by
  have h1 := (h.2.2.2.2.2 x).mpr hx r hr
  rw [dt_two (a := t) (b := 10) (by omega) 11 (fun j hj h1 h2 => by rw [hz j (by omega) h1]; simp), if_pos (by omega), if_pos (by decide)] at h1
  omega
theorem fin_det (h : EInv M0 V n ps) {r t : Nat} (hp : (r, t) ∈ ps) (hz : ∀ o, o < 10 → ¬ o = t → V r o = 0) : DetS (HS M0 n) t := by
  intro x hx h10
  have h1 := fin_val h (h.1 _ hp).1 (h.1 _ hp).2 hz hx
  rw [h10] at h1
  have h2 : V r t * x t = 0 := by rw [h1]; simp
  rcases Int.mul_eq_zero.mp h2 with z | z
  · exact absurd z (h.2.2.1 _ hp).1
  · exact z
theorem fin_undet (h : EInv M0 V n ps) (hF : Fin V n ps) {t : Nat} (ht : t < 10) (hD : DetS (HS M0 n) t) : ∃ r, (r, t) ∈ ps ∧ ∀ o, o < 10 → ¬ o = t → V r o = 0 := by
  by_cases hin : t ∈ ps.map Prod.snd
  · obtain ⟨⟨r, t2⟩, hp, e⟩ := List.mem_map.mp hin
    have e : t2 = t := e
    subst e
    refine ⟨r, hp, fun o ho hne => Classical.byContradiction fun hv => ?_⟩
    have hr := (h.1 _ hp).1
    have hoc : o ∉ ps.map Prod.snd := fun q => by
      obtain ⟨⟨r2, o2⟩, hp2, e2⟩ := List.mem_map.mp q
      have e2 : o2 = o := e2
      subst e2
      by_cases er : r = r2
      · subst er
        have hpw := List.pairwise_map.mp h.2.1
        have := List.Pairwise.forall_of_forall_of_flip (R := fun a b : Nat × Nat => a.1 = b.1 → a = b) (l := ps) (fun _ _ _ => rfl) (hpw.imp (fun hab q => absurd q hab)) (hpw.imp (fun hab q => absurd q.symm hab)) hp hp2 rfl
        exact hne (congrArg Prod.snd this).symm
      · exact hv ((h.2.2.1 _ hp2).2 r hr er)
    obtain ⟨x, d, hd, hx, hs⟩ := fin_build h hF (fun j => if j = o then 1 else 0) (Or.inl (by simp; omega))
    have h10 : x 10 = 0 := by
      rw [hx 10 (fun z => by obtain ⟨w, hw, e2⟩ := List.mem_map.mp z; have := (h.1 w hw).2; omega)]
      rw [if_neg (by omega)]; simp
    have hxt := hD x hs h10
    have h1 := (h.2.2.2.2.2 x).mpr hs r hr
    rw [dt_two (a := t2) (b := o) (fun z => hne z.symm) 11 (fun j hj h1 h2 => by
      by_cases hj10 : j = 10
      · rw [hj10, h10]; simp
      by_cases hjc : j ∈ ps.map Prod.snd
      · obtain ⟨⟨r2, o2⟩, hp2, e2⟩ := List.mem_map.mp hjc
        have e2 : o2 = j := e2
        subst e2
        by_cases er : r = r2
        · subst er
          have hpw := List.pairwise_map.mp h.2.1
          have := List.Pairwise.forall_of_forall_of_flip (R := fun a b : Nat × Nat => a.1 = b.1 → a = b) (l := ps) (fun _ _ _ => rfl) (hpw.imp (fun hab q => absurd q hab)) (hpw.imp (fun hab q => absurd q.symm hab)) hp hp2 rfl
          exact absurd (congrArg Prod.snd this).symm h1
        · rw [(h.2.2.1 _ hp2).2 r hr er]; simp
      · rw [hx j hjc, if_neg h2]; simp), if_pos (by omega), if_pos (by omega), hxt, hx o hoc, if_pos rfl] at h1
    have h2 : V r o * d = 0 := by
      simp only [Int.mul_zero, Int.zero_add, Int.mul_one] at h1
      exact h1
    rcases Int.mul_eq_zero.mp h2 with z | z
    · exact hv z
    · exact hd z
  · exfalso
    obtain ⟨x, d, hd, hx, hs⟩ := fin_build h hF (fun j => if j = t then 1 else 0) (Or.inl (by simp; omega))
    have h10 : x 10 = 0 := by
      rw [hx 10 (fun z => by obtain ⟨w, hw, e2⟩ := List.mem_map.mp z; have := (h.1 w hw).2; omega)]
      rw [if_neg (by omega)]; simp
    have hxt := hD x hs h10
    rw [hx t hin, if_pos rfl] at hxt
    simp only [Int.mul_one] at hxt
    exact hd hxt
end FI
end
section
/-! own rows over the kit's: comparisons over whole numbers, arrays at natural places -/
section BR
variable {p : Program} {l : Launch} {e : Env} {R : Room} {s : State} {m : MethodId} {args : Array Value} {below : List Frame} {meth : Method} {c : Code} {H : Heap} {locs : List Loc} {cells slots : Nat} {Q : State → Prop}
variable {cc : ByteArray} {pc : Nat} {ls : Array Slot} {rest : List Value} {D : va_G} {cl : List vw_C} {A : Nat → Prop} {a : Nat} {tys : List (ClassId × FieldType)} {ws : va_W} {H0 : Heap}
theorem i32_lt (x y : Int32) : x < y ↔ x.toInt < y.toInt := Int32.lt_iff_toInt_lt
theorem i32_le (x y : Int32) : x ≤ y ↔ x.toInt ≤ y.toInt := Int32.le_iff_toInt_le
theorem i32_eq (x y : Int32) : x = y ↔ x.toInt = y.toInt := Int32.toInt_inj.symm
theorem i64_lt (x y : Int64) : x < y ↔ x.toInt < y.toInt := Int64.lt_iff_toInt_lt
theorem i64_le (x y : Int64) : x ≤ y ↔ x.toInt ≤ y.toInt := Int64.le_iff_toInt_le
theorem i64_eq (x y : Int64) : x = y ↔ x.toInt = y.toInt := Int64.toInt_inj.symm
theorem b_icmp_ge (hx : p.tables.exec = Jvm.exec) (hb : c.code = cc) {x y : Int32} {u v : Int} (hu : x.toInt = u) (hv : y.toInt = v) {off : Int} {tgt : Nat} (hdg : decode cc pc = .ok (.if_icmp .ge off, 3)) (ht : (pc : Int) + off = (tgt : Int)) (kt : v ≤ u → W p l e R s m args below meth c H locs cells slots Q (F0 m tgt ls rest)) (kf : u < v → W p l e R s m args below meth c H locs cells slots Q (F0 m (pc + 3) ls rest)) : W p l e R s m args below meth c H locs cells slots Q (F0 m pc ls (.int y :: .int x :: rest)) := by
  subst hu hv
  exact lv_icmp_ge hx hb hdg ht (fun h => kt ((i32_le _ _).mp h)) (fun h => kf (Int.not_le.mp fun q => h ((i32_le _ _).mpr q)))
theorem b_icmp_lt (hx : p.tables.exec = Jvm.exec) (hb : c.code = cc) {x y : Int32} {u v : Int} (hu : x.toInt = u) (hv : y.toInt = v) {off : Int} {tgt : Nat} (hdg : decode cc pc = .ok (.if_icmp .lt off, 3)) (ht : (pc : Int) + off = (tgt : Int)) (kt : u < v → W p l e R s m args below meth c H locs cells slots Q (F0 m tgt ls rest)) (kf : v ≤ u → W p l e R s m args below meth c H locs cells slots Q (F0 m (pc + 3) ls rest)) : W p l e R s m args below meth c H locs cells slots Q (F0 m pc ls (.int y :: .int x :: rest)) := by
  subst hu hv
  exact lv_icmp_lt hx hb hdg ht (fun h => kt ((i32_lt _ _).mp h)) (fun h => kf (Int.not_lt.mp fun q => h ((i32_lt _ _).mpr q)))
theorem b_icmp_gt (hx : p.tables.exec = Jvm.exec) (hb : c.code = cc) {x y : Int32} {u v : Int} (hu : x.toInt = u) (hv : y.toInt = v) {off : Int} {tgt : Nat} (hdg : decode cc pc = .ok (.if_icmp .gt off, 3)) (ht : (pc : Int) + off = (tgt : Int)) (kt : v < u → W p l e R s m args below meth c H locs cells slots Q (F0 m tgt ls rest)) (kf : u ≤ v → W p l e R s m args below meth c H locs cells slots Q (F0 m (pc + 3) ls rest)) : W p l e R s m args below meth c H locs cells slots Q (F0 m pc ls (.int y :: .int x :: rest)) := by
  subst hu hv
  exact lv_icmp_gt hx hb hdg ht (fun h => kt ((i32_lt _ _).mp h)) (fun h => kf (Int.not_lt.mp fun q => h ((i32_lt _ _).mpr q)))
theorem b_icmp_le (hx : p.tables.exec = Jvm.exec) (hb : c.code = cc) {x y : Int32} {u v : Int} (hu : x.toInt = u) (hv : y.toInt = v) {off : Int} {tgt : Nat} (hdg : decode cc pc = .ok (.if_icmp .le off, 3)) (ht : (pc : Int) + off = (tgt : Int)) (kt : u ≤ v → W p l e R s m args below meth c H locs cells slots Q (F0 m tgt ls rest)) (kf : v < u → W p l e R s m args below meth c H locs cells slots Q (F0 m (pc + 3) ls rest)) : W p l e R s m args below meth c H locs cells slots Q (F0 m pc ls (.int y :: .int x :: rest)) := by
  subst hu hv
  exact lv_icmp_le hx hb hdg ht (fun h => kt ((i32_le _ _).mp h)) (fun h => kf (Int.not_le.mp fun q => h ((i32_le _ _).mpr q)))
theorem b_icmp_eq (hx : p.tables.exec = Jvm.exec) (hb : c.code = cc) {x y : Int32} {u v : Int} (hu : x.toInt = u) (hv : y.toInt = v) {off : Int} {tgt : Nat} (hdg : decode cc pc = .ok (.if_icmp .eq off, 3)) (ht : (pc : Int) + off = (tgt : Int)) (kt : u = v → W p l e R s m args below meth c H locs cells slots Q (F0 m tgt ls rest)) (kf : ¬ u = v → W p l e R s m args below meth c H locs cells slots Q (F0 m (pc + 3) ls rest)) : W p l e R s m args below meth c H locs cells slots Q (F0 m pc ls (.int y :: .int x :: rest)) := by
  subst hu hv
  exact lv_icmp_eq hx hb hdg ht (fun h => kt ((i32_eq _ _).mp h)) (fun h => kf (fun q => h ((i32_eq _ _).mpr q)))
theorem b_icmp_ne (hx : p.tables.exec = Jvm.exec) (hb : c.code = cc) {x y : Int32} {u v : Int} (hu : x.toInt = u) (hv : y.toInt = v) {off : Int} {tgt : Nat} (hdg : decode cc pc = .ok (.if_icmp .ne off, 3)) (ht : (pc : Int) + off = (tgt : Int)) (kt : ¬ u = v → W p l e R s m args below meth c H locs cells slots Q (F0 m tgt ls rest)) (kf : u = v → W p l e R s m args below meth c H locs cells slots Q (F0 m (pc + 3) ls rest)) : W p l e R s m args below meth c H locs cells slots Q (F0 m pc ls (.int y :: .int x :: rest)) := by
  subst hu hv
  exact lv_icmp_ne hx hb hdg ht (fun h => kt (fun q => h ((i32_eq _ _).mpr q))) (fun h => kf ((i32_eq _ _).mp h))
theorem b_if_ge (hx : p.tables.exec = Jvm.exec) (hb : c.code = cc) {x : Int32} {u : Int} (hu : x.toInt = u) {off : Int} {tgt : Nat} (hdg : decode cc pc = .ok (.ifCond .ge off, 3)) (ht : (pc : Int) + off = (tgt : Int)) (kt : 0 ≤ u → W p l e R s m args below meth c H locs cells slots Q (F0 m tgt ls rest)) (kf : u < 0 → W p l e R s m args below meth c H locs cells slots Q (F0 m (pc + 3) ls rest)) : W p l e R s m args below meth c H locs cells slots Q (F0 m pc ls (.int x :: rest)) := by
  subst hu
  exact lv_if_ge hx hb hdg ht (fun h => kt ((i32_le _ _).mp h)) (fun h => kf (Int.not_le.mp fun q => h ((i32_le _ _).mpr q)))
theorem b_if_lt (hx : p.tables.exec = Jvm.exec) (hb : c.code = cc) {x : Int32} {u : Int} (hu : x.toInt = u) {off : Int} {tgt : Nat} (hdg : decode cc pc = .ok (.ifCond .lt off, 3)) (ht : (pc : Int) + off = (tgt : Int)) (kt : u < 0 → W p l e R s m args below meth c H locs cells slots Q (F0 m tgt ls rest)) (kf : 0 ≤ u → W p l e R s m args below meth c H locs cells slots Q (F0 m (pc + 3) ls rest)) : W p l e R s m args below meth c H locs cells slots Q (F0 m pc ls (.int x :: rest)) := by
  subst hu
  exact lv_if_lt hx hb hdg ht (fun h => kt ((i32_lt _ _).mp h)) (fun h => kf (Int.not_lt.mp fun q => h ((i32_lt _ _).mpr q)))
theorem b_if_gt (hx : p.tables.exec = Jvm.exec) (hb : c.code = cc) {x : Int32} {u : Int} (hu : x.toInt = u) {off : Int} {tgt : Nat} (hdg : decode cc pc = .ok (.ifCond .gt off, 3)) (ht : (pc : Int) + off = (tgt : Int)) (kt : 0 < u → W p l e R s m args below meth c H locs cells slots Q (F0 m tgt ls rest)) (kf : u ≤ 0 → W p l e R s m args below meth c H locs cells slots Q (F0 m (pc + 3) ls rest)) : W p l e R s m args below meth c H locs cells slots Q (F0 m pc ls (.int x :: rest)) := by
  subst hu
  exact lv_if_gt hx hb hdg ht (fun h => kt ((i32_lt _ _).mp h)) (fun h => kf (Int.not_lt.mp fun q => h ((i32_lt _ _).mpr q)))
theorem b_if_le (hx : p.tables.exec = Jvm.exec) (hb : c.code = cc) {x : Int32} {u : Int} (hu : x.toInt = u) {off : Int} {tgt : Nat} (hdg : decode cc pc = .ok (.ifCond .le off, 3)) (ht : (pc : Int) + off = (tgt : Int)) (kt : u ≤ 0 → W p l e R s m args below meth c H locs cells slots Q (F0 m tgt ls rest)) (kf : 0 < u → W p l e R s m args below meth c H locs cells slots Q (F0 m (pc + 3) ls rest)) : W p l e R s m args below meth c H locs cells slots Q (F0 m pc ls (.int x :: rest)) := by
  subst hu
  exact lv_if_le hx hb hdg ht (fun h => kt ((i32_le _ _).mp h)) (fun h => kf (Int.not_le.mp fun q => h ((i32_le _ _).mpr q)))
theorem b_if_eq (hx : p.tables.exec = Jvm.exec) (hb : c.code = cc) {x : Int32} {u : Int} (hu : x.toInt = u) {off : Int} {tgt : Nat} (hdg : decode cc pc = .ok (.ifCond .eq off, 3)) (ht : (pc : Int) + off = (tgt : Int)) (kt : u = 0 → W p l e R s m args below meth c H locs cells slots Q (F0 m tgt ls rest)) (kf : ¬ u = 0 → W p l e R s m args below meth c H locs cells slots Q (F0 m (pc + 3) ls rest)) : W p l e R s m args below meth c H locs cells slots Q (F0 m pc ls (.int x :: rest)) := by
  subst hu
  exact lv_if_eq hx hb hdg ht (fun h => kt ((i32_eq _ _).mp h)) (fun h => kf (fun q => h ((i32_eq _ _).mpr q)))
theorem b_if_ne (hx : p.tables.exec = Jvm.exec) (hb : c.code = cc) {x : Int32} {u : Int} (hu : x.toInt = u) {off : Int} {tgt : Nat} (hdg : decode cc pc = .ok (.ifCond .ne off, 3)) (ht : (pc : Int) + off = (tgt : Int)) (kt : ¬ u = 0 → W p l e R s m args below meth c H locs cells slots Q (F0 m tgt ls rest)) (kf : u = 0 → W p l e R s m args below meth c H locs cells slots Q (F0 m (pc + 3) ls rest)) : W p l e R s m args below meth c H locs cells slots Q (F0 m pc ls (.int x :: rest)) := by
  subst hu
  exact lv_if_ne hx hb hdg ht (fun h => kt (fun q => h ((i32_eq _ _).mpr q))) (fun h => kf ((i32_eq _ _).mp h))
theorem b_lcmp_ge (hx : p.tables.exec = Jvm.exec) (hb : c.code = cc) {x y : Int64} {u v : Int} (hu : x.toInt = u) (hv : y.toInt = v) {off : Int} {tgt : Nat} (hd1 : decode cc pc = .ok (.lcmp, 1)) (hdg : decode cc (pc + 1) = .ok (.ifCond .ge off, 3)) (ht : ((pc + 1 : Nat) : Int) + off = (tgt : Int)) (kt : v ≤ u → W p l e R s m args below meth c H locs cells slots Q (F0 m tgt ls rest)) (kf : u < v → W p l e R s m args below meth c H locs cells slots Q (F0 m (pc + 1 + 3) ls rest)) : W p l e R s m args below meth c H locs cells slots Q (F0 m pc ls (.long y :: .long x :: rest)) := by
  subst hu hv
  exact W.lcmp hx hb hd1 (lv_if_ge hx hb hdg ht (fun h => kt ((i64_le _ _).mp ((lg_cmp_ge _ _).mp h))) (fun h => kf (Int.not_le.mp fun q => h ((lg_cmp_ge _ _).mpr ((i64_le _ _).mpr q)))))
theorem b_lcmp_le (hx : p.tables.exec = Jvm.exec) (hb : c.code = cc) {x y : Int64} {u v : Int} (hu : x.toInt = u) (hv : y.toInt = v) {off : Int} {tgt : Nat} (hd1 : decode cc pc = .ok (.lcmp, 1)) (hdg : decode cc (pc + 1) = .ok (.ifCond .le off, 3)) (ht : ((pc + 1 : Nat) : Int) + off = (tgt : Int)) (kt : u ≤ v → W p l e R s m args below meth c H locs cells slots Q (F0 m tgt ls rest)) (kf : v < u → W p l e R s m args below meth c H locs cells slots Q (F0 m (pc + 1 + 3) ls rest)) : W p l e R s m args below meth c H locs cells slots Q (F0 m pc ls (.long y :: .long x :: rest)) := by
  subst hu hv
  exact W.lcmp hx hb hd1 (lv_if_le hx hb hdg ht (fun h => kt ((i64_le _ _).mp ((lg_cmp_le _ _).mp h))) (fun h => kf (Int.not_le.mp fun q => h ((lg_cmp_le _ _).mpr ((i64_le _ _).mpr q)))))
theorem b_lcmp_lt (hx : p.tables.exec = Jvm.exec) (hb : c.code = cc) {x y : Int64} {u v : Int} (hu : x.toInt = u) (hv : y.toInt = v) {off : Int} {tgt : Nat} (hd1 : decode cc pc = .ok (.lcmp, 1)) (hdg : decode cc (pc + 1) = .ok (.ifCond .lt off, 3)) (ht : ((pc + 1 : Nat) : Int) + off = (tgt : Int)) (kt : u < v → W p l e R s m args below meth c H locs cells slots Q (F0 m tgt ls rest)) (kf : v ≤ u → W p l e R s m args below meth c H locs cells slots Q (F0 m (pc + 1 + 3) ls rest)) : W p l e R s m args below meth c H locs cells slots Q (F0 m pc ls (.long y :: .long x :: rest)) := by
  subst hu hv
  exact W.lcmp hx hb hd1 (lv_if_lt hx hb hdg ht (fun h => kt ((i64_lt _ _).mp ((lg_cmp_lt _ _).mp h))) (fun h => kf (Int.not_lt.mp fun q => h ((lg_cmp_lt _ _).mpr ((i64_lt _ _).mpr q)))))
theorem b_lcmp_gt (hx : p.tables.exec = Jvm.exec) (hb : c.code = cc) {x y : Int64} {u v : Int} (hu : x.toInt = u) (hv : y.toInt = v) {off : Int} {tgt : Nat} (hd1 : decode cc pc = .ok (.lcmp, 1)) (hdg : decode cc (pc + 1) = .ok (.ifCond .gt off, 3)) (ht : ((pc + 1 : Nat) : Int) + off = (tgt : Int)) (kt : v < u → W p l e R s m args below meth c H locs cells slots Q (F0 m tgt ls rest)) (kf : u ≤ v → W p l e R s m args below meth c H locs cells slots Q (F0 m (pc + 1 + 3) ls rest)) : W p l e R s m args below meth c H locs cells slots Q (F0 m pc ls (.long y :: .long x :: rest)) := by
  subst hu hv
  exact W.lcmp hx hb hd1 (lv_if_gt hx hb hdg ht (fun h => kt ((i64_lt _ _).mp ((lg_cmp_gt _ _).mp h))) (fun h => kf (Int.not_lt.mp fun q => h ((lg_cmp_gt _ _).mpr ((i64_lt _ _).mpr q)))))
theorem b_lcmp_eq (hx : p.tables.exec = Jvm.exec) (hb : c.code = cc) {x y : Int64} {u v : Int} (hu : x.toInt = u) (hv : y.toInt = v) {off : Int} {tgt : Nat} (hd1 : decode cc pc = .ok (.lcmp, 1)) (hdg : decode cc (pc + 1) = .ok (.ifCond .eq off, 3)) (ht : ((pc + 1 : Nat) : Int) + off = (tgt : Int)) (kt : u = v → W p l e R s m args below meth c H locs cells slots Q (F0 m tgt ls rest)) (kf : ¬ u = v → W p l e R s m args below meth c H locs cells slots Q (F0 m (pc + 1 + 3) ls rest)) : W p l e R s m args below meth c H locs cells slots Q (F0 m pc ls (.long y :: .long x :: rest)) := by
  subst hu hv
  exact W.lcmp hx hb hd1 (lv_if_eq hx hb hdg ht (fun h => kt ((i64_eq _ _).mp ((lg_cmp_eq _ _).mp h))) (fun h => kf (fun q => h ((lg_cmp_eq _ _).mpr ((i64_eq _ _).mpr q)))))
theorem b_lcmp_ne (hx : p.tables.exec = Jvm.exec) (hb : c.code = cc) {x y : Int64} {u v : Int} (hu : x.toInt = u) (hv : y.toInt = v) {off : Int} {tgt : Nat} (hd1 : decode cc pc = .ok (.lcmp, 1)) (hdg : decode cc (pc + 1) = .ok (.ifCond .ne off, 3)) (ht : ((pc + 1 : Nat) : Int) + off = (tgt : Int)) (kt : ¬ u = v → W p l e R s m args below meth c H locs cells slots Q (F0 m tgt ls rest)) (kf : u = v → W p l e R s m args below meth c H locs cells slots Q (F0 m (pc + 1 + 3) ls rest)) : W p l e R s m args below meth c H locs cells slots Q (F0 m pc ls (.long y :: .long x :: rest)) := by
  subst hu hv
  exact W.lcmp hx hb hd1 (lv_if_ne hx hb hdg ht (fun h => kt (fun q => h ((lg_cmp_eq _ _).mpr ((i64_eq _ _).mpr q)))) (fun h => kf ((i64_eq _ _).mp ((lg_cmp_eq _ _).mp h))))
/-- the top of the stack by another name -/
theorem t_i {x y : Int32} {pc : Nat} (h : x = y) (k : W p l e R s m args below meth c H locs cells slots Q (F0 m pc ls (.int y :: rest))) : W p l e R s m args below meth c H locs cells slots Q (F0 m pc ls (.int x :: rest)) := h ▸ k
theorem t_l {x y : Int64} {pc : Nat} (h : x = y) (k : W p l e R s m args below meth c H locs cells slots Q (F0 m pc ls (.long y :: rest))) : W p l e R s m args below meth c H locs cells slots Q (F0 m pc ls (.long x :: rest)) := h ▸ k
theorem n_iald (hx : p.tables.exec = Jvm.exec) (hb : c.code = cc) (hK : va_K D cl tys s) (hP : va_P D cl ws H) (q0 t0 : Nat) {cA : ClassId} {n : Nat} {f : Nat → Int32} (ha : ws[q0]? = some (a, .inl (cA, n, .inl f))) (ht : tys[t0]? = some (cA, .int)) {i : Nat} (hi : i < n) (hn : n < 2 ^ 31) (hdg : decode cc pc = .ok (.iaload, 1))
    (kk : W p l e R s m args below meth c H locs cells slots Q (F0 m (pc + 1) ls (.int (f i) :: rest))) : W p l e R s m args below meth c H locs cells slots Q (F0 m pc ls (.int (nI i) :: .ref a :: rest)) :=
  va_iald hx hb hK hP q0 t0 ha ht (vp_in_nI hi hn) hdg (by rw [nI_clamp (Nat.lt_trans hi hn)]; exact kk)
theorem n_zald (hx : p.tables.exec = Jvm.exec) (hb : c.code = cc) (hK : va_K D cl tys s) (hP : va_P D cl ws H) (q0 t0 : Nat) {cA : ClassId} {n : Nat} {f : Nat → Int32} (ha : ws[q0]? = some (a, .inl (cA, n, .inl f))) (ht : tys[t0]? = some (cA, .boolean)) {i : Nat} (hi : i < n) (hn : n < 2 ^ 31) (hdg : decode cc pc = .ok (.baload, 1))
    (kk : W p l e R s m args below meth c H locs cells slots Q (F0 m (pc + 1) ls (.int (f i) :: rest))) : W p l e R s m args below meth c H locs cells slots Q (F0 m pc ls (.int (nI i) :: .ref a :: rest)) :=
  va_zald hx hb hK hP q0 t0 ha ht (vp_in_nI hi hn) hdg (by rw [nI_clamp (Nat.lt_trans hi hn)]; exact kk)
theorem n_lald (hx : p.tables.exec = Jvm.exec) (hb : c.code = cc) (hK : va_K D cl tys s) (hP : va_P D cl ws H) (q0 t0 : Nat) {cA : ClassId} {n : Nat} {f : Nat → Int64} (ha : ws[q0]? = some (a, .inl (cA, n, .inr (.inl f)))) (ht : tys[t0]? = some (cA, .long)) {i : Nat} (hi : i < n) (hn : n < 2 ^ 31) (hdg : decode cc pc = .ok (.laload, 1))
    (kk : W p l e R s m args below meth c H locs cells slots Q (F0 m (pc + 1) ls (.long (f i) :: rest))) : W p l e R s m args below meth c H locs cells slots Q (F0 m pc ls (.int (nI i) :: .ref a :: rest)) :=
  va_lald hx hb hK hP q0 t0 ha ht (vp_in_nI hi hn) hdg (by rw [nI_clamp (Nat.lt_trans hi hn)]; exact kk)
theorem n_iast (hx : p.tables.exec = Jvm.exec) (hb : c.code = cc) (hK : va_K D cl tys s) (hP : va_P D cl ws H) (hD : va_D A ws) (hS : va_S A H0 H locs) (q0 t0 : Nat) {cA : ClassId} {n : Nat} {f : Nat → Int32} (ha : ws[q0]? = some (a, .inl (cA, n, .inl f))) (ht : tys[t0]? = some (cA, .int)) {i : Nat} {x : Int32} (hi : i < n) (hn : n < 2 ^ 31) (hdg : decode cc pc = .ok (.iastore, 1))
    (kk : ∀ (H1 : Heap) (locs1 : List Loc), va_P D cl (ws.set q0 (a, .inl (cA, n, .inl (upd f i x)))) H1 → va_D A (ws.set q0 (a, .inl (cA, n, .inl (upd f i x)))) → va_S A H0 H1 locs1 → W p l e R s m args below meth c H1 locs1 cells slots Q (F0 m (pc + 1) ls rest)) : W p l e R s m args below meth c H locs cells slots Q (F0 m pc ls (.int x :: .int (nI i) :: .ref a :: rest)) :=
  va_iast hx hb hK hP hD hS q0 t0 ha ht (vp_in_nI hi hn) hdg (by rw [nI_clamp (Nat.lt_trans hi hn)]; exact kk)
theorem n_zast (hx : p.tables.exec = Jvm.exec) (hb : c.code = cc) (hK : va_K D cl tys s) (hP : va_P D cl ws H) (hD : va_D A ws) (hS : va_S A H0 H locs) (q0 t0 : Nat) {cA : ClassId} {n : Nat} {f : Nat → Int32} (ha : ws[q0]? = some (a, .inl (cA, n, .inl f))) (ht : tys[t0]? = some (cA, .boolean)) {i : Nat} {x y : Int32} (hy : vp_nar .boolean x = y) (hi : i < n) (hn : n < 2 ^ 31) (hdg : decode cc pc = .ok (.bastore, 1))
    (kk : ∀ (H1 : Heap) (locs1 : List Loc), va_P D cl (ws.set q0 (a, .inl (cA, n, .inl (upd f i y)))) H1 → va_D A (ws.set q0 (a, .inl (cA, n, .inl (upd f i y)))) → va_S A H0 H1 locs1 → W p l e R s m args below meth c H1 locs1 cells slots Q (F0 m (pc + 1) ls rest)) : W p l e R s m args below meth c H locs cells slots Q (F0 m pc ls (.int x :: .int (nI i) :: .ref a :: rest)) :=
  va_zast hx hb hK hP hD hS q0 t0 ha ht (vp_in_nI hi hn) hdg (by rw [nI_clamp (Nat.lt_trans hi hn), hy]; exact kk)
theorem n_last (hx : p.tables.exec = Jvm.exec) (hb : c.code = cc) (hK : va_K D cl tys s) (hP : va_P D cl ws H) (hD : va_D A ws) (hS : va_S A H0 H locs) (q0 t0 : Nat) {cA : ClassId} {n : Nat} {f : Nat → Int64} (ha : ws[q0]? = some (a, .inl (cA, n, .inr (.inl f)))) (ht : tys[t0]? = some (cA, .long)) {i : Nat} {x : Int64} (hi : i < n) (hn : n < 2 ^ 31) (hdg : decode cc pc = .ok (.lastore, 1))
    (kk : ∀ (H1 : Heap) (locs1 : List Loc), va_P D cl (ws.set q0 (a, .inl (cA, n, .inr (.inl (vp_updL f i x))))) H1 → va_D A (ws.set q0 (a, .inl (cA, n, .inr (.inl (vp_updL f i x))))) → va_S A H0 H1 locs1 → W p l e R s m args below meth c H1 locs1 cells slots Q (F0 m (pc + 1) ls rest)) : W p l e R s m args below meth c H locs cells slots Q (F0 m pc ls (.long x :: .int (nI i) :: .ref a :: rest)) :=
  va_last hx hb hK hP hD hS q0 t0 ha ht (vp_in_nI hi hn) hdg (by rw [nI_clamp (Nat.lt_trans hi hn)]; exact kk)
/-- a row of an array of arrays -/
theorem n_aald (hx : p.tables.exec = Jvm.exec) (hb : c.code = cc) (hK : va_K D cl tys s) (hP : va_P D cl ws H) (q0 t0 : Nat) {cA : ClassId} {ty : FieldType} {n : Nat} {f : Nat → Option Nat} (ha : ws[q0]? = some (a, .inl (cA, n, .inr (.inr (.inr (.inr f)))))) (ht : tys[t0]? = some (cA, .array ty)) {i b : Nat} (hi : i < n) (hn : n < 2 ^ 31) (hf : f i = some b) (hdg : decode cc pc = .ok (.aaload, 1))
    (kk : W p l e R s m args below meth c H locs cells slots Q (F0 m (pc + 1) ls (.ref b :: rest))) : W p l e R s m args below meth c H locs cells slots Q (F0 m pc ls (.int (nI i) :: .ref a :: rest)) := by
  have hin : vp_in (nI i) n := vp_in_nI hi hn
  have hc : (nI i).toNatClampNeg = i := nI_clamp (Nat.lt_trans hi hn)
  have hlt : (nI i).toNatClampNeg < n := by rw [hc]; exact hi
  exact W.aald (v := va_rf (f (nI i).toNatClampNeg)) (ty := .array ty) hx hb (hP q0 _ ha) ((hK.2 t0 _ ht).1 n (fun j => va_rf (f j))) rfl (fun q => by cases q) (by show ¬ (nI i < 0 ∨ (arrV _ _ _).slots.size ≤ _); rw [arrV_size]; exact hin) (by show (arrV _ _ _).slots[_]? = _; rw [arrV_read _ _ hlt]) rfl rfl hdg (by rw [hc, hf]; exact kk)
end BR
theorem k_m_X6_202 : (Cond.methodLink RX6 202 Lib.Math.min.name) ∈ TB := mTB (tb_3 _ (List.mem_of_getElem? (i := 156) rfl)) (by decide +kernel)
theorem k_st_Lib_Math_min_name : (Cond.static Lib.Math.min.name) ∈ TB := mTB (tb_3 _ (List.mem_of_getElem? (i := 157) rfl)) (by decide +kernel)
theorem k_co_Lib_Math_min_name : (Cond.code Lib.Math.min.name Lib.Math.min.code 2 (some .int)) ∈ TB := mTB (tb_3 _ (List.mem_of_getElem? (i := 158) rfl)) (by decide +kernel)
/-! the array classes, the worlds' frames -/
abbrev TY (K : Nat → ClassId) : List (ClassId × FieldType) := [(K 0, .int), (K 1, .long), (K 2, .boolean), (K 3, .array .long)]
/-- where a contract starts: the cells ws, apart; the heap's size -/
abbrev cP (D : va_G) (K : Nat → ClassId) (ws : va_W) (sz : Nat) : State → Prop := fun U => U.heap.size = sz ∧ va_P D vwCl ws U.heap ∧ va_K D vwCl (TY K) U ∧ va_D (fun _ => True) ws
/-- where it ends -/
abbrev cB (D : va_G) (K : Nat → ClassId) (A : Nat → Prop) (ws : va_W) : State → Prop := fun t => va_P D vwCl ws t.heap ∧ va_K D vwCl (TY K) t ∧ va_D A ws
theorem cP_blind {D : va_G} {K : Nat → ClassId} {ws : va_W} {sz : Nat} {as : List Value} : FrameBlind (va_Pc as (cP D K ws sz)) := fun a U g mk q => by
  obtain ⟨q0, q1, qP, qK, qD⟩ := q
  exact ⟨q0, q1, qP, va_K.moved (u := U) (U := U.calling g mk a) (Vm.Alike.refl U.vm) qK, qD⟩
theorem cP_of {D : va_G} {K : Nat → ClassId} {ws : va_W} {s : State} {H : Heap} {A : Nat → Prop} {as : List Value} (hP : va_P D vwCl ws H) (hK : va_K D vwCl (TY K) s) (hD : va_D A ws) : ∀ U : State, U.heap = H → s.WarmedH U.vm → va_Pc as (cP D K ws H.size) as.toArray U := fun U hU hW => ⟨rfl, by rw [hU], by rw [hU]; exact hP, va_K.moved hW.alike hK, hD.weaken (fun _ _ _ _ => trivial)⟩
theorem tP_blind {as : List Value} : FrameBlind (va_Pc as (fun _ => True)) := fun _ _ _ _ q => q
theorem tP_of {s : State} {H : Heap} {as : List Value} : ∀ U : State, U.heap = H → s.WarmedH U.vm → va_Pc as (fun _ => True) as.toArray U := fun _ _ _ => ⟨rfl, trivial⟩
/-- what a call that writes nothing leaves -/
theorem P_same {D : va_G} {ws : va_W} {H H1 : Heap} (hP : va_P D vwCl ws H) (hk : ∀ q : Nat, q < H.size → ¬ (fun _ : Nat => False) q → H1[q]? = H[q]?) : va_P D vwCl ws H1 := hP.kept (fun k q h => hk q.1 ((hP k q h).lt) id)
theorem hts_tl {w0 : Cond} {av : Array Value} {s : State} (h : ∀ w ∈ w0 :: TB, w.before av s = true) : ∀ w ∈ TB, w.before av s = true := fun w hw => h w (List.mem_cons_of_mem _ hw)
theorem nI_toIntI {n : Nat} (h : n < 2147483648) : (nI n).toInt = (n : Int) := nI_toInt (by omega)
theorem nI_dec (n : Nat) (h : 0 < n) : nI n + Int32.ofInt (-1) = nI (n - 1) := by
  obtain ⟨k, rfl⟩ : ∃ k, n = k + 1 := ⟨n - 1, by omega⟩
  rw [Nat.add_sub_cancel]
  exact pk_m1 k
theorem freeAll {A : Nat → Prop} {ws : va_W} {H0 H : Heap} {locs : List Loc} (hD : va_D A ws) (hS : va_S A H0 H locs) (hA : ∀ q, H0.size ≤ q → A q) : ∀ q, va_A ws H.size q → A q := fun q h => by
  rcases h with ⟨k, e, h⟩ | h
  · exact hD.2 k (q, e) h
  · exact hA q (Nat.le_trans hS.1 h)
end
section
/-! PlanetaryGearbox$Equations: its cells, its contracts -/
/-- 1 for what holds, 0 for what does not -/
noncomputable def bI (P : Prop) : Int32 := @ite _ P (Classical.propDecidable P) (nI 1) (nI 0)
theorem bI_t {P : Prop} (h : P) : nI 1 = bI P := by unfold bI; rw [if_pos h]
theorem bI_f {P : Prop} (h : ¬ P) : nI 0 = bI P := by unfold bI; rw [if_neg h]
def setM (M : Nat → Nat → Int64) (i j : Nat) (x : Int64) : Nat → Nat → Int64 := fun k => if k = i then vp_updL (M i) j x else M k
theorem setM_same (M : Nat → Nat → Int64) (i j : Nat) (x : Int64) : setM M i j x i j = x := by simp [setM, vp_updL]
theorem setM_row {M : Nat → Nat → Int64} {i j k : Nat} {x : Int64} (h : k ≠ i) : setM M i j x k = M k := by simp [setM, h]
theorem setM_col {M : Nat → Nat → Int64} {i j k t : Nat} {x : Int64} (h : t ≠ j) : setM M i j x k t = M k t := by
  unfold setM
  by_cases e : k = i
  · subst e; simp [vp_updL, h]
  · simp [e]
/-- an Equations and its arrays -/
def WE (K : Nat → ClassId) (a ao ap ab : Nat) (r : Nat → Nat) (M : Nat → Nat → Int64) (pv ip : Nat → Int32) (sv : Int32) : va_W := (a, .inr (1, [.ref ao, .ref ap, .ref ab, .int sv])) :: (ao, .inl (K 3, 10, .inr (.inr (.inr (.inr (fun i => if i < 10 then some (r i) else none)))))) :: (ap, .inl (K 0, 10, .inl pv)) :: (ab, .inl (K 2, 10, .inl ip)) :: (List.range 10).map (fun i => (r i, .inl (K 1, 11, .inr (.inl (M i)))))
theorem WE_at {K : Nat → ClassId} {a ao ap ab : Nat} {r : Nat → Nat} {M : Nat → Nat → Int64} {pv ip : Nat → Int32} {sv : Int32} {i : Nat} (h : i < 10) : (WE K a ao ap ab r M pv ip sv)[4 + i]? = some (r i, .inl (K 1, 11, .inr (.inl (M i)))) := by
  rw [Nat.add_comm]
  show ((List.range 10).map (fun i => ((r i, .inl (K 1, 11, .inr (.inl (M i)))) : Nat × va_E)))[i]? = _
  rw [List.getElem?_map, List.getElem?_range h]
  rfl
theorem WE_set {K : Nat → ClassId} {a ao ap ab : Nat} {r : Nat → Nat} {M : Nat → Nat → Int64} {pv ip : Nat → Int32} {sv : Int32} {i j : Nat} {x : Int64} (h : i < 10) : (WE K a ao ap ab r M pv ip sv).set (4 + i) (r i, .inl (K 1, 11, .inr (.inl (vp_updL (M i) j x)))) = WE K a ao ap ab r (setM M i j x) pv ip sv := by
  rw [Nat.add_comm]
  show (_ :: _ :: _ :: _ :: ((List.range 10).map (fun i => ((r i, .inl (K 1, 11, .inr (.inl (M i)))) : Nat × va_E))).set i _) = (_ :: _ :: _ :: _ :: (List.range 10).map (fun k => ((r k, .inl (K 1, 11, .inr (.inl (setM M i j x k)))) : Nat × va_E)))
  congr 4
  apply List.ext_getElem?
  intro k
  rw [List.getElem?_set, List.getElem?_map, List.getElem?_map, List.length_map, List.length_range]
  by_cases hk : i = k
  · subst hk
    rw [if_pos rfl, if_pos h, List.getElem?_range h]
    simp [setM]
  · rw [if_neg hk]
    by_cases h2 : k < 10
    · rw [List.getElem?_range h2]
      simp [setM_row (show k ≠ i from fun q => hk q.symm)]
    · rw [List.getElem?_eq_none (by rw [List.length_range]; omega)]
      rfl
theorem m1_ne {k : Nat} (h : k < 2147483648) : ¬ (-1 : Int32) = nI k := fun q => by
  have h1 := congrArg Int32.toInt q
  rw [nI_toIntI h] at h1
  have e : (-1 : Int32).toInt = -1 := by decide
  omega
theorem vi_lt {n : Nat} (h : n < 2147483648) (h2 : ((n : Nat) : Int) < 0) : False := by omega
set_option maxHeartbeats 4000000 in
set_option maxRecDepth 100000 in
theorem c_X1_isSolvable (l : Launch) (D : va_G) (K : Nat → ClassId) (a ao ap ab : Nat) (r : Nat → Nat) (M : Nat → Nat → Int64) (pv ip : Nat → Int32) (sv : Int32) (sz : Nat) (hsv : sv = nI 0 ∨ sv = nI 1) : Met l yX1_isSolvable (.code yX1_isSolvable cX1_isSolvable 1 (some .boolean) :: TB) ({ frames := 0, cells := 0, slots := 0, locals := 0 } : Room) (va_Pc [.ref a] (cP D K (WE K a ao ap ab r M pv ip sv) sz)) (va_Qi (fun (q : Int32) (_ : Unit) => q = sv) (fun _ _ => True) (fun _ => False)) 0 0 (fun _ => False) := by
  refine Met.ofW (cc := cX1_isSolvable) (maxL := 1) (ret := (some .boolean)) (by decide) rfl ?_
  intro p e s m args below meth c s₁ B hml hv
  obtain ⟨rfl, hsz, hP, hK, hD0⟩ := hv
  have hx := B.exec
  have hb := B.bytes
  have hr := B.returns
  have hts := hts_tl (atoms_spec (ws := (.code yX1_isSolvable cX1_isSolvable 1 (some .boolean) :: TB)) B.pre)
  have hown : s.vm.findClass RX1 = some m.cls := findClass_of_methodNamed B.named
  have hlocks := B.notSynchronized
  subst hsz
  have hA : ∀ q : Nat, q < s.heap.size → (fun _ : Nat => False) q → False := fun _ _ h => h
  have hS : va_S (fun _ => False) s.heap s.heap [] := va_S.rf
  have hl := lv_entry ([.ref a]) (n := 1) (Nat.le_of_ble_eq_true rfl)
  rw [lg_entry_eq]
  generalize (lg_sl ([.ref a]) ++ List.replicate (1 - (lg_sl ([.ref a])).length) Slot.unset).toArray = ls at hl ⊢
  have hl : lv_has ls 1 [(0, .ref a)] := hl
  refine lv_aload_n hx hb dX1_isSolvable_0 rfl (lv_at hl 0 rfl) ?_
  refine va_get (D := D) (ci := 1) (C := RX1) (T := TX1) (N := 4) hx hb hts iX1 hown hK hP 0 rfl rfl 3 (by decide) (hts _ k_f_X1_36) (fun _ h9 => h9) rfl dX1_isSolvable_1 ?_
  exact W.zret (v := sv) hx hb hr (by rcases hsv with h | h <;> rw [h] <;> decide) (fun t ht hW => ⟨⟨sv, (), rfl, rfl, trivial⟩, hS.F ht⟩) hS.2.2 dX1_isSolvable_4
set_option maxHeartbeats 4000000 in
set_option maxRecDepth 100000 in
theorem c_X1_add (l : Launch) (D : va_G) (K : Nat → ClassId) (a ao ap ab : Nat) (r : Nat → Nat) (M : Nat → Nat → Int64) (pv ip : Nat → Int32) (sv : Int32) (i j : Nat) (v : Int64) (sz : Nat) (hi : i < 10) (hj : j < 11) : Met l yX1_add (.code yX1_add cX1_add 5 none :: TB) ({ frames := 0, cells := 0, slots := 0, locals := 0 } : Room) (va_Pc [.ref a, .int (nI i), .int (nI j), .long v] (cP D K (WE K a ao ap ab r M pv ip sv) sz)) (va_Qv (fun (_ : Unit) => True) (fun (u : Unit) t => cB D K (va_A (WE K a ao ap ab r M pv ip sv) sz) (WE K a ao ap ab r (setM M i j (M i j + v)) pv ip sv) t) (va_A (WE K a ao ap ab r M pv ip sv) sz)) 0 0 (va_A (WE K a ao ap ab r M pv ip sv) sz) := by
  refine Met.ofW (cc := cX1_add) (maxL := 5) (ret := none) (by decide) rfl ?_
  intro p e s m args below meth c s₁ B hml hv
  obtain ⟨rfl, hsz, hP, hK, hD0⟩ := hv
  have hx := B.exec
  have hb := B.bytes
  have hr := B.returns
  have hts := hts_tl (atoms_spec (ws := (.code yX1_add cX1_add 5 none :: TB)) B.pre)
  have hown : s.vm.findClass RX1 = some m.cls := findClass_of_methodNamed B.named
  have hlocks := B.notSynchronized
  subst hsz
  have hD := hD0.self (sz := s.heap.size)
  generalize hAe : (va_A (WE K a ao ap ab r M pv ip sv) s.heap.size) = A at hD ⊢
  have hA : ∀ q : Nat, s.heap.size ≤ q → A q := fun q h => by rw [← hAe]; exact Or.inr h
  have hS : va_S A s.heap s.heap [] := va_S.rf
  have hl := lv_entry ([.ref a, .int (nI i), .int (nI j), .long v]) (n := 5) (Nat.le_of_ble_eq_true rfl)
  rw [lg_entry_eq]
  generalize (lg_sl ([.ref a, .int (nI i), .int (nI j), .long v]) ++ List.replicate (5 - (lg_sl ([.ref a, .int (nI i), .int (nI j), .long v])).length) Slot.unset).toArray = ls at hl ⊢
  have hl : lv_has ls 5 [(0, .ref a), (1, .int (nI i)), (2, .int (nI j)), (3, .long v)] := hl
  refine lv_iload_n hx hb dX1_add_0 rfl (lv_at hl 1 rfl) ?_
  refine b_if_lt hx hb (nI_toIntI (by omega)) dX1_add_1 (tgt := 32) (by decide) (fun c1 => absurd c1 (by omega)) (fun c1 => ?_)
  refine lv_iload_n hx hb dX1_add_4 rfl (lv_at hl 1 rfl) ?_
  refine lv_bipush (v := nI 10) hx hb dX1_add_5 (by decide) ?_
  refine b_icmp_ge hx hb (nI_toIntI (by omega)) (nI_toIntI (by omega)) dX1_add_7 (tgt := 32) (by decide) (fun c7 => absurd c7 (by omega)) (fun c7 => ?_)
  refine lv_iload_n hx hb dX1_add_10 rfl (lv_at hl 2 rfl) ?_
  refine b_if_lt hx hb (nI_toIntI (by omega)) dX1_add_11 (tgt := 32) (by decide) (fun c11 => absurd c11 (by omega)) (fun c11 => ?_)
  refine lv_iload_n hx hb dX1_add_14 rfl (lv_at hl 2 rfl) ?_
  refine lv_bipush (v := nI 11) hx hb dX1_add_15 (by decide) ?_
  refine b_icmp_ge hx hb (nI_toIntI (by omega)) (nI_toIntI (by omega)) dX1_add_17 (tgt := 32) (by decide) (fun c17 => absurd c17 (by omega)) (fun c17 => ?_)
  refine lv_aload_n hx hb dX1_add_20 rfl (lv_at hl 0 rfl) ?_
  refine va_get (D := D) (ci := 1) (C := RX1) (T := TX1) (N := 4) hx hb hts iX1 hown hK hP 0 rfl rfl 0 (by decide) (hts _ k_f_X1_13) (fun _ h9 => h9) rfl dX1_add_21 ?_
  refine lv_iload_n hx hb dX1_add_24 rfl (lv_at hl 1 rfl) ?_
  refine n_aald hx hb hK hP 1 3 rfl rfl (i := i) (by omega) (by decide) (if_pos (by omega)) dX1_add_25 ?_
  refine lv_iload_n hx hb dX1_add_26 rfl (lv_at hl 2 rfl) ?_
  refine lv_dup2_11 hx hb dX1_add_27 rfl rfl ?_
  refine n_lald hx hb hK hP (4 + i) 1 (WE_at (by omega)) rfl (i := j) (by omega) (by decide) dX1_add_28 ?_
  refine lv_lload_n hx hb dX1_add_29 rfl (lv_at hl 3 rfl) ?_
  refine lv_ladd hx hb dX1_add_30 ?_
  refine n_last hx hb hK hP hD hS (4 + i) 1 (WE_at (by omega)) rfl (i := j) (by omega) (by decide) dX1_add_31 (fun H locs hP hD hS => ?_)
  rw [WE_set (by omega)] at hP hD
  have hP : va_P D vwCl (WE K a ao ap ab r (setM M i j ((M i j) + v)) pv ip sv) H := hP
  have hD : va_D A (WE K a ao ap ab r (setM M i j ((M i j) + v)) pv ip sv) := hD
  exact W.vret hx hb hr (fun t ht hW => ⟨⟨(), rfl, trivial, by rw [ht]; exact hP, va_K.moved hW.alike hK, hD⟩, hS.F ht⟩) hS.2.2 dX1_add_32
set_option maxHeartbeats 4000000 in
set_option maxRecDepth 100000 in
theorem c_X1_clear (l : Launch) (D : va_G) (K : Nat → ClassId) (a ao ap ab : Nat) (r : Nat → Nat) (M : Nat → Nat → Int64) (pv ip : Nat → Int32) (sv : Int32) (sz : Nat)  : Met l yX1_clear (.code yX1_clear cX1_clear 3 none :: TB) ({ frames := 0, cells := 0, slots := 0, locals := 0 } : Room) (va_Pc [.ref a] (cP D K (WE K a ao ap ab r M pv ip sv) sz)) (va_Qv (fun (u : Nat → Nat → Int64) => ∀ i j, i < 10 → j < 11 → u i j = 0) (fun (u : Nat → Nat → Int64) t => cB D K (va_A (WE K a ao ap ab r M pv ip sv) sz) (WE K a ao ap ab r u pv ip sv) t) (va_A (WE K a ao ap ab r M pv ip sv) sz)) 0 0 (va_A (WE K a ao ap ab r M pv ip sv) sz) := by
  refine Met.ofW (cc := cX1_clear) (maxL := 3) (ret := none) (by decide) rfl ?_
  intro p e s m args below meth c s₁ B hml hv
  obtain ⟨rfl, hsz, hP, hK, hD0⟩ := hv
  have hx := B.exec
  have hb := B.bytes
  have hr := B.returns
  have hts := hts_tl (atoms_spec (ws := (.code yX1_clear cX1_clear 3 none :: TB)) B.pre)
  have hown : s.vm.findClass RX1 = some m.cls := findClass_of_methodNamed B.named
  have hlocks := B.notSynchronized
  subst hsz
  have hD := hD0.self (sz := s.heap.size)
  generalize hAe : (va_A (WE K a ao ap ab r M pv ip sv) s.heap.size) = A at hD ⊢
  have hA : ∀ q : Nat, s.heap.size ≤ q → A q := fun q h => by rw [← hAe]; exact Or.inr h
  have hS : va_S A s.heap s.heap [] := va_S.rf
  have hl := lv_entry ([.ref a]) (n := 3) (Nat.le_of_ble_eq_true rfl)
  rw [lg_entry_eq]
  generalize (lg_sl ([.ref a]) ++ List.replicate (3 - (lg_sl ([.ref a])).length) Slot.unset).toArray = ls at hl ⊢
  have hl : lv_has ls 3 [(0, .ref a)] := hl
  refine lv_iconst (v := nI 0) hx hb dX1_clear_0 (by decide) ?_
  refine lv_istore_n (lv' := [(1, .int (nI 0)), (0, .ref a)]) hx hb dX1_clear_1 rfl hl (by decide) rfl (fun ls hl => ?_)
  have L2 : ∀ (n : Nat) (i : Nat) (M' : Nat → Nat → Int64) (H : Heap) (locs : List Loc) (ls : Array Slot), 10 - i < n → (i ≤ 10) → (∀ x y, x < i → y < 11 → M' x y = 0) → va_P D vwCl (WE K a ao ap ab r M' pv ip sv) H → va_D A (WE K a ao ap ab r M' pv ip sv) → va_S A s.heap H locs → lv_has ls 3 [(1, .int (nI i)), (0, .ref a)] → W p l e ({ frames := 0, cells := 0, slots := 0, locals := 0 } : Room) s m [.ref a].toArray below meth c H locs 0 0 (MQ below (va_Qv (fun (u : Nat → Nat → Int64) => ∀ i j, i < 10 → j < 11 → u i j = 0) (fun (u : Nat → Nat → Int64) t => cB D K A (WE K a ao ap ab r u pv ip sv) t) A) [.ref a].toArray s 0 0 A) (F0 m 2 ls []) := by
    intro n
    induction n with
    | zero =>
      intro i M' H locs ls hn
      exact absurd hn (Nat.not_lt_zero _)
    | succ n ih2 =>
      intro i M' H locs ls hn hi hz hP hD hS hl
      refine lv_iload_n hx hb dX1_clear_2 rfl (lv_at hl 0 rfl) ?_
      refine lv_bipush (v := nI 10) hx hb dX1_clear_3 (by decide) ?_
      refine b_icmp_ge hx hb (nI_toIntI (by omega)) (nI_toIntI (by omega)) dX1_clear_5 (tgt := 37) (by decide) (fun c5 => ?_) (fun c5 => ?_)
      · exact W.vret hx hb hr (fun t ht hW => ⟨⟨M', rfl, (fun x y hx9 hy9 => hz x y (by omega) hy9), by rw [ht]; exact hP, va_K.moved hW.alike hK, hD⟩, hS.F ht⟩) hS.2.2 dX1_clear_37
      refine lv_iconst (v := nI 0) hx hb dX1_clear_8 (by decide) ?_
      refine lv_istore_n (lv' := [(2, .int (nI 0)), (1, .int (nI i)), (0, .ref a)]) hx hb dX1_clear_9 rfl hl (by decide) rfl (fun ls hl => ?_)
      have L10 : ∀ (n : Nat) (j : Nat) (M'' : Nat → Nat → Int64) (H : Heap) (locs : List Loc) (ls : Array Slot), 11 - j < n → (j ≤ 11) → (∀ x y, x < i → y < 11 → M'' x y = 0) → (∀ y, y < j → M'' i y = 0) → va_P D vwCl (WE K a ao ap ab r M'' pv ip sv) H → va_D A (WE K a ao ap ab r M'' pv ip sv) → va_S A s.heap H locs → lv_has ls 3 [(2, .int (nI j)), (1, .int (nI i)), (0, .ref a)] → W p l e ({ frames := 0, cells := 0, slots := 0, locals := 0 } : Room) s m [.ref a].toArray below meth c H locs 0 0 (MQ below (va_Qv (fun (u : Nat → Nat → Int64) => ∀ i j, i < 10 → j < 11 → u i j = 0) (fun (u : Nat → Nat → Int64) t => cB D K A (WE K a ao ap ab r u pv ip sv) t) A) [.ref a].toArray s 0 0 A) (F0 m 10 ls []) := by
        intro n
        induction n with
        | zero =>
          intro j M'' H locs ls hn
          exact absurd hn (Nat.not_lt_zero _)
        | succ n ih10 =>
          intro j M'' H locs ls hn hj hz0 hz1 hP hD hS hl
          refine lv_iload_n hx hb dX1_clear_10 rfl (lv_at hl 0 rfl) ?_
          refine lv_bipush (v := nI 11) hx hb dX1_clear_11 (by decide) ?_
          refine b_icmp_ge hx hb (nI_toIntI (by omega)) (nI_toIntI (by omega)) dX1_clear_13 (tgt := 31) (by decide) (fun c13 => ?_) (fun c13 => ?_)
          · refine lv_iinc (v := nI (i + 1)) (lv' := [(1, .int (nI (i + 1))), (2, .int (nI j)), (0, .ref a)]) hx hb dX1_clear_31 hl (k := 1) rfl (nI_add i 1) (by decide) rfl (fun ls hl => ?_)
            refine lv_goto (tgt := 2) hx hb dX1_clear_34 (by decide) ?_
            have hz2 : ∀ x y, x < i + 1 → y < 11 → M'' x y = 0 := fun x y h1 h2 => by
              by_cases q : x = i
              · subst q; exact hz1 y (by omega)
              · exact hz0 x y (by omega) h2
            exact ih2 (i + 1) M'' _ _ _ (by omega) (by omega) hz2 hP hD hS (lv_sub hl [0, 2] rfl)
          refine lv_aload_n hx hb dX1_clear_16 rfl (lv_at hl 2 rfl) ?_
          refine va_get (D := D) (ci := 1) (C := RX1) (T := TX1) (N := 4) hx hb hts iX1 hown hK hP 0 rfl rfl 0 (by decide) (hts _ k_f_X1_13) (fun _ h9 => h9) rfl dX1_clear_17 ?_
          refine lv_iload_n hx hb dX1_clear_20 rfl (lv_at hl 1 rfl) ?_
          refine n_aald hx hb hK hP 1 3 rfl rfl (i := i) (by omega) (by decide) (if_pos (by omega)) dX1_clear_21 ?_
          refine lv_iload_n hx hb dX1_clear_22 rfl (lv_at hl 0 rfl) ?_
          refine lv_lconst (v := 0) hx hb dX1_clear_23 (by decide) ?_
          refine n_last hx hb hK hP hD hS (4 + i) 1 (WE_at (by omega)) rfl (i := j) (by omega) (by decide) dX1_clear_24 (fun H locs hP hD hS => ?_)
          rw [WE_set (by omega)] at hP hD
          have hP : va_P D vwCl (WE K a ao ap ab r (setM M'' i j (0 : Int64)) pv ip sv) H := hP
          have hD : va_D A (WE K a ao ap ab r (setM M'' i j (0 : Int64)) pv ip sv) := hD
          refine lv_iinc (v := nI (j + 1)) (lv' := [(2, .int (nI (j + 1))), (1, .int (nI i)), (0, .ref a)]) hx hb dX1_clear_25 hl (k := 0) rfl (nI_add j 1) (by decide) rfl (fun ls hl => ?_)
          refine lv_goto (tgt := 10) hx hb dX1_clear_28 (by decide) ?_
          have hz3 : ∀ x y, x < i → y < 11 → (setM M'' i j (0 : Int64)) x y = 0 := fun x y h1 h2 => by rw [setM_row (by omega)]; exact hz0 x y h1 h2
          have hz4 : ∀ y, y < j + 1 → (setM M'' i j (0 : Int64)) i y = 0 := fun y hy9 => by
            by_cases q : y = j
            · subst q; exact setM_same _ _ _ _
            · rw [setM_col q]; exact hz1 y (by omega)
          exact ih10 (j + 1) (setM M'' i j (0 : Int64)) _ _ _ (by omega) (by omega) hz3 hz4 hP hD hS (lv_sub hl [0, 1, 2] rfl)
      exact L10 _ 0 M' _ _ _ (Nat.lt_succ_self _) (by omega) hz (fun y hy9 => absurd hy9 (Nat.not_lt_zero _)) hP hD hS (lv_sub hl [0, 1, 2] rfl)
  exact L2 _ 0 M _ _ _ (Nat.lt_succ_self _) (by omega) (fun x y hx9 _ => absurd hx9 (Nat.not_lt_zero _)) hP hD hS (lv_sub hl [0, 1] rfl)
set_option maxHeartbeats 4000000 in
set_option maxRecDepth 100000 in
theorem c_X1_freeRowWith (l : Launch) (D : va_G) (K : Nat → ClassId) (a ao ap ab : Nat) (r : Nat → Nat) (M : Nat → Nat → Int64) (pv ip : Nat → Int32) (sv : Int32) (t : Nat) (sz : Nat) (ht : t < 10) : Met l yX1_freeRowWith (.code yX1_freeRowWith cX1_freeRowWith 3 (some .int) :: TB) ({ frames := 0, cells := 0, slots := 0, locals := 0 } : Room) (va_Pc [.ref a, .int (nI t)] (cP D K (WE K a ao ap ab r M pv ip sv) sz)) (va_Qi (fun (q : Int32) (_ : Unit) => (∃ k, k < 10 ∧ q = nI k ∧ (ip k).toInt = 0 ∧ ¬ (M k t).toInt = 0) ∨ (q = -1 ∧ ∀ k, k < 10 → (ip k).toInt = 0 → (M k t).toInt = 0)) (fun _ _ => True) (fun _ => False)) 0 0 (fun _ => False) := by
  refine Met.ofW (cc := cX1_freeRowWith) (maxL := 3) (ret := (some .int)) (by decide) rfl ?_
  intro p e s m args below meth c s₁ B hml hv
  obtain ⟨rfl, hsz, hP, hK, hD0⟩ := hv
  have hx := B.exec
  have hb := B.bytes
  have hr := B.returns
  have hts := hts_tl (atoms_spec (ws := (.code yX1_freeRowWith cX1_freeRowWith 3 (some .int) :: TB)) B.pre)
  have hown : s.vm.findClass RX1 = some m.cls := findClass_of_methodNamed B.named
  have hlocks := B.notSynchronized
  subst hsz
  have hA : ∀ q : Nat, q < s.heap.size → (fun _ : Nat => False) q → False := fun _ _ h => h
  have hS : va_S (fun _ => False) s.heap s.heap [] := va_S.rf
  have hl := lv_entry ([.ref a, .int (nI t)]) (n := 3) (Nat.le_of_ble_eq_true rfl)
  rw [lg_entry_eq]
  generalize (lg_sl ([.ref a, .int (nI t)]) ++ List.replicate (3 - (lg_sl ([.ref a, .int (nI t)])).length) Slot.unset).toArray = ls at hl ⊢
  have hl : lv_has ls 3 [(0, .ref a), (1, .int (nI t))] := hl
  refine lv_iconst (v := nI 0) hx hb dX1_freeRowWith_0 (by decide) ?_
  refine lv_istore_n (lv' := [(2, .int (nI 0)), (0, .ref a), (1, .int (nI t))]) hx hb dX1_freeRowWith_1 rfl hl (by decide) rfl (fun ls hl => ?_)
  have L2 : ∀ (n : Nat) (i : Nat) (ls : Array Slot), 10 - i < n → (i ≤ 10) → (∀ k, k < i → (ip k).toInt = 0 → (M k t).toInt = 0) → lv_has ls 3 [(2, .int (nI i)), (0, .ref a), (1, .int (nI t))] → W p l e ({ frames := 0, cells := 0, slots := 0, locals := 0 } : Room) s m [.ref a, .int (nI t)].toArray below meth c s.heap [] 0 0 (MQ below (va_Qi (fun (q : Int32) (_ : Unit) => (∃ k, k < 10 ∧ q = nI k ∧ (ip k).toInt = 0 ∧ ¬ (M k t).toInt = 0) ∨ (q = -1 ∧ ∀ k, k < 10 → (ip k).toInt = 0 → (M k t).toInt = 0)) (fun _ _ => True) (fun _ => False)) [.ref a, .int (nI t)].toArray s 0 0 (fun _ => False)) (F0 m 2 ls []) := by
    intro n
    induction n with
    | zero =>
      intro i ls hn
      exact absurd hn (Nat.not_lt_zero _)
    | succ n ih2 =>
      intro i ls hn hi hn0 hl
      refine lv_iload_n hx hb dX1_freeRowWith_2 rfl (lv_at hl 0 rfl) ?_
      refine lv_bipush (v := nI 10) hx hb dX1_freeRowWith_3 (by decide) ?_
      refine b_icmp_ge hx hb (nI_toIntI (by omega)) (nI_toIntI (by omega)) dX1_freeRowWith_5 (tgt := 38) (by decide) (fun c5 => ?_) (fun c5 => ?_)
      · refine lv_iconst (v := (-1)) hx hb dX1_freeRowWith_38 (by decide) ?_
        exact W.iret (v := (-1)) hx hb hr (fun t ht hW => ⟨⟨(-1), (), rfl, Or.inr ⟨rfl, fun k hk h0 => hn0 k (by omega) h0⟩, trivial⟩, hS.F ht⟩) hS.2.2 dX1_freeRowWith_39
      refine lv_aload_n hx hb dX1_freeRowWith_8 rfl (lv_at hl 1 rfl) ?_
      refine va_get (D := D) (ci := 1) (C := RX1) (T := TX1) (N := 4) hx hb hts iX1 hown hK hP 0 rfl rfl 2 (by decide) (hts _ k_f_X1_20) (fun _ h9 => h9) rfl dX1_freeRowWith_9 ?_
      refine lv_iload_n hx hb dX1_freeRowWith_12 rfl (lv_at hl 0 rfl) ?_
      refine n_zald hx hb hK hP 3 2 rfl rfl (i := i) (by omega) (by decide) dX1_freeRowWith_13 ?_
      refine b_if_ne hx hb rfl dX1_freeRowWith_14 (tgt := 32) (by decide) (fun c14 => ?_) (fun c14 => ?_)
      · refine lv_iinc (v := nI (i + 1)) (lv' := [(2, .int (nI (i + 1))), (0, .ref a), (1, .int (nI t))]) hx hb dX1_freeRowWith_32 hl (k := 0) rfl (nI_add i 1) (by decide) rfl (fun ls hl => ?_)
        refine lv_goto (tgt := 2) hx hb dX1_freeRowWith_35 (by decide) ?_
        have hn1 : ∀ k, k < i + 1 → (ip k).toInt = 0 → (M k t).toInt = 0 := fun k hk h0 => by
          by_cases q : k = i
          · subst q; first | exact absurd h0 c14 | exact c26
          · exact hn0 k (by omega) h0
        exact ih2 (i + 1) _ (by omega) (by omega) hn1 (lv_sub hl [0, 1, 2] rfl)
      refine lv_aload_n hx hb dX1_freeRowWith_17 rfl (lv_at hl 1 rfl) ?_
      refine va_get (D := D) (ci := 1) (C := RX1) (T := TX1) (N := 4) hx hb hts iX1 hown hK hP 0 rfl rfl 0 (by decide) (hts _ k_f_X1_13) (fun _ h9 => h9) rfl dX1_freeRowWith_18 ?_
      refine lv_iload_n hx hb dX1_freeRowWith_21 rfl (lv_at hl 0 rfl) ?_
      refine n_aald hx hb hK hP 1 3 rfl rfl (i := i) (by omega) (by decide) (if_pos (by omega)) dX1_freeRowWith_22 ?_
      refine lv_iload_n hx hb dX1_freeRowWith_23 rfl (lv_at hl 2 rfl) ?_
      refine n_lald hx hb hK hP (4 + i) 1 (WE_at (by omega)) rfl (i := t) (by omega) (by decide) dX1_freeRowWith_24 ?_
      refine lv_lconst (v := 0) hx hb dX1_freeRowWith_25 (by decide) ?_
      refine b_lcmp_eq hx hb rfl (show (0 : Int64).toInt = 0 by decide) dX1_freeRowWith_26 dX1_freeRowWith_27 (tgt := 32) (by decide) (fun c26 => ?_) (fun c26 => ?_)
      · refine lv_iinc (v := nI (i + 1)) (lv' := [(2, .int (nI (i + 1))), (0, .ref a), (1, .int (nI t))]) hx hb dX1_freeRowWith_32 hl (k := 0) rfl (nI_add i 1) (by decide) rfl (fun ls hl => ?_)
        refine lv_goto (tgt := 2) hx hb dX1_freeRowWith_35 (by decide) ?_
        have hn1 : ∀ k, k < i + 1 → (ip k).toInt = 0 → (M k t).toInt = 0 := fun k hk h0 => by
          by_cases q : k = i
          · subst q; first | exact absurd h0 c14 | exact c26
          · exact hn0 k (by omega) h0
        exact ih2 (i + 1) _ (by omega) (by omega) hn1 (lv_sub hl [0, 1, 2] rfl)
      refine lv_iload_n hx hb dX1_freeRowWith_30 rfl (lv_at hl 0 rfl) ?_
      exact W.iret (v := nI i) hx hb hr (fun t ht hW => ⟨⟨nI i, (), rfl, Or.inl ⟨i, by omega, rfl, c14, c26⟩, trivial⟩, hS.F ht⟩) hS.2.2 dX1_freeRowWith_31
  exact L2 _ 0 _ (Nat.lt_succ_self _) (by omega) (fun k hk => absurd hk (Nat.not_lt_zero _)) (lv_sub hl [0, 1, 2] rfl)
set_option maxHeartbeats 4000000 in
set_option maxRecDepth 100000 in
theorem c_X1_areRowsLeftEmpty (l : Launch) (D : va_G) (K : Nat → ClassId) (a ao ap ab : Nat) (r : Nat → Nat) (M : Nat → Nat → Int64) (pv ip : Nat → Int32) (sv : Int32) (sz : Nat)  : Met l yX1_areRowsLeftEmpty (.code yX1_areRowsLeftEmpty cX1_areRowsLeftEmpty 2 (some .boolean) :: TB) ({ frames := 0, cells := 0, slots := 0, locals := 0 } : Room) (va_Pc [.ref a] (cP D K (WE K a ao ap ab r M pv ip sv) sz)) (va_Qi (fun (q : Int32) (_ : Unit) => q = bI (∀ k, k < 10 → (ip k).toInt = 0 → (M k 10).toInt = 0)) (fun _ _ => True) (fun _ => False)) 0 0 (fun _ => False) := by
  refine Met.ofW (cc := cX1_areRowsLeftEmpty) (maxL := 2) (ret := (some .boolean)) (by decide) rfl ?_
  intro p e s m args below meth c s₁ B hml hv
  obtain ⟨rfl, hsz, hP, hK, hD0⟩ := hv
  have hx := B.exec
  have hb := B.bytes
  have hr := B.returns
  have hts := hts_tl (atoms_spec (ws := (.code yX1_areRowsLeftEmpty cX1_areRowsLeftEmpty 2 (some .boolean) :: TB)) B.pre)
  have hown : s.vm.findClass RX1 = some m.cls := findClass_of_methodNamed B.named
  have hlocks := B.notSynchronized
  subst hsz
  have hA : ∀ q : Nat, q < s.heap.size → (fun _ : Nat => False) q → False := fun _ _ h => h
  have hS : va_S (fun _ => False) s.heap s.heap [] := va_S.rf
  have hl := lv_entry ([.ref a]) (n := 2) (Nat.le_of_ble_eq_true rfl)
  rw [lg_entry_eq]
  generalize (lg_sl ([.ref a]) ++ List.replicate (2 - (lg_sl ([.ref a])).length) Slot.unset).toArray = ls at hl ⊢
  have hl : lv_has ls 2 [(0, .ref a)] := hl
  refine lv_iconst (v := nI 0) hx hb dX1_areRowsLeftEmpty_0 (by decide) ?_
  refine lv_istore_n (lv' := [(1, .int (nI 0)), (0, .ref a)]) hx hb dX1_areRowsLeftEmpty_1 rfl hl (by decide) rfl (fun ls hl => ?_)
  have L2 : ∀ (n : Nat) (i : Nat) (ls : Array Slot), 10 - i < n → (i ≤ 10) → (∀ k, k < i → (ip k).toInt = 0 → (M k 10).toInt = 0) → lv_has ls 2 [(1, .int (nI i)), (0, .ref a)] → W p l e ({ frames := 0, cells := 0, slots := 0, locals := 0 } : Room) s m [.ref a].toArray below meth c s.heap [] 0 0 (MQ below (va_Qi (fun (q : Int32) (_ : Unit) => q = bI (∀ k, k < 10 → (ip k).toInt = 0 → (M k 10).toInt = 0)) (fun _ _ => True) (fun _ => False)) [.ref a].toArray s 0 0 (fun _ => False)) (F0 m 2 ls []) := by
    intro n
    induction n with
    | zero =>
      intro i ls hn
      exact absurd hn (Nat.not_lt_zero _)
    | succ n ih2 =>
      intro i ls hn hi hn0 hl
      refine lv_iload_n hx hb dX1_areRowsLeftEmpty_2 rfl (lv_at hl 0 rfl) ?_
      refine lv_bipush (v := nI 10) hx hb dX1_areRowsLeftEmpty_3 (by decide) ?_
      refine b_icmp_ge hx hb (nI_toIntI (by omega)) (nI_toIntI (by omega)) dX1_areRowsLeftEmpty_5 (tgt := 39) (by decide) (fun c5 => ?_) (fun c5 => ?_)
      · refine lv_iconst (v := nI 1) hx hb dX1_areRowsLeftEmpty_39 (by decide) ?_
        exact W.zret (v := nI 1) hx hb hr (by decide) (fun t ht hW => ⟨⟨nI 1, (), rfl, bI_t (fun k hk h0 => hn0 k (by omega) h0), trivial⟩, hS.F ht⟩) hS.2.2 dX1_areRowsLeftEmpty_40
      refine lv_aload_n hx hb dX1_areRowsLeftEmpty_8 rfl (lv_at hl 1 rfl) ?_
      refine va_get (D := D) (ci := 1) (C := RX1) (T := TX1) (N := 4) hx hb hts iX1 hown hK hP 0 rfl rfl 2 (by decide) (hts _ k_f_X1_20) (fun _ h9 => h9) rfl dX1_areRowsLeftEmpty_9 ?_
      refine lv_iload_n hx hb dX1_areRowsLeftEmpty_12 rfl (lv_at hl 0 rfl) ?_
      refine n_zald hx hb hK hP 3 2 rfl rfl (i := i) (by omega) (by decide) dX1_areRowsLeftEmpty_13 ?_
      refine b_if_ne hx hb rfl dX1_areRowsLeftEmpty_14 (tgt := 33) (by decide) (fun c14 => ?_) (fun c14 => ?_)
      · refine lv_iinc (v := nI (i + 1)) (lv' := [(1, .int (nI (i + 1))), (0, .ref a)]) hx hb dX1_areRowsLeftEmpty_33 hl (k := 0) rfl (nI_add i 1) (by decide) rfl (fun ls hl => ?_)
        refine lv_goto (tgt := 2) hx hb dX1_areRowsLeftEmpty_36 (by decide) ?_
        have hn1 : ∀ k, k < i + 1 → (ip k).toInt = 0 → (M k 10).toInt = 0 := fun k hk h0 => by
          by_cases q : k = i
          · subst q; first | exact absurd h0 c14 | exact c27
          · exact hn0 k (by omega) h0
        exact ih2 (i + 1) _ (by omega) (by omega) hn1 (lv_sub hl [0, 1] rfl)
      refine lv_aload_n hx hb dX1_areRowsLeftEmpty_17 rfl (lv_at hl 1 rfl) ?_
      refine va_get (D := D) (ci := 1) (C := RX1) (T := TX1) (N := 4) hx hb hts iX1 hown hK hP 0 rfl rfl 0 (by decide) (hts _ k_f_X1_13) (fun _ h9 => h9) rfl dX1_areRowsLeftEmpty_18 ?_
      refine lv_iload_n hx hb dX1_areRowsLeftEmpty_21 rfl (lv_at hl 0 rfl) ?_
      refine n_aald hx hb hK hP 1 3 rfl rfl (i := i) (by omega) (by decide) (if_pos (by omega)) dX1_areRowsLeftEmpty_22 ?_
      refine lv_bipush (v := nI 10) hx hb dX1_areRowsLeftEmpty_23 (by decide) ?_
      refine n_lald hx hb hK hP (4 + i) 1 (WE_at (by omega)) rfl (i := 10) (by omega) (by decide) dX1_areRowsLeftEmpty_25 ?_
      refine lv_lconst (v := 0) hx hb dX1_areRowsLeftEmpty_26 (by decide) ?_
      refine b_lcmp_eq hx hb rfl (show (0 : Int64).toInt = 0 by decide) dX1_areRowsLeftEmpty_27 dX1_areRowsLeftEmpty_28 (tgt := 33) (by decide) (fun c27 => ?_) (fun c27 => ?_)
      · refine lv_iinc (v := nI (i + 1)) (lv' := [(1, .int (nI (i + 1))), (0, .ref a)]) hx hb dX1_areRowsLeftEmpty_33 hl (k := 0) rfl (nI_add i 1) (by decide) rfl (fun ls hl => ?_)
        refine lv_goto (tgt := 2) hx hb dX1_areRowsLeftEmpty_36 (by decide) ?_
        have hn1 : ∀ k, k < i + 1 → (ip k).toInt = 0 → (M k 10).toInt = 0 := fun k hk h0 => by
          by_cases q : k = i
          · subst q; first | exact absurd h0 c14 | exact c27
          · exact hn0 k (by omega) h0
        exact ih2 (i + 1) _ (by omega) (by omega) hn1 (lv_sub hl [0, 1] rfl)
      refine lv_iconst (v := nI 0) hx hb dX1_areRowsLeftEmpty_31 (by decide) ?_
      exact W.zret (v := nI 0) hx hb hr (by decide) (fun t ht hW => ⟨⟨nI 0, (), rfl, bI_f (fun q => c27 (q i (by omega) c14)), trivial⟩, hS.F ht⟩) hS.2.2 dX1_areRowsLeftEmpty_32
  exact L2 _ 0 _ (Nat.lt_succ_self _) (by omega) (fun k hk => absurd hk (Nat.not_lt_zero _)) (lv_sub hl [0, 1] rfl)
set_option maxHeartbeats 4000000 in
set_option maxRecDepth 100000 in
theorem c_X1_isDetermined (l : Launch) (D : va_G) (K : Nat → ClassId) (a ao ap ab : Nat) (r : Nat → Nat) (M : Nat → Nat → Int64) (pv ip : Nat → Int32) (sv : Int32) (t : Nat) (sz : Nat) (ht : t < 10) (hsv : sv = nI 0 ∨ sv = nI 1) (hpv : pv t = -1 ∨ ∃ k, k < 10 ∧ pv t = nI k) : Met l yX1_isDetermined (.code yX1_isDetermined cX1_isDetermined 4 (some .boolean) :: TB) ({ frames := 0, cells := 0, slots := 0, locals := 0 } : Room) (va_Pc [.ref a, .int (nI t)] (cP D K (WE K a ao ap ab r M pv ip sv) sz)) (va_Qi (fun (q : Int32) (_ : Unit) => q = bI (sv = nI 1 ∧ ∃ k, k < 10 ∧ pv t = nI k ∧ ∀ o, o < 10 → ¬ o = t → (M k o).toInt = 0)) (fun _ _ => True) (fun _ => False)) 0 0 (fun _ => False) := by
  refine Met.ofW (cc := cX1_isDetermined) (maxL := 4) (ret := (some .boolean)) (by decide) rfl ?_
  intro p e s m args below meth c s₁ B hml hv
  obtain ⟨rfl, hsz, hP, hK, hD0⟩ := hv
  have hx := B.exec
  have hb := B.bytes
  have hr := B.returns
  have hts := hts_tl (atoms_spec (ws := (.code yX1_isDetermined cX1_isDetermined 4 (some .boolean) :: TB)) B.pre)
  have hown : s.vm.findClass RX1 = some m.cls := findClass_of_methodNamed B.named
  have hlocks := B.notSynchronized
  subst hsz
  have hA : ∀ q : Nat, q < s.heap.size → (fun _ : Nat => False) q → False := fun _ _ h => h
  have hS : va_S (fun _ => False) s.heap s.heap [] := va_S.rf
  have hl := lv_entry ([.ref a, .int (nI t)]) (n := 4) (Nat.le_of_ble_eq_true rfl)
  rw [lg_entry_eq]
  generalize (lg_sl ([.ref a, .int (nI t)]) ++ List.replicate (4 - (lg_sl ([.ref a, .int (nI t)])).length) Slot.unset).toArray = ls at hl ⊢
  have hl : lv_has ls 4 [(0, .ref a), (1, .int (nI t))] := hl
  refine lv_aload_n hx hb dX1_isDetermined_0 rfl (lv_at hl 0 rfl) ?_
  refine va_get (D := D) (ci := 1) (C := RX1) (T := TX1) (N := 4) hx hb hts iX1 hown hK hP 0 rfl rfl 3 (by decide) (hts _ k_f_X1_36) (fun _ h9 => h9) rfl dX1_isDetermined_1 ?_
  refine b_if_eq hx hb rfl dX1_isDetermined_4 (tgt := 17) (by decide) (fun c4 => ?_) (fun c4 => ?_)
  · refine lv_iconst (v := nI 0) hx hb dX1_isDetermined_17 (by decide) ?_
    exact W.zret (v := nI 0) hx hb hr (by decide) (fun t ht hW => ⟨⟨nI 0, (), rfl, bI_f (fun q => absurd (show sv.toInt = 0 from c4) (by rw [q.1]; decide)), trivial⟩, hS.F ht⟩) hS.2.2 dX1_isDetermined_18
  refine lv_iload_n hx hb dX1_isDetermined_7 rfl (lv_at hl 1 rfl) ?_
  refine b_if_lt hx hb (nI_toIntI (by omega)) dX1_isDetermined_8 (tgt := 17) (by decide) (fun c8 => absurd c8 (by omega)) (fun c8 => ?_)
  refine lv_iload_n hx hb dX1_isDetermined_11 rfl (lv_at hl 1 rfl) ?_
  refine lv_bipush (v := nI 10) hx hb dX1_isDetermined_12 (by decide) ?_
  refine b_icmp_lt hx hb (nI_toIntI (by omega)) (nI_toIntI (by omega)) dX1_isDetermined_14 (tgt := 19) (by decide) (fun c14 => ?_) (fun c14 => absurd c14 (by omega))
  refine lv_aload_n hx hb dX1_isDetermined_19 rfl (lv_at hl 0 rfl) ?_
  refine va_get (D := D) (ci := 1) (C := RX1) (T := TX1) (N := 4) hx hb hts iX1 hown hK hP 0 rfl rfl 1 (by decide) (hts _ k_f_X1_16) (fun _ h9 => h9) rfl dX1_isDetermined_20 ?_
  refine lv_iload_n hx hb dX1_isDetermined_23 rfl (lv_at hl 1 rfl) ?_
  refine n_iald hx hb hK hP 2 0 rfl rfl (i := t) (by omega) (by decide) dX1_isDetermined_24 ?_
  refine lv_istore_n (lv' := [(2, .int (pv t)), (0, .ref a), (1, .int (nI t))]) hx hb dX1_isDetermined_25 rfl hl (by decide) rfl (fun ls hl => ?_)
  rcases hpv with hpv | ⟨k, hk, hpv⟩
  · refine lv_iload_n hx hb dX1_isDetermined_26 rfl (lv_at hl 0 rfl) ?_
    refine b_if_lt hx hb (congrArg Int32.toInt hpv) dX1_isDetermined_27 (tgt := 36) (by decide) (fun c27 => ?_) (fun c27 => absurd c27 (by decide))
    refine lv_iconst (v := nI 0) hx hb dX1_isDetermined_36 (by decide) ?_
    exact W.zret (v := nI 0) hx hb hr (by decide) (fun t ht hW => ⟨⟨nI 0, (), rfl, bI_f (fun q => by obtain ⟨-, k, hk, h, -⟩ := q; rw [hpv] at h; exact m1_ne (by omega) h), trivial⟩, hS.F ht⟩) hS.2.2 dX1_isDetermined_37
  rw [hpv] at hl
  refine lv_iload_n hx hb dX1_isDetermined_26 rfl (lv_at hl 0 rfl) ?_
  refine b_if_lt hx hb (nI_toIntI (by omega)) dX1_isDetermined_27 (tgt := 36) (by decide) (fun c27 => absurd c27 (by omega)) (fun c27 => ?_)
  refine lv_iload_n hx hb dX1_isDetermined_30 rfl (lv_at hl 0 rfl) ?_
  refine lv_bipush (v := nI 10) hx hb dX1_isDetermined_31 (by decide) ?_
  refine b_icmp_lt hx hb (nI_toIntI (by omega)) (nI_toIntI (by omega)) dX1_isDetermined_33 (tgt := 38) (by decide) (fun c33 => ?_) (fun c33 => absurd c33 (by omega))
  refine lv_iconst (v := nI 0) hx hb dX1_isDetermined_38 (by decide) ?_
  refine lv_istore_n (lv' := [(3, .int (nI 0)), (2, .int (nI k)), (0, .ref a), (1, .int (nI t))]) hx hb dX1_isDetermined_39 rfl hl (by decide) rfl (fun ls hl => ?_)
  have L40 : ∀ (n : Nat) (i : Nat) (ls : Array Slot), 10 - i < n → (i ≤ 10) → (∀ o, o < i → ¬ o = t → (M k o).toInt = 0) → lv_has ls 4 [(3, .int (nI i)), (2, .int (nI k)), (0, .ref a), (1, .int (nI t))] → W p l e ({ frames := 0, cells := 0, slots := 0, locals := 0 } : Room) s m [.ref a, .int (nI t)].toArray below meth c s.heap [] 0 0 (MQ below (va_Qi (fun (q : Int32) (_ : Unit) => q = bI (sv = nI 1 ∧ ∃ k, k < 10 ∧ pv t = nI k ∧ ∀ o, o < 10 → ¬ o = t → (M k o).toInt = 0)) (fun _ _ => True) (fun _ => False)) [.ref a, .int (nI t)].toArray s 0 0 (fun _ => False)) (F0 m 40 ls []) := by
    intro n
    induction n with
    | zero =>
      intro i ls hn
      exact absurd hn (Nat.not_lt_zero _)
    | succ n ih40 =>
      intro i ls hn hi hn0 hl
      refine lv_iload_n hx hb dX1_isDetermined_40 rfl (lv_at hl 0 rfl) ?_
      refine lv_bipush (v := nI 10) hx hb dX1_isDetermined_41 (by decide) ?_
      refine b_icmp_ge hx hb (nI_toIntI (by omega)) (nI_toIntI (by omega)) dX1_isDetermined_43 (tgt := 72) (by decide) (fun c43 => ?_) (fun c43 => ?_)
      · refine lv_iconst (v := nI 1) hx hb dX1_isDetermined_72 (by decide) ?_
        exact W.zret (v := nI 1) hx hb hr (by decide) (fun t ht hW => ⟨⟨nI 1, (), rfl, bI_t ⟨by rcases hsv with h | h; exact absurd (show sv.toInt = 0 by rw [h]; decide) c4; exact h, k, hk, hpv, fun o ho hne => hn0 o (by omega) hne⟩, trivial⟩, hS.F ht⟩) hS.2.2 dX1_isDetermined_73
      refine lv_iload_n hx hb dX1_isDetermined_46 rfl (lv_at hl 0 rfl) ?_
      refine lv_iload_n hx hb dX1_isDetermined_47 rfl (lv_at hl 3 rfl) ?_
      refine b_icmp_eq hx hb (nI_toIntI (by omega)) (nI_toIntI (by omega)) dX1_isDetermined_48 (tgt := 66) (by decide) (fun c48 => ?_) (fun c48 => ?_)
      · refine lv_iinc (v := nI (i + 1)) (lv' := [(3, .int (nI (i + 1))), (2, .int (nI k)), (0, .ref a), (1, .int (nI t))]) hx hb dX1_isDetermined_66 hl (k := 0) rfl (nI_add i 1) (by decide) rfl (fun ls hl => ?_)
        refine lv_goto (tgt := 40) hx hb dX1_isDetermined_69 (by decide) ?_
        have hn1 : ∀ o, o < i + 1 → ¬ o = t → (M k o).toInt = 0 := fun o ho hne => by
          by_cases q : o = i
          · subst q; first | exact absurd (by omega) hne | exact c60
          · exact hn0 o (by omega) hne
        exact ih40 (i + 1) _ (by omega) (by omega) hn1 (lv_sub hl [0, 1, 2, 3] rfl)
      refine lv_aload_n hx hb dX1_isDetermined_51 rfl (lv_at hl 2 rfl) ?_
      refine va_get (D := D) (ci := 1) (C := RX1) (T := TX1) (N := 4) hx hb hts iX1 hown hK hP 0 rfl rfl 0 (by decide) (hts _ k_f_X1_13) (fun _ h9 => h9) rfl dX1_isDetermined_52 ?_
      refine lv_iload_n hx hb dX1_isDetermined_55 rfl (lv_at hl 1 rfl) ?_
      refine n_aald hx hb hK hP 1 3 rfl rfl (i := k) (by omega) (by decide) (if_pos (by omega)) dX1_isDetermined_56 ?_
      refine lv_iload_n hx hb dX1_isDetermined_57 rfl (lv_at hl 0 rfl) ?_
      refine n_lald hx hb hK hP (4 + k) 1 (WE_at (by omega)) rfl (i := i) (by omega) (by decide) dX1_isDetermined_58 ?_
      refine lv_lconst (v := 0) hx hb dX1_isDetermined_59 (by decide) ?_
      refine b_lcmp_eq hx hb rfl (show (0 : Int64).toInt = 0 by decide) dX1_isDetermined_60 dX1_isDetermined_61 (tgt := 66) (by decide) (fun c60 => ?_) (fun c60 => ?_)
      · refine lv_iinc (v := nI (i + 1)) (lv' := [(3, .int (nI (i + 1))), (2, .int (nI k)), (0, .ref a), (1, .int (nI t))]) hx hb dX1_isDetermined_66 hl (k := 0) rfl (nI_add i 1) (by decide) rfl (fun ls hl => ?_)
        refine lv_goto (tgt := 40) hx hb dX1_isDetermined_69 (by decide) ?_
        have hn1 : ∀ o, o < i + 1 → ¬ o = t → (M k o).toInt = 0 := fun o ho hne => by
          by_cases q : o = i
          · subst q; first | exact absurd (by omega) hne | exact c60
          · exact hn0 o (by omega) hne
        exact ih40 (i + 1) _ (by omega) (by omega) hn1 (lv_sub hl [0, 1, 2, 3] rfl)
      refine lv_iconst (v := nI 0) hx hb dX1_isDetermined_64 (by decide) ?_
      exact W.zret (v := nI 0) hx hb hr (by decide) (fun t ht hW => ⟨⟨nI 0, (), rfl, bI_f (fun q => by obtain ⟨-, k2, hk2, h2, h3⟩ := q; rw [hpv] at h2; have e : k = k2 := (nI_eq (by omega) (by omega)).mp h2; subst e; exact c60 (h3 i (by omega) (fun z => c48 (by rw [z])))), trivial⟩, hS.F ht⟩) hS.2.2 dX1_isDetermined_65
  exact L40 _ 0 _ (Nat.lt_succ_self _) (by omega) (fun k hk => absurd hk (Nat.not_lt_zero _)) (lv_sub hl [0, 1, 2, 3] rfl)
end
section
/-! long numbers: no wrap-around within the bounds; Euclid -/
theorem bmL {z : Int} (h1 : -9223372036854775808 ≤ z) (h2 : z < 9223372036854775808) : z.bmod (2 ^ 64) = z := Int.bmod_eq_of_le (by omega) (by omega)
theorem L_mul {x y : Int64} (h1 : -9223372036854775808 ≤ x.toInt * y.toInt) (h2 : x.toInt * y.toInt < 9223372036854775808) : (x * y).toInt = x.toInt * y.toInt := by rw [Int64.toInt_mul, bmL h1 h2]
theorem L_sub {x y : Int64} (h1 : -9223372036854775808 ≤ x.toInt - y.toInt) (h2 : x.toInt - y.toInt < 9223372036854775808) : (x - y).toInt = x.toInt - y.toInt := by rw [Int64.toInt_sub, bmL h1 h2]
theorem L_add {x y : Int64} (h1 : -9223372036854775808 ≤ x.toInt + y.toInt) (h2 : x.toInt + y.toInt < 9223372036854775808) : (x + y).toInt = x.toInt + y.toInt := by rw [Int64.toInt_add, bmL h1 h2]
theorem L_neg {x : Int64} (h1 : -9223372036854775808 < x.toInt) : (-x).toInt = -x.toInt := by
  have := Int64.toInt_lt x
  rw [Int64.toInt_neg, bmL (by omega) (by omega)]
theorem L_ext {x y : Int64} (h : x.toInt = y.toInt) : x = y := Int64.toInt_inj.mp h
theorem L_pos {x : Int64} (h : 0 ≤ x.toInt) : x = lN x.toInt.natAbs := by
  have := Int64.toInt_lt x
  refine L_ext ?_
  rw [pk_lT (by omega)]
  omega
theorem L_negA {x : Int64} (h : x.toInt < 0) (h2 : -9223372036854775808 < x.toInt) : -x = lN x.toInt.natAbs := by
  refine L_ext ?_
  rw [L_neg h2, pk_lT (by omega)]
  omega
/-- n steps of Euclid reach the end -/
def euc : Nat → Nat → Nat → Prop
  | 0, _, y => y = 0
  | n + 1, x, y => y = 0 ∨ euc n y (x % y)
def fp : Nat → Nat × Nat
  | 0 => (1, 1)
  | n + 1 => ((fp n).2, (fp n).1 + (fp n).2)
theorem euc_fp : ∀ (n x y : Nat), y ≤ x → ¬ euc n x y → (fp n).1 ≤ y ∧ (fp n).2 ≤ x
  | 0, x, y, h, k => by
    have : ¬ y = 0 := k
    show 1 ≤ y ∧ 1 ≤ x
    omega
  | n + 1, x, y, h, k => by
    have k1 : ¬ y = 0 := fun q => k (Or.inl q)
    have k2 : ¬ euc n y (x % y) := fun q => k (Or.inr q)
    have hm : x % y < y := Nat.mod_lt _ (by omega)
    obtain ⟨i1, i2⟩ := euc_fp n y (x % y) (by omega) k2
    show (fp n).2 ≤ y ∧ (fp n).1 + (fp n).2 ≤ x
    refine ⟨i2, ?_⟩
    have h1 := Nat.mod_add_div x y
    have h2 : 1 ≤ x / y := (Nat.le_div_iff_mul_le (by omega)).mpr (by omega)
    have h3 : y * 1 ≤ y * (x / y) := Nat.mul_le_mul_left _ h2
    omega
theorem fp99 : 9223372036854775808 ≤ (fp 99).1 := by decide +kernel
theorem fp100 : 9223372036854775808 ≤ (fp 100).1 := by decide +kernel
theorem euc_100 {x y : Nat} (hx : x < 9223372036854775808) (hy : y < 9223372036854775808) : euc 100 x y := by
  rcases Nat.lt_or_ge x y with q | q
  · refine Or.inr (Classical.byContradiction fun k => ?_)
    rw [Nat.mod_eq_of_lt q] at k
    have := (euc_fp 99 y x (by omega) k).1
    have := fp99
    omega
  · refine Classical.byContradiction fun k => ?_
    have := (euc_fp 100 x y q k).1
    have := fp100
    omega
theorem gcd_step (x y : Nat) : Nat.gcd y (x % y) = Nat.gcd x y := by
  rw [Nat.gcd_comm x y, Nat.gcd_rec y x, Nat.gcd_comm]
theorem lN_toI {n : Nat} (h : n < 9223372036854775808) : (lN n).toInt = (n : Int) := pk_lT (by omega)
/-- a fraction in lowest terms, its denominator positive -/
def Lnum (c p : Int) : Int := if p < 0 then -(c / (Nat.gcd p.natAbs c.natAbs : Nat)) else c / (Nat.gcd p.natAbs c.natAbs : Nat)
def Lden (c p : Int) : Int := if p < 0 then -(p / (Nat.gcd p.natAbs c.natAbs : Nat)) else p / (Nat.gcd p.natAbs c.natAbs : Nat)
/-- the numbers of a matrix of longs -/
def tI (M : Nat → Nat → Int64) : Nat → Nat → Int := fun i j => if j < 11 then (M i j).toInt else 0
theorem tI_at {M : Nat → Nat → Int64} {i j : Nat} (h : j < 11) : tI M i j = (M i j).toInt := if_pos h
theorem tI_out {M : Nat → Nat → Int64} {i j : Nat} (h : ¬ j < 11) : tI M i j = 0 := if_neg h
theorem abs_mul_le {a b : Int} {u v : Nat} (ha : a.natAbs ≤ u) (hb : b.natAbs ≤ v) : -((u * v : Nat) : Int) ≤ a * b ∧ a * b ≤ ((u * v : Nat) : Int) := by
  have h1 : (a * b).natAbs ≤ u * v := by rw [Int.natAbs_mul]; exact Nat.mul_le_mul ha hb
  omega
/-- one number of an elimination, within the longs -/
theorem L_elim {a b c d : Int64} (ha : a.toInt.natAbs ≤ BB) (hb : b.toInt.natAbs ≤ BB) (hc : c.toInt.natAbs ≤ BB) (hd : d.toInt.natAbs ≤ BB) : (a * b - c * d).toInt = a.toInt * b.toInt - c.toInt * d.toInt ∧ (a * b - c * d).toInt.natAbs ≤ 2 * (BB * BB) := by
  have h1 := abs_mul_le ha hb
  have h2 := abs_mul_le hc hd
  have hB : BB * BB = 123363917824000000 := by decide
  rw [hB] at h1 h2 ⊢
  have e1 : (a * b).toInt = a.toInt * b.toInt := L_mul (by omega) (by omega)
  have e2 : (c * d).toInt = c.toInt * d.toInt := L_mul (by omega) (by omega)
  have e3 : (a * b - c * d).toInt = a.toInt * b.toInt - c.toInt * d.toInt := by rw [L_sub (by omega) (by omega), e1, e2]
  exact ⟨e3, by omega⟩
end
section
set_option maxHeartbeats 4000000 in
set_option maxRecDepth 100000 in
theorem c_X1_commonFactor (l : Launch) (x y : Int64) (hx0 : -9223372036854775808 < x.toInt) (hy0 : -9223372036854775808 < y.toInt) : Met l yX1_commonFactor (.code yX1_commonFactor cX1_commonFactor 11 (some .long) :: TB) ({ frames := 0, cells := 0, slots := 0, locals := 0 } : Room) (va_Pc [.long x, .long y] (fun _ => True)) (va_Ql (fun (q : Int64) (_ : Unit) => q = lN (Nat.gcd x.toInt.natAbs y.toInt.natAbs)) (fun _ _ => True) (fun _ => False)) 0 0 (fun _ => False) := by
  refine Met.ofW (cc := cX1_commonFactor) (maxL := 11) (ret := (some .long)) (by decide) rfl ?_
  intro p e s m args below meth c s₁ B hml hv
  obtain ⟨rfl, -⟩ := hv
  have hx := B.exec
  have hb := B.bytes
  have hr := B.returns
  have hts := hts_tl (atoms_spec (ws := (.code yX1_commonFactor cX1_commonFactor 11 (some .long) :: TB)) B.pre)
  have hown : s.vm.findClass RX1 = some m.cls := findClass_of_methodNamed B.named
  have hlocks := B.notSynchronized
  have hA : ∀ q : Nat, q < s.heap.size → (fun _ : Nat => False) q → False := fun _ _ h => h
  have hS : va_S (fun _ => False) s.heap s.heap [] := va_S.rf
  have hl := lv_entry ([.long x, .long y]) (n := 11) (Nat.le_of_ble_eq_true rfl)
  rw [lg_entry_eq]
  generalize (lg_sl ([.long x, .long y]) ++ List.replicate (11 - (lg_sl ([.long x, .long y])).length) Slot.unset).toArray = ls at hl ⊢
  have hl : lv_has ls 11 [(0, .long x), (2, .long y)] := hl
  have hxb : x.toInt.natAbs < 9223372036854775808 := by have := Int64.toInt_lt x; omega
  have hyb : y.toInt.natAbs < 9223372036854775808 := by have := Int64.toInt_lt y; omega
  refine lv_lload_n hx hb dX1_commonFactor_0 rfl (lv_at hl 0 rfl) ?_
  refine lv_lconst (v := 0) hx hb dX1_commonFactor_1 (by decide) ?_
  refine b_lcmp_ge hx hb rfl (show (0 : Int64).toInt = 0 by decide) dX1_commonFactor_2 dX1_commonFactor_3 (tgt := 11) (by decide) (fun c2 => ?_) (fun c2 => ?_)
  · refine lv_lload_n hx hb dX1_commonFactor_11 rfl (lv_at hl 0 rfl) ?_
    refine t_l (L_pos c2) ?_
    refine lv_lstore (lv' := [(4, .long (lN x.toInt.natAbs)), (0, .long x), (2, .long y)]) hx hb dX1_commonFactor_12 hl (by decide) rfl (fun ls hl => ?_)
    refine lv_lload_n hx hb dX1_commonFactor_14 rfl (lv_at hl 2 rfl) ?_
    refine lv_lconst (v := 0) hx hb dX1_commonFactor_15 (by decide) ?_
    refine b_lcmp_ge hx hb rfl (show (0 : Int64).toInt = 0 by decide) dX1_commonFactor_16 dX1_commonFactor_17 (tgt := 25) (by decide) (fun c16 => ?_) (fun c16 => ?_)
    · refine lv_lload_n hx hb dX1_commonFactor_25 rfl (lv_at hl 2 rfl) ?_
      refine t_l (L_pos c16) ?_
      refine lv_lstore (lv' := [(6, .long (lN y.toInt.natAbs)), (4, .long (lN x.toInt.natAbs)), (0, .long x), (2, .long y)]) hx hb dX1_commonFactor_26 hl (by decide) rfl (fun ls hl => ?_)
      refine lv_iconst (v := nI 0) hx hb dX1_commonFactor_28 (by decide) ?_
      refine lv_istore (lv' := [(8, .int (nI 0)), (6, .long (lN y.toInt.natAbs)), (4, .long (lN x.toInt.natAbs)), (0, .long x), (2, .long y)]) hx hb dX1_commonFactor_29 hl (by decide) rfl (fun ls hl => ?_)
      have L31 : ∀ (n : Nat) (i : Nat) (X : Nat) (Y : Nat) (ls : Array Slot), 100 - i < n → (i ≤ 100) → (X < 9223372036854775808) → (Y < 9223372036854775808) → (Nat.gcd X Y = Nat.gcd x.toInt.natAbs y.toInt.natAbs) → (euc (100 - i) X Y) → lv_has ls 11 [(8, .int (nI i)), (6, .long (lN Y)), (4, .long (lN X))] → W p l e ({ frames := 0, cells := 0, slots := 0, locals := 0 } : Room) s m [.long x, .long y].toArray below meth c s.heap [] 0 0 (MQ below (va_Ql (fun (q : Int64) (_ : Unit) => q = lN (Nat.gcd x.toInt.natAbs y.toInt.natAbs)) (fun _ _ => True) (fun _ => False)) [.long x, .long y].toArray s 0 0 (fun _ => False)) (F0 m 31 ls []) := by
        intro n
        induction n with
        | zero =>
          intro i X Y ls hn
          exact absurd hn (Nat.not_lt_zero _)
        | succ n ih31 =>
          intro i X Y ls hn hi hX hY hg he hl
          refine lv_iload hx hb dX1_commonFactor_31 (lv_at hl 0 rfl) ?_
          refine lv_bipush (v := nI 100) hx hb dX1_commonFactor_33 (by decide) ?_
          refine b_icmp_ge hx hb (nI_toIntI (by omega)) (nI_toIntI (by omega)) dX1_commonFactor_35 (tgt := 66) (by decide) (fun c35 => ?_) (fun c35 => ?_)
          · refine lv_lload hx hb dX1_commonFactor_66 (lv_at hl 2 rfl) ?_
            have hY0 : Y = 0 := by
              first
              | (have c41 : (lN Y).toInt = 0 := c41; rw [lN_toI hY] at c41; omega)
              | (have q0 : 100 - i = 0 := (by omega); rw [q0] at he; exact he)
            exact W.lret (v := lN X) hx hb hr (fun t ht hW => ⟨⟨lN X, (), rfl, by rw [← hg, hY0]; exact congrArg lN (Nat.gcd_zero_right X).symm, trivial⟩, hS.F ht⟩) hS.2.2 dX1_commonFactor_68
          refine lv_lload hx hb dX1_commonFactor_38 (lv_at hl 1 rfl) ?_
          refine lv_lconst (v := 0) hx hb dX1_commonFactor_40 (by decide) ?_
          refine b_lcmp_eq hx hb rfl (show (0 : Int64).toInt = 0 by decide) dX1_commonFactor_41 dX1_commonFactor_42 (tgt := 66) (by decide) (fun c41 => ?_) (fun c41 => ?_)
          · refine lv_lload hx hb dX1_commonFactor_66 (lv_at hl 2 rfl) ?_
            have hY0 : Y = 0 := by
              first
              | (have c41 : (lN Y).toInt = 0 := c41; rw [lN_toI hY] at c41; omega)
              | (have q0 : 100 - i = 0 := (by omega); rw [q0] at he; exact he)
            exact W.lret (v := lN X) hx hb hr (fun t ht hW => ⟨⟨lN X, (), rfl, by rw [← hg, hY0]; exact congrArg lN (Nat.gcd_zero_right X).symm, trivial⟩, hS.F ht⟩) hS.2.2 dX1_commonFactor_68
          refine lv_lload hx hb dX1_commonFactor_45 (lv_at hl 2 rfl) ?_
          refine lv_lload hx hb dX1_commonFactor_47 (lv_at hl 1 rfl) ?_
          refine lv_lrem hx hb dX1_commonFactor_49 (fun q => c41 (by rw [q]; decide)) ?_
          have hYp : 0 < Y := by
            rcases Nat.eq_zero_or_pos Y with q | q
            · exact absurd (by rw [q]; decide) c41
            · exact q
          refine t_l (pk_lRem hX hYp hY) ?_
          refine lv_lstore (lv' := [(9, .long (lN (X % Y))), (8, .int (nI i)), (6, .long (lN Y)), (4, .long (lN X))]) hx hb dX1_commonFactor_50 hl (by decide) rfl (fun ls hl => ?_)
          refine lv_lload hx hb dX1_commonFactor_52 (lv_at hl 2 rfl) ?_
          refine lv_lstore (lv' := [(4, .long (lN Y)), (9, .long (lN (X % Y))), (8, .int (nI i)), (6, .long (lN Y))]) hx hb dX1_commonFactor_54 hl (by decide) rfl (fun ls hl => ?_)
          refine lv_lload hx hb dX1_commonFactor_56 (lv_at hl 1 rfl) ?_
          refine lv_lstore (lv' := [(6, .long (lN (X % Y))), (4, .long (lN Y)), (9, .long (lN (X % Y))), (8, .int (nI i))]) hx hb dX1_commonFactor_58 hl (by decide) rfl (fun ls hl => ?_)
          refine lv_iinc (v := nI (i + 1)) (lv' := [(8, .int (nI (i + 1))), (6, .long (lN (X % Y))), (4, .long (lN Y)), (9, .long (lN (X % Y)))]) hx hb dX1_commonFactor_60 hl (k := 3) rfl (nI_add i 1) (by decide) rfl (fun ls hl => ?_)
          refine lv_goto (tgt := 31) hx hb dX1_commonFactor_63 (by decide) ?_
          have he2 : euc (100 - (i + 1)) Y (X % Y) := by
            have e1 : 100 - i = (100 - (i + 1)) + 1 := by omega
            rw [e1] at he
            rcases he with q | q
            · omega
            · exact q
          have hm := Nat.mod_lt X hYp
          exact ih31 (i + 1) Y (X % Y) _ (by omega) (by omega) hY (by omega) ((gcd_step X Y).trans hg) he2 (lv_sub hl [0, 1, 2] rfl)
      exact L31 _ 0 x.toInt.natAbs y.toInt.natAbs _ (Nat.lt_succ_self _) (by omega) hxb hyb rfl (euc_100 hxb hyb) (lv_sub hl [0, 1, 2] rfl)
    refine lv_lload_n hx hb dX1_commonFactor_20 rfl (lv_at hl 2 rfl) ?_
    refine lv_lneg hx hb dX1_commonFactor_21 ?_
    refine lv_goto (tgt := 26) hx hb dX1_commonFactor_22 (by decide) ?_
    refine t_l (L_negA c16 hy0) ?_
    refine lv_lstore (lv' := [(6, .long (lN y.toInt.natAbs)), (4, .long (lN x.toInt.natAbs)), (0, .long x), (2, .long y)]) hx hb dX1_commonFactor_26 hl (by decide) rfl (fun ls hl => ?_)
    refine lv_iconst (v := nI 0) hx hb dX1_commonFactor_28 (by decide) ?_
    refine lv_istore (lv' := [(8, .int (nI 0)), (6, .long (lN y.toInt.natAbs)), (4, .long (lN x.toInt.natAbs)), (0, .long x), (2, .long y)]) hx hb dX1_commonFactor_29 hl (by decide) rfl (fun ls hl => ?_)
    have L31 : ∀ (n : Nat) (i : Nat) (X : Nat) (Y : Nat) (ls : Array Slot), 100 - i < n → (i ≤ 100) → (X < 9223372036854775808) → (Y < 9223372036854775808) → (Nat.gcd X Y = Nat.gcd x.toInt.natAbs y.toInt.natAbs) → (euc (100 - i) X Y) → lv_has ls 11 [(8, .int (nI i)), (6, .long (lN Y)), (4, .long (lN X))] → W p l e ({ frames := 0, cells := 0, slots := 0, locals := 0 } : Room) s m [.long x, .long y].toArray below meth c s.heap [] 0 0 (MQ below (va_Ql (fun (q : Int64) (_ : Unit) => q = lN (Nat.gcd x.toInt.natAbs y.toInt.natAbs)) (fun _ _ => True) (fun _ => False)) [.long x, .long y].toArray s 0 0 (fun _ => False)) (F0 m 31 ls []) := by
      intro n
      induction n with
      | zero =>
        intro i X Y ls hn
        exact absurd hn (Nat.not_lt_zero _)
      | succ n ih31 =>
        intro i X Y ls hn hi hX hY hg he hl
        refine lv_iload hx hb dX1_commonFactor_31 (lv_at hl 0 rfl) ?_
        refine lv_bipush (v := nI 100) hx hb dX1_commonFactor_33 (by decide) ?_
        refine b_icmp_ge hx hb (nI_toIntI (by omega)) (nI_toIntI (by omega)) dX1_commonFactor_35 (tgt := 66) (by decide) (fun c35 => ?_) (fun c35 => ?_)
        · refine lv_lload hx hb dX1_commonFactor_66 (lv_at hl 2 rfl) ?_
          have hY0 : Y = 0 := by
            first
            | (have c41 : (lN Y).toInt = 0 := c41; rw [lN_toI hY] at c41; omega)
            | (have q0 : 100 - i = 0 := (by omega); rw [q0] at he; exact he)
          exact W.lret (v := lN X) hx hb hr (fun t ht hW => ⟨⟨lN X, (), rfl, by rw [← hg, hY0]; exact congrArg lN (Nat.gcd_zero_right X).symm, trivial⟩, hS.F ht⟩) hS.2.2 dX1_commonFactor_68
        refine lv_lload hx hb dX1_commonFactor_38 (lv_at hl 1 rfl) ?_
        refine lv_lconst (v := 0) hx hb dX1_commonFactor_40 (by decide) ?_
        refine b_lcmp_eq hx hb rfl (show (0 : Int64).toInt = 0 by decide) dX1_commonFactor_41 dX1_commonFactor_42 (tgt := 66) (by decide) (fun c41 => ?_) (fun c41 => ?_)
        · refine lv_lload hx hb dX1_commonFactor_66 (lv_at hl 2 rfl) ?_
          have hY0 : Y = 0 := by
            first
            | (have c41 : (lN Y).toInt = 0 := c41; rw [lN_toI hY] at c41; omega)
            | (have q0 : 100 - i = 0 := (by omega); rw [q0] at he; exact he)
          exact W.lret (v := lN X) hx hb hr (fun t ht hW => ⟨⟨lN X, (), rfl, by rw [← hg, hY0]; exact congrArg lN (Nat.gcd_zero_right X).symm, trivial⟩, hS.F ht⟩) hS.2.2 dX1_commonFactor_68
        refine lv_lload hx hb dX1_commonFactor_45 (lv_at hl 2 rfl) ?_
        refine lv_lload hx hb dX1_commonFactor_47 (lv_at hl 1 rfl) ?_
        refine lv_lrem hx hb dX1_commonFactor_49 (fun q => c41 (by rw [q]; decide)) ?_
        have hYp : 0 < Y := by
          rcases Nat.eq_zero_or_pos Y with q | q
          · exact absurd (by rw [q]; decide) c41
          · exact q
        refine t_l (pk_lRem hX hYp hY) ?_
        refine lv_lstore (lv' := [(9, .long (lN (X % Y))), (8, .int (nI i)), (6, .long (lN Y)), (4, .long (lN X))]) hx hb dX1_commonFactor_50 hl (by decide) rfl (fun ls hl => ?_)
        refine lv_lload hx hb dX1_commonFactor_52 (lv_at hl 2 rfl) ?_
        refine lv_lstore (lv' := [(4, .long (lN Y)), (9, .long (lN (X % Y))), (8, .int (nI i)), (6, .long (lN Y))]) hx hb dX1_commonFactor_54 hl (by decide) rfl (fun ls hl => ?_)
        refine lv_lload hx hb dX1_commonFactor_56 (lv_at hl 1 rfl) ?_
        refine lv_lstore (lv' := [(6, .long (lN (X % Y))), (4, .long (lN Y)), (9, .long (lN (X % Y))), (8, .int (nI i))]) hx hb dX1_commonFactor_58 hl (by decide) rfl (fun ls hl => ?_)
        refine lv_iinc (v := nI (i + 1)) (lv' := [(8, .int (nI (i + 1))), (6, .long (lN (X % Y))), (4, .long (lN Y)), (9, .long (lN (X % Y)))]) hx hb dX1_commonFactor_60 hl (k := 3) rfl (nI_add i 1) (by decide) rfl (fun ls hl => ?_)
        refine lv_goto (tgt := 31) hx hb dX1_commonFactor_63 (by decide) ?_
        have he2 : euc (100 - (i + 1)) Y (X % Y) := by
          have e1 : 100 - i = (100 - (i + 1)) + 1 := by omega
          rw [e1] at he
          rcases he with q | q
          · omega
          · exact q
        have hm := Nat.mod_lt X hYp
        exact ih31 (i + 1) Y (X % Y) _ (by omega) (by omega) hY (by omega) ((gcd_step X Y).trans hg) he2 (lv_sub hl [0, 1, 2] rfl)
    exact L31 _ 0 x.toInt.natAbs y.toInt.natAbs _ (Nat.lt_succ_self _) (by omega) hxb hyb rfl (euc_100 hxb hyb) (lv_sub hl [0, 1, 2] rfl)
  refine lv_lload_n hx hb dX1_commonFactor_6 rfl (lv_at hl 0 rfl) ?_
  refine lv_lneg hx hb dX1_commonFactor_7 ?_
  refine lv_goto (tgt := 12) hx hb dX1_commonFactor_8 (by decide) ?_
  refine t_l (L_negA c2 hx0) ?_
  refine lv_lstore (lv' := [(4, .long (lN x.toInt.natAbs)), (0, .long x), (2, .long y)]) hx hb dX1_commonFactor_12 hl (by decide) rfl (fun ls hl => ?_)
  refine lv_lload_n hx hb dX1_commonFactor_14 rfl (lv_at hl 2 rfl) ?_
  refine lv_lconst (v := 0) hx hb dX1_commonFactor_15 (by decide) ?_
  refine b_lcmp_ge hx hb rfl (show (0 : Int64).toInt = 0 by decide) dX1_commonFactor_16 dX1_commonFactor_17 (tgt := 25) (by decide) (fun c16 => ?_) (fun c16 => ?_)
  · refine lv_lload_n hx hb dX1_commonFactor_25 rfl (lv_at hl 2 rfl) ?_
    refine t_l (L_pos c16) ?_
    refine lv_lstore (lv' := [(6, .long (lN y.toInt.natAbs)), (4, .long (lN x.toInt.natAbs)), (0, .long x), (2, .long y)]) hx hb dX1_commonFactor_26 hl (by decide) rfl (fun ls hl => ?_)
    refine lv_iconst (v := nI 0) hx hb dX1_commonFactor_28 (by decide) ?_
    refine lv_istore (lv' := [(8, .int (nI 0)), (6, .long (lN y.toInt.natAbs)), (4, .long (lN x.toInt.natAbs)), (0, .long x), (2, .long y)]) hx hb dX1_commonFactor_29 hl (by decide) rfl (fun ls hl => ?_)
    have L31 : ∀ (n : Nat) (i : Nat) (X : Nat) (Y : Nat) (ls : Array Slot), 100 - i < n → (i ≤ 100) → (X < 9223372036854775808) → (Y < 9223372036854775808) → (Nat.gcd X Y = Nat.gcd x.toInt.natAbs y.toInt.natAbs) → (euc (100 - i) X Y) → lv_has ls 11 [(8, .int (nI i)), (6, .long (lN Y)), (4, .long (lN X))] → W p l e ({ frames := 0, cells := 0, slots := 0, locals := 0 } : Room) s m [.long x, .long y].toArray below meth c s.heap [] 0 0 (MQ below (va_Ql (fun (q : Int64) (_ : Unit) => q = lN (Nat.gcd x.toInt.natAbs y.toInt.natAbs)) (fun _ _ => True) (fun _ => False)) [.long x, .long y].toArray s 0 0 (fun _ => False)) (F0 m 31 ls []) := by
      intro n
      induction n with
      | zero =>
        intro i X Y ls hn
        exact absurd hn (Nat.not_lt_zero _)
      | succ n ih31 =>
        intro i X Y ls hn hi hX hY hg he hl
        refine lv_iload hx hb dX1_commonFactor_31 (lv_at hl 0 rfl) ?_
        refine lv_bipush (v := nI 100) hx hb dX1_commonFactor_33 (by decide) ?_
        refine b_icmp_ge hx hb (nI_toIntI (by omega)) (nI_toIntI (by omega)) dX1_commonFactor_35 (tgt := 66) (by decide) (fun c35 => ?_) (fun c35 => ?_)
        · refine lv_lload hx hb dX1_commonFactor_66 (lv_at hl 2 rfl) ?_
          have hY0 : Y = 0 := by
            first
            | (have c41 : (lN Y).toInt = 0 := c41; rw [lN_toI hY] at c41; omega)
            | (have q0 : 100 - i = 0 := (by omega); rw [q0] at he; exact he)
          exact W.lret (v := lN X) hx hb hr (fun t ht hW => ⟨⟨lN X, (), rfl, by rw [← hg, hY0]; exact congrArg lN (Nat.gcd_zero_right X).symm, trivial⟩, hS.F ht⟩) hS.2.2 dX1_commonFactor_68
        refine lv_lload hx hb dX1_commonFactor_38 (lv_at hl 1 rfl) ?_
        refine lv_lconst (v := 0) hx hb dX1_commonFactor_40 (by decide) ?_
        refine b_lcmp_eq hx hb rfl (show (0 : Int64).toInt = 0 by decide) dX1_commonFactor_41 dX1_commonFactor_42 (tgt := 66) (by decide) (fun c41 => ?_) (fun c41 => ?_)
        · refine lv_lload hx hb dX1_commonFactor_66 (lv_at hl 2 rfl) ?_
          have hY0 : Y = 0 := by
            first
            | (have c41 : (lN Y).toInt = 0 := c41; rw [lN_toI hY] at c41; omega)
            | (have q0 : 100 - i = 0 := (by omega); rw [q0] at he; exact he)
          exact W.lret (v := lN X) hx hb hr (fun t ht hW => ⟨⟨lN X, (), rfl, by rw [← hg, hY0]; exact congrArg lN (Nat.gcd_zero_right X).symm, trivial⟩, hS.F ht⟩) hS.2.2 dX1_commonFactor_68
        refine lv_lload hx hb dX1_commonFactor_45 (lv_at hl 2 rfl) ?_
        refine lv_lload hx hb dX1_commonFactor_47 (lv_at hl 1 rfl) ?_
        refine lv_lrem hx hb dX1_commonFactor_49 (fun q => c41 (by rw [q]; decide)) ?_
        have hYp : 0 < Y := by
          rcases Nat.eq_zero_or_pos Y with q | q
          · exact absurd (by rw [q]; decide) c41
          · exact q
        refine t_l (pk_lRem hX hYp hY) ?_
        refine lv_lstore (lv' := [(9, .long (lN (X % Y))), (8, .int (nI i)), (6, .long (lN Y)), (4, .long (lN X))]) hx hb dX1_commonFactor_50 hl (by decide) rfl (fun ls hl => ?_)
        refine lv_lload hx hb dX1_commonFactor_52 (lv_at hl 2 rfl) ?_
        refine lv_lstore (lv' := [(4, .long (lN Y)), (9, .long (lN (X % Y))), (8, .int (nI i)), (6, .long (lN Y))]) hx hb dX1_commonFactor_54 hl (by decide) rfl (fun ls hl => ?_)
        refine lv_lload hx hb dX1_commonFactor_56 (lv_at hl 1 rfl) ?_
        refine lv_lstore (lv' := [(6, .long (lN (X % Y))), (4, .long (lN Y)), (9, .long (lN (X % Y))), (8, .int (nI i))]) hx hb dX1_commonFactor_58 hl (by decide) rfl (fun ls hl => ?_)
        refine lv_iinc (v := nI (i + 1)) (lv' := [(8, .int (nI (i + 1))), (6, .long (lN (X % Y))), (4, .long (lN Y)), (9, .long (lN (X % Y)))]) hx hb dX1_commonFactor_60 hl (k := 3) rfl (nI_add i 1) (by decide) rfl (fun ls hl => ?_)
        refine lv_goto (tgt := 31) hx hb dX1_commonFactor_63 (by decide) ?_
        have he2 : euc (100 - (i + 1)) Y (X % Y) := by
          have e1 : 100 - i = (100 - (i + 1)) + 1 := by omega
          rw [e1] at he
          rcases he with q | q
          · omega
          · exact q
        have hm := Nat.mod_lt X hYp
        exact ih31 (i + 1) Y (X % Y) _ (by omega) (by omega) hY (by omega) ((gcd_step X Y).trans hg) he2 (lv_sub hl [0, 1, 2] rfl)
    exact L31 _ 0 x.toInt.natAbs y.toInt.natAbs _ (Nat.lt_succ_self _) (by omega) hxb hyb rfl (euc_100 hxb hyb) (lv_sub hl [0, 1, 2] rfl)
  refine lv_lload_n hx hb dX1_commonFactor_20 rfl (lv_at hl 2 rfl) ?_
  refine lv_lneg hx hb dX1_commonFactor_21 ?_
  refine lv_goto (tgt := 26) hx hb dX1_commonFactor_22 (by decide) ?_
  refine t_l (L_negA c16 hy0) ?_
  refine lv_lstore (lv' := [(6, .long (lN y.toInt.natAbs)), (4, .long (lN x.toInt.natAbs)), (0, .long x), (2, .long y)]) hx hb dX1_commonFactor_26 hl (by decide) rfl (fun ls hl => ?_)
  refine lv_iconst (v := nI 0) hx hb dX1_commonFactor_28 (by decide) ?_
  refine lv_istore (lv' := [(8, .int (nI 0)), (6, .long (lN y.toInt.natAbs)), (4, .long (lN x.toInt.natAbs)), (0, .long x), (2, .long y)]) hx hb dX1_commonFactor_29 hl (by decide) rfl (fun ls hl => ?_)
  have L31 : ∀ (n : Nat) (i : Nat) (X : Nat) (Y : Nat) (ls : Array Slot), 100 - i < n → (i ≤ 100) → (X < 9223372036854775808) → (Y < 9223372036854775808) → (Nat.gcd X Y = Nat.gcd x.toInt.natAbs y.toInt.natAbs) → (euc (100 - i) X Y) → lv_has ls 11 [(8, .int (nI i)), (6, .long (lN Y)), (4, .long (lN X))] → W p l e ({ frames := 0, cells := 0, slots := 0, locals := 0 } : Room) s m [.long x, .long y].toArray below meth c s.heap [] 0 0 (MQ below (va_Ql (fun (q : Int64) (_ : Unit) => q = lN (Nat.gcd x.toInt.natAbs y.toInt.natAbs)) (fun _ _ => True) (fun _ => False)) [.long x, .long y].toArray s 0 0 (fun _ => False)) (F0 m 31 ls []) := by
    intro n
    induction n with
    | zero =>
      intro i X Y ls hn
      exact absurd hn (Nat.not_lt_zero _)
    | succ n ih31 =>
      intro i X Y ls hn hi hX hY hg he hl
      refine lv_iload hx hb dX1_commonFactor_31 (lv_at hl 0 rfl) ?_
      refine lv_bipush (v := nI 100) hx hb dX1_commonFactor_33 (by decide) ?_
      refine b_icmp_ge hx hb (nI_toIntI (by omega)) (nI_toIntI (by omega)) dX1_commonFactor_35 (tgt := 66) (by decide) (fun c35 => ?_) (fun c35 => ?_)
      · refine lv_lload hx hb dX1_commonFactor_66 (lv_at hl 2 rfl) ?_
        have hY0 : Y = 0 := by
          first
          | (have c41 : (lN Y).toInt = 0 := c41; rw [lN_toI hY] at c41; omega)
          | (have q0 : 100 - i = 0 := (by omega); rw [q0] at he; exact he)
        exact W.lret (v := lN X) hx hb hr (fun t ht hW => ⟨⟨lN X, (), rfl, by rw [← hg, hY0]; exact congrArg lN (Nat.gcd_zero_right X).symm, trivial⟩, hS.F ht⟩) hS.2.2 dX1_commonFactor_68
      refine lv_lload hx hb dX1_commonFactor_38 (lv_at hl 1 rfl) ?_
      refine lv_lconst (v := 0) hx hb dX1_commonFactor_40 (by decide) ?_
      refine b_lcmp_eq hx hb rfl (show (0 : Int64).toInt = 0 by decide) dX1_commonFactor_41 dX1_commonFactor_42 (tgt := 66) (by decide) (fun c41 => ?_) (fun c41 => ?_)
      · refine lv_lload hx hb dX1_commonFactor_66 (lv_at hl 2 rfl) ?_
        have hY0 : Y = 0 := by
          first
          | (have c41 : (lN Y).toInt = 0 := c41; rw [lN_toI hY] at c41; omega)
          | (have q0 : 100 - i = 0 := (by omega); rw [q0] at he; exact he)
        exact W.lret (v := lN X) hx hb hr (fun t ht hW => ⟨⟨lN X, (), rfl, by rw [← hg, hY0]; exact congrArg lN (Nat.gcd_zero_right X).symm, trivial⟩, hS.F ht⟩) hS.2.2 dX1_commonFactor_68
      refine lv_lload hx hb dX1_commonFactor_45 (lv_at hl 2 rfl) ?_
      refine lv_lload hx hb dX1_commonFactor_47 (lv_at hl 1 rfl) ?_
      refine lv_lrem hx hb dX1_commonFactor_49 (fun q => c41 (by rw [q]; decide)) ?_
      have hYp : 0 < Y := by
        rcases Nat.eq_zero_or_pos Y with q | q
        · exact absurd (by rw [q]; decide) c41
        · exact q
      refine t_l (pk_lRem hX hYp hY) ?_
      refine lv_lstore (lv' := [(9, .long (lN (X % Y))), (8, .int (nI i)), (6, .long (lN Y)), (4, .long (lN X))]) hx hb dX1_commonFactor_50 hl (by decide) rfl (fun ls hl => ?_)
      refine lv_lload hx hb dX1_commonFactor_52 (lv_at hl 2 rfl) ?_
      refine lv_lstore (lv' := [(4, .long (lN Y)), (9, .long (lN (X % Y))), (8, .int (nI i)), (6, .long (lN Y))]) hx hb dX1_commonFactor_54 hl (by decide) rfl (fun ls hl => ?_)
      refine lv_lload hx hb dX1_commonFactor_56 (lv_at hl 1 rfl) ?_
      refine lv_lstore (lv' := [(6, .long (lN (X % Y))), (4, .long (lN Y)), (9, .long (lN (X % Y))), (8, .int (nI i))]) hx hb dX1_commonFactor_58 hl (by decide) rfl (fun ls hl => ?_)
      refine lv_iinc (v := nI (i + 1)) (lv' := [(8, .int (nI (i + 1))), (6, .long (lN (X % Y))), (4, .long (lN Y)), (9, .long (lN (X % Y)))]) hx hb dX1_commonFactor_60 hl (k := 3) rfl (nI_add i 1) (by decide) rfl (fun ls hl => ?_)
      refine lv_goto (tgt := 31) hx hb dX1_commonFactor_63 (by decide) ?_
      have he2 : euc (100 - (i + 1)) Y (X % Y) := by
        have e1 : 100 - i = (100 - (i + 1)) + 1 := by omega
        rw [e1] at he
        rcases he with q | q
        · omega
        · exact q
      have hm := Nat.mod_lt X hYp
      exact ih31 (i + 1) Y (X % Y) _ (by omega) (by omega) hY (by omega) ((gcd_step X Y).trans hg) he2 (lv_sub hl [0, 1, 2] rfl)
  exact L31 _ 0 x.toInt.natAbs y.toInt.natAbs _ (Nat.lt_succ_self _) (by omega) hxb hyb rfl (euc_100 hxb hyb) (lv_sub hl [0, 1, 2] rfl)
end
