/-! the throws of the class -/
def exN : List String := ["java/lang/RuntimeException", "java/lang/Exception"]
def xStr : List (Nat × String) := [(56, "a shaft is not 0 to 5"), (63, "two of the shafts are the same"), (66, "the number of teeth of the sun is out of range"), (68, "the number of teeth of the ring is out of range"), (76, "there are 3 gear sets"), (86, "the shaft is not 0 to 5"), (91, "there are 6 elements"), (97, "both shafts are the same"), (102, "there is no such element"), (104, "the capacity is out of range"), (114, "what is not 0 to 2"), (132, "the mask is negative or has an element too many"), (161, "part is neither 0 nor 1"), (166, "the gearbox is blocked or the speed not determined"), (172, "the gearbox is not driving"), (186, "the torque is not determined"), (191, "the element is not engaged"), (197, "the input torque is out of range"), (210, "there is no such gear"), (220, "one of both gears does not exist"), (226, "one of the gears does not exist"), (237, "the slot does not exist"), (250, "nothing was saved in the slot")]
def isDC (w : Cond) : Bool := match w with
  | .declares _ => true
  | .castable _ _ => true
  | _ => false
def exL54 : List Cond := vx_atS RX6 58 "java/lang/IndexOutOfBoundsException" exN
theorem exL54_in : ∀ w ∈ exL54, w ∈ lw_tbl := by decide +kernel
def xB54 : List Cond := exL54.filter (fun w => !goodWord w)
theorem xB54_dc : xB54.all isDC = true := by decide +kernel
theorem exL54_ot : (Cond.classLink RX6 54 "java/lang/IndexOutOfBoundsException" :: Cond.initialized "java/lang/IndexOutOfBoundsException" :: exL54).all vx_ot = true := by decide +kernel
def exL61 : List Cond := vx_atS RX6 65 "java/lang/IllegalArgumentException" exN
theorem exL61_in : ∀ w ∈ exL61, w ∈ lw_tbl := by decide +kernel
def xB61 : List Cond := exL61.filter (fun w => !goodWord w)
theorem xB61_dc : xB61.all isDC = true := by decide +kernel
theorem exL61_ot : (Cond.classLink RX6 61 "java/lang/IllegalArgumentException" :: Cond.initialized "java/lang/IllegalArgumentException" :: exL61).all vx_ot = true := by decide +kernel
def exL74 : List Cond := vx_atS RX6 78 "java/lang/IllegalStateException" exN
theorem exL74_in : ∀ w ∈ exL74, w ∈ lw_tbl := by decide +kernel
def xB74 : List Cond := exL74.filter (fun w => !goodWord w)
theorem xB74_dc : xB74.all isDC = true := by decide +kernel
theorem exL74_ot : (Cond.classLink RX6 74 "java/lang/IllegalStateException" :: Cond.initialized "java/lang/IllegalStateException" :: exL74).all vx_ot = true := by decide +kernel
theorem dc_warm {w : Cond} (h : isDC w = true) {s U : State} (hW : s.WarmedH U.vm) (hZ : va_Nw w s) : va_Nw w U := by
  cases w <;> first | exact va_Nw.warmD hW hZ | exact va_Nw.warmC hW hZ | exact absurd h Bool.false_ne_true
theorem dc_use {w : Cond} (h : isDC w = true) {A : Array Value} {U : State} (hZ : va_Nw w U) : w.before A U = true := by
  cases w <;> first | exact va_Nw.use rfl hZ | exact absurd h Bool.false_ne_true
theorem dc_same {w : Cond} (h : isDC w = true) {u U : State} (e : u.vm = U.vm) (hZ : va_Nw w u) : va_Nw w U := by
  cases w <;> first | exact va_Nw.same rfl e hZ | exact absurd h Bool.false_ne_true
/-- what a throw needs of the tables and of the heap beside the good words -/
def TX (A : Nat → Prop) (H : Heap) (U : State) : Prop := ((∀ w ∈ xB54, va_Nw w U) ∧ (∀ w ∈ xB61, va_Nw w U) ∧ (∀ w ∈ xB74, va_Nw w U)) ∧ (∀ p ∈ xStr, ∃ a, vk_R RX6 p.1 p.2 a U) ∧ vx_Zq Bundle.tN "UNASSIGNED_STACK" Bundle.steD A U H ∧ vx_Zq Bundle.tN "SUPPRESSED_SENTINEL" Bundle.listD A U H
theorem TX_warm {A A1 : Nat → Prop} {H H1 : Heap} {s U : State} (hW : s.WarmedH U.vm) (hk : ∀ a : Nat, a < H.size → ¬ A a → H1[a]? = H[a]?) (hAB : ∀ q, A1 q → A q) (h : TX A H s) : TX A1 H1 U := by
  obtain ⟨⟨h1, h2, h3⟩, h4, h5, h6⟩ := h
  exact ⟨⟨fun w hw => dc_warm (List.all_eq_true.mp xB54_dc w hw) hW (h1 w hw), fun w hw => dc_warm (List.all_eq_true.mp xB61_dc w hw) hW (h2 w hw), fun w hw => dc_warm (List.all_eq_true.mp xB74_dc w hw) hW (h3 w hw)⟩,
    fun q hq => (h4 q hq).elim (fun a z => ⟨a, vk_R.warm hW z⟩), (vx_Zq.moved hW.alike (h5.kept hk)).narrow hAB, (vx_Zq.moved hW.alike (h6.kept hk)).narrow hAB⟩
theorem TX_same {A : Nat → Prop} {H : Heap} {s U : State} (e : s.vm = U.vm) (h : TX A H s) : TX A H U := by
  obtain ⟨⟨h1, h2, h3⟩, h4, h5, h6⟩ := h
  have hal : s.vm.Alike U.vm := by rw [e]; exact Vm.Alike.refl U.vm
  exact ⟨⟨fun w hw => dc_same (List.all_eq_true.mp xB54_dc w hw) e (h1 w hw), fun w hw => dc_same (List.all_eq_true.mp xB61_dc w hw) e (h2 w hw), fun w hw => dc_same (List.all_eq_true.mp xB74_dc w hw) e (h3 w hw)⟩,
    fun q hq => (h4 q hq).elim (fun a z => ⟨a, vk_R.same e.symm z⟩), vx_Zq.moved hal h5, vx_Zq.moved hal h6⟩
/-- where a contract that may throw starts -/
abbrev cPT (D : va_G) (K : Nat → ClassId) (ws : va_W) (sz : Nat) : State → Prop := fun U => (U.heap.size = sz ∧ va_P D vwCl ws U.heap ∧ va_K D vwCl (TY K) U ∧ va_D (fun _ => True) ws) ∧ TX (va_A ws sz) U.heap U
theorem cPT_blind {D : va_G} {K : Nat → ClassId} {ws : va_W} {sz : Nat} {as : List Value} : FrameBlind (va_Pc as (cPT D K ws sz)) := fun a U g mk q => by
  obtain ⟨q0, ⟨q1, qP, qK, qD⟩, qX⟩ := q
  exact ⟨q0, ⟨q1, qP, va_K.moved (u := U) (U := U.calling g mk a) (Vm.Alike.refl U.vm) qK, qD⟩, TX_same (s := U) (U := U.calling g mk a) rfl qX⟩
theorem cPT_of {D : va_G} {K : Nat → ClassId} {ws : va_W} {s : State} {H : Heap} {A : Nat → Prop} {as : List Value} {locs : List Loc} (hP : va_P D vwCl ws H) (hK : va_K D vwCl (TY K) s) (hD : va_D A ws) (hX : TX A s.heap s) (hS : va_S A s.heap H locs) (hF : ∀ q, va_A ws H.size q → A q) : ∀ U : State, U.heap = H → s.WarmedH U.vm → va_Pc as (cPT D K ws H.size) as.toArray U := fun U hU hW => ⟨rfl, ⟨by rw [hU], by rw [hU]; exact hP, va_K.moved hW.alike hK, hD.weaken (fun _ _ _ _ => trivial)⟩, by rw [hU]; exact TX_warm hW hS.2.1 hF hX⟩
section TH
variable {p : Program} {l : Launch} {e : Env} {R : Room} {s : State} {m : MethodId} {args : Array Value} {below : List Frame} {meth : Method} {c : Code} {H : Heap} {locs : List Loc} {cells slots : Nat} {ls : Array Slot} {rest : List Value} {Qc : Array Value → State → Outcome → State → Prop} {XC : String → State → State → Prop}
theorem thr_54 {cc : ByteArray} {pc is mc ms : Nat} {text : String} {A : Nat → Prop} (hx : p.tables.exec = Jvm.exec) (hb : c.code = cc) (hl : l.stackTraces = false) (hown : s.vm.findClass RX6 = some m.cls) (hts : ∀ w ∈ TB, w.before args s = true) (hTX : TX A s.heap s) (hmem : (is, text) ∈ xStr) (hS : va_S A s.heap H locs) (hsize : ls.size = c.maxLocals)
    (d0 : decode cc pc = .ok (.new 54, 3)) (d3 : decode cc (pc + 3) = .ok (.dup, 1)) (d4 : decode cc (pc + 4) = .ok (.ldc is, 2)) (d6 : decode cc (pc + 6) = .ok (.invokespecial 58, 3)) (d9 : decode cc (pc + 9) = .ok (.athrow, 1))
    (hxt : ∀ x ∈ c.exceptionTable.toList, False) (hRf : 5 < R.frames) (hRl : (rest.map fun v => v.category).sum + 82 ≤ R.locals) (hRc : cells + 1 ≤ R.cells) (hRs : slots + 6 ≤ R.slots) (hlocks : meth.locks = false)
    (hc : cells + 1 ≤ mc) (hs : slots + 6 ≤ ms)
    (hxc : ∀ t : State, s.vm.Alike t.vm → H.size ≤ t.heap.size → (∀ q : Nat, q < H.size → t.heap[q]? = H[q]?) → XC "java/lang/IndexOutOfBoundsException" s t) :
    W p l e R s m args below meth c H locs cells slots (vx_MQ below Qc XC args s mc ms A) (F0 m pc ls rest) := by
  obtain ⟨⟨h1, h2, h3⟩, h4, h5, h6⟩ := hTX
  obtain ⟨sa, hstr⟩ := h4 _ hmem
  exact vx_throwS (sa := sa) (names := exN) hx hb hl hown (by decide +kernel) (by decide +kernel) (hts _ k_cl_X6_54) (hts _ k_in_ng_IndexOutOfBoundsException) hstr
    (vx_hat (L := exL54) (B := xB54) (fun w hw => hts w (mTB (exL54_in w (List.mem_filter.mp hw).1) (List.mem_filter.mp hw).2)) (fun w hw => hw) (fun w hw => dc_use (List.all_eq_true.mp xB54_dc w hw) (h1 w hw)))
    (fun w hw => List.all_eq_true.mp exL54_ot w hw) h5 h6 hS hsize d0 d3 d4 d6 d9 (fun x hx => (hxt x hx).elim) hRf hRl hRc hRs hlocks hxc hS.2.2 hc hs
theorem thr_61 {cc : ByteArray} {pc is mc ms : Nat} {text : String} {A : Nat → Prop} (hx : p.tables.exec = Jvm.exec) (hb : c.code = cc) (hl : l.stackTraces = false) (hown : s.vm.findClass RX6 = some m.cls) (hts : ∀ w ∈ TB, w.before args s = true) (hTX : TX A s.heap s) (hmem : (is, text) ∈ xStr) (hS : va_S A s.heap H locs) (hsize : ls.size = c.maxLocals)
    (d0 : decode cc pc = .ok (.new 61, 3)) (d3 : decode cc (pc + 3) = .ok (.dup, 1)) (d4 : decode cc (pc + 4) = .ok (.ldc is, 2)) (d6 : decode cc (pc + 6) = .ok (.invokespecial 65, 3)) (d9 : decode cc (pc + 9) = .ok (.athrow, 1))
    (hxt : ∀ x ∈ c.exceptionTable.toList, False) (hRf : 5 < R.frames) (hRl : (rest.map fun v => v.category).sum + 82 ≤ R.locals) (hRc : cells + 1 ≤ R.cells) (hRs : slots + 6 ≤ R.slots) (hlocks : meth.locks = false)
    (hc : cells + 1 ≤ mc) (hs : slots + 6 ≤ ms)
    (hxc : ∀ t : State, s.vm.Alike t.vm → H.size ≤ t.heap.size → (∀ q : Nat, q < H.size → t.heap[q]? = H[q]?) → XC "java/lang/IllegalArgumentException" s t) :
    W p l e R s m args below meth c H locs cells slots (vx_MQ below Qc XC args s mc ms A) (F0 m pc ls rest) := by
  obtain ⟨⟨h1, h2, h3⟩, h4, h5, h6⟩ := hTX
  obtain ⟨sa, hstr⟩ := h4 _ hmem
  exact vx_throwS (sa := sa) (names := exN) hx hb hl hown (by decide +kernel) (by decide +kernel) (hts _ k_cl_X6_61) (hts _ k_in_ang_IllegalArgumentException) hstr
    (vx_hat (L := exL61) (B := xB61) (fun w hw => hts w (mTB (exL61_in w (List.mem_filter.mp hw).1) (List.mem_filter.mp hw).2)) (fun w hw => hw) (fun w hw => dc_use (List.all_eq_true.mp xB61_dc w hw) (h2 w hw)))
    (fun w hw => List.all_eq_true.mp exL61_ot w hw) h5 h6 hS hsize d0 d3 d4 d6 d9 (fun x hx => (hxt x hx).elim) hRf hRl hRc hRs hlocks hxc hS.2.2 hc hs
theorem thr_74 {cc : ByteArray} {pc is mc ms : Nat} {text : String} {A : Nat → Prop} (hx : p.tables.exec = Jvm.exec) (hb : c.code = cc) (hl : l.stackTraces = false) (hown : s.vm.findClass RX6 = some m.cls) (hts : ∀ w ∈ TB, w.before args s = true) (hTX : TX A s.heap s) (hmem : (is, text) ∈ xStr) (hS : va_S A s.heap H locs) (hsize : ls.size = c.maxLocals)
    (d0 : decode cc pc = .ok (.new 74, 3)) (d3 : decode cc (pc + 3) = .ok (.dup, 1)) (d4 : decode cc (pc + 4) = .ok (.ldc is, 2)) (d6 : decode cc (pc + 6) = .ok (.invokespecial 78, 3)) (d9 : decode cc (pc + 9) = .ok (.athrow, 1))
    (hxt : ∀ x ∈ c.exceptionTable.toList, False) (hRf : 5 < R.frames) (hRl : (rest.map fun v => v.category).sum + 82 ≤ R.locals) (hRc : cells + 1 ≤ R.cells) (hRs : slots + 6 ≤ R.slots) (hlocks : meth.locks = false)
    (hc : cells + 1 ≤ mc) (hs : slots + 6 ≤ ms)
    (hxc : ∀ t : State, s.vm.Alike t.vm → H.size ≤ t.heap.size → (∀ q : Nat, q < H.size → t.heap[q]? = H[q]?) → XC "java/lang/IllegalStateException" s t) :
    W p l e R s m args below meth c H locs cells slots (vx_MQ below Qc XC args s mc ms A) (F0 m pc ls rest) := by
  obtain ⟨⟨h1, h2, h3⟩, h4, h5, h6⟩ := hTX
  obtain ⟨sa, hstr⟩ := h4 _ hmem
  exact vx_throwS (sa := sa) (names := exN) hx hb hl hown (by decide +kernel) (by decide +kernel) (hts _ k_cl_X6_74) (hts _ k_in_a_lang_IllegalStateException) hstr
    (vx_hat (L := exL74) (B := xB74) (fun w hw => hts w (mTB (exL74_in w (List.mem_filter.mp hw).1) (List.mem_filter.mp hw).2)) (fun w hw => hw) (fun w hw => dc_use (List.all_eq_true.mp xB74_dc w hw) (h3 w hw)))
    (fun w hw => List.all_eq_true.mp exL74_ot w hw) h5 h6 hS hsize d0 d3 d4 d6 d9 (fun x hx => (hxt x hx).elim) hRf hRl hRc hRs hlocks hxc hS.2.2 hc hs
end TH
