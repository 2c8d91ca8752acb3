/-! PlanetaryGearbox: its world -/
theorem pm_sw {X0 X1 Y : va_W} : (X0 ++ (X1 ++ Y)).Perm (X1 ++ (X0 ++ Y)) := by
  rw [← List.append_assoc, ← List.append_assoc]
  exact List.perm_append_comm.append_right Y
theorem pm_4 {X0 X1 X2 X3 X4 X5 X6 X7 X8 X9 : va_W} : (X0 ++ (X1 ++ (X2 ++ (X3 ++ (X4 ++ (X5 ++ (X6 ++ (X7 ++ (X8 ++ (X9)))))))))).Perm ((X4) ++ (X0 ++ (X1 ++ (X2 ++ (X3 ++ (X5 ++ (X6 ++ (X7 ++ (X8 ++ (X9)))))))))) := by
  exact (List.Perm.trans (List.Perm.trans (List.Perm.append_left X0 (List.Perm.trans (List.Perm.append_left X1 (List.Perm.trans (List.Perm.append_left X2 (pm_sw)) (pm_sw))) (pm_sw))) (pm_sw)) (List.Perm.append_left X4 (List.Perm.trans (List.Perm.refl _) (List.Perm.append_left X0 (List.Perm.trans (List.Perm.refl _) (List.Perm.append_left X1 (List.Perm.trans (List.Perm.refl _) (List.Perm.append_left X2 (List.Perm.trans (List.Perm.refl _) (List.Perm.append_left X3 (List.Perm.trans (List.Perm.refl _) (List.Perm.append_left X5 (List.Perm.trans (List.Perm.refl _) (List.Perm.append_left X6 (List.Perm.trans (List.Perm.refl _) (List.Perm.append_left X7 (List.Perm.trans (List.Perm.refl _) (List.Perm.append_left X8 (List.Perm.refl _)))))))))))))))))))
theorem pm_1 {X0 X1 X2 X3 X4 X5 X6 X7 X8 X9 : va_W} : (X0 ++ (X1 ++ (X2 ++ (X3 ++ (X4 ++ (X5 ++ (X6 ++ (X7 ++ (X8 ++ (X9)))))))))).Perm ((X1) ++ (X0 ++ (X2 ++ (X3 ++ (X4 ++ (X5 ++ (X6 ++ (X7 ++ (X8 ++ (X9)))))))))) := by
  exact (List.Perm.trans (pm_sw) (List.Perm.append_left X1 (List.Perm.trans (List.Perm.refl _) (List.Perm.append_left X0 (List.Perm.trans (List.Perm.refl _) (List.Perm.append_left X2 (List.Perm.trans (List.Perm.refl _) (List.Perm.append_left X3 (List.Perm.trans (List.Perm.refl _) (List.Perm.append_left X4 (List.Perm.trans (List.Perm.refl _) (List.Perm.append_left X5 (List.Perm.trans (List.Perm.refl _) (List.Perm.append_left X6 (List.Perm.trans (List.Perm.refl _) (List.Perm.append_left X7 (List.Perm.trans (List.Perm.refl _) (List.Perm.append_left X8 (List.Perm.refl _)))))))))))))))))))
theorem pm_23 {X0 X1 X2 X3 X4 X5 X6 X7 X8 X9 : va_W} : (X0 ++ (X1 ++ (X2 ++ (X3 ++ (X4 ++ (X5 ++ (X6 ++ (X7 ++ (X8 ++ (X9)))))))))).Perm ((X2 ++ (X3)) ++ (X0 ++ (X1 ++ (X4 ++ (X5 ++ (X6 ++ (X7 ++ (X8 ++ (X9))))))))) := by
  simp only [List.append_assoc]
  exact (List.Perm.trans (List.Perm.trans (List.Perm.append_left X0 (pm_sw)) (pm_sw)) (List.Perm.append_left X2 (List.Perm.trans (List.Perm.trans (List.Perm.append_left X0 (pm_sw)) (pm_sw)) (List.Perm.append_left X3 (List.Perm.trans (List.Perm.refl _) (List.Perm.append_left X0 (List.Perm.trans (List.Perm.refl _) (List.Perm.append_left X1 (List.Perm.trans (List.Perm.refl _) (List.Perm.append_left X4 (List.Perm.trans (List.Perm.refl _) (List.Perm.append_left X5 (List.Perm.trans (List.Perm.refl _) (List.Perm.append_left X6 (List.Perm.trans (List.Perm.refl _) (List.Perm.append_left X7 (List.Perm.trans (List.Perm.refl _) (List.Perm.append_left X8 (List.Perm.refl _)))))))))))))))))))
theorem pm_234 {X0 X1 X2 X3 X4 X5 X6 X7 X8 X9 : va_W} : (X0 ++ (X1 ++ (X2 ++ (X3 ++ (X4 ++ (X5 ++ (X6 ++ (X7 ++ (X8 ++ (X9)))))))))).Perm ((X2 ++ (X3 ++ (X4))) ++ (X0 ++ (X1 ++ (X5 ++ (X6 ++ (X7 ++ (X8 ++ (X9)))))))) := by
  simp only [List.append_assoc]
  exact (List.Perm.trans (List.Perm.trans (List.Perm.append_left X0 (pm_sw)) (pm_sw)) (List.Perm.append_left X2 (List.Perm.trans (List.Perm.trans (List.Perm.append_left X0 (pm_sw)) (pm_sw)) (List.Perm.append_left X3 (List.Perm.trans (List.Perm.trans (List.Perm.append_left X0 (pm_sw)) (pm_sw)) (List.Perm.append_left X4 (List.Perm.trans (List.Perm.refl _) (List.Perm.append_left X0 (List.Perm.trans (List.Perm.refl _) (List.Perm.append_left X1 (List.Perm.trans (List.Perm.refl _) (List.Perm.append_left X5 (List.Perm.trans (List.Perm.refl _) (List.Perm.append_left X6 (List.Perm.trans (List.Perm.refl _) (List.Perm.append_left X7 (List.Perm.trans (List.Perm.refl _) (List.Perm.append_left X8 (List.Perm.refl _)))))))))))))))))))
theorem pm_1234 {X0 X1 X2 X3 X4 X5 X6 X7 X8 X9 : va_W} : (X0 ++ (X1 ++ (X2 ++ (X3 ++ (X4 ++ (X5 ++ (X6 ++ (X7 ++ (X8 ++ (X9)))))))))).Perm ((X1 ++ (X2 ++ (X3 ++ (X4)))) ++ (X0 ++ (X5 ++ (X6 ++ (X7 ++ (X8 ++ (X9))))))) := by
  simp only [List.append_assoc]
  exact (List.Perm.trans (pm_sw) (List.Perm.append_left X1 (List.Perm.trans (pm_sw) (List.Perm.append_left X2 (List.Perm.trans (pm_sw) (List.Perm.append_left X3 (List.Perm.trans (pm_sw) (List.Perm.append_left X4 (List.Perm.trans (List.Perm.refl _) (List.Perm.append_left X0 (List.Perm.trans (List.Perm.refl _) (List.Perm.append_left X5 (List.Perm.trans (List.Perm.refl _) (List.Perm.append_left X6 (List.Perm.trans (List.Perm.refl _) (List.Perm.append_left X7 (List.Perm.trans (List.Perm.refl _) (List.Perm.append_left X8 (List.Perm.refl _)))))))))))))))))))
theorem pm_56 {X0 X1 X2 X3 X4 X5 X6 X7 X8 X9 : va_W} : (X0 ++ (X1 ++ (X2 ++ (X3 ++ (X4 ++ (X5 ++ (X6 ++ (X7 ++ (X8 ++ (X9)))))))))).Perm ((X5 ++ (X6)) ++ (X0 ++ (X1 ++ (X2 ++ (X3 ++ (X4 ++ (X7 ++ (X8 ++ (X9))))))))) := by
  simp only [List.append_assoc]
  exact (List.Perm.trans (List.Perm.trans (List.Perm.append_left X0 (List.Perm.trans (List.Perm.append_left X1 (List.Perm.trans (List.Perm.append_left X2 (List.Perm.trans (List.Perm.append_left X3 (pm_sw)) (pm_sw))) (pm_sw))) (pm_sw))) (pm_sw)) (List.Perm.append_left X5 (List.Perm.trans (List.Perm.trans (List.Perm.append_left X0 (List.Perm.trans (List.Perm.append_left X1 (List.Perm.trans (List.Perm.append_left X2 (List.Perm.trans (List.Perm.append_left X3 (pm_sw)) (pm_sw))) (pm_sw))) (pm_sw))) (pm_sw)) (List.Perm.append_left X6 (List.Perm.trans (List.Perm.refl _) (List.Perm.append_left X0 (List.Perm.trans (List.Perm.refl _) (List.Perm.append_left X1 (List.Perm.trans (List.Perm.refl _) (List.Perm.append_left X2 (List.Perm.trans (List.Perm.refl _) (List.Perm.append_left X3 (List.Perm.trans (List.Perm.refl _) (List.Perm.append_left X4 (List.Perm.trans (List.Perm.refl _) (List.Perm.append_left X7 (List.Perm.trans (List.Perm.refl _) (List.Perm.append_left X8 (List.Perm.refl _)))))))))))))))))))
theorem pm_564 {X0 X1 X2 X3 X4 X5 X6 X7 X8 X9 : va_W} : (X0 ++ (X1 ++ (X2 ++ (X3 ++ (X4 ++ (X5 ++ (X6 ++ (X7 ++ (X8 ++ (X9)))))))))).Perm ((X5 ++ (X6 ++ (X4))) ++ (X0 ++ (X1 ++ (X2 ++ (X3 ++ (X7 ++ (X8 ++ (X9)))))))) := by
  simp only [List.append_assoc]
  exact (List.Perm.trans (List.Perm.trans (List.Perm.append_left X0 (List.Perm.trans (List.Perm.append_left X1 (List.Perm.trans (List.Perm.append_left X2 (List.Perm.trans (List.Perm.append_left X3 (pm_sw)) (pm_sw))) (pm_sw))) (pm_sw))) (pm_sw)) (List.Perm.append_left X5 (List.Perm.trans (List.Perm.trans (List.Perm.append_left X0 (List.Perm.trans (List.Perm.append_left X1 (List.Perm.trans (List.Perm.append_left X2 (List.Perm.trans (List.Perm.append_left X3 (pm_sw)) (pm_sw))) (pm_sw))) (pm_sw))) (pm_sw)) (List.Perm.append_left X6 (List.Perm.trans (List.Perm.trans (List.Perm.append_left X0 (List.Perm.trans (List.Perm.append_left X1 (List.Perm.trans (List.Perm.append_left X2 (pm_sw)) (pm_sw))) (pm_sw))) (pm_sw)) (List.Perm.append_left X4 (List.Perm.trans (List.Perm.refl _) (List.Perm.append_left X0 (List.Perm.trans (List.Perm.refl _) (List.Perm.append_left X1 (List.Perm.trans (List.Perm.refl _) (List.Perm.append_left X2 (List.Perm.trans (List.Perm.refl _) (List.Perm.append_left X3 (List.Perm.trans (List.Perm.refl _) (List.Perm.append_left X7 (List.Perm.trans (List.Perm.refl _) (List.Perm.append_left X8 (List.Perm.refl _)))))))))))))))))))
theorem pm_7 {X0 X1 X2 X3 X4 X5 X6 X7 X8 X9 : va_W} : (X0 ++ (X1 ++ (X2 ++ (X3 ++ (X4 ++ (X5 ++ (X6 ++ (X7 ++ (X8 ++ (X9)))))))))).Perm ((X7) ++ (X0 ++ (X1 ++ (X2 ++ (X3 ++ (X4 ++ (X5 ++ (X6 ++ (X8 ++ (X9)))))))))) := by
  exact (List.Perm.trans (List.Perm.trans (List.Perm.append_left X0 (List.Perm.trans (List.Perm.append_left X1 (List.Perm.trans (List.Perm.append_left X2 (List.Perm.trans (List.Perm.append_left X3 (List.Perm.trans (List.Perm.append_left X4 (List.Perm.trans (List.Perm.append_left X5 (pm_sw)) (pm_sw))) (pm_sw))) (pm_sw))) (pm_sw))) (pm_sw))) (pm_sw)) (List.Perm.append_left X7 (List.Perm.trans (List.Perm.refl _) (List.Perm.append_left X0 (List.Perm.trans (List.Perm.refl _) (List.Perm.append_left X1 (List.Perm.trans (List.Perm.refl _) (List.Perm.append_left X2 (List.Perm.trans (List.Perm.refl _) (List.Perm.append_left X3 (List.Perm.trans (List.Perm.refl _) (List.Perm.append_left X4 (List.Perm.trans (List.Perm.refl _) (List.Perm.append_left X5 (List.Perm.trans (List.Perm.refl _) (List.Perm.append_left X6 (List.Perm.trans (List.Perm.refl _) (List.Perm.append_left X8 (List.Perm.refl _)))))))))))))))))))
theorem pm_84 {X0 X1 X2 X3 X4 X5 X6 X7 X8 X9 : va_W} : (X0 ++ (X1 ++ (X2 ++ (X3 ++ (X4 ++ (X5 ++ (X6 ++ (X7 ++ (X8 ++ (X9)))))))))).Perm ((X8 ++ (X4)) ++ (X0 ++ (X1 ++ (X2 ++ (X3 ++ (X5 ++ (X6 ++ (X7 ++ (X9))))))))) := by
  simp only [List.append_assoc]
  exact (List.Perm.trans (List.Perm.trans (List.Perm.append_left X0 (List.Perm.trans (List.Perm.append_left X1 (List.Perm.trans (List.Perm.append_left X2 (List.Perm.trans (List.Perm.append_left X3 (List.Perm.trans (List.Perm.append_left X4 (List.Perm.trans (List.Perm.append_left X5 (List.Perm.trans (List.Perm.append_left X6 (pm_sw)) (pm_sw))) (pm_sw))) (pm_sw))) (pm_sw))) (pm_sw))) (pm_sw))) (pm_sw)) (List.Perm.append_left X8 (List.Perm.trans (List.Perm.trans (List.Perm.append_left X0 (List.Perm.trans (List.Perm.append_left X1 (List.Perm.trans (List.Perm.append_left X2 (pm_sw)) (pm_sw))) (pm_sw))) (pm_sw)) (List.Perm.append_left X4 (List.Perm.trans (List.Perm.refl _) (List.Perm.append_left X0 (List.Perm.trans (List.Perm.refl _) (List.Perm.append_left X1 (List.Perm.trans (List.Perm.refl _) (List.Perm.append_left X2 (List.Perm.trans (List.Perm.refl _) (List.Perm.append_left X3 (List.Perm.trans (List.Perm.refl _) (List.Perm.append_left X5 (List.Perm.trans (List.Perm.refl _) (List.Perm.append_left X6 (List.Perm.trans (List.Perm.refl _) (List.Perm.append_left X7 (List.Perm.refl _)))))))))))))))))))
theorem pm_94 {X0 X1 X2 X3 X4 X5 X6 X7 X8 X9 : va_W} : (X0 ++ (X1 ++ (X2 ++ (X3 ++ (X4 ++ (X5 ++ (X6 ++ (X7 ++ (X8 ++ (X9)))))))))).Perm ((X9 ++ (X4)) ++ (X0 ++ (X1 ++ (X2 ++ (X3 ++ (X5 ++ (X6 ++ (X7 ++ (X8))))))))) := by
  simp only [List.append_assoc]
  exact (List.Perm.trans (List.Perm.trans (List.Perm.append_left X0 (List.Perm.trans (List.Perm.append_left X1 (List.Perm.trans (List.Perm.append_left X2 (List.Perm.trans (List.Perm.append_left X3 (List.Perm.trans (List.Perm.append_left X4 (List.Perm.trans (List.Perm.append_left X5 (List.Perm.trans (List.Perm.append_left X6 (List.Perm.trans (List.Perm.append_left X7 (List.perm_append_comm)) (pm_sw))) (pm_sw))) (pm_sw))) (pm_sw))) (pm_sw))) (pm_sw))) (pm_sw))) (pm_sw)) (List.Perm.append_left X9 (List.Perm.trans (List.Perm.trans (List.Perm.append_left X0 (List.Perm.trans (List.Perm.append_left X1 (List.Perm.trans (List.Perm.append_left X2 (pm_sw)) (pm_sw))) (pm_sw))) (pm_sw)) (List.Perm.append_left X4 (List.Perm.trans (List.Perm.refl _) (List.Perm.append_left X0 (List.Perm.trans (List.Perm.refl _) (List.Perm.append_left X1 (List.Perm.trans (List.Perm.refl _) (List.Perm.append_left X2 (List.Perm.trans (List.Perm.refl _) (List.Perm.append_left X3 (List.Perm.trans (List.Perm.refl _) (List.Perm.append_left X5 (List.Perm.trans (List.Perm.refl _) (List.Perm.append_left X6 (List.Perm.trans (List.Perm.refl _) (List.Perm.append_left X7 (List.Perm.refl _)))))))))))))))))))
theorem pm_48 {X0 X1 X2 X3 X4 X5 X6 X7 X8 X9 : va_W} : (X0 ++ (X1 ++ (X2 ++ (X3 ++ (X4 ++ (X5 ++ (X6 ++ (X7 ++ (X8 ++ (X9)))))))))).Perm ((X4 ++ (X8)) ++ (X0 ++ (X1 ++ (X2 ++ (X3 ++ (X5 ++ (X6 ++ (X7 ++ (X9))))))))) := by
  simp only [List.append_assoc]
  exact (List.Perm.trans (List.Perm.trans (List.Perm.append_left X0 (List.Perm.trans (List.Perm.append_left X1 (List.Perm.trans (List.Perm.append_left X2 (pm_sw)) (pm_sw))) (pm_sw))) (pm_sw)) (List.Perm.append_left X4 (List.Perm.trans (List.Perm.trans (List.Perm.append_left X0 (List.Perm.trans (List.Perm.append_left X1 (List.Perm.trans (List.Perm.append_left X2 (List.Perm.trans (List.Perm.append_left X3 (List.Perm.trans (List.Perm.append_left X5 (List.Perm.trans (List.Perm.append_left X6 (pm_sw)) (pm_sw))) (pm_sw))) (pm_sw))) (pm_sw))) (pm_sw))) (pm_sw)) (List.Perm.append_left X8 (List.Perm.trans (List.Perm.refl _) (List.Perm.append_left X0 (List.Perm.trans (List.Perm.refl _) (List.Perm.append_left X1 (List.Perm.trans (List.Perm.refl _) (List.Perm.append_left X2 (List.Perm.trans (List.Perm.refl _) (List.Perm.append_left X3 (List.Perm.trans (List.Perm.refl _) (List.Perm.append_left X5 (List.Perm.trans (List.Perm.refl _) (List.Perm.append_left X6 (List.Perm.trans (List.Perm.refl _) (List.Perm.append_left X7 (List.Perm.refl _)))))))))))))))))))
theorem pm_49 {X0 X1 X2 X3 X4 X5 X6 X7 X8 X9 : va_W} : (X0 ++ (X1 ++ (X2 ++ (X3 ++ (X4 ++ (X5 ++ (X6 ++ (X7 ++ (X8 ++ (X9)))))))))).Perm ((X4 ++ (X9)) ++ (X0 ++ (X1 ++ (X2 ++ (X3 ++ (X5 ++ (X6 ++ (X7 ++ (X8))))))))) := by
  simp only [List.append_assoc]
  exact (List.Perm.trans (List.Perm.trans (List.Perm.append_left X0 (List.Perm.trans (List.Perm.append_left X1 (List.Perm.trans (List.Perm.append_left X2 (pm_sw)) (pm_sw))) (pm_sw))) (pm_sw)) (List.Perm.append_left X4 (List.Perm.trans (List.Perm.trans (List.Perm.append_left X0 (List.Perm.trans (List.Perm.append_left X1 (List.Perm.trans (List.Perm.append_left X2 (List.Perm.trans (List.Perm.append_left X3 (List.Perm.trans (List.Perm.append_left X5 (List.Perm.trans (List.Perm.append_left X6 (List.Perm.trans (List.Perm.append_left X7 (List.perm_append_comm)) (pm_sw))) (pm_sw))) (pm_sw))) (pm_sw))) (pm_sw))) (pm_sw))) (pm_sw)) (List.Perm.append_left X9 (List.Perm.trans (List.Perm.refl _) (List.Perm.append_left X0 (List.Perm.trans (List.Perm.refl _) (List.Perm.append_left X1 (List.Perm.trans (List.Perm.refl _) (List.Perm.append_left X2 (List.Perm.trans (List.Perm.refl _) (List.Perm.append_left X3 (List.Perm.trans (List.Perm.refl _) (List.Perm.append_left X5 (List.Perm.trans (List.Perm.refl _) (List.Perm.append_left X6 (List.Perm.trans (List.Perm.refl _) (List.Perm.append_left X7 (List.Perm.refl _)))))))))))))))))))
/-- what calls show of an object: designs (its own, both slots), the slots' flags, the history -/
abbrev CV : Type := (Nat → Nat → Int32) × (Nat → Nat → Int32) × (Nat → Nat → Int32) × Int32 × Int32 × (Nat → Int32) × Nat
/-- what they don't: both systems of equations, the table of gears -/
abbrev CI : Type := (Nat → Nat → Int64) × (Nat → Int32) × (Nat → Int32) × Int32 × (Nat → Nat → Int64) × (Nat → Int32) × (Nat → Int32) × Int32 × (Nat → Int32) × (Nat → Int64) × (Nat → Int64) × (Nat → Int32) × (Nat → Int32) × Nat × Int32
def WX (K : Nat → ClassId) (ad q q1 q2 g r r2 : Nat → Nat) (v : CV) (i : CI) : va_W := [(ad 0, .inr (6, [.ref (q 0), .ref (q1 0), .ref (q2 0), .int v.2.2.2.1, .int v.2.2.2.2.1, .ref (ad 1), .ref (ad 3), .ref (ad 8), .ref (g 0)]))] ++ (WG K g i.2.2.2.2.2.2.2.2.1 i.2.2.2.2.2.2.2.2.2.1 i.2.2.2.2.2.2.2.2.2.2.1 i.2.2.2.2.2.2.2.2.2.2.2.1 i.2.2.2.2.2.2.2.2.2.2.2.2.1 (nI i.2.2.2.2.2.2.2.2.2.2.2.2.2.1) i.2.2.2.2.2.2.2.2.2.2.2.2.2.2 ++ ([(ad 3, .inr (4, [.ref (ad 4)]))] ++ (WE K (ad 4) (ad 5) (ad 6) (ad 7) r i.1 i.2.1 i.2.2.1 i.2.2.2.1 ++ (WD K q v.1 ++ ([(ad 8, .inr (5, [.ref (ad 9)]))] ++ (WE K (ad 9) (ad 10) (ad 11) (ad 12) r2 i.2.2.2.2.1 i.2.2.2.2.2.1 i.2.2.2.2.2.2.1 i.2.2.2.2.2.2.2.1 ++ (WH K (ad 1) (ad 2) v.2.2.2.2.2.1 (nI v.2.2.2.2.2.2) ++ (WD K q1 v.2.1 ++ (WD K q2 v.2.2.1)))))))))
def IV (v : CV) : Prop := DV v.1 ∧ DV v.2.1 ∧ DV v.2.2.1 ∧ (v.2.2.2.1 = nI 0 ∨ v.2.2.2.1 = nI 1) ∧ (v.2.2.2.2.1 = nI 0 ∨ v.2.2.2.2.1 = nI 1) ∧ v.2.2.2.2.2.2 ≤ 20 ∧ ∀ j, j < v.2.2.2.2.2.2 → ∃ z, z < 2 ^ dn v.1 8 1 ∧ v.2.2.2.2.2.1 j = nI z
def II (d : Nat → Nat → Int32) (i : CI) : Prop := i.2.2.2.2.2.2.2.2.2.2.2.2.2.1 ≤ 64 ∧ (i.2.2.2.2.2.2.2.2.2.2.2.2.2.2 = nI 0 ∨ i.2.2.2.2.2.2.2.2.2.2.2.2.2.2 = nI 1) ∧ (i.2.2.2.2.2.2.2.2.2.2.2.2.2.2 = nI 1 → i.2.2.2.2.2.2.2.2.2.2.2.2.2.1 = gN d ∧ TabA d (gF d) i.2.2.2.2.2.2.2.2.2.2.2.2.2.1 i.2.2.2.2.2.2.2.2.1 i.2.2.2.2.2.2.2.2.2.1 i.2.2.2.2.2.2.2.2.2.2.1)
/-- the k-th exception that a method tells of -/
def exc (L : List String) (k : Nat) (E : String) : Prop := 0 < k ∧ L[k - 1]? = some E
abbrev eIO : String := "java/lang/IndexOutOfBoundsException"
abbrev eIA : String := "java/lang/IllegalArgumentException"
abbrev eIS : String := "java/lang/IllegalStateException"
def shf (x : Int32) : Prop := ∃ k : Nat, k < 6 ∧ x = nI k
def prt (x : Int32) : Prop := ∃ k : Nat, k ≤ 1 ∧ x = nI k
theorem nIt {x : Int32} (h : 0 ≤ x.toInt) : x = nI x.toInt.toNat := (i32_eq _ _).mpr (by
  have h2 := Int32.toInt_lt x
  rw [nI_toIntI (by omega)]
  omega)
theorem shf_iff {x : Int32} : shf x ↔ 0 ≤ x.toInt ∧ x.toInt < 6 := by
  constructor
  · rintro ⟨k, hk, rfl⟩
    rw [nI_toIntI (by omega)]
    omega
  · rintro ⟨h1, h2⟩
    exact ⟨x.toInt.toNat, by omega, nIt h1⟩
theorem prt_iff {x : Int32} : prt x ↔ x.toInt = 0 ∨ x.toInt = 1 := by
  constructor
  · rintro ⟨k, hk, rfl⟩
    rw [nI_toIntI (by omega)]
    omega
  · intro h
    exact ⟨x.toInt.toNat, by omega, nIt (by omega)⟩
/-! what each call answers: (0, the answer), or (k, _): its k-th exception -/
def elm (d : Nat → Nat → Int32) (x : Int32) : Prop := ∃ k : Nat, k < dn d 8 1 ∧ x = nI k
def msk (d : Nat → Nat → Int32) (x : Int32) : Prop := ∃ z : Nat, z < 2 ^ dn d 8 1 ∧ x = nI z
/-- if, without a decision -/
noncomputable def cI {α : Type} (P : Prop) (a b : α) : α := @ite α P (Classical.propDecidable P) a b
theorem cI_t {α : Type} {P : Prop} {a b : α} (h : P) : cI P a b = a := by unfold cI; exact if_pos h
theorem cI_f {α : Type} {P : Prop} {a b : α} (h : ¬ P) : cI P a b = b := by unfold cI; exact if_neg h
section RS
variable (d : Nat → Nat → Int32)
/-- the engaged elements among the first k that slip with t -/
noncomputable def slp (t : Int) : Nat → Nat
  | 0 => 0
  | k + 1 => cI (k < dn d 8 1 ∧ (dn d 8 2).testBit k = true ∧ (hold (TQ d (dn d 8 2)) k (dn d 7 k) : Int) < t) (slp t k ||| 2 ^ k) (slp t k)
noncomputable def grt : Nat → Nat
  | 0 => 10000
  | k + 1 => cI (k < dn d 8 1 ∧ (dn d 8 2).testBit k = true) (Nat.min (grt k) (hold (TQ d (dn d 8 2)) k (dn d 7 k))) (grt k)
def ger (x : Int32) : Prop := ∃ k : Nat, k < gN d ∧ x = nI k
noncomputable def rs_addSet (a b c s r : Int32) : Nat × Int := (cI (¬ (shf a ∧ shf b ∧ shf c)) (1, 0) (cI (a = b ∨ a = c ∨ b = c) (2, 0) (cI (s.toInt < 10 ∨ 40 < s.toInt) (2, 0) (cI (r.toInt ≤ s.toInt ∨ 100 < r.toInt) (2, 0) (cI (3 ≤ dn d 8 0) (3, 0) (0, (dn d 8 0 : Int) + 1))))))
noncomputable def rs_addBrake (a : Int32) : Nat × Int := (cI (¬ shf a) (1, 0) (cI (6 ≤ dn d 8 1) (2, 0) (0, (dn d 8 1 : Int))))
noncomputable def rs_addClutch (a b : Int32) : Nat × Int := (cI (¬ (shf a ∧ shf b)) (1, 0) (cI (a = b) (2, 0) (cI (6 ≤ dn d 8 1) (3, 0) (0, (dn d 8 1 : Int)))))
noncomputable def rs_setCapacity (x c : Int32) : Nat × Int := (cI (¬ elm d x) (1, 0) (cI (c.toInt < 1 ∨ 10000 < c.toInt) (2, 0) (0, (d 7 x.toInt.toNat).toInt)))
noncomputable def rs_count (x : Int32) : Nat × Int := (cI (x.toInt < 0 ∨ 2 < x.toInt) (1, 0) (cI (x.toInt = 0) (0, (dn d 8 0 : Int)) (cI (x.toInt = 1) (0, (dn d 8 1 : Int)) (0, (gN d : Int)))))
noncomputable def rs_engage (x : Int32) : Nat × Int := (cI (¬ elm d x) (1, 0) (cI ((dn d 8 2 ||| 2 ^ x.toInt.toNat) = dn d 8 2) (0, 0) (0, 1)))
noncomputable def rs_release (x : Int32) : Nat × Int := (cI (¬ elm d x) (1, 0) (cI (cl1 (dn d 8 2) x.toInt.toNat = dn d 8 2) (0, 0) (0, 1)))
noncomputable def rs_select (x : Int32) : Nat × Int := (cI (¬ msk d x) (1, 0) (0, (dn d 8 2 : Int)))
noncomputable def rs_brakesOnly : Int := (cI (∃ k, k < dn d 8 1 ∧ (dn d 8 2).testBit k = true ∧ ¬ d 6 k = -1) 0 1)
noncomputable def rs_speed (x pt : Int32) : Nat × Int := (cI (¬ shf x) (1, 0) (cI (¬ prt pt) (2, 0) (cI (¬ (Solv (SP d (dn d 8 2)) ∧ DetS (SP d (dn d 8 2)) x.toInt.toNat)) (3, 0) (0, if pt.toInt.toNat = 0 then vN (SP d (dn d 8 2)) x.toInt.toNat else vD (SP d (dn d 8 2)) x.toInt.toNat))))
noncomputable def rs_ratio (pt : Int32) : Nat × Int := (cI (¬ prt pt) (1, 0) (cI (¬ stM d (dn d 8 2) = 0) (2, 0) (0, if pt.toInt.toNat = 0 then rtN (SP d (dn d 8 2)) else rtD (SP d (dn d 8 2)))))
noncomputable def rs_outputTorque (pt : Int32) : Nat × Int := (cI (¬ prt pt) (1, 0) (cI (¬ (Solv (TQ d (dn d 8 2)) ∧ DetS (TQ d (dn d 8 2)) 0)) (2, 0) (0, if pt.toInt.toNat = 0 then vN (TQ d (dn d 8 2)) 0 else vD (TQ d (dn d 8 2)) 0)))
noncomputable def rs_torque (x pt : Int32) : Nat × Int := (cI (¬ elm d x) (1, 0) (cI (¬ prt pt) (2, 0) (cI (¬ (dn d 8 2).testBit x.toInt.toNat = true) (3, 0) (cI (¬ (Solv (TQ d (dn d 8 2)) ∧ DetS (TQ d (dn d 8 2)) (4 + x.toInt.toNat))) (3, 0) (0, if pt.toInt.toNat = 0 then vN (TQ d (dn d 8 2)) (4 + x.toInt.toNat) else vD (TQ d (dn d 8 2)) (4 + x.toInt.toNat))))))
noncomputable def rs_slipping (x : Int32) : Nat × Int := (cI (x.toInt < 1 ∨ 10000 < x.toInt) (1, 0) (0, (slp d x.toInt 6 : Int)))
noncomputable def rs_greatest : Nat × Int := (cI (¬ stM d (dn d 8 2) = 0) (1, 0) (0, (grt d 6 : Int)))
noncomputable def rs_gear (x : Int32) : Nat × Int := (cI (¬ ger d x) (1, 0) (0, (gF d x.toInt.toNat : Int)))
noncomputable def rs_indexOf (x : Int32) : Nat × Int := (cI (¬ msk d x) (1, 0) (cI (∃ k, k < gN d ∧ (gF d k : Int) = x.toInt) (0, (lstF (fun k => (gF d k : Int) = x.toInt) (gN d) : Int)) (0, -1)))
noncomputable def rs_gearRatio (x pt : Int32) : Nat × Int := (cI (¬ ger d x) (1, 0) (cI (¬ prt pt) (2, 0) (0, if pt.toInt.toNat = 0 then rtN (SP d (gF d x.toInt.toNat)) else rtD (SP d (gF d x.toInt.toNat)))))
noncomputable def rs_fewest (a b : Int32) : Nat × Int := (cI (¬ (ger d a ∧ ger d b)) (1, 0) (0, dD (gF d) (gN d) b.toInt.toNat (gN d - 1) a.toInt.toNat))
noncomputable def rs_shift (a b x : Int32) : Nat × Int := (cI (¬ (ger d a ∧ ger d b)) (1, 0) (cI (x.toInt < 0 ∨ dD (gF d) (gN d) b.toInt.toNat (gN d - 1) a.toInt.toNat < x.toInt) (0, -1) (0, (wkF (gF d) (gN d) (dD (gF d) (gN d) b.toInt.toNat (gN d - 1)) a.toInt.toNat x.toInt.toNat : Int))))
end RS
set_option maxHeartbeats 4000000 in
set_option maxRecDepth 100000 in
theorem c_X6_isShaft (l : Launch) (x : Int32)  : Met l yX6_isShaft (.code yX6_isShaft cX6_isShaft 1 (some .boolean) :: TB) ({ frames := 0, cells := 0, slots := 0, locals := 0 } : Room) (va_Pc [.int x] (fun _ => True)) (va_Qi (fun (z : Int32) (_ : Unit) => z = bI (shf x)) (fun _ _ => True) (fun _ => False)) 0 0 (fun _ => False) := by
  refine Met.ofW (cc := cX6_isShaft) (maxL := 1) (ret := (some .boolean)) (by decide) rfl ?_
  intro p e s m args below meth c s₁ B hml hv
  obtain ⟨rfl, -⟩ := hv
  have hx := B.exec
  have hb := B.bytes
  have hr := B.returns
  have hts := hts_tl (atoms_spec (ws := (.code yX6_isShaft cX6_isShaft 1 (some .boolean) :: TB)) B.pre)
  have hown : s.vm.findClass RX6 = some m.cls := findClass_of_methodNamed B.named
  have hlocks := B.notSynchronized
  have hA : ∀ q : Nat, q < s.heap.size → (fun _ : Nat => False) q → False := fun _ _ h => h
  have hS : va_S (fun _ => False) s.heap s.heap [] := va_S.rf
  have hl := lv_entry ([.int x]) (n := 1) (Nat.le_of_ble_eq_true rfl)
  rw [lg_entry_eq]
  generalize (lg_sl ([.int x]) ++ List.replicate (1 - (lg_sl ([.int x])).length) Slot.unset).toArray = ls at hl ⊢
  have hl : lv_has ls 1 [(0, .int x)] := hl
  refine lv_iload_n hx hb dX6_isShaft_0 rfl (lv_at hl 0 rfl) ?_
  refine b_if_lt hx hb rfl dX6_isShaft_1 (tgt := 14) (by decide) (fun c1 => ?_) (fun c1 => ?_)
  · refine lv_iconst (v := nI 0) hx hb dX6_isShaft_14 (by decide) ?_
    exact W.zret (v := nI 0) hx hb hr (by decide) (fun t9 ht9 hW => ⟨⟨nI 0, (), rfl, bI_f (fun h9 => by have h8 := shf_iff.mp h9; omega), trivial⟩, hS.F ht9⟩) hS.2.2 dX6_isShaft_15
  refine lv_iload_n hx hb dX6_isShaft_4 rfl (lv_at hl 0 rfl) ?_
  refine lv_bipush (v := nI 6) hx hb dX6_isShaft_5 (by decide) ?_
  refine b_icmp_ge hx hb rfl (nI_toIntI (by omega)) dX6_isShaft_7 (tgt := 14) (by decide) (fun c7 => ?_) (fun c7 => ?_)
  · refine lv_iconst (v := nI 0) hx hb dX6_isShaft_14 (by decide) ?_
    exact W.zret (v := nI 0) hx hb hr (by decide) (fun t9 ht9 hW => ⟨⟨nI 0, (), rfl, bI_f (fun h9 => by have h8 := shf_iff.mp h9; omega), trivial⟩, hS.F ht9⟩) hS.2.2 dX6_isShaft_15
  refine lv_iconst (v := nI 1) hx hb dX6_isShaft_10 (by decide) ?_
  refine lv_goto (tgt := 15) hx hb dX6_isShaft_11 (by decide) ?_
  exact W.zret (v := nI 1) hx hb hr (by decide) (fun t9 ht9 hW => ⟨⟨nI 1, (), rfl, bI_t (shf_iff.mpr (by omega)), trivial⟩, hS.F ht9⟩) hS.2.2 dX6_isShaft_15
set_option maxHeartbeats 4000000 in
set_option maxRecDepth 100000 in
theorem c_X6_isPart (l : Launch) (x : Int32)  : Met l yX6_isPart (.code yX6_isPart cX6_isPart 1 (some .boolean) :: TB) ({ frames := 0, cells := 0, slots := 0, locals := 0 } : Room) (va_Pc [.int x] (fun _ => True)) (va_Qi (fun (z : Int32) (_ : Unit) => z = bI (prt x)) (fun _ _ => True) (fun _ => False)) 0 0 (fun _ => False) := by
  refine Met.ofW (cc := cX6_isPart) (maxL := 1) (ret := (some .boolean)) (by decide) rfl ?_
  intro p e s m args below meth c s₁ B hml hv
  obtain ⟨rfl, -⟩ := hv
  have hx := B.exec
  have hb := B.bytes
  have hr := B.returns
  have hts := hts_tl (atoms_spec (ws := (.code yX6_isPart cX6_isPart 1 (some .boolean) :: TB)) B.pre)
  have hown : s.vm.findClass RX6 = some m.cls := findClass_of_methodNamed B.named
  have hlocks := B.notSynchronized
  have hA : ∀ q : Nat, q < s.heap.size → (fun _ : Nat => False) q → False := fun _ _ h => h
  have hS : va_S (fun _ => False) s.heap s.heap [] := va_S.rf
  have hl := lv_entry ([.int x]) (n := 1) (Nat.le_of_ble_eq_true rfl)
  rw [lg_entry_eq]
  generalize (lg_sl ([.int x]) ++ List.replicate (1 - (lg_sl ([.int x])).length) Slot.unset).toArray = ls at hl ⊢
  have hl : lv_has ls 1 [(0, .int x)] := hl
  refine lv_iload_n hx hb dX6_isPart_0 rfl (lv_at hl 0 rfl) ?_
  refine b_if_eq hx hb rfl dX6_isPart_1 (tgt := 9) (by decide) (fun c1 => ?_) (fun c1 => ?_)
  · refine lv_iconst (v := nI 1) hx hb dX6_isPart_9 (by decide) ?_
    refine lv_goto (tgt := 14) hx hb dX6_isPart_10 (by decide) ?_
    exact W.zret (v := nI 1) hx hb hr (by decide) (fun t9 ht9 hW => ⟨⟨nI 1, (), rfl, bI_t (prt_iff.mpr (by omega)), trivial⟩, hS.F ht9⟩) hS.2.2 dX6_isPart_14
  refine lv_iload_n hx hb dX6_isPart_4 rfl (lv_at hl 0 rfl) ?_
  refine lv_iconst (v := nI 1) hx hb dX6_isPart_5 (by decide) ?_
  refine b_icmp_ne hx hb rfl (nI_toIntI (by omega)) dX6_isPart_6 (tgt := 13) (by decide) (fun c6 => ?_) (fun c6 => ?_)
  · refine lv_iconst (v := nI 0) hx hb dX6_isPart_13 (by decide) ?_
    exact W.zret (v := nI 0) hx hb hr (by decide) (fun t9 ht9 hW => ⟨⟨nI 0, (), rfl, bI_f (fun h9 => by have h8 := prt_iff.mp h9; omega), trivial⟩, hS.F ht9⟩) hS.2.2 dX6_isPart_14
  refine lv_iconst (v := nI 1) hx hb dX6_isPart_9 (by decide) ?_
  refine lv_goto (tgt := 14) hx hb dX6_isPart_10 (by decide) ?_
  exact W.zret (v := nI 1) hx hb hr (by decide) (fun t9 ht9 hW => ⟨⟨nI 1, (), rfl, bI_t (prt_iff.mpr (by omega)), trivial⟩, hS.F ht9⟩) hS.2.2 dX6_isPart_14
