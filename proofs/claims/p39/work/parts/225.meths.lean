/-! Each method's own words. -/
def zYok (q : Nat × Nat × Nat × Nat × Nat × Nat × Nat) : Bool :=
  decide ((zMt q.1).1.cls ≠ "java/lang/invoke/MethodHandle") && (decide ((zMt q.1).1.cls ≠ "java/lang/invoke/VarHandle") && (decide ((parseMethodDescriptor (zMt q.1).1.desc).map (fun d => d.parameters.length) = some q.2.1) && (Nat.ble (zMt q.1).2.2.1 70 &&
  (match q.2.2.1 with
  | 0 => decide (lw_tbl[q.2.2.2.2.2.1]? = some (Cond.static (zMt q.1).1))
  | 1 => decide (lw_tbl[q.2.2.2.2.2.1]? = some (Cond.instanceMethod (zMt q.1).1)) && (decide (lw_tbl[q.2.2.2.2.2.2]? = some (Cond.selects (zRX q.2.2.2.1) (zMt q.1).1 (zMt q.1).1)) && (Nat.blt q.2.2.2.1 13 && (zMt q.1).2.2.2.2.isEmpty))
  | _ => decide (lw_tbl[q.2.2.2.2.2.1]? = some (Cond.instanceMethod (zMt q.1).1)) && (decide ((zMt q.1).1.name = "<init>") && (decide ((zMt q.1).2.2.2.1 = none) && (zMt q.1).2.2.2.2.isEmpty))))))
def zOc (q : Nat × Nat × Nat × Nat × Nat × Nat × Nat) : Bool := zpU.any fun u => decide (zown u.1 = (zMt q.1).1.cls)
theorem zpY_0 : zpY0.all (fun q => zYok q && zOc q) = true := by decide +kernel
theorem zpY_60 : zpY60.all (fun q => zYok q && zOc q) = true := by decide +kernel
theorem zpY_120 : zpY120.all (fun q => zYok q && zOc q) = true := by decide +kernel
theorem zpY_180 : zpY180.all (fun q => zYok q && zOc q) = true := by decide +kernel
theorem zpY_ok : zpY.all (fun q => zYok q && zOc q) = true := by
  unfold zpY
  simp only [List.all_append, Bool.and_eq_true]
  exact ⟨zpY_0, zpY_60, zpY_120, zpY_180⟩
