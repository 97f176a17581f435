/-! Formulas on tapes that are the same as far as they are long. -/
theorem qfo_e {u t : Int → Int} {n : Int} (h : ∀ i, i < n → u i = t i) : ∀ (f : Nat) (i o a g due : Int), i + f ≤ n → qfo u n f i o a g due = qfo t n f i o a g due
  | 0, _, _, _, _, _, _ => rfl
  | f + 1, i, o, a, g, due, hi => by
    have e := fun o a g due => qfo_e h f (i + 1) o a g due (by omega)
    rw [qfo, qfo, h i (by omega)]
    simp only [e]
theorem qff1_e {u t : Int → Int} {n : Int} (h : ∀ i, i < n → u i = t i) (hn : 0 ≤ n) : qff1 u n = qff1 t n := qfo_e h n.toNat 0 0 0 0 1 (by omega)
