/-! Tapes that are the same as far as they are long. -/
theorem qsg_e {u t : Int → Int} {n : Int} (h : ∀ i, i < n → u i = t i) : qsg u n = qsg t n := by
  funext i
  unfold qsg
  by_cases c : i < n
  · rw [if_pos c, if_pos c, h i c]
  · rw [if_neg c, if_neg c]
theorem qfa_e {u t : Int → Int} : ∀ (f : Nat) (i st run : Int), (∀ j, j < i + f → u j = t j) → qfa u f i st run = qfa t f i st run
  | 0, i, st, run, _ => rfl
  | f + 1, i, st, run, h => by
    rw [qfa, qfa, h i (by omega), qfa_e f (i + 1) _ _ fun j hj => h j (by omega)]
theorem qtf_e {u t : Int → Int} {n : Int} (h : ∀ i, i < n → u i = t i) (hn : 0 ≤ n) : qtf u n = qtf t n := qfa_e n.toNat 0 0 0 fun j hj => h j (by omega)
