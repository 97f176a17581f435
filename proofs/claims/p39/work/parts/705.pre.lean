/-! .. their signs. -/
theorem qsy_e {u t : Int → Int} {n : Int} (h : ∀ i, i < n → u i = t i) : qsy u n = qsy t n := by
  funext i
  unfold qsy
  by_cases c : 0 ≤ i ∧ i < n
  · rw [if_pos c, if_pos c, h i c.2]
  · rw [if_neg c, if_neg c]
