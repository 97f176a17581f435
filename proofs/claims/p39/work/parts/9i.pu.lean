/-! Methods that write nothing. -/
theorem z_pu2 (d y : Nat) (h : zinl zPUl y = true) (as : List zV) (S : zS) (q : zO × zS) (e : zD d y as S = some q) : (∃ v, q = (.inl v, S)) ∨ ∃ x, q = (.inr x, zbump S) := by
  obtain ⟨m, hm, h⟩ := z_pu d y h as S q e
  rw [hm rfl, qWS] at h
  exact h
