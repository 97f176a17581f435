/-! The plain world: states with contents, what calls give. -/
def qW (S : zS) (m : Int → Int → Int) : zS := (S.1, S.2.1, m)
def qu (m : Int → Int → Int) (a j v : Int) : Int → Int → Int := fun b i => if b = a then (if i = j then v else m b i) else m b i
theorem qput (S : zS) (a j v : Int) : zput S a j v = qW S (qu (zm S) a j v) := rfl
theorem qWW (S : zS) (m n : Int → Int → Int) : qW (qW S m) n = qW S n := rfl
theorem qWS (S : zS) : qW S (zm S) = S := rfl
theorem qmW (S : zS) (m : Int → Int → Int) : zm (qW S m) = m := rfl
theorem qkW (S : zS) (m : Int → Int → Int) : zk (qW S m) = zk S := rfl
theorem qnW (S : zS) (m : Int → Int → Int) : zn (qW S m) = zn S := rfl
theorem qcW (S : zS) (m : Int → Int → Int) : zc (qW S m) = zc S := rfl
theorem qwW (S : zS) (m : Int → Int → Int) : zw (qW S m) = zw S := rfl
theorem qu1 (m : Int → Int → Int) (a j v b i : Int) : qu m a j v b i = if b = a then (if i = j then v else m b i) else m b i := rfl
theorem qu_o (m : Int → Int → Int) (a j v b : Int) (h : b ≠ a) : qu m a j v b = m b := by
  funext i
  exact if_neg h
theorem qu_i (m : Int → Int → Int) (a j v i : Int) (h : i ≠ j) : qu m a j v a i = m a i := by
  show (if a = a then (if i = j then v else m a i) else m a i) = _
  rw [if_pos rfl, if_neg h]
theorem qu_s (m : Int → Int → Int) (a j v : Int) : qu m a j v a j = v := by
  show (if a = a then (if j = j then v else m a j) else m a j) = _
  rw [if_pos rfl, if_pos rfl]
theorem qcall_l (v : Option zV) (S : zS) (f : Option zV → zS → zR) (g : Nat → zS → zR) : zcall (some (.inl v, S)) f g = f v S := rfl
theorem qcall_r (e : Nat) (S : zS) (f : Option zV → zS → zR) (g : Nat → zS → zR) : zcall (some (.inr e, S)) f g = g e S := rfl
theorem qretn_l (v : Option zV) (S : zS) (f : Option zV → zS → zR) : zretn f (some (.inl v, S)) = f v S := rfl
theorem qJ_s (F : List zV → zS → zR) (st : List zV) (v : zV) (S : zS) : zJ F st (some v) S = F (v :: st) S := rfl
theorem qJ_n (F : List zV → zS → zR) (st : List zV) (S : zS) : zJ F st none S = F st S := rfl
theorem qV0 (F : zS → zR) (S : zS) : zV0 F none S = F S := rfl
theorem qEx (e : Nat) (S : zS) : zEx e S = some (.inr e, S) := rfl
theorem q32 {x : Int} (h : -2147483648 ≤ x ∧ x < 2147483648) : z32 x = x := by
  unfold z32
  omega
theorem q64 {x : Int} (h : -9223372036854775808 ≤ x ∧ x < 9223372036854775808) : z64 x = x := by
  unfold z64
  omega
def qb (p : Prop) [Decidable p] : Int := if p then 1 else 0
theorem qb_p {p : Prop} [Decidable p] (h : p) : qb p = 1 := if_pos h
theorem qb_n {p : Prop} [Decidable p] (h : ¬p) : qb p = 0 := if_neg h
theorem qb_0 (p : Prop) [Decidable p] : (qb p = 0) = ¬p := by
  unfold qb
  by_cases h : p
  · rw [if_pos h]
    exact propext ⟨fun e => absurd e (by decide), fun e => absurd h e⟩
  · rw [if_neg h]
    exact propext ⟨fun _ => h, fun _ => rfl⟩
theorem qb_1 (p : Prop) [Decidable p] : (qb p = 1) = p := by
  unfold qb
  by_cases h : p
  · rw [if_pos h]
    exact propext ⟨fun _ => h, fun _ => rfl⟩
  · rw [if_neg h]
    exact propext ⟨fun e => absurd e (by decide), fun e => absurd e h⟩
theorem qb_in (p : Prop) [Decidable p] : (0 ≤ qb p ∧ qb p ≤ 1) = True := by
  unfold qb
  by_cases h : p
  · rw [if_pos h]; decide
  · rw [if_neg h]; decide
theorem qchk_T (x : zR) : zchk True x = x := if_pos trivial
theorem qite_nn (p : Prop) [Decidable p] (a b : zR) : (if ¬p then a else b) = if p then b else a := by
  by_cases h : p
  · rw [if_neg (fun g => g h), if_pos h]
  · rw [if_pos h, if_neg h]
theorem qif0 (p : Prop) [Decidable p] (a b : zR) : (if qb p = 0 then a else b) = if p then b else a := by
  by_cases h : p
  · rw [if_pos h, if_neg (by rw [qb_p h]; decide)]
  · rw [if_neg h, if_pos (qb_n h)]
theorem qsome {a b : zV} {S : zS} (h : a = b) : (some (Sum.inl (some a), S) : zR) = some (.inl (some b), S) := by rw [h]
theorem qd {d n : Nat} (h : n + 1 ≤ d) : ∃ e, d = e + 1 ∧ n ≤ e := ⟨d - 1, by omega, by omega⟩
