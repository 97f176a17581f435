/-! The law's own methods: what they do with an answer and with what is thrown; its 36 cases. -/
theorem zcall_K {x x' : zR} {f : Option zV → zS → zR} {g : Nat → zS → zR} {r : zO × zS} (hx : ∀ q, x = some q → x' = some q) (h : zcall x f g = some r) : zcall x' f g = some r := by
  rcases zcall_inv h with ⟨v, S, h1, h2⟩ | ⟨e, S, h1, h2⟩
  · rw [hx _ h1]; exact h2
  · rw [hx _ h1]; exact h2
theorem zretn_K {x x' : zR} {f : Option zV → zS → zR} {r : zO × zS} (hx : ∀ q, x = some q → x' = some q) (h : zretn f x = some r) : zretn f x' = some r := by
  obtain ⟨v, S, h1, h2⟩ := zretn_inv h
  rw [hx _ h1]; exact h2
theorem zstep_K {K K' : Nat → List zV → zS → zR} (hK : ∀ y as S q, K y as S = some q → K' y as S = some q) {hs : List (Nat × Nat × Nat × Nat)} {rt : Nat} {ins : Instr} {n a b c pc : Nat} {ls st : List zV} {S : zS} {k : zC} {r : zO × zS} (h : zstep K hs rt ins n a b c pc ls st S k = some r) : zstep K' hs rt ins n a b c pc ls st S k = some r := by
  cases ins with
  | invokestatic i =>
    by_cases c0 : c = 0
    · subst c0
      simp only [zstep] at h
      obtain ⟨hc, h⟩ := bif_inv h
      rcases zcall_inv h with ⟨v, S1, e, h⟩ | ⟨x, S1, e, h⟩
      · simp only [zstep, hc, hK _ _ _ _ e, zcall]; exact h
      · simp only [zstep, hc, hK _ _ _ _ e, zcall]; exact h
    · by_cases c1 : c = 1
      · subst c1
        simp only [zstep] at h
        obtain ⟨hc, h⟩ := bif_inv h
        obtain ⟨v, S1, e, h⟩ := zretn_inv h
        simp only [zstep, hc, hK _ _ _ _ e, zretn]; exact h
      · rcases c with _ | _ | c
        · exact absurd rfl c0
        · exact absurd rfl c1
        · rcases c with _ | _ | c
          · exact h
          · exact h
          · exact h
  | invokevirtual i =>
    simp only [zstep] at h
    split at h
    · rename_i hd
      obtain ⟨hc, h⟩ := bif_inv h
      obtain ⟨hq, h⟩ := zchk_inv h
      rcases zcall_inv h with ⟨v, S1, e, h⟩ | ⟨x, S1, e, h⟩
      · simp only [zstep, hd, hc, zchk_pos hq, hK _ _ _ _ e, zcall]; exact h
      · simp only [zstep, hd, hc, zchk_pos hq, hK _ _ _ _ e, zcall]; exact h
    · cases h
  | invokespecial i =>
    by_cases c0 : c = 0
    · subst c0
      exact h
    · rcases c with _ | c
      · exact absurd rfl c0
      · simp only [zstep] at h
        split at h
        · rename_i hd
          obtain ⟨hc, h⟩ := bif_inv h
          obtain ⟨hq, h⟩ := zchk_inv h
          obtain ⟨v, S1, e, h⟩ := zretn_inv h
          simp only [zstep, hd, hc, zchk_pos hq, hK _ _ _ _ e, zretn]; exact h
        · cases h
  | if_acmp cd w => cases cd <;> exact h
  | _ => exact h
theorem zrun_K {T : Nat → zE} {K K' : Nat → List zV → zS → zR} (hg : zgood K) (hK : ∀ y as S q, K y as S = some q → K' y as S = some q) {hs : List (Nat × Nat × Nat × Nat)} {rt : Nat} : ∀ (f : Nat) (pc : Nat) (ls st : List zV) (S : zS) (r : zO × zS), zrun T K hs rt f pc ls st S = some r → zrun T K' hs rt f pc ls st S = some r
  | 0, _, _, _, _, _, h => by cases h
  | f + 1, pc, ls, st, S, r, h => by
    simp only [zrun] at h ⊢
    rcases zstep_at hg h with ⟨-, h1⟩ | ⟨p, l, t, S1, -, h2, h3⟩
    · exact zstep_K hK (h1 _)
    · exact zstep_K hK (h3 _ (zrun_K hg hK f p l t S1 r h2))
theorem zcallE_K (T : Nat → Nat → zE) (M : Nat → zMi) : ∀ (d y : Nat) (as : List zV) (S : zS) (q : zO × zS), zcallE T M d y as S = some q → zcallE T M (d + 1) y as S = some q
  | 0, y, as, S, q, h => by cases h
  | d + 1, y, as, S, q, h => by
    simp only [zcallE] at h
    obtain ⟨h1, h⟩ := bif_inv h
    obtain ⟨f, hf⟩ := (zE0_iff (zgood_call T M d)).mp h
    have h2 := (zE0_iff (zgood_call T M (d + 1))).mpr ⟨f, zrun_K (zgood_call T M d) (zcallE_K T M d) f _ _ _ _ _ hf⟩
    show (bif Nat.ble (zargs as).length (M y).2.2.1 then zE0 (T y) (zcallE T M (d + 1)) (M y).2.2.2.2 (zrt (M y)) 0 (zargs as ++ List.replicate ((M y).2.2.1 - (zargs as).length) vu) [] S else none) = some q
    rw [h1]
    exact h2
theorem zD_up {d y : Nat} {as : List zV} {S : zS} {q : zO × zS} (h : zD d y as S = some q) : zD (d + 1) y as S = some q := zcallE_K _ _ d y as S q h
/-- what the law needs of a state -/
def qLs (S : zS) (L : Int) : Prop := zk S 1 = (40, L) ∧ zk S 3 = (32, 0) ∧ zk S 37 = (33, 0) ∧ zk S 102 = (1, 1)
theorem qLs_k {S S1 : zS} {L : Int} (h : qLs S L) (k : qKs S S1) : qLs S1 L := ⟨by rw [k.2 1 (by decide)]; exact h.1, by rw [k.2 3 (by decide)]; exact h.2.1, by rw [k.2 37 (by decide)]; exact h.2.2.1, by rw [k.2 102 (by decide)]; exact h.2.2.2⟩
theorem qKs_o {S S1 : zS} (k : qKs S S1) (o : Int) : qKs S (qo S1 o) := ⟨by show qu (zm S1) 102 0 o 1 = _; rw [qu_o _ _ _ _ _ (by decide)]; exact k.1, k.2⟩
theorem qKs_r (S : zS) : qKs S S := ⟨rfl, fun _ _ => rfl⟩
/-- both answer alike: the class, and the reference behind what the law writes -/
def qUn (g : Int → zV) (w : Int → Int) (Q : zS → Prop) (S : zS) (R : zR) (F : zS → zR) (ps : Nat → Int) : Prop :=
  (∃ v S1, R = some (.inl (some (g v)), S1) ∧ qKs S S1 ∧ ∃ S2, F (qo S1 (w v)) = some (.inl (some (g v)), S2) ∧ qKs S S2 ∧ zm S2 37 0 = 0 ∧ zm S2 102 0 = w v ∧ Q S2) ∨
  ∃ x v S1 S2, R = some (.inr x, S1) ∧ qKs S S1 ∧ F S1 = some (.inl (some (g v)), S2) ∧ qKs S S2 ∧ zm S2 37 0 = ps x ∧ ps x ≠ 0 ∧ Q S2
/-- the same where nothing is thrown -/
def qUn0 (Q : zS → Prop) (S : zS) (R : zR) (F : zS → zR) : Prop :=
  ∃ v S1 S2, R = some (.inl (some (vi v)), S1) ∧ qKs S S1 ∧ F S1 = some (.inl (some (vi v)), S2) ∧ qKs S S2 ∧ Q S2
def qid (v : Int) : Int := v
def qtf01 (v : Int) : Int := if v = 0 then 0 else 1
theorem zcmp_s (v : Int) : zcmp v v = 0 := by
  unfold zcmp
  rw [if_neg (Int.lt_irrefl v), if_pos rfl]
theorem r_thrown (d : Nat) (S : zS) (h : 1 ≤ d) (hk : zk S 37 = (33, 0)) : zD d 181 [vr 37] S = some (.inl (some (vi (zm S 37 0))), S) := by
  obtain ⟨e, rfl, -⟩ := qd h
  simp (config := { maxSteps := 2000000 }) (disch := first | omega | (simp only [hk, qb_in, qkW, qmW, qnW, true_and, and_true, or_self, true_or, or_true, and_self]; done) | (simp only [hk, qb_in, qkW, qmW, qnW, true_and, and_true, or_self, true_or, or_true, and_self]; omega)) only [zD_181, b181_0, qcall_l, qcall_r, qretn_l, qJ_s, qJ_n, qV0, qEx, ↓qif0, ↓zchk_pos, ↓reduceIte, qput, qWW, qmW, qkW, qnW, hk]
def qpsD (x : Nat) : Int := if x = 2 then 1 else if x = 0 then 2 else 0
def qpsE (x : Nat) : Int := if x = 2 then 1 else if x = 1 then 2 else 0
def qpsF (x : Nat) : Int := if x = 2 then 1 else 0
theorem qps3_c {x : Nat} (h : qps3 x ≠ 0) : x = 2 ∨ x = 0 ∨ x = 1 := by
  unfold qps3 at h
  by_cases c2 : x = 2
  · exact Or.inl c2
  rw [if_neg c2] at h
  by_cases c0 : x = 0
  · exact Or.inr (Or.inl c0)
  rw [if_neg c0] at h
  by_cases c1 : x = 1
  · exact Or.inr (Or.inr (c1))
  rw [if_neg c1] at h
  exact absurd rfl h
theorem qpsA_c {x : Nat} (h : qpsA x ≠ 0) : x = 0 ∨ x = 1 := by
  unfold qpsA at h
  by_cases c0 : x = 0
  · exact Or.inl c0
  rw [if_neg c0] at h
  by_cases c1 : x = 1
  · exact Or.inr (c1)
  rw [if_neg c1] at h
  exact absurd rfl h
theorem qpsB_c {x : Nat} (h : qpsB x ≠ 0) : x = 0 ∨ x = 2 ∨ x = 1 := by
  unfold qpsB at h
  by_cases c0 : x = 0
  · exact Or.inl c0
  rw [if_neg c0] at h
  by_cases c2 : x = 2
  · exact Or.inr (Or.inl c2)
  rw [if_neg c2] at h
  by_cases c1 : x = 1
  · exact Or.inr (Or.inr (c1))
  rw [if_neg c1] at h
  exact absurd rfl h
theorem qpsK_c {x : Nat} (h : qpsK x ≠ 0) : x = 1 := by
  unfold qpsK at h
  by_cases c1 : x = 1
  · exact c1
  rw [if_neg c1] at h
  exact absurd rfl h
theorem qpsD_c {x : Nat} (h : qpsD x ≠ 0) : x = 2 ∨ x = 0 := by
  unfold qpsD at h
  by_cases c2 : x = 2
  · exact Or.inl c2
  rw [if_neg c2] at h
  by_cases c0 : x = 0
  · exact Or.inr (c0)
  rw [if_neg c0] at h
  exact absurd rfl h
theorem qpsE_c {x : Nat} (h : qpsE x ≠ 0) : x = 2 ∨ x = 1 := by
  unfold qpsE at h
  by_cases c2 : x = 2
  · exact Or.inl c2
  rw [if_neg c2] at h
  by_cases c1 : x = 1
  · exact Or.inr (c1)
  rw [if_neg c1] at h
  exact absurd rfl h
theorem qpsF_c {x : Nat} (h : qpsF x ≠ 0) : x = 2 := by
  unfold qpsF at h
  by_cases c2 : x = 2
  · exact c2
  rw [if_neg c2] at h
  exact absurd rfl h
