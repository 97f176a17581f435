/-! The law's own methods: what they do with an answer and with what is thrown; its 36 cases. -/
theorem zcall_K {x x' : zR} {f : Option zV → zS → zR} {g : Nat → zS → zR} {r : zO × zS} (hx : ∀ q, x = some q → x' = some q) (h : zcall x f g = some r) : zcall x' f g = some r := by
  rcases zcall_inv h with ⟨v, S, h1, h2⟩ | ⟨e, S, h1, h2⟩
  · rw [hx _ h1]; exact h2
  · rw [hx _ h1]; exact h2
theorem zretn_K {x x' : zR} {f : Option zV → zS → zR} {r : zO × zS} (hx : ∀ q, x = some q → x' = some q) (h : zretn f x = some r) : zretn f x' = some r := by
  obtain ⟨v, S, h1, h2⟩ := zretn_inv h
  rw [hx _ h1]; exact h2
theorem zstep_K {K K' : Nat → List zV → zS → zR} (hK : ∀ y as S q, K y as S = some q → K' y as S = some q) {hs : List (Nat × Nat × Nat × Nat)} {rt : Nat} {ins : Instr} {n a b c pc : Nat} {ls st : List zV} {S : zS} {k : zC} {r : zO × zS} (h : zstep K hs rt ins n a b c pc ls st S k = some r) : zstep K' hs rt ins n a b c pc ls st S k = some r := by
  cases ins with
  | invokestatic i =>
    by_cases c0 : c = 0
    · subst c0
      simp only [zstep] at h
      obtain ⟨hc, h⟩ := bif_inv h
      rcases zcall_inv h with ⟨v, S1, e, h⟩ | ⟨x, S1, e, h⟩
      · simp only [zstep, hc, hK _ _ _ _ e, zcall]; exact h
      · simp only [zstep, hc, hK _ _ _ _ e, zcall]; exact h
    · by_cases c1 : c = 1
      · subst c1
        simp only [zstep] at h
        obtain ⟨hc, h⟩ := bif_inv h
        obtain ⟨v, S1, e, h⟩ := zretn_inv h
        simp only [zstep, hc, hK _ _ _ _ e, zretn]; exact h
      · rcases c with _ | _ | c
        · exact absurd rfl c0
        · exact absurd rfl c1
        · rcases c with _ | _ | c
          · exact h
          · exact h
          · exact h
  | invokevirtual i =>
    simp only [zstep] at h
    split at h
    · rename_i hd
      obtain ⟨hc, h⟩ := bif_inv h
      obtain ⟨hq, h⟩ := zchk_inv h
      rcases zcall_inv h with ⟨v, S1, e, h⟩ | ⟨x, S1, e, h⟩
      · simp only [zstep, hd, hc, zchk_pos hq, hK _ _ _ _ e, zcall]; exact h
      · simp only [zstep, hd, hc, zchk_pos hq, hK _ _ _ _ e, zcall]; exact h
    · cases h
  | invokespecial i =>
    by_cases c0 : c = 0
    · subst c0
      exact h
    · rcases c with _ | c
      · exact absurd rfl c0
      · simp only [zstep] at h
        split at h
        · rename_i hd
          obtain ⟨hc, h⟩ := bif_inv h
          obtain ⟨hq, h⟩ := zchk_inv h
          obtain ⟨v, S1, e, h⟩ := zretn_inv h
          simp only [zstep, hd, hc, zchk_pos hq, hK _ _ _ _ e, zretn]; exact h
        · cases h
  | if_acmp cd w => cases cd <;> exact h
  | _ => exact h
theorem zrun_K {T : Nat → zE} {K K' : Nat → List zV → zS → zR} (hg : zgood K) (hK : ∀ y as S q, K y as S = some q → K' y as S = some q) {hs : List (Nat × Nat × Nat × Nat)} {rt : Nat} : ∀ (f : Nat) (pc : Nat) (ls st : List zV) (S : zS) (r : zO × zS), zrun T K hs rt f pc ls st S = some r → zrun T K' hs rt f pc ls st S = some r
  | 0, _, _, _, _, _, h => by cases h
  | f + 1, pc, ls, st, S, r, h => by
    simp only [zrun] at h ⊢
    rcases zstep_at hg h with ⟨-, h1⟩ | ⟨p, l, t, S1, -, h2, h3⟩
    · exact zstep_K hK (h1 _)
    · exact zstep_K hK (h3 _ (zrun_K hg hK f p l t S1 r h2))
theorem zcallE_K (T : Nat → Nat → zE) (M : Nat → zMi) : ∀ (d y : Nat) (as : List zV) (S : zS) (q : zO × zS), zcallE T M d y as S = some q → zcallE T M (d + 1) y as S = some q
  | 0, y, as, S, q, h => by cases h
  | d + 1, y, as, S, q, h => by
    simp only [zcallE] at h
    obtain ⟨h1, h⟩ := bif_inv h
    obtain ⟨f, hf⟩ := (zE0_iff (zgood_call T M d)).mp h
    have h2 := (zE0_iff (zgood_call T M (d + 1))).mpr ⟨f, zrun_K (zgood_call T M d) (zcallE_K T M d) f _ _ _ _ _ hf⟩
    show (bif Nat.ble (zargs as).length (M y).2.2.1 then zE0 (T y) (zcallE T M (d + 1)) (M y).2.2.2.2 (zrt (M y)) 0 (zargs as ++ List.replicate ((M y).2.2.1 - (zargs as).length) vu) [] S else none) = some q
    rw [h1]
    exact h2
theorem zD_up {d y : Nat} {as : List zV} {S : zS} {q : zO × zS} (h : zD d y as S = some q) : zD (d + 1) y as S = some q := zcallE_K _ _ d y as S q h
/-- what the law needs of a state -/
def qLs (S : zS) (L : Int) : Prop := zk S 1 = (40, L) ∧ zk S 3 = (32, 0) ∧ zk S 37 = (33, 0) ∧ zk S 102 = (1, 1)
theorem qLs_k {S S1 : zS} {L : Int} (h : qLs S L) (k : qKs S S1) : qLs S1 L := ⟨by rw [k.2 1 (by decide)]; exact h.1, by rw [k.2 3 (by decide)]; exact h.2.1, by rw [k.2 37 (by decide)]; exact h.2.2.1, by rw [k.2 102 (by decide)]; exact h.2.2.2⟩
theorem qKs_o {S S1 : zS} (k : qKs S S1) (o : Int) : qKs S (qo S1 o) := ⟨by show qu (zm S1) 102 0 o 1 = _; rw [qu_o _ _ _ _ _ (by decide)]; exact k.1, k.2⟩
theorem qKs_r (S : zS) : qKs S S := ⟨rfl, fun _ _ => rfl⟩
/-- both answer alike: the class, and the reference behind what the law writes -/
def qUn (g : Int → zV) (w : Int → Int) (Q : zS → Prop) (S : zS) (R : zR) (F : zS → zR) (ps : Nat → Int) : Prop :=
  (∃ v S1, R = some (.inl (some (g v)), S1) ∧ qKs S S1 ∧ ∃ S2, F (qo S1 (w v)) = some (.inl (some (g v)), S2) ∧ qKs S S2 ∧ zm S2 37 0 = 0 ∧ zm S2 102 0 = w v ∧ Q S2) ∨
  ∃ x v S1 S2, R = some (.inr x, S1) ∧ qKs S S1 ∧ F S1 = some (.inl (some (g v)), S2) ∧ qKs S S2 ∧ zm S2 37 0 = ps x ∧ ps x ≠ 0 ∧ Q S2
/-- the same where nothing is thrown -/
def qUn0 (Q : zS → Prop) (S : zS) (R : zR) (F : zS → zR) : Prop :=
  ∃ v S1 S2, R = some (.inl (some (vi v)), S1) ∧ qKs S S1 ∧ F S1 = some (.inl (some (vi v)), S2) ∧ qKs S S2 ∧ Q S2
def qid (v : Int) : Int := v
def qtf01 (v : Int) : Int := if v = 0 then 0 else 1
theorem zcmp_s (v : Int) : zcmp v v = 0 := by
  unfold zcmp
  rw [if_neg (Int.lt_irrefl v), if_pos rfl]
theorem r_thrown (d : Nat) (S : zS) (h : 1 ≤ d) (hk : zk S 37 = (33, 0)) : zD d 181 [vr 37] S = some (.inl (some (vi (zm S 37 0))), S) := by
  obtain ⟨e, rfl, -⟩ := qd h
  simp (config := { maxSteps := 2000000 }) (disch := first | omega | (simp only [hk, qb_in, qkW, qmW, qnW, true_and, and_true, or_self, true_or, or_true, and_self]; done) | (simp only [hk, qb_in, qkW, qmW, qnW, true_and, and_true, or_self, true_or, or_true, and_self]; omega)) only [zD_181, b181_0, qcall_l, qcall_r, qretn_l, qJ_s, qJ_n, qV0, qEx, ↓qif0, ↓zchk_pos, ↓reduceIte, qput, qWW, qmW, qkW, qnW, hk]
def qpsD (x : Nat) : Int := if x = 2 then 1 else if x = 0 then 2 else 0
def qpsE (x : Nat) : Int := if x = 2 then 1 else if x = 1 then 2 else 0
def qpsF (x : Nat) : Int := if x = 2 then 1 else 0
theorem qps3_c {x : Nat} (h : qps3 x ≠ 0) : x = 2 ∨ x = 0 ∨ x = 1 := by
  unfold qps3 at h
  by_cases c2 : x = 2
  · exact Or.inl c2
  rw [if_neg c2] at h
  by_cases c0 : x = 0
  · exact Or.inr (Or.inl c0)
  rw [if_neg c0] at h
  by_cases c1 : x = 1
  · exact Or.inr (Or.inr (c1))
  rw [if_neg c1] at h
  exact absurd rfl h
theorem qpsA_c {x : Nat} (h : qpsA x ≠ 0) : x = 0 ∨ x = 1 := by
  unfold qpsA at h
  by_cases c0 : x = 0
  · exact Or.inl c0
  rw [if_neg c0] at h
  by_cases c1 : x = 1
  · exact Or.inr (c1)
  rw [if_neg c1] at h
  exact absurd rfl h
theorem qpsB_c {x : Nat} (h : qpsB x ≠ 0) : x = 0 ∨ x = 2 ∨ x = 1 := by
  unfold qpsB at h
  by_cases c0 : x = 0
  · exact Or.inl c0
  rw [if_neg c0] at h
  by_cases c2 : x = 2
  · exact Or.inr (Or.inl c2)
  rw [if_neg c2] at h
  by_cases c1 : x = 1
  · exact Or.inr (Or.inr (c1))
  rw [if_neg c1] at h
  exact absurd rfl h
theorem qpsK_c {x : Nat} (h : qpsK x ≠ 0) : x = 1 := by
  unfold qpsK at h
  by_cases c1 : x = 1
  · exact c1
  rw [if_neg c1] at h
  exact absurd rfl h
theorem qpsD_c {x : Nat} (h : qpsD x ≠ 0) : x = 2 ∨ x = 0 := by
  unfold qpsD at h
  by_cases c2 : x = 2
  · exact Or.inl c2
  rw [if_neg c2] at h
  by_cases c0 : x = 0
  · exact Or.inr (c0)
  rw [if_neg c0] at h
  exact absurd rfl h
theorem qpsE_c {x : Nat} (h : qpsE x ≠ 0) : x = 2 ∨ x = 1 := by
  unfold qpsE at h
  by_cases c2 : x = 2
  · exact Or.inl c2
  rw [if_neg c2] at h
  by_cases c1 : x = 1
  · exact Or.inr (c1)
  rw [if_neg c1] at h
  exact absurd rfl h
theorem qpsF_c {x : Nat} (h : qpsF x ≠ 0) : x = 2 := by
  unfold qpsF at h
  by_cases c2 : x = 2
  · exact c2
  rw [if_neg c2] at h
  exact absurd rfl h
theorem qwr310 (e : Nat) (S S1 : zS) (a1 a3 : Int) (v : Int) (h3 : zk S 3 = (32, 0)) (h102 : zk S1 102 = (1, 1)) (r : zD e 115 [vr 3, vl a1, vi a3] S = some (.inl (some (vi v)), S1)) : zD (e + 1) 310 [vr 3, vl a1, vi a3, vr 102] S = some (.inl (some (vi 0)), qo S1 (qid v)) := by
  simp (config := { maxSteps := 2000000 }) (disch := first | omega | (simp only [h3, h102, qb_in, qkW, qmW, qnW, true_and, and_true, or_self, true_or, or_true, and_self]; done) | (simp only [h3, h102, qb_in, qkW, qmW, qnW, true_and, and_true, or_self, true_or, or_true, and_self]; omega)) only [zD_310, b310_0, b310_9, b310_14, b310_18, b310_22, qcall_l, qcall_r, qretn_l, qJ_s, qJ_n, qV0, qEx, ↓qif0, ↓zchk_pos, ↓reduceIte, qput, qWW, qmW, qkW, qnW, h3, h102, r]
  rfl
theorem qwt310 (e : Nat) (S S1 : zS) (a1 a3 : Int) (x : Nat) (hx : qpsA x ≠ 0) (h3 : zk S 3 = (32, 0)) (r : zD e 115 [vr 3, vl a1, vi a3] S = some (.inr x, S1)) : zD (e + 1) 310 [vr 3, vl a1, vi a3, vr 102] S = some (.inl (some (vi (qpsA x))), S1) := by
  rcases qpsA_c hx with rfl | rfl
  · have z : zthr [(0, 11, 14, 0), (0, 11, 18, 1)] 6 [vr 3, vl a1, vu, vi a3, vr 102, vu] (zF_310 e) 0 S1 = zF_310 e 14 [vr 3, vl a1, vu, vi a3, vr 102, vu] [vu] S1 := rfl
    show zD (e + 1) 310 [vr 3, vl a1, vi a3, vr 102] S = some (.inl (some (vi 1)), S1)
    simp (config := { maxSteps := 2000000 }) (disch := first | omega | (simp only [h3, qb_in, qkW, qmW, qnW, true_and, and_true, or_self, true_or, or_true, and_self]; done) | (simp only [h3, qb_in, qkW, qmW, qnW, true_and, and_true, or_self, true_or, or_true, and_self]; omega)) only [zD_310, b310_0, b310_9, b310_14, b310_18, b310_22, qcall_l, qcall_r, qretn_l, qJ_s, qJ_n, qV0, qEx, ↓qif0, ↓zchk_pos, ↓reduceIte, qput, qWW, qmW, qkW, qnW, h3, r, z]
  · have z : zthr [(0, 11, 14, 0), (0, 11, 18, 1)] 6 [vr 3, vl a1, vu, vi a3, vr 102, vu] (zF_310 e) 1 S1 = zF_310 e 18 [vr 3, vl a1, vu, vi a3, vr 102, vu] [vu] S1 := rfl
    show zD (e + 1) 310 [vr 3, vl a1, vi a3, vr 102] S = some (.inl (some (vi 2)), S1)
    simp (config := { maxSteps := 2000000 }) (disch := first | omega | (simp only [h3, qb_in, qkW, qmW, qnW, true_and, and_true, or_self, true_or, or_true, and_self]; done) | (simp only [h3, qb_in, qkW, qmW, qnW, true_and, and_true, or_self, true_or, or_true, and_self]; omega)) only [zD_310, b310_0, b310_9, b310_14, b310_18, b310_22, qcall_l, qcall_r, qretn_l, qJ_s, qJ_n, qV0, qEx, ↓qif0, ↓zchk_pos, ↓reduceIte, qput, qWW, qmW, qkW, qnW, h3, r, z]
theorem qwr311 (e : Nat) (S S1 : zS) (v : Int) (h3 : zk S 3 = (32, 0)) (h102 : zk S1 102 = (1, 1)) (r : zD e 118 [vr 3] S = some (.inl (some (vi v)), S1)) : zD (e + 1) 311 [vr 3, vr 102] S = some (.inl (some (vi 0)), qo S1 (qid v)) := by
  simp (config := { maxSteps := 2000000 }) (disch := first | omega | (simp only [h3, h102, qb_in, qkW, qmW, qnW, true_and, and_true, or_self, true_or, or_true, and_self]; done) | (simp only [h3, h102, qb_in, qkW, qmW, qnW, true_and, and_true, or_self, true_or, or_true, and_self]; omega)) only [zD_311, b311_0, b311_6, b311_11, b311_14, qcall_l, qcall_r, qretn_l, qJ_s, qJ_n, qV0, qEx, ↓qif0, ↓zchk_pos, ↓reduceIte, qput, qWW, qmW, qkW, qnW, h3, h102, r]
  rfl
theorem qwt311 (e : Nat) (S S1 : zS) (x : Nat) (hx : qpsK x ≠ 0) (h3 : zk S 3 = (32, 0)) (r : zD e 118 [vr 3] S = some (.inr x, S1)) : zD (e + 1) 311 [vr 3, vr 102] S = some (.inl (some (vi (qpsK x))), S1) := by
  obtain rfl := qpsK_c hx
  have z : zthr [(0, 8, 11, 1)] 3 [vr 3, vr 102, vu] (zF_311 e) 1 S1 = zF_311 e 11 [vr 3, vr 102, vu] [vu] S1 := rfl
  show zD (e + 1) 311 [vr 3, vr 102] S = some (.inl (some (vi 1)), S1)
  simp (config := { maxSteps := 2000000 }) (disch := first | omega | (simp only [h3, qb_in, qkW, qmW, qnW, true_and, and_true, or_self, true_or, or_true, and_self]; done) | (simp only [h3, qb_in, qkW, qmW, qnW, true_and, and_true, or_self, true_or, or_true, and_self]; omega)) only [zD_311, b311_0, b311_6, b311_11, b311_14, qcall_l, qcall_r, qretn_l, qJ_s, qJ_n, qV0, qEx, ↓qif0, ↓zchk_pos, ↓reduceIte, qput, qWW, qmW, qkW, qnW, h3, r, z]
theorem qwr312 (e : Nat) (S S1 : zS) (a1 a2 a3 a4 a5 : Int) (v : Int) (h3 : zk S 3 = (32, 0)) (h102 : zk S1 102 = (1, 1)) (r : zD e 119 [vr 3, vi a1, vi a2, vi a3, vi a4, vi a5] S = some (.inl (some (vi v)), S1)) : zD (e + 1) 312 [vr 3, vi a1, vi a2, vi a3, vi a4, vi a5, vr 102] S = some (.inl (some (vi 0)), qo S1 (qid v)) := by
  simp (config := { maxSteps := 2000000 }) (disch := first | omega | (simp only [h3, h102, qb_in, qkW, qmW, qnW, true_and, and_true, or_self, true_or, or_true, and_self]; done) | (simp only [h3, h102, qb_in, qkW, qmW, qnW, true_and, and_true, or_self, true_or, or_true, and_self]; omega)) only [zD_312, b312_0, b312_14, b312_19, b312_23, b312_27, b312_31, qcall_l, qcall_r, qretn_l, qJ_s, qJ_n, qV0, qEx, ↓qif0, ↓zchk_pos, ↓reduceIte, qput, qWW, qmW, qkW, qnW, h3, h102, r]
  rfl
theorem qwt312 (e : Nat) (S S1 : zS) (a1 a2 a3 a4 a5 : Int) (x : Nat) (hx : qps3 x ≠ 0) (h3 : zk S 3 = (32, 0)) (r : zD e 119 [vr 3, vi a1, vi a2, vi a3, vi a4, vi a5] S = some (.inr x, S1)) : zD (e + 1) 312 [vr 3, vi a1, vi a2, vi a3, vi a4, vi a5, vr 102] S = some (.inl (some (vi (qps3 x))), S1) := by
  rcases qps3_c hx with rfl | rfl | rfl
  · have z : zthr [(0, 16, 19, 2), (0, 16, 23, 0), (0, 16, 27, 1)] 11 [vr 3, vi a1, vi a2, vi a3, vi a4, vi a5, vr 102, vu] (zF_312 e) 2 S1 = zF_312 e 19 [vr 3, vi a1, vi a2, vi a3, vi a4, vi a5, vr 102, vu] [vu] S1 := rfl
    show zD (e + 1) 312 [vr 3, vi a1, vi a2, vi a3, vi a4, vi a5, vr 102] S = some (.inl (some (vi 1)), S1)
    simp (config := { maxSteps := 2000000 }) (disch := first | omega | (simp only [h3, qb_in, qkW, qmW, qnW, true_and, and_true, or_self, true_or, or_true, and_self]; done) | (simp only [h3, qb_in, qkW, qmW, qnW, true_and, and_true, or_self, true_or, or_true, and_self]; omega)) only [zD_312, b312_0, b312_14, b312_19, b312_23, b312_27, b312_31, qcall_l, qcall_r, qretn_l, qJ_s, qJ_n, qV0, qEx, ↓qif0, ↓zchk_pos, ↓reduceIte, qput, qWW, qmW, qkW, qnW, h3, r, z]
  · have z : zthr [(0, 16, 19, 2), (0, 16, 23, 0), (0, 16, 27, 1)] 11 [vr 3, vi a1, vi a2, vi a3, vi a4, vi a5, vr 102, vu] (zF_312 e) 0 S1 = zF_312 e 23 [vr 3, vi a1, vi a2, vi a3, vi a4, vi a5, vr 102, vu] [vu] S1 := rfl
    show zD (e + 1) 312 [vr 3, vi a1, vi a2, vi a3, vi a4, vi a5, vr 102] S = some (.inl (some (vi 2)), S1)
    simp (config := { maxSteps := 2000000 }) (disch := first | omega | (simp only [h3, qb_in, qkW, qmW, qnW, true_and, and_true, or_self, true_or, or_true, and_self]; done) | (simp only [h3, qb_in, qkW, qmW, qnW, true_and, and_true, or_self, true_or, or_true, and_self]; omega)) only [zD_312, b312_0, b312_14, b312_19, b312_23, b312_27, b312_31, qcall_l, qcall_r, qretn_l, qJ_s, qJ_n, qV0, qEx, ↓qif0, ↓zchk_pos, ↓reduceIte, qput, qWW, qmW, qkW, qnW, h3, r, z]
  · have z : zthr [(0, 16, 19, 2), (0, 16, 23, 0), (0, 16, 27, 1)] 11 [vr 3, vi a1, vi a2, vi a3, vi a4, vi a5, vr 102, vu] (zF_312 e) 1 S1 = zF_312 e 27 [vr 3, vi a1, vi a2, vi a3, vi a4, vi a5, vr 102, vu] [vu] S1 := rfl
    show zD (e + 1) 312 [vr 3, vi a1, vi a2, vi a3, vi a4, vi a5, vr 102] S = some (.inl (some (vi 3)), S1)
    simp (config := { maxSteps := 2000000 }) (disch := first | omega | (simp only [h3, qb_in, qkW, qmW, qnW, true_and, and_true, or_self, true_or, or_true, and_self]; done) | (simp only [h3, qb_in, qkW, qmW, qnW, true_and, and_true, or_self, true_or, or_true, and_self]; omega)) only [zD_312, b312_0, b312_14, b312_19, b312_23, b312_27, b312_31, qcall_l, qcall_r, qretn_l, qJ_s, qJ_n, qV0, qEx, ↓qif0, ↓zchk_pos, ↓reduceIte, qput, qWW, qmW, qkW, qnW, h3, r, z]
theorem qwr313 (e : Nat) (S S1 : zS) (v : Int) (h3 : zk S 3 = (32, 0)) (h102 : zk S1 102 = (1, 1)) (r : zD e 120 [vr 3] S = some (.inl (some (vi v)), S1)) : zD (e + 1) 313 [vr 3, vr 102] S = some (.inl (some (vi 0)), qo S1 (qid v)) := by
  simp (config := { maxSteps := 2000000 }) (disch := first | omega | (simp only [h3, h102, qb_in, qkW, qmW, qnW, true_and, and_true, or_self, true_or, or_true, and_self]; done) | (simp only [h3, h102, qb_in, qkW, qmW, qnW, true_and, and_true, or_self, true_or, or_true, and_self]; omega)) only [zD_313, b313_0, b313_6, b313_11, b313_14, b313_17, qcall_l, qcall_r, qretn_l, qJ_s, qJ_n, qV0, qEx, ↓qif0, ↓zchk_pos, ↓reduceIte, qput, qWW, qmW, qkW, qnW, h3, h102, r]
  rfl
theorem qwt313 (e : Nat) (S S1 : zS) (x : Nat) (hx : qpsA x ≠ 0) (h3 : zk S 3 = (32, 0)) (r : zD e 120 [vr 3] S = some (.inr x, S1)) : zD (e + 1) 313 [vr 3, vr 102] S = some (.inl (some (vi (qpsA x))), S1) := by
  rcases qpsA_c hx with rfl | rfl
  · have z : zthr [(0, 8, 11, 0), (0, 8, 14, 1)] 3 [vr 3, vr 102, vu] (zF_313 e) 0 S1 = zF_313 e 11 [vr 3, vr 102, vu] [vu] S1 := rfl
    show zD (e + 1) 313 [vr 3, vr 102] S = some (.inl (some (vi 1)), S1)
    simp (config := { maxSteps := 2000000 }) (disch := first | omega | (simp only [h3, qb_in, qkW, qmW, qnW, true_and, and_true, or_self, true_or, or_true, and_self]; done) | (simp only [h3, qb_in, qkW, qmW, qnW, true_and, and_true, or_self, true_or, or_true, and_self]; omega)) only [zD_313, b313_0, b313_6, b313_11, b313_14, b313_17, qcall_l, qcall_r, qretn_l, qJ_s, qJ_n, qV0, qEx, ↓qif0, ↓zchk_pos, ↓reduceIte, qput, qWW, qmW, qkW, qnW, h3, r, z]
  · have z : zthr [(0, 8, 11, 0), (0, 8, 14, 1)] 3 [vr 3, vr 102, vu] (zF_313 e) 1 S1 = zF_313 e 14 [vr 3, vr 102, vu] [vu] S1 := rfl
    show zD (e + 1) 313 [vr 3, vr 102] S = some (.inl (some (vi 2)), S1)
    simp (config := { maxSteps := 2000000 }) (disch := first | omega | (simp only [h3, qb_in, qkW, qmW, qnW, true_and, and_true, or_self, true_or, or_true, and_self]; done) | (simp only [h3, qb_in, qkW, qmW, qnW, true_and, and_true, or_self, true_or, or_true, and_self]; omega)) only [zD_313, b313_0, b313_6, b313_11, b313_14, b313_17, qcall_l, qcall_r, qretn_l, qJ_s, qJ_n, qV0, qEx, ↓qif0, ↓zchk_pos, ↓reduceIte, qput, qWW, qmW, qkW, qnW, h3, r, z]
theorem qwr314 (e : Nat) (S S1 : zS) (a1 a2 : Int) (v : Int) (h3 : zk S 3 = (32, 0)) (h102 : zk S1 102 = (1, 1)) (r : zD e 121 [vr 3, vi a1, vi a2] S = some (.inl (some (vi v)), S1)) : zD (e + 1) 314 [vr 3, vi a1, vi a2, vr 102] S = some (.inl (some (vi 0)), qo S1 (qid v)) := by
  simp (config := { maxSteps := 2000000 }) (disch := first | omega | (simp only [h3, h102, qb_in, qkW, qmW, qnW, true_and, and_true, or_self, true_or, or_true, and_self]; done) | (simp only [h3, h102, qb_in, qkW, qmW, qnW, true_and, and_true, or_self, true_or, or_true, and_self]; omega)) only [zD_314, b314_0, b314_8, b314_13, b314_17, b314_21, b314_25, qcall_l, qcall_r, qretn_l, qJ_s, qJ_n, qV0, qEx, ↓qif0, ↓zchk_pos, ↓reduceIte, qput, qWW, qmW, qkW, qnW, h3, h102, r]
  rfl
theorem qwt314 (e : Nat) (S S1 : zS) (a1 a2 : Int) (x : Nat) (hx : qps3 x ≠ 0) (h3 : zk S 3 = (32, 0)) (r : zD e 121 [vr 3, vi a1, vi a2] S = some (.inr x, S1)) : zD (e + 1) 314 [vr 3, vi a1, vi a2, vr 102] S = some (.inl (some (vi (qps3 x))), S1) := by
  rcases qps3_c hx with rfl | rfl | rfl
  · have z : zthr [(0, 10, 13, 2), (0, 10, 17, 0), (0, 10, 21, 1)] 5 [vr 3, vi a1, vi a2, vr 102, vu] (zF_314 e) 2 S1 = zF_314 e 13 [vr 3, vi a1, vi a2, vr 102, vu] [vu] S1 := rfl
    show zD (e + 1) 314 [vr 3, vi a1, vi a2, vr 102] S = some (.inl (some (vi 1)), S1)
    simp (config := { maxSteps := 2000000 }) (disch := first | omega | (simp only [h3, qb_in, qkW, qmW, qnW, true_and, and_true, or_self, true_or, or_true, and_self]; done) | (simp only [h3, qb_in, qkW, qmW, qnW, true_and, and_true, or_self, true_or, or_true, and_self]; omega)) only [zD_314, b314_0, b314_8, b314_13, b314_17, b314_21, b314_25, qcall_l, qcall_r, qretn_l, qJ_s, qJ_n, qV0, qEx, ↓qif0, ↓zchk_pos, ↓reduceIte, qput, qWW, qmW, qkW, qnW, h3, r, z]
  · have z : zthr [(0, 10, 13, 2), (0, 10, 17, 0), (0, 10, 21, 1)] 5 [vr 3, vi a1, vi a2, vr 102, vu] (zF_314 e) 0 S1 = zF_314 e 17 [vr 3, vi a1, vi a2, vr 102, vu] [vu] S1 := rfl
    show zD (e + 1) 314 [vr 3, vi a1, vi a2, vr 102] S = some (.inl (some (vi 2)), S1)
    simp (config := { maxSteps := 2000000 }) (disch := first | omega | (simp only [h3, qb_in, qkW, qmW, qnW, true_and, and_true, or_self, true_or, or_true, and_self]; done) | (simp only [h3, qb_in, qkW, qmW, qnW, true_and, and_true, or_self, true_or, or_true, and_self]; omega)) only [zD_314, b314_0, b314_8, b314_13, b314_17, b314_21, b314_25, qcall_l, qcall_r, qretn_l, qJ_s, qJ_n, qV0, qEx, ↓qif0, ↓zchk_pos, ↓reduceIte, qput, qWW, qmW, qkW, qnW, h3, r, z]
  · have z : zthr [(0, 10, 13, 2), (0, 10, 17, 0), (0, 10, 21, 1)] 5 [vr 3, vi a1, vi a2, vr 102, vu] (zF_314 e) 1 S1 = zF_314 e 21 [vr 3, vi a1, vi a2, vr 102, vu] [vu] S1 := rfl
    show zD (e + 1) 314 [vr 3, vi a1, vi a2, vr 102] S = some (.inl (some (vi 3)), S1)
    simp (config := { maxSteps := 2000000 }) (disch := first | omega | (simp only [h3, qb_in, qkW, qmW, qnW, true_and, and_true, or_self, true_or, or_true, and_self]; done) | (simp only [h3, qb_in, qkW, qmW, qnW, true_and, and_true, or_self, true_or, or_true, and_self]; omega)) only [zD_314, b314_0, b314_8, b314_13, b314_17, b314_21, b314_25, qcall_l, qcall_r, qretn_l, qJ_s, qJ_n, qV0, qEx, ↓qif0, ↓zchk_pos, ↓reduceIte, qput, qWW, qmW, qkW, qnW, h3, r, z]
theorem qwr315 (e : Nat) (S S1 : zS) (a1 a2 a3 : Int) (v : Int) (h3 : zk S 3 = (32, 0)) (h102 : zk S1 102 = (1, 1)) (r : zD e 122 [vr 3, vi a1, vi a2, vi a3] S = some (.inl (some (vi v)), S1)) : zD (e + 1) 315 [vr 3, vi a1, vi a2, vi a3, vr 102] S = some (.inl (some (vi 0)), qo S1 (qid v)) := by
  simp (config := { maxSteps := 2000000 }) (disch := first | omega | (simp only [h3, h102, qb_in, qkW, qmW, qnW, true_and, and_true, or_self, true_or, or_true, and_self]; done) | (simp only [h3, h102, qb_in, qkW, qmW, qnW, true_and, and_true, or_self, true_or, or_true, and_self]; omega)) only [zD_315, b315_0, b315_10, b315_15, b315_19, b315_23, b315_27, qcall_l, qcall_r, qretn_l, qJ_s, qJ_n, qV0, qEx, ↓qif0, ↓zchk_pos, ↓reduceIte, qput, qWW, qmW, qkW, qnW, h3, h102, r]
  rfl
theorem qwt315 (e : Nat) (S S1 : zS) (a1 a2 a3 : Int) (x : Nat) (hx : qps3 x ≠ 0) (h3 : zk S 3 = (32, 0)) (r : zD e 122 [vr 3, vi a1, vi a2, vi a3] S = some (.inr x, S1)) : zD (e + 1) 315 [vr 3, vi a1, vi a2, vi a3, vr 102] S = some (.inl (some (vi (qps3 x))), S1) := by
  rcases qps3_c hx with rfl | rfl | rfl
  · have z : zthr [(0, 12, 15, 2), (0, 12, 19, 0), (0, 12, 23, 1)] 7 [vr 3, vi a1, vi a2, vi a3, vr 102, vu] (zF_315 e) 2 S1 = zF_315 e 15 [vr 3, vi a1, vi a2, vi a3, vr 102, vu] [vu] S1 := rfl
    show zD (e + 1) 315 [vr 3, vi a1, vi a2, vi a3, vr 102] S = some (.inl (some (vi 1)), S1)
    simp (config := { maxSteps := 2000000 }) (disch := first | omega | (simp only [h3, qb_in, qkW, qmW, qnW, true_and, and_true, or_self, true_or, or_true, and_self]; done) | (simp only [h3, qb_in, qkW, qmW, qnW, true_and, and_true, or_self, true_or, or_true, and_self]; omega)) only [zD_315, b315_0, b315_10, b315_15, b315_19, b315_23, b315_27, qcall_l, qcall_r, qretn_l, qJ_s, qJ_n, qV0, qEx, ↓qif0, ↓zchk_pos, ↓reduceIte, qput, qWW, qmW, qkW, qnW, h3, r, z]
  · have z : zthr [(0, 12, 15, 2), (0, 12, 19, 0), (0, 12, 23, 1)] 7 [vr 3, vi a1, vi a2, vi a3, vr 102, vu] (zF_315 e) 0 S1 = zF_315 e 19 [vr 3, vi a1, vi a2, vi a3, vr 102, vu] [vu] S1 := rfl
    show zD (e + 1) 315 [vr 3, vi a1, vi a2, vi a3, vr 102] S = some (.inl (some (vi 2)), S1)
    simp (config := { maxSteps := 2000000 }) (disch := first | omega | (simp only [h3, qb_in, qkW, qmW, qnW, true_and, and_true, or_self, true_or, or_true, and_self]; done) | (simp only [h3, qb_in, qkW, qmW, qnW, true_and, and_true, or_self, true_or, or_true, and_self]; omega)) only [zD_315, b315_0, b315_10, b315_15, b315_19, b315_23, b315_27, qcall_l, qcall_r, qretn_l, qJ_s, qJ_n, qV0, qEx, ↓qif0, ↓zchk_pos, ↓reduceIte, qput, qWW, qmW, qkW, qnW, h3, r, z]
  · have z : zthr [(0, 12, 15, 2), (0, 12, 19, 0), (0, 12, 23, 1)] 7 [vr 3, vi a1, vi a2, vi a3, vr 102, vu] (zF_315 e) 1 S1 = zF_315 e 23 [vr 3, vi a1, vi a2, vi a3, vr 102, vu] [vu] S1 := rfl
    show zD (e + 1) 315 [vr 3, vi a1, vi a2, vi a3, vr 102] S = some (.inl (some (vi 3)), S1)
    simp (config := { maxSteps := 2000000 }) (disch := first | omega | (simp only [h3, qb_in, qkW, qmW, qnW, true_and, and_true, or_self, true_or, or_true, and_self]; done) | (simp only [h3, qb_in, qkW, qmW, qnW, true_and, and_true, or_self, true_or, or_true, and_self]; omega)) only [zD_315, b315_0, b315_10, b315_15, b315_19, b315_23, b315_27, qcall_l, qcall_r, qretn_l, qJ_s, qJ_n, qV0, qEx, ↓qif0, ↓zchk_pos, ↓reduceIte, qput, qWW, qmW, qkW, qnW, h3, r, z]
theorem qwr316 (e : Nat) (S S1 : zS) (a1 a2 : Int) (v : Int) (h3 : zk S 3 = (32, 0)) (h102 : zk S1 102 = (1, 1)) (r : zD e 123 [vr 3, vi a1, vi a2] S = some (.inl (some (vi v)), S1)) : zD (e + 1) 316 [vr 3, vi a1, vi a2, vr 102] S = some (.inl (some (vi 0)), qo S1 (qtf01 v)) := by
  unfold qtf01
  by_cases c : v = 0
  · rw [if_pos c]
    simp (config := { maxSteps := 2000000 }) (disch := first | omega | (simp only [h3, h102, qb_in, qkW, qmW, qnW, true_and, and_true, or_self, true_or, or_true, and_self]; done) | (simp only [h3, h102, qb_in, qkW, qmW, qnW, true_and, and_true, or_self, true_or, or_true, and_self]; omega)) only [zD_316, b316_0, b316_8, b316_11, b316_15, b316_16, b316_20, b316_24, b316_28, b316_32, qcall_l, qcall_r, qretn_l, qJ_s, qJ_n, qV0, qEx, ↓qif0, ↓zchk_pos, ↓reduceIte, qput, qWW, qmW, qkW, qnW, h3, h102, r, if_pos c, Int.reduceEq]
    rfl
  · rw [if_neg c]
    simp (config := { maxSteps := 2000000 }) (disch := first | omega | (simp only [h3, h102, qb_in, qkW, qmW, qnW, true_and, and_true, or_self, true_or, or_true, and_self]; done) | (simp only [h3, h102, qb_in, qkW, qmW, qnW, true_and, and_true, or_self, true_or, or_true, and_self]; omega)) only [zD_316, b316_0, b316_8, b316_11, b316_15, b316_16, b316_20, b316_24, b316_28, b316_32, qcall_l, qcall_r, qretn_l, qJ_s, qJ_n, qV0, qEx, ↓qif0, ↓zchk_pos, ↓reduceIte, qput, qWW, qmW, qkW, qnW, h3, h102, r, if_neg c, Int.reduceEq]
    rfl
theorem qwt316 (e : Nat) (S S1 : zS) (a1 a2 : Int) (x : Nat) (hx : qps3 x ≠ 0) (h3 : zk S 3 = (32, 0)) (r : zD e 123 [vr 3, vi a1, vi a2] S = some (.inr x, S1)) : zD (e + 1) 316 [vr 3, vi a1, vi a2, vr 102] S = some (.inl (some (vi (qps3 x))), S1) := by
  rcases qps3_c hx with rfl | rfl | rfl
  · have z : zthr [(0, 17, 20, 2), (0, 17, 24, 0), (0, 17, 28, 1)] 5 [vr 3, vi a1, vi a2, vr 102, vu] (zF_316 e) 2 S1 = zF_316 e 20 [vr 3, vi a1, vi a2, vr 102, vu] [vu] S1 := rfl
    show zD (e + 1) 316 [vr 3, vi a1, vi a2, vr 102] S = some (.inl (some (vi 1)), S1)
    simp (config := { maxSteps := 2000000 }) (disch := first | omega | (simp only [h3, qb_in, qkW, qmW, qnW, true_and, and_true, or_self, true_or, or_true, and_self]; done) | (simp only [h3, qb_in, qkW, qmW, qnW, true_and, and_true, or_self, true_or, or_true, and_self]; omega)) only [zD_316, b316_0, b316_8, b316_11, b316_15, b316_16, b316_20, b316_24, b316_28, b316_32, qcall_l, qcall_r, qretn_l, qJ_s, qJ_n, qV0, qEx, ↓qif0, ↓zchk_pos, ↓reduceIte, qput, qWW, qmW, qkW, qnW, h3, r, z]
  · have z : zthr [(0, 17, 20, 2), (0, 17, 24, 0), (0, 17, 28, 1)] 5 [vr 3, vi a1, vi a2, vr 102, vu] (zF_316 e) 0 S1 = zF_316 e 24 [vr 3, vi a1, vi a2, vr 102, vu] [vu] S1 := rfl
    show zD (e + 1) 316 [vr 3, vi a1, vi a2, vr 102] S = some (.inl (some (vi 2)), S1)
    simp (config := { maxSteps := 2000000 }) (disch := first | omega | (simp only [h3, qb_in, qkW, qmW, qnW, true_and, and_true, or_self, true_or, or_true, and_self]; done) | (simp only [h3, qb_in, qkW, qmW, qnW, true_and, and_true, or_self, true_or, or_true, and_self]; omega)) only [zD_316, b316_0, b316_8, b316_11, b316_15, b316_16, b316_20, b316_24, b316_28, b316_32, qcall_l, qcall_r, qretn_l, qJ_s, qJ_n, qV0, qEx, ↓qif0, ↓zchk_pos, ↓reduceIte, qput, qWW, qmW, qkW, qnW, h3, r, z]
  · have z : zthr [(0, 17, 20, 2), (0, 17, 24, 0), (0, 17, 28, 1)] 5 [vr 3, vi a1, vi a2, vr 102, vu] (zF_316 e) 1 S1 = zF_316 e 28 [vr 3, vi a1, vi a2, vr 102, vu] [vu] S1 := rfl
    show zD (e + 1) 316 [vr 3, vi a1, vi a2, vr 102] S = some (.inl (some (vi 3)), S1)
    simp (config := { maxSteps := 2000000 }) (disch := first | omega | (simp only [h3, qb_in, qkW, qmW, qnW, true_and, and_true, or_self, true_or, or_true, and_self]; done) | (simp only [h3, qb_in, qkW, qmW, qnW, true_and, and_true, or_self, true_or, or_true, and_self]; omega)) only [zD_316, b316_0, b316_8, b316_11, b316_15, b316_16, b316_20, b316_24, b316_28, b316_32, qcall_l, qcall_r, qretn_l, qJ_s, qJ_n, qV0, qEx, ↓qif0, ↓zchk_pos, ↓reduceIte, qput, qWW, qmW, qkW, qnW, h3, r, z]
theorem qwr317 (e : Nat) (S S1 : zS) (a1 a2 : Int) (v : Int) (h3 : zk S 3 = (32, 0)) (h102 : zk S1 102 = (1, 1)) (r : zD e 124 [vr 3, vi a1, vi a2] S = some (.inl (some (vi v)), S1)) : zD (e + 1) 317 [vr 3, vi a1, vi a2, vr 102] S = some (.inl (some (vi 0)), qo S1 (qid v)) := by
  simp (config := { maxSteps := 2000000 }) (disch := first | omega | (simp only [h3, h102, qb_in, qkW, qmW, qnW, true_and, and_true, or_self, true_or, or_true, and_self]; done) | (simp only [h3, h102, qb_in, qkW, qmW, qnW, true_and, and_true, or_self, true_or, or_true, and_self]; omega)) only [zD_317, b317_0, b317_8, b317_13, b317_17, b317_21, b317_25, qcall_l, qcall_r, qretn_l, qJ_s, qJ_n, qV0, qEx, ↓qif0, ↓zchk_pos, ↓reduceIte, qput, qWW, qmW, qkW, qnW, h3, h102, r]
  rfl
theorem qwt317 (e : Nat) (S S1 : zS) (a1 a2 : Int) (x : Nat) (hx : qps3 x ≠ 0) (h3 : zk S 3 = (32, 0)) (r : zD e 124 [vr 3, vi a1, vi a2] S = some (.inr x, S1)) : zD (e + 1) 317 [vr 3, vi a1, vi a2, vr 102] S = some (.inl (some (vi (qps3 x))), S1) := by
  rcases qps3_c hx with rfl | rfl | rfl
  · have z : zthr [(0, 10, 13, 2), (0, 10, 17, 0), (0, 10, 21, 1)] 5 [vr 3, vi a1, vi a2, vr 102, vu] (zF_317 e) 2 S1 = zF_317 e 13 [vr 3, vi a1, vi a2, vr 102, vu] [vu] S1 := rfl
    show zD (e + 1) 317 [vr 3, vi a1, vi a2, vr 102] S = some (.inl (some (vi 1)), S1)
    simp (config := { maxSteps := 2000000 }) (disch := first | omega | (simp only [h3, qb_in, qkW, qmW, qnW, true_and, and_true, or_self, true_or, or_true, and_self]; done) | (simp only [h3, qb_in, qkW, qmW, qnW, true_and, and_true, or_self, true_or, or_true, and_self]; omega)) only [zD_317, b317_0, b317_8, b317_13, b317_17, b317_21, b317_25, qcall_l, qcall_r, qretn_l, qJ_s, qJ_n, qV0, qEx, ↓qif0, ↓zchk_pos, ↓reduceIte, qput, qWW, qmW, qkW, qnW, h3, r, z]
  · have z : zthr [(0, 10, 13, 2), (0, 10, 17, 0), (0, 10, 21, 1)] 5 [vr 3, vi a1, vi a2, vr 102, vu] (zF_317 e) 0 S1 = zF_317 e 17 [vr 3, vi a1, vi a2, vr 102, vu] [vu] S1 := rfl
    show zD (e + 1) 317 [vr 3, vi a1, vi a2, vr 102] S = some (.inl (some (vi 2)), S1)
    simp (config := { maxSteps := 2000000 }) (disch := first | omega | (simp only [h3, qb_in, qkW, qmW, qnW, true_and, and_true, or_self, true_or, or_true, and_self]; done) | (simp only [h3, qb_in, qkW, qmW, qnW, true_and, and_true, or_self, true_or, or_true, and_self]; omega)) only [zD_317, b317_0, b317_8, b317_13, b317_17, b317_21, b317_25, qcall_l, qcall_r, qretn_l, qJ_s, qJ_n, qV0, qEx, ↓qif0, ↓zchk_pos, ↓reduceIte, qput, qWW, qmW, qkW, qnW, h3, r, z]
  · have z : zthr [(0, 10, 13, 2), (0, 10, 17, 0), (0, 10, 21, 1)] 5 [vr 3, vi a1, vi a2, vr 102, vu] (zF_317 e) 1 S1 = zF_317 e 21 [vr 3, vi a1, vi a2, vr 102, vu] [vu] S1 := rfl
    show zD (e + 1) 317 [vr 3, vi a1, vi a2, vr 102] S = some (.inl (some (vi 3)), S1)
    simp (config := { maxSteps := 2000000 }) (disch := first | omega | (simp only [h3, qb_in, qkW, qmW, qnW, true_and, and_true, or_self, true_or, or_true, and_self]; done) | (simp only [h3, qb_in, qkW, qmW, qnW, true_and, and_true, or_self, true_or, or_true, and_self]; omega)) only [zD_317, b317_0, b317_8, b317_13, b317_17, b317_21, b317_25, qcall_l, qcall_r, qretn_l, qJ_s, qJ_n, qV0, qEx, ↓qif0, ↓zchk_pos, ↓reduceIte, qput, qWW, qmW, qkW, qnW, h3, r, z]
theorem qwr318 (e : Nat) (S S1 : zS) (a1 a2 : Int) (v : Int) (h3 : zk S 3 = (32, 0)) (h102 : zk S1 102 = (1, 1)) (r : zD e 125 [vr 3, vi a1, vi a2] S = some (.inl (some (vl v)), S1)) : zD (e + 1) 318 [vr 3, vi a1, vi a2, vr 102] S = some (.inl (some (vi 0)), qo S1 (qid v)) := by
  simp (config := { maxSteps := 2000000 }) (disch := first | omega | (simp only [h3, h102, qb_in, qkW, qmW, qnW, true_and, and_true, or_self, true_or, or_true, and_self]; done) | (simp only [h3, h102, qb_in, qkW, qmW, qnW, true_and, and_true, or_self, true_or, or_true, and_self]; omega)) only [zD_318, b318_0, b318_8, b318_12, b318_16, b318_20, b318_24, qcall_l, qcall_r, qretn_l, qJ_s, qJ_n, qV0, qEx, ↓qif0, ↓zchk_pos, ↓reduceIte, qput, qWW, qmW, qkW, qnW, h3, h102, r]
  rfl
theorem qwt318 (e : Nat) (S S1 : zS) (a1 a2 : Int) (x : Nat) (hx : qps3 x ≠ 0) (h3 : zk S 3 = (32, 0)) (r : zD e 125 [vr 3, vi a1, vi a2] S = some (.inr x, S1)) : zD (e + 1) 318 [vr 3, vi a1, vi a2, vr 102] S = some (.inl (some (vi (qps3 x))), S1) := by
  rcases qps3_c hx with rfl | rfl | rfl
  · have z : zthr [(0, 9, 12, 2), (0, 9, 16, 0), (0, 9, 20, 1)] 5 [vr 3, vi a1, vi a2, vr 102, vu] (zF_318 e) 2 S1 = zF_318 e 12 [vr 3, vi a1, vi a2, vr 102, vu] [vu] S1 := rfl
    show zD (e + 1) 318 [vr 3, vi a1, vi a2, vr 102] S = some (.inl (some (vi 1)), S1)
    simp (config := { maxSteps := 2000000 }) (disch := first | omega | (simp only [h3, qb_in, qkW, qmW, qnW, true_and, and_true, or_self, true_or, or_true, and_self]; done) | (simp only [h3, qb_in, qkW, qmW, qnW, true_and, and_true, or_self, true_or, or_true, and_self]; omega)) only [zD_318, b318_0, b318_8, b318_12, b318_16, b318_20, b318_24, qcall_l, qcall_r, qretn_l, qJ_s, qJ_n, qV0, qEx, ↓qif0, ↓zchk_pos, ↓reduceIte, qput, qWW, qmW, qkW, qnW, h3, r, z]
  · have z : zthr [(0, 9, 12, 2), (0, 9, 16, 0), (0, 9, 20, 1)] 5 [vr 3, vi a1, vi a2, vr 102, vu] (zF_318 e) 0 S1 = zF_318 e 16 [vr 3, vi a1, vi a2, vr 102, vu] [vu] S1 := rfl
    show zD (e + 1) 318 [vr 3, vi a1, vi a2, vr 102] S = some (.inl (some (vi 2)), S1)
    simp (config := { maxSteps := 2000000 }) (disch := first | omega | (simp only [h3, qb_in, qkW, qmW, qnW, true_and, and_true, or_self, true_or, or_true, and_self]; done) | (simp only [h3, qb_in, qkW, qmW, qnW, true_and, and_true, or_self, true_or, or_true, and_self]; omega)) only [zD_318, b318_0, b318_8, b318_12, b318_16, b318_20, b318_24, qcall_l, qcall_r, qretn_l, qJ_s, qJ_n, qV0, qEx, ↓qif0, ↓zchk_pos, ↓reduceIte, qput, qWW, qmW, qkW, qnW, h3, r, z]
  · have z : zthr [(0, 9, 12, 2), (0, 9, 16, 0), (0, 9, 20, 1)] 5 [vr 3, vi a1, vi a2, vr 102, vu] (zF_318 e) 1 S1 = zF_318 e 20 [vr 3, vi a1, vi a2, vr 102, vu] [vu] S1 := rfl
    show zD (e + 1) 318 [vr 3, vi a1, vi a2, vr 102] S = some (.inl (some (vi 3)), S1)
    simp (config := { maxSteps := 2000000 }) (disch := first | omega | (simp only [h3, qb_in, qkW, qmW, qnW, true_and, and_true, or_self, true_or, or_true, and_self]; done) | (simp only [h3, qb_in, qkW, qmW, qnW, true_and, and_true, or_self, true_or, or_true, and_self]; omega)) only [zD_318, b318_0, b318_8, b318_12, b318_16, b318_20, b318_24, qcall_l, qcall_r, qretn_l, qJ_s, qJ_n, qV0, qEx, ↓qif0, ↓zchk_pos, ↓reduceIte, qput, qWW, qmW, qkW, qnW, h3, r, z]
theorem qwr319 (e : Nat) (S S1 : zS) (a1 a2 : Int) (v : Int) (h3 : zk S 3 = (32, 0)) (h102 : zk S1 102 = (1, 1)) (r : zD e 126 [vr 3, vi a1, vi a2] S = some (.inl (some (vl v)), S1)) : zD (e + 1) 319 [vr 3, vi a1, vi a2, vr 102] S = some (.inl (some (vi 0)), qo S1 (qid v)) := by
  simp (config := { maxSteps := 2000000 }) (disch := first | omega | (simp only [h3, h102, qb_in, qkW, qmW, qnW, true_and, and_true, or_self, true_or, or_true, and_self]; done) | (simp only [h3, h102, qb_in, qkW, qmW, qnW, true_and, and_true, or_self, true_or, or_true, and_self]; omega)) only [zD_319, b319_0, b319_8, b319_12, b319_16, b319_20, b319_24, qcall_l, qcall_r, qretn_l, qJ_s, qJ_n, qV0, qEx, ↓qif0, ↓zchk_pos, ↓reduceIte, qput, qWW, qmW, qkW, qnW, h3, h102, r]
  rfl
theorem qwt319 (e : Nat) (S S1 : zS) (a1 a2 : Int) (x : Nat) (hx : qps3 x ≠ 0) (h3 : zk S 3 = (32, 0)) (r : zD e 126 [vr 3, vi a1, vi a2] S = some (.inr x, S1)) : zD (e + 1) 319 [vr 3, vi a1, vi a2, vr 102] S = some (.inl (some (vi (qps3 x))), S1) := by
  rcases qps3_c hx with rfl | rfl | rfl
  · have z : zthr [(0, 9, 12, 2), (0, 9, 16, 0), (0, 9, 20, 1)] 5 [vr 3, vi a1, vi a2, vr 102, vu] (zF_319 e) 2 S1 = zF_319 e 12 [vr 3, vi a1, vi a2, vr 102, vu] [vu] S1 := rfl
    show zD (e + 1) 319 [vr 3, vi a1, vi a2, vr 102] S = some (.inl (some (vi 1)), S1)
    simp (config := { maxSteps := 2000000 }) (disch := first | omega | (simp only [h3, qb_in, qkW, qmW, qnW, true_and, and_true, or_self, true_or, or_true, and_self]; done) | (simp only [h3, qb_in, qkW, qmW, qnW, true_and, and_true, or_self, true_or, or_true, and_self]; omega)) only [zD_319, b319_0, b319_8, b319_12, b319_16, b319_20, b319_24, qcall_l, qcall_r, qretn_l, qJ_s, qJ_n, qV0, qEx, ↓qif0, ↓zchk_pos, ↓reduceIte, qput, qWW, qmW, qkW, qnW, h3, r, z]
  · have z : zthr [(0, 9, 12, 2), (0, 9, 16, 0), (0, 9, 20, 1)] 5 [vr 3, vi a1, vi a2, vr 102, vu] (zF_319 e) 0 S1 = zF_319 e 16 [vr 3, vi a1, vi a2, vr 102, vu] [vu] S1 := rfl
    show zD (e + 1) 319 [vr 3, vi a1, vi a2, vr 102] S = some (.inl (some (vi 2)), S1)
    simp (config := { maxSteps := 2000000 }) (disch := first | omega | (simp only [h3, qb_in, qkW, qmW, qnW, true_and, and_true, or_self, true_or, or_true, and_self]; done) | (simp only [h3, qb_in, qkW, qmW, qnW, true_and, and_true, or_self, true_or, or_true, and_self]; omega)) only [zD_319, b319_0, b319_8, b319_12, b319_16, b319_20, b319_24, qcall_l, qcall_r, qretn_l, qJ_s, qJ_n, qV0, qEx, ↓qif0, ↓zchk_pos, ↓reduceIte, qput, qWW, qmW, qkW, qnW, h3, r, z]
  · have z : zthr [(0, 9, 12, 2), (0, 9, 16, 0), (0, 9, 20, 1)] 5 [vr 3, vi a1, vi a2, vr 102, vu] (zF_319 e) 1 S1 = zF_319 e 20 [vr 3, vi a1, vi a2, vr 102, vu] [vu] S1 := rfl
    show zD (e + 1) 319 [vr 3, vi a1, vi a2, vr 102] S = some (.inl (some (vi 3)), S1)
    simp (config := { maxSteps := 2000000 }) (disch := first | omega | (simp only [h3, qb_in, qkW, qmW, qnW, true_and, and_true, or_self, true_or, or_true, and_self]; done) | (simp only [h3, qb_in, qkW, qmW, qnW, true_and, and_true, or_self, true_or, or_true, and_self]; omega)) only [zD_319, b319_0, b319_8, b319_12, b319_16, b319_20, b319_24, qcall_l, qcall_r, qretn_l, qJ_s, qJ_n, qV0, qEx, ↓qif0, ↓zchk_pos, ↓reduceIte, qput, qWW, qmW, qkW, qnW, h3, r, z]
theorem qwr320 (e : Nat) (S S1 : zS) (a1 : Int) (v : Int) (h3 : zk S 3 = (32, 0)) (h102 : zk S1 102 = (1, 1)) (r : zD e 128 [vr 3, vi a1] S = some (.inl (some (vi v)), S1)) : zD (e + 1) 320 [vr 3, vi a1, vr 102] S = some (.inl (some (vi 0)), qo S1 (qid v)) := by
  simp (config := { maxSteps := 2000000 }) (disch := first | omega | (simp only [h3, h102, qb_in, qkW, qmW, qnW, true_and, and_true, or_self, true_or, or_true, and_self]; done) | (simp only [h3, h102, qb_in, qkW, qmW, qnW, true_and, and_true, or_self, true_or, or_true, and_self]; omega)) only [zD_320, b320_0, b320_7, b320_12, b320_15, b320_18, qcall_l, qcall_r, qretn_l, qJ_s, qJ_n, qV0, qEx, ↓qif0, ↓zchk_pos, ↓reduceIte, qput, qWW, qmW, qkW, qnW, h3, h102, r]
  rfl
theorem qwt320 (e : Nat) (S S1 : zS) (a1 : Int) (x : Nat) (hx : qpsA x ≠ 0) (h3 : zk S 3 = (32, 0)) (r : zD e 128 [vr 3, vi a1] S = some (.inr x, S1)) : zD (e + 1) 320 [vr 3, vi a1, vr 102] S = some (.inl (some (vi (qpsA x))), S1) := by
  rcases qpsA_c hx with rfl | rfl
  · have z : zthr [(0, 9, 12, 0), (0, 9, 15, 1)] 4 [vr 3, vi a1, vr 102, vu] (zF_320 e) 0 S1 = zF_320 e 12 [vr 3, vi a1, vr 102, vu] [vu] S1 := rfl
    show zD (e + 1) 320 [vr 3, vi a1, vr 102] S = some (.inl (some (vi 1)), S1)
    simp (config := { maxSteps := 2000000 }) (disch := first | omega | (simp only [h3, qb_in, qkW, qmW, qnW, true_and, and_true, or_self, true_or, or_true, and_self]; done) | (simp only [h3, qb_in, qkW, qmW, qnW, true_and, and_true, or_self, true_or, or_true, and_self]; omega)) only [zD_320, b320_0, b320_7, b320_12, b320_15, b320_18, qcall_l, qcall_r, qretn_l, qJ_s, qJ_n, qV0, qEx, ↓qif0, ↓zchk_pos, ↓reduceIte, qput, qWW, qmW, qkW, qnW, h3, r, z]
  · have z : zthr [(0, 9, 12, 0), (0, 9, 15, 1)] 4 [vr 3, vi a1, vr 102, vu] (zF_320 e) 1 S1 = zF_320 e 15 [vr 3, vi a1, vr 102, vu] [vu] S1 := rfl
    show zD (e + 1) 320 [vr 3, vi a1, vr 102] S = some (.inl (some (vi 2)), S1)
    simp (config := { maxSteps := 2000000 }) (disch := first | omega | (simp only [h3, qb_in, qkW, qmW, qnW, true_and, and_true, or_self, true_or, or_true, and_self]; done) | (simp only [h3, qb_in, qkW, qmW, qnW, true_and, and_true, or_self, true_or, or_true, and_self]; omega)) only [zD_320, b320_0, b320_7, b320_12, b320_15, b320_18, qcall_l, qcall_r, qretn_l, qJ_s, qJ_n, qV0, qEx, ↓qif0, ↓zchk_pos, ↓reduceIte, qput, qWW, qmW, qkW, qnW, h3, r, z]
theorem qwr321 (e : Nat) (S S1 : zS) (a1 a2 : Int) (v : Int) (h3 : zk S 3 = (32, 0)) (h102 : zk S1 102 = (1, 1)) (r : zD e 129 [vr 3, vi a1, vi a2] S = some (.inl (some (vi v)), S1)) : zD (e + 1) 321 [vr 3, vi a1, vi a2, vr 102] S = some (.inl (some (vi 0)), qo S1 (qid v)) := by
  simp (config := { maxSteps := 2000000 }) (disch := first | omega | (simp only [h3, h102, qb_in, qkW, qmW, qnW, true_and, and_true, or_self, true_or, or_true, and_self]; done) | (simp only [h3, h102, qb_in, qkW, qmW, qnW, true_and, and_true, or_self, true_or, or_true, and_self]; omega)) only [zD_321, b321_0, b321_8, b321_13, b321_17, b321_21, b321_25, qcall_l, qcall_r, qretn_l, qJ_s, qJ_n, qV0, qEx, ↓qif0, ↓zchk_pos, ↓reduceIte, qput, qWW, qmW, qkW, qnW, h3, h102, r]
  rfl
theorem qwt321 (e : Nat) (S S1 : zS) (a1 a2 : Int) (x : Nat) (hx : qpsB x ≠ 0) (h3 : zk S 3 = (32, 0)) (r : zD e 129 [vr 3, vi a1, vi a2] S = some (.inr x, S1)) : zD (e + 1) 321 [vr 3, vi a1, vi a2, vr 102] S = some (.inl (some (vi (qpsB x))), S1) := by
  rcases qpsB_c hx with rfl | rfl | rfl
  · have z : zthr [(0, 10, 13, 0), (0, 10, 17, 2), (0, 10, 21, 1)] 5 [vr 3, vi a1, vi a2, vr 102, vu] (zF_321 e) 0 S1 = zF_321 e 13 [vr 3, vi a1, vi a2, vr 102, vu] [vu] S1 := rfl
    show zD (e + 1) 321 [vr 3, vi a1, vi a2, vr 102] S = some (.inl (some (vi 1)), S1)
    simp (config := { maxSteps := 2000000 }) (disch := first | omega | (simp only [h3, qb_in, qkW, qmW, qnW, true_and, and_true, or_self, true_or, or_true, and_self]; done) | (simp only [h3, qb_in, qkW, qmW, qnW, true_and, and_true, or_self, true_or, or_true, and_self]; omega)) only [zD_321, b321_0, b321_8, b321_13, b321_17, b321_21, b321_25, qcall_l, qcall_r, qretn_l, qJ_s, qJ_n, qV0, qEx, ↓qif0, ↓zchk_pos, ↓reduceIte, qput, qWW, qmW, qkW, qnW, h3, r, z]
  · have z : zthr [(0, 10, 13, 0), (0, 10, 17, 2), (0, 10, 21, 1)] 5 [vr 3, vi a1, vi a2, vr 102, vu] (zF_321 e) 2 S1 = zF_321 e 17 [vr 3, vi a1, vi a2, vr 102, vu] [vu] S1 := rfl
    show zD (e + 1) 321 [vr 3, vi a1, vi a2, vr 102] S = some (.inl (some (vi 2)), S1)
    simp (config := { maxSteps := 2000000 }) (disch := first | omega | (simp only [h3, qb_in, qkW, qmW, qnW, true_and, and_true, or_self, true_or, or_true, and_self]; done) | (simp only [h3, qb_in, qkW, qmW, qnW, true_and, and_true, or_self, true_or, or_true, and_self]; omega)) only [zD_321, b321_0, b321_8, b321_13, b321_17, b321_21, b321_25, qcall_l, qcall_r, qretn_l, qJ_s, qJ_n, qV0, qEx, ↓qif0, ↓zchk_pos, ↓reduceIte, qput, qWW, qmW, qkW, qnW, h3, r, z]
  · have z : zthr [(0, 10, 13, 0), (0, 10, 17, 2), (0, 10, 21, 1)] 5 [vr 3, vi a1, vi a2, vr 102, vu] (zF_321 e) 1 S1 = zF_321 e 21 [vr 3, vi a1, vi a2, vr 102, vu] [vu] S1 := rfl
    show zD (e + 1) 321 [vr 3, vi a1, vi a2, vr 102] S = some (.inl (some (vi 3)), S1)
    simp (config := { maxSteps := 2000000 }) (disch := first | omega | (simp only [h3, qb_in, qkW, qmW, qnW, true_and, and_true, or_self, true_or, or_true, and_self]; done) | (simp only [h3, qb_in, qkW, qmW, qnW, true_and, and_true, or_self, true_or, or_true, and_self]; omega)) only [zD_321, b321_0, b321_8, b321_13, b321_17, b321_21, b321_25, qcall_l, qcall_r, qretn_l, qJ_s, qJ_n, qV0, qEx, ↓qif0, ↓zchk_pos, ↓reduceIte, qput, qWW, qmW, qkW, qnW, h3, r, z]
theorem qwr322 (e : Nat) (S S1 : zS) (a1 : Int) (v : Int) (h3 : zk S 3 = (32, 0)) (h102 : zk S1 102 = (1, 1)) (r : zD e 130 [vr 3, vi a1] S = some (.inl (some (vi v)), S1)) : zD (e + 1) 322 [vr 3, vi a1, vr 102] S = some (.inl (some (vi 0)), qo S1 (qtf01 v)) := by
  unfold qtf01
  by_cases c : v = 0
  · rw [if_pos c]
    simp (config := { maxSteps := 2000000 }) (disch := first | omega | (simp only [h3, h102, qb_in, qkW, qmW, qnW, true_and, and_true, or_self, true_or, or_true, and_self]; done) | (simp only [h3, h102, qb_in, qkW, qmW, qnW, true_and, and_true, or_self, true_or, or_true, and_self]; omega)) only [zD_322, b322_0, b322_7, b322_10, b322_14, b322_15, b322_19, b322_22, b322_25, qcall_l, qcall_r, qretn_l, qJ_s, qJ_n, qV0, qEx, ↓qif0, ↓zchk_pos, ↓reduceIte, qput, qWW, qmW, qkW, qnW, h3, h102, r, if_pos c, Int.reduceEq]
    rfl
  · rw [if_neg c]
    simp (config := { maxSteps := 2000000 }) (disch := first | omega | (simp only [h3, h102, qb_in, qkW, qmW, qnW, true_and, and_true, or_self, true_or, or_true, and_self]; done) | (simp only [h3, h102, qb_in, qkW, qmW, qnW, true_and, and_true, or_self, true_or, or_true, and_self]; omega)) only [zD_322, b322_0, b322_7, b322_10, b322_14, b322_15, b322_19, b322_22, b322_25, qcall_l, qcall_r, qretn_l, qJ_s, qJ_n, qV0, qEx, ↓qif0, ↓zchk_pos, ↓reduceIte, qput, qWW, qmW, qkW, qnW, h3, h102, r, if_neg c, Int.reduceEq]
    rfl
theorem qwt322 (e : Nat) (S S1 : zS) (a1 : Int) (x : Nat) (hx : qpsA x ≠ 0) (h3 : zk S 3 = (32, 0)) (r : zD e 130 [vr 3, vi a1] S = some (.inr x, S1)) : zD (e + 1) 322 [vr 3, vi a1, vr 102] S = some (.inl (some (vi (qpsA x))), S1) := by
  rcases qpsA_c hx with rfl | rfl
  · have z : zthr [(0, 16, 19, 0), (0, 16, 22, 1)] 4 [vr 3, vi a1, vr 102, vu] (zF_322 e) 0 S1 = zF_322 e 19 [vr 3, vi a1, vr 102, vu] [vu] S1 := rfl
    show zD (e + 1) 322 [vr 3, vi a1, vr 102] S = some (.inl (some (vi 1)), S1)
    simp (config := { maxSteps := 2000000 }) (disch := first | omega | (simp only [h3, qb_in, qkW, qmW, qnW, true_and, and_true, or_self, true_or, or_true, and_self]; done) | (simp only [h3, qb_in, qkW, qmW, qnW, true_and, and_true, or_self, true_or, or_true, and_self]; omega)) only [zD_322, b322_0, b322_7, b322_10, b322_14, b322_15, b322_19, b322_22, b322_25, qcall_l, qcall_r, qretn_l, qJ_s, qJ_n, qV0, qEx, ↓qif0, ↓zchk_pos, ↓reduceIte, qput, qWW, qmW, qkW, qnW, h3, r, z]
  · have z : zthr [(0, 16, 19, 0), (0, 16, 22, 1)] 4 [vr 3, vi a1, vr 102, vu] (zF_322 e) 1 S1 = zF_322 e 22 [vr 3, vi a1, vr 102, vu] [vu] S1 := rfl
    show zD (e + 1) 322 [vr 3, vi a1, vr 102] S = some (.inl (some (vi 2)), S1)
    simp (config := { maxSteps := 2000000 }) (disch := first | omega | (simp only [h3, qb_in, qkW, qmW, qnW, true_and, and_true, or_self, true_or, or_true, and_self]; done) | (simp only [h3, qb_in, qkW, qmW, qnW, true_and, and_true, or_self, true_or, or_true, and_self]; omega)) only [zD_322, b322_0, b322_7, b322_10, b322_14, b322_15, b322_19, b322_22, b322_25, qcall_l, qcall_r, qretn_l, qJ_s, qJ_n, qV0, qEx, ↓qif0, ↓zchk_pos, ↓reduceIte, qput, qWW, qmW, qkW, qnW, h3, r, z]
theorem qwr323 (e : Nat) (S S1 : zS) (a1 a2 a3 a4 a5 : Int) (v : Int) (h3 : zk S 3 = (32, 0)) (h102 : zk S1 102 = (1, 1)) (r : zD e 131 [vr 3, vi a1, vi a2, vi a3, vi a4, vi a5] S = some (.inl (some (vi v)), S1)) : zD (e + 1) 323 [vr 3, vi a1, vi a2, vi a3, vi a4, vi a5, vr 102] S = some (.inl (some (vi 0)), qo S1 (qid v)) := by
  simp (config := { maxSteps := 2000000 }) (disch := first | omega | (simp only [h3, h102, qb_in, qkW, qmW, qnW, true_and, and_true, or_self, true_or, or_true, and_self]; done) | (simp only [h3, h102, qb_in, qkW, qmW, qnW, true_and, and_true, or_self, true_or, or_true, and_self]; omega)) only [zD_323, b323_0, b323_14, b323_19, b323_23, b323_27, b323_31, qcall_l, qcall_r, qretn_l, qJ_s, qJ_n, qV0, qEx, ↓qif0, ↓zchk_pos, ↓reduceIte, qput, qWW, qmW, qkW, qnW, h3, h102, r]
  rfl
theorem qwt323 (e : Nat) (S S1 : zS) (a1 a2 a3 a4 a5 : Int) (x : Nat) (hx : qps3 x ≠ 0) (h3 : zk S 3 = (32, 0)) (r : zD e 131 [vr 3, vi a1, vi a2, vi a3, vi a4, vi a5] S = some (.inr x, S1)) : zD (e + 1) 323 [vr 3, vi a1, vi a2, vi a3, vi a4, vi a5, vr 102] S = some (.inl (some (vi (qps3 x))), S1) := by
  rcases qps3_c hx with rfl | rfl | rfl
  · have z : zthr [(0, 16, 19, 2), (0, 16, 23, 0), (0, 16, 27, 1)] 11 [vr 3, vi a1, vi a2, vi a3, vi a4, vi a5, vr 102, vu] (zF_323 e) 2 S1 = zF_323 e 19 [vr 3, vi a1, vi a2, vi a3, vi a4, vi a5, vr 102, vu] [vu] S1 := rfl
    show zD (e + 1) 323 [vr 3, vi a1, vi a2, vi a3, vi a4, vi a5, vr 102] S = some (.inl (some (vi 1)), S1)
    simp (config := { maxSteps := 2000000 }) (disch := first | omega | (simp only [h3, qb_in, qkW, qmW, qnW, true_and, and_true, or_self, true_or, or_true, and_self]; done) | (simp only [h3, qb_in, qkW, qmW, qnW, true_and, and_true, or_self, true_or, or_true, and_self]; omega)) only [zD_323, b323_0, b323_14, b323_19, b323_23, b323_27, b323_31, qcall_l, qcall_r, qretn_l, qJ_s, qJ_n, qV0, qEx, ↓qif0, ↓zchk_pos, ↓reduceIte, qput, qWW, qmW, qkW, qnW, h3, r, z]
  · have z : zthr [(0, 16, 19, 2), (0, 16, 23, 0), (0, 16, 27, 1)] 11 [vr 3, vi a1, vi a2, vi a3, vi a4, vi a5, vr 102, vu] (zF_323 e) 0 S1 = zF_323 e 23 [vr 3, vi a1, vi a2, vi a3, vi a4, vi a5, vr 102, vu] [vu] S1 := rfl
    show zD (e + 1) 323 [vr 3, vi a1, vi a2, vi a3, vi a4, vi a5, vr 102] S = some (.inl (some (vi 2)), S1)
    simp (config := { maxSteps := 2000000 }) (disch := first | omega | (simp only [h3, qb_in, qkW, qmW, qnW, true_and, and_true, or_self, true_or, or_true, and_self]; done) | (simp only [h3, qb_in, qkW, qmW, qnW, true_and, and_true, or_self, true_or, or_true, and_self]; omega)) only [zD_323, b323_0, b323_14, b323_19, b323_23, b323_27, b323_31, qcall_l, qcall_r, qretn_l, qJ_s, qJ_n, qV0, qEx, ↓qif0, ↓zchk_pos, ↓reduceIte, qput, qWW, qmW, qkW, qnW, h3, r, z]
  · have z : zthr [(0, 16, 19, 2), (0, 16, 23, 0), (0, 16, 27, 1)] 11 [vr 3, vi a1, vi a2, vi a3, vi a4, vi a5, vr 102, vu] (zF_323 e) 1 S1 = zF_323 e 27 [vr 3, vi a1, vi a2, vi a3, vi a4, vi a5, vr 102, vu] [vu] S1 := rfl
    show zD (e + 1) 323 [vr 3, vi a1, vi a2, vi a3, vi a4, vi a5, vr 102] S = some (.inl (some (vi 3)), S1)
    simp (config := { maxSteps := 2000000 }) (disch := first | omega | (simp only [h3, qb_in, qkW, qmW, qnW, true_and, and_true, or_self, true_or, or_true, and_self]; done) | (simp only [h3, qb_in, qkW, qmW, qnW, true_and, and_true, or_self, true_or, or_true, and_self]; omega)) only [zD_323, b323_0, b323_14, b323_19, b323_23, b323_27, b323_31, qcall_l, qcall_r, qretn_l, qJ_s, qJ_n, qV0, qEx, ↓qif0, ↓zchk_pos, ↓reduceIte, qput, qWW, qmW, qkW, qnW, h3, r, z]
theorem qwr324 (e : Nat) (S S1 : zS) (a1 : Int) (v : Int) (h3 : zk S 3 = (32, 0)) (h102 : zk S1 102 = (1, 1)) (r : zD e 132 [vr 3, vi a1] S = some (.inl (some (vi v)), S1)) : zD (e + 1) 324 [vr 3, vi a1, vr 102] S = some (.inl (some (vi 0)), qo S1 (qid v)) := by
  simp (config := { maxSteps := 2000000 }) (disch := first | omega | (simp only [h3, h102, qb_in, qkW, qmW, qnW, true_and, and_true, or_self, true_or, or_true, and_self]; done) | (simp only [h3, h102, qb_in, qkW, qmW, qnW, true_and, and_true, or_self, true_or, or_true, and_self]; omega)) only [zD_324, b324_0, b324_7, b324_12, b324_15, b324_18, b324_21, qcall_l, qcall_r, qretn_l, qJ_s, qJ_n, qV0, qEx, ↓qif0, ↓zchk_pos, ↓reduceIte, qput, qWW, qmW, qkW, qnW, h3, h102, r]
  rfl
theorem qwt324 (e : Nat) (S S1 : zS) (a1 : Int) (x : Nat) (hx : qps3 x ≠ 0) (h3 : zk S 3 = (32, 0)) (r : zD e 132 [vr 3, vi a1] S = some (.inr x, S1)) : zD (e + 1) 324 [vr 3, vi a1, vr 102] S = some (.inl (some (vi (qps3 x))), S1) := by
  rcases qps3_c hx with rfl | rfl | rfl
  · have z : zthr [(0, 9, 12, 2), (0, 9, 15, 0), (0, 9, 18, 1)] 4 [vr 3, vi a1, vr 102, vu] (zF_324 e) 2 S1 = zF_324 e 12 [vr 3, vi a1, vr 102, vu] [vu] S1 := rfl
    show zD (e + 1) 324 [vr 3, vi a1, vr 102] S = some (.inl (some (vi 1)), S1)
    simp (config := { maxSteps := 2000000 }) (disch := first | omega | (simp only [h3, qb_in, qkW, qmW, qnW, true_and, and_true, or_self, true_or, or_true, and_self]; done) | (simp only [h3, qb_in, qkW, qmW, qnW, true_and, and_true, or_self, true_or, or_true, and_self]; omega)) only [zD_324, b324_0, b324_7, b324_12, b324_15, b324_18, b324_21, qcall_l, qcall_r, qretn_l, qJ_s, qJ_n, qV0, qEx, ↓qif0, ↓zchk_pos, ↓reduceIte, qput, qWW, qmW, qkW, qnW, h3, r, z]
  · have z : zthr [(0, 9, 12, 2), (0, 9, 15, 0), (0, 9, 18, 1)] 4 [vr 3, vi a1, vr 102, vu] (zF_324 e) 0 S1 = zF_324 e 15 [vr 3, vi a1, vr 102, vu] [vu] S1 := rfl
    show zD (e + 1) 324 [vr 3, vi a1, vr 102] S = some (.inl (some (vi 2)), S1)
    simp (config := { maxSteps := 2000000 }) (disch := first | omega | (simp only [h3, qb_in, qkW, qmW, qnW, true_and, and_true, or_self, true_or, or_true, and_self]; done) | (simp only [h3, qb_in, qkW, qmW, qnW, true_and, and_true, or_self, true_or, or_true, and_self]; omega)) only [zD_324, b324_0, b324_7, b324_12, b324_15, b324_18, b324_21, qcall_l, qcall_r, qretn_l, qJ_s, qJ_n, qV0, qEx, ↓qif0, ↓zchk_pos, ↓reduceIte, qput, qWW, qmW, qkW, qnW, h3, r, z]
  · have z : zthr [(0, 9, 12, 2), (0, 9, 15, 0), (0, 9, 18, 1)] 4 [vr 3, vi a1, vr 102, vu] (zF_324 e) 1 S1 = zF_324 e 18 [vr 3, vi a1, vr 102, vu] [vu] S1 := rfl
    show zD (e + 1) 324 [vr 3, vi a1, vr 102] S = some (.inl (some (vi 3)), S1)
    simp (config := { maxSteps := 2000000 }) (disch := first | omega | (simp only [h3, qb_in, qkW, qmW, qnW, true_and, and_true, or_self, true_or, or_true, and_self]; done) | (simp only [h3, qb_in, qkW, qmW, qnW, true_and, and_true, or_self, true_or, or_true, and_self]; omega)) only [zD_324, b324_0, b324_7, b324_12, b324_15, b324_18, b324_21, qcall_l, qcall_r, qretn_l, qJ_s, qJ_n, qV0, qEx, ↓qif0, ↓zchk_pos, ↓reduceIte, qput, qWW, qmW, qkW, qnW, h3, r, z]
theorem qwr325 (e : Nat) (S S1 : zS) (a1 a2 a3 : Int) (v : Int) (h3 : zk S 3 = (32, 0)) (h102 : zk S1 102 = (1, 1)) (r : zD e 133 [vr 3, vi a1, vi a2, vi a3] S = some (.inl (some (vi v)), S1)) : zD (e + 1) 325 [vr 3, vi a1, vi a2, vi a3, vr 102] S = some (.inl (some (vi 0)), qo S1 (qid v)) := by
  simp (config := { maxSteps := 2000000 }) (disch := first | omega | (simp only [h3, h102, qb_in, qkW, qmW, qnW, true_and, and_true, or_self, true_or, or_true, and_self]; done) | (simp only [h3, h102, qb_in, qkW, qmW, qnW, true_and, and_true, or_self, true_or, or_true, and_self]; omega)) only [zD_325, b325_0, b325_10, b325_15, b325_19, b325_23, qcall_l, qcall_r, qretn_l, qJ_s, qJ_n, qV0, qEx, ↓qif0, ↓zchk_pos, ↓reduceIte, qput, qWW, qmW, qkW, qnW, h3, h102, r]
  rfl
theorem qwt325 (e : Nat) (S S1 : zS) (a1 a2 a3 : Int) (x : Nat) (hx : qpsD x ≠ 0) (h3 : zk S 3 = (32, 0)) (r : zD e 133 [vr 3, vi a1, vi a2, vi a3] S = some (.inr x, S1)) : zD (e + 1) 325 [vr 3, vi a1, vi a2, vi a3, vr 102] S = some (.inl (some (vi (qpsD x))), S1) := by
  rcases qpsD_c hx with rfl | rfl
  · have z : zthr [(0, 12, 15, 2), (0, 12, 19, 0)] 7 [vr 3, vi a1, vi a2, vi a3, vr 102, vu] (zF_325 e) 2 S1 = zF_325 e 15 [vr 3, vi a1, vi a2, vi a3, vr 102, vu] [vu] S1 := rfl
    show zD (e + 1) 325 [vr 3, vi a1, vi a2, vi a3, vr 102] S = some (.inl (some (vi 1)), S1)
    simp (config := { maxSteps := 2000000 }) (disch := first | omega | (simp only [h3, qb_in, qkW, qmW, qnW, true_and, and_true, or_self, true_or, or_true, and_self]; done) | (simp only [h3, qb_in, qkW, qmW, qnW, true_and, and_true, or_self, true_or, or_true, and_self]; omega)) only [zD_325, b325_0, b325_10, b325_15, b325_19, b325_23, qcall_l, qcall_r, qretn_l, qJ_s, qJ_n, qV0, qEx, ↓qif0, ↓zchk_pos, ↓reduceIte, qput, qWW, qmW, qkW, qnW, h3, r, z]
  · have z : zthr [(0, 12, 15, 2), (0, 12, 19, 0)] 7 [vr 3, vi a1, vi a2, vi a3, vr 102, vu] (zF_325 e) 0 S1 = zF_325 e 19 [vr 3, vi a1, vi a2, vi a3, vr 102, vu] [vu] S1 := rfl
    show zD (e + 1) 325 [vr 3, vi a1, vi a2, vi a3, vr 102] S = some (.inl (some (vi 2)), S1)
    simp (config := { maxSteps := 2000000 }) (disch := first | omega | (simp only [h3, qb_in, qkW, qmW, qnW, true_and, and_true, or_self, true_or, or_true, and_self]; done) | (simp only [h3, qb_in, qkW, qmW, qnW, true_and, and_true, or_self, true_or, or_true, and_self]; omega)) only [zD_325, b325_0, b325_10, b325_15, b325_19, b325_23, qcall_l, qcall_r, qretn_l, qJ_s, qJ_n, qV0, qEx, ↓qif0, ↓zchk_pos, ↓reduceIte, qput, qWW, qmW, qkW, qnW, h3, r, z]
theorem qwr326 (e : Nat) (S S1 : zS) (a1 a2 : Int) (v : Int) (h3 : zk S 3 = (32, 0)) (h102 : zk S1 102 = (1, 1)) (r : zD e 134 [vr 3, vi a1, vi a2] S = some (.inl (some (vi v)), S1)) : zD (e + 1) 326 [vr 3, vi a1, vi a2, vr 102] S = some (.inl (some (vi 0)), qo S1 (qid v)) := by
  simp (config := { maxSteps := 2000000 }) (disch := first | omega | (simp only [h3, h102, qb_in, qkW, qmW, qnW, true_and, and_true, or_self, true_or, or_true, and_self]; done) | (simp only [h3, h102, qb_in, qkW, qmW, qnW, true_and, and_true, or_self, true_or, or_true, and_self]; omega)) only [zD_326, b326_0, b326_8, b326_13, b326_17, b326_21, qcall_l, qcall_r, qretn_l, qJ_s, qJ_n, qV0, qEx, ↓qif0, ↓zchk_pos, ↓reduceIte, qput, qWW, qmW, qkW, qnW, h3, h102, r]
  rfl
theorem qwt326 (e : Nat) (S S1 : zS) (a1 a2 : Int) (x : Nat) (hx : qpsD x ≠ 0) (h3 : zk S 3 = (32, 0)) (r : zD e 134 [vr 3, vi a1, vi a2] S = some (.inr x, S1)) : zD (e + 1) 326 [vr 3, vi a1, vi a2, vr 102] S = some (.inl (some (vi (qpsD x))), S1) := by
  rcases qpsD_c hx with rfl | rfl
  · have z : zthr [(0, 10, 13, 2), (0, 10, 17, 0)] 5 [vr 3, vi a1, vi a2, vr 102, vu] (zF_326 e) 2 S1 = zF_326 e 13 [vr 3, vi a1, vi a2, vr 102, vu] [vu] S1 := rfl
    show zD (e + 1) 326 [vr 3, vi a1, vi a2, vr 102] S = some (.inl (some (vi 1)), S1)
    simp (config := { maxSteps := 2000000 }) (disch := first | omega | (simp only [h3, qb_in, qkW, qmW, qnW, true_and, and_true, or_self, true_or, or_true, and_self]; done) | (simp only [h3, qb_in, qkW, qmW, qnW, true_and, and_true, or_self, true_or, or_true, and_self]; omega)) only [zD_326, b326_0, b326_8, b326_13, b326_17, b326_21, qcall_l, qcall_r, qretn_l, qJ_s, qJ_n, qV0, qEx, ↓qif0, ↓zchk_pos, ↓reduceIte, qput, qWW, qmW, qkW, qnW, h3, r, z]
  · have z : zthr [(0, 10, 13, 2), (0, 10, 17, 0)] 5 [vr 3, vi a1, vi a2, vr 102, vu] (zF_326 e) 0 S1 = zF_326 e 17 [vr 3, vi a1, vi a2, vr 102, vu] [vu] S1 := rfl
    show zD (e + 1) 326 [vr 3, vi a1, vi a2, vr 102] S = some (.inl (some (vi 2)), S1)
    simp (config := { maxSteps := 2000000 }) (disch := first | omega | (simp only [h3, qb_in, qkW, qmW, qnW, true_and, and_true, or_self, true_or, or_true, and_self]; done) | (simp only [h3, qb_in, qkW, qmW, qnW, true_and, and_true, or_self, true_or, or_true, and_self]; omega)) only [zD_326, b326_0, b326_8, b326_13, b326_17, b326_21, qcall_l, qcall_r, qretn_l, qJ_s, qJ_n, qV0, qEx, ↓qif0, ↓zchk_pos, ↓reduceIte, qput, qWW, qmW, qkW, qnW, h3, r, z]
theorem qwr327 (e : Nat) (S S1 : zS) (a1 a2 a3 a4 : Int) (v : Int) (h3 : zk S 3 = (32, 0)) (h102 : zk S1 102 = (1, 1)) (r : zD e 135 [vr 3, vi a1, vi a2, vi a3, vi a4] S = some (.inl (some (vi v)), S1)) : zD (e + 1) 327 [vr 3, vi a1, vi a2, vi a3, vi a4, vr 102] S = some (.inl (some (vi 0)), qo S1 (qid v)) := by
  simp (config := { maxSteps := 2000000 }) (disch := first | omega | (simp only [h3, h102, qb_in, qkW, qmW, qnW, true_and, and_true, or_self, true_or, or_true, and_self]; done) | (simp only [h3, h102, qb_in, qkW, qmW, qnW, true_and, and_true, or_self, true_or, or_true, and_self]; omega)) only [zD_327, b327_0, b327_12, b327_17, b327_21, qcall_l, qcall_r, qretn_l, qJ_s, qJ_n, qV0, qEx, ↓qif0, ↓zchk_pos, ↓reduceIte, qput, qWW, qmW, qkW, qnW, h3, h102, r]
  rfl
theorem qwt327 (e : Nat) (S S1 : zS) (a1 a2 a3 a4 : Int) (x : Nat) (hx : qpsF x ≠ 0) (h3 : zk S 3 = (32, 0)) (r : zD e 135 [vr 3, vi a1, vi a2, vi a3, vi a4] S = some (.inr x, S1)) : zD (e + 1) 327 [vr 3, vi a1, vi a2, vi a3, vi a4, vr 102] S = some (.inl (some (vi (qpsF x))), S1) := by
  obtain rfl := qpsF_c hx
  have z : zthr [(0, 14, 17, 2)] 9 [vr 3, vi a1, vi a2, vi a3, vi a4, vr 102, vu] (zF_327 e) 2 S1 = zF_327 e 17 [vr 3, vi a1, vi a2, vi a3, vi a4, vr 102, vu] [vu] S1 := rfl
  show zD (e + 1) 327 [vr 3, vi a1, vi a2, vi a3, vi a4, vr 102] S = some (.inl (some (vi 1)), S1)
  simp (config := { maxSteps := 2000000 }) (disch := first | omega | (simp only [h3, qb_in, qkW, qmW, qnW, true_and, and_true, or_self, true_or, or_true, and_self]; done) | (simp only [h3, qb_in, qkW, qmW, qnW, true_and, and_true, or_self, true_or, or_true, and_self]; omega)) only [zD_327, b327_0, b327_12, b327_17, b327_21, qcall_l, qcall_r, qretn_l, qJ_s, qJ_n, qV0, qEx, ↓qif0, ↓zchk_pos, ↓reduceIte, qput, qWW, qmW, qkW, qnW, h3, r, z]
theorem qwr328 (e : Nat) (S S1 : zS) (a1 a2 a3 : Int) (v : Int) (h3 : zk S 3 = (32, 0)) (h102 : zk S1 102 = (1, 1)) (r : zD e 136 [vr 3, vi a1, vi a2, vi a3] S = some (.inl (some (vi v)), S1)) : zD (e + 1) 328 [vr 3, vi a1, vi a2, vi a3, vr 102] S = some (.inl (some (vi 0)), qo S1 (qid v)) := by
  simp (config := { maxSteps := 2000000 }) (disch := first | omega | (simp only [h3, h102, qb_in, qkW, qmW, qnW, true_and, and_true, or_self, true_or, or_true, and_self]; done) | (simp only [h3, h102, qb_in, qkW, qmW, qnW, true_and, and_true, or_self, true_or, or_true, and_self]; omega)) only [zD_328, b328_0, b328_10, b328_15, b328_19, b328_23, qcall_l, qcall_r, qretn_l, qJ_s, qJ_n, qV0, qEx, ↓qif0, ↓zchk_pos, ↓reduceIte, qput, qWW, qmW, qkW, qnW, h3, h102, r]
  rfl
theorem qwt328 (e : Nat) (S S1 : zS) (a1 a2 a3 : Int) (x : Nat) (hx : qpsD x ≠ 0) (h3 : zk S 3 = (32, 0)) (r : zD e 136 [vr 3, vi a1, vi a2, vi a3] S = some (.inr x, S1)) : zD (e + 1) 328 [vr 3, vi a1, vi a2, vi a3, vr 102] S = some (.inl (some (vi (qpsD x))), S1) := by
  rcases qpsD_c hx with rfl | rfl
  · have z : zthr [(0, 12, 15, 2), (0, 12, 19, 0)] 7 [vr 3, vi a1, vi a2, vi a3, vr 102, vu] (zF_328 e) 2 S1 = zF_328 e 15 [vr 3, vi a1, vi a2, vi a3, vr 102, vu] [vu] S1 := rfl
    show zD (e + 1) 328 [vr 3, vi a1, vi a2, vi a3, vr 102] S = some (.inl (some (vi 1)), S1)
    simp (config := { maxSteps := 2000000 }) (disch := first | omega | (simp only [h3, qb_in, qkW, qmW, qnW, true_and, and_true, or_self, true_or, or_true, and_self]; done) | (simp only [h3, qb_in, qkW, qmW, qnW, true_and, and_true, or_self, true_or, or_true, and_self]; omega)) only [zD_328, b328_0, b328_10, b328_15, b328_19, b328_23, qcall_l, qcall_r, qretn_l, qJ_s, qJ_n, qV0, qEx, ↓qif0, ↓zchk_pos, ↓reduceIte, qput, qWW, qmW, qkW, qnW, h3, r, z]
  · have z : zthr [(0, 12, 15, 2), (0, 12, 19, 0)] 7 [vr 3, vi a1, vi a2, vi a3, vr 102, vu] (zF_328 e) 0 S1 = zF_328 e 19 [vr 3, vi a1, vi a2, vi a3, vr 102, vu] [vu] S1 := rfl
    show zD (e + 1) 328 [vr 3, vi a1, vi a2, vi a3, vr 102] S = some (.inl (some (vi 2)), S1)
    simp (config := { maxSteps := 2000000 }) (disch := first | omega | (simp only [h3, qb_in, qkW, qmW, qnW, true_and, and_true, or_self, true_or, or_true, and_self]; done) | (simp only [h3, qb_in, qkW, qmW, qnW, true_and, and_true, or_self, true_or, or_true, and_self]; omega)) only [zD_328, b328_0, b328_10, b328_15, b328_19, b328_23, qcall_l, qcall_r, qretn_l, qJ_s, qJ_n, qV0, qEx, ↓qif0, ↓zchk_pos, ↓reduceIte, qput, qWW, qmW, qkW, qnW, h3, r, z]
theorem qwr329 (e : Nat) (S S1 : zS) (a1 a2 : Int) (v : Int) (h3 : zk S 3 = (32, 0)) (h102 : zk S1 102 = (1, 1)) (r : zD e 137 [vr 3, vi a1, vi a2] S = some (.inl (some (vi v)), S1)) : zD (e + 1) 329 [vr 3, vi a1, vi a2, vr 102] S = some (.inl (some (vi 0)), qo S1 (qid v)) := by
  simp (config := { maxSteps := 2000000 }) (disch := first | omega | (simp only [h3, h102, qb_in, qkW, qmW, qnW, true_and, and_true, or_self, true_or, or_true, and_self]; done) | (simp only [h3, h102, qb_in, qkW, qmW, qnW, true_and, and_true, or_self, true_or, or_true, and_self]; omega)) only [zD_329, b329_0, b329_8, b329_13, b329_17, b329_21, qcall_l, qcall_r, qretn_l, qJ_s, qJ_n, qV0, qEx, ↓qif0, ↓zchk_pos, ↓reduceIte, qput, qWW, qmW, qkW, qnW, h3, h102, r]
  rfl
theorem qwt329 (e : Nat) (S S1 : zS) (a1 a2 : Int) (x : Nat) (hx : qpsE x ≠ 0) (h3 : zk S 3 = (32, 0)) (r : zD e 137 [vr 3, vi a1, vi a2] S = some (.inr x, S1)) : zD (e + 1) 329 [vr 3, vi a1, vi a2, vr 102] S = some (.inl (some (vi (qpsE x))), S1) := by
  rcases qpsE_c hx with rfl | rfl
  · have z : zthr [(0, 10, 13, 2), (0, 10, 17, 1)] 5 [vr 3, vi a1, vi a2, vr 102, vu] (zF_329 e) 2 S1 = zF_329 e 13 [vr 3, vi a1, vi a2, vr 102, vu] [vu] S1 := rfl
    show zD (e + 1) 329 [vr 3, vi a1, vi a2, vr 102] S = some (.inl (some (vi 1)), S1)
    simp (config := { maxSteps := 2000000 }) (disch := first | omega | (simp only [h3, qb_in, qkW, qmW, qnW, true_and, and_true, or_self, true_or, or_true, and_self]; done) | (simp only [h3, qb_in, qkW, qmW, qnW, true_and, and_true, or_self, true_or, or_true, and_self]; omega)) only [zD_329, b329_0, b329_8, b329_13, b329_17, b329_21, qcall_l, qcall_r, qretn_l, qJ_s, qJ_n, qV0, qEx, ↓qif0, ↓zchk_pos, ↓reduceIte, qput, qWW, qmW, qkW, qnW, h3, r, z]
  · have z : zthr [(0, 10, 13, 2), (0, 10, 17, 1)] 5 [vr 3, vi a1, vi a2, vr 102, vu] (zF_329 e) 1 S1 = zF_329 e 17 [vr 3, vi a1, vi a2, vr 102, vu] [vu] S1 := rfl
    show zD (e + 1) 329 [vr 3, vi a1, vi a2, vr 102] S = some (.inl (some (vi 2)), S1)
    simp (config := { maxSteps := 2000000 }) (disch := first | omega | (simp only [h3, qb_in, qkW, qmW, qnW, true_and, and_true, or_self, true_or, or_true, and_self]; done) | (simp only [h3, qb_in, qkW, qmW, qnW, true_and, and_true, or_self, true_or, or_true, and_self]; omega)) only [zD_329, b329_0, b329_8, b329_13, b329_17, b329_21, qcall_l, qcall_r, qretn_l, qJ_s, qJ_n, qV0, qEx, ↓qif0, ↓zchk_pos, ↓reduceIte, qput, qWW, qmW, qkW, qnW, h3, r, z]
theorem qwr330 (e : Nat) (S S1 : zS) (a1 a2 a3 a4 : Int) (v : Int) (h3 : zk S 3 = (32, 0)) (h102 : zk S1 102 = (1, 1)) (r : zD e 138 [vr 3, vi a1, vi a2, vi a3, vi a4] S = some (.inl (some (vi v)), S1)) : zD (e + 1) 330 [vr 3, vi a1, vi a2, vi a3, vi a4, vr 102] S = some (.inl (some (vi 0)), qo S1 (qid v)) := by
  simp (config := { maxSteps := 2000000 }) (disch := first | omega | (simp only [h3, h102, qb_in, qkW, qmW, qnW, true_and, and_true, or_self, true_or, or_true, and_self]; done) | (simp only [h3, h102, qb_in, qkW, qmW, qnW, true_and, and_true, or_self, true_or, or_true, and_self]; omega)) only [zD_330, b330_0, b330_12, b330_17, b330_21, qcall_l, qcall_r, qretn_l, qJ_s, qJ_n, qV0, qEx, ↓qif0, ↓zchk_pos, ↓reduceIte, qput, qWW, qmW, qkW, qnW, h3, h102, r]
  rfl
theorem qwt330 (e : Nat) (S S1 : zS) (a1 a2 a3 a4 : Int) (x : Nat) (hx : qpsF x ≠ 0) (h3 : zk S 3 = (32, 0)) (r : zD e 138 [vr 3, vi a1, vi a2, vi a3, vi a4] S = some (.inr x, S1)) : zD (e + 1) 330 [vr 3, vi a1, vi a2, vi a3, vi a4, vr 102] S = some (.inl (some (vi (qpsF x))), S1) := by
  obtain rfl := qpsF_c hx
  have z : zthr [(0, 14, 17, 2)] 9 [vr 3, vi a1, vi a2, vi a3, vi a4, vr 102, vu] (zF_330 e) 2 S1 = zF_330 e 17 [vr 3, vi a1, vi a2, vi a3, vi a4, vr 102, vu] [vu] S1 := rfl
  show zD (e + 1) 330 [vr 3, vi a1, vi a2, vi a3, vi a4, vr 102] S = some (.inl (some (vi 1)), S1)
  simp (config := { maxSteps := 2000000 }) (disch := first | omega | (simp only [h3, qb_in, qkW, qmW, qnW, true_and, and_true, or_self, true_or, or_true, and_self]; done) | (simp only [h3, qb_in, qkW, qmW, qnW, true_and, and_true, or_self, true_or, or_true, and_self]; omega)) only [zD_330, b330_0, b330_12, b330_17, b330_21, qcall_l, qcall_r, qretn_l, qJ_s, qJ_n, qV0, qEx, ↓qif0, ↓zchk_pos, ↓reduceIte, qput, qWW, qmW, qkW, qnW, h3, r, z]
theorem qwr331 (e : Nat) (S S1 : zS) (a1 a2 : Int) (v : Int) (h3 : zk S 3 = (32, 0)) (h102 : zk S1 102 = (1, 1)) (r : zD e 139 [vr 3, vi a1, vi a2] S = some (.inl (some (vi v)), S1)) : zD (e + 1) 331 [vr 3, vi a1, vi a2, vr 102] S = some (.inl (some (vi 0)), qo S1 (qid v)) := by
  simp (config := { maxSteps := 2000000 }) (disch := first | omega | (simp only [h3, h102, qb_in, qkW, qmW, qnW, true_and, and_true, or_self, true_or, or_true, and_self]; done) | (simp only [h3, h102, qb_in, qkW, qmW, qnW, true_and, and_true, or_self, true_or, or_true, and_self]; omega)) only [zD_331, b331_0, b331_8, b331_13, b331_17, b331_21, qcall_l, qcall_r, qretn_l, qJ_s, qJ_n, qV0, qEx, ↓qif0, ↓zchk_pos, ↓reduceIte, qput, qWW, qmW, qkW, qnW, h3, h102, r]
  rfl
theorem qwt331 (e : Nat) (S S1 : zS) (a1 a2 : Int) (x : Nat) (hx : qpsD x ≠ 0) (h3 : zk S 3 = (32, 0)) (r : zD e 139 [vr 3, vi a1, vi a2] S = some (.inr x, S1)) : zD (e + 1) 331 [vr 3, vi a1, vi a2, vr 102] S = some (.inl (some (vi (qpsD x))), S1) := by
  rcases qpsD_c hx with rfl | rfl
  · have z : zthr [(0, 10, 13, 2), (0, 10, 17, 0)] 5 [vr 3, vi a1, vi a2, vr 102, vu] (zF_331 e) 2 S1 = zF_331 e 13 [vr 3, vi a1, vi a2, vr 102, vu] [vu] S1 := rfl
    show zD (e + 1) 331 [vr 3, vi a1, vi a2, vr 102] S = some (.inl (some (vi 1)), S1)
    simp (config := { maxSteps := 2000000 }) (disch := first | omega | (simp only [h3, qb_in, qkW, qmW, qnW, true_and, and_true, or_self, true_or, or_true, and_self]; done) | (simp only [h3, qb_in, qkW, qmW, qnW, true_and, and_true, or_self, true_or, or_true, and_self]; omega)) only [zD_331, b331_0, b331_8, b331_13, b331_17, b331_21, qcall_l, qcall_r, qretn_l, qJ_s, qJ_n, qV0, qEx, ↓qif0, ↓zchk_pos, ↓reduceIte, qput, qWW, qmW, qkW, qnW, h3, r, z]
  · have z : zthr [(0, 10, 13, 2), (0, 10, 17, 0)] 5 [vr 3, vi a1, vi a2, vr 102, vu] (zF_331 e) 0 S1 = zF_331 e 17 [vr 3, vi a1, vi a2, vr 102, vu] [vu] S1 := rfl
    show zD (e + 1) 331 [vr 3, vi a1, vi a2, vr 102] S = some (.inl (some (vi 2)), S1)
    simp (config := { maxSteps := 2000000 }) (disch := first | omega | (simp only [h3, qb_in, qkW, qmW, qnW, true_and, and_true, or_self, true_or, or_true, and_self]; done) | (simp only [h3, qb_in, qkW, qmW, qnW, true_and, and_true, or_self, true_or, or_true, and_self]; omega)) only [zD_331, b331_0, b331_8, b331_13, b331_17, b331_21, qcall_l, qcall_r, qretn_l, qJ_s, qJ_n, qV0, qEx, ↓qif0, ↓zchk_pos, ↓reduceIte, qput, qWW, qmW, qkW, qnW, h3, r, z]
theorem qwr332 (e : Nat) (S S1 : zS) (a1 : Int) (v : Int) (h3 : zk S 3 = (32, 0)) (h102 : zk S1 102 = (1, 1)) (r : zD e 141 [vr 3, vi a1] S = some (.inl (some (vi v)), S1)) : zD (e + 1) 332 [vr 3, vi a1, vr 102] S = some (.inl (some (vi 0)), qo S1 (qid v)) := by
  simp (config := { maxSteps := 2000000 }) (disch := first | omega | (simp only [h3, h102, qb_in, qkW, qmW, qnW, true_and, and_true, or_self, true_or, or_true, and_self]; done) | (simp only [h3, h102, qb_in, qkW, qmW, qnW, true_and, and_true, or_self, true_or, or_true, and_self]; omega)) only [zD_332, b332_0, b332_7, b332_12, b332_15, b332_18, qcall_l, qcall_r, qretn_l, qJ_s, qJ_n, qV0, qEx, ↓qif0, ↓zchk_pos, ↓reduceIte, qput, qWW, qmW, qkW, qnW, h3, h102, r]
  rfl
theorem qwt332 (e : Nat) (S S1 : zS) (a1 : Int) (x : Nat) (hx : qpsA x ≠ 0) (h3 : zk S 3 = (32, 0)) (r : zD e 141 [vr 3, vi a1] S = some (.inr x, S1)) : zD (e + 1) 332 [vr 3, vi a1, vr 102] S = some (.inl (some (vi (qpsA x))), S1) := by
  rcases qpsA_c hx with rfl | rfl
  · have z : zthr [(0, 9, 12, 0), (0, 9, 15, 1)] 4 [vr 3, vi a1, vr 102, vu] (zF_332 e) 0 S1 = zF_332 e 12 [vr 3, vi a1, vr 102, vu] [vu] S1 := rfl
    show zD (e + 1) 332 [vr 3, vi a1, vr 102] S = some (.inl (some (vi 1)), S1)
    simp (config := { maxSteps := 2000000 }) (disch := first | omega | (simp only [h3, qb_in, qkW, qmW, qnW, true_and, and_true, or_self, true_or, or_true, and_self]; done) | (simp only [h3, qb_in, qkW, qmW, qnW, true_and, and_true, or_self, true_or, or_true, and_self]; omega)) only [zD_332, b332_0, b332_7, b332_12, b332_15, b332_18, qcall_l, qcall_r, qretn_l, qJ_s, qJ_n, qV0, qEx, ↓qif0, ↓zchk_pos, ↓reduceIte, qput, qWW, qmW, qkW, qnW, h3, r, z]
  · have z : zthr [(0, 9, 12, 0), (0, 9, 15, 1)] 4 [vr 3, vi a1, vr 102, vu] (zF_332 e) 1 S1 = zF_332 e 15 [vr 3, vi a1, vr 102, vu] [vu] S1 := rfl
    show zD (e + 1) 332 [vr 3, vi a1, vr 102] S = some (.inl (some (vi 2)), S1)
    simp (config := { maxSteps := 2000000 }) (disch := first | omega | (simp only [h3, qb_in, qkW, qmW, qnW, true_and, and_true, or_self, true_or, or_true, and_self]; done) | (simp only [h3, qb_in, qkW, qmW, qnW, true_and, and_true, or_self, true_or, or_true, and_self]; omega)) only [zD_332, b332_0, b332_7, b332_12, b332_15, b332_18, qcall_l, qcall_r, qretn_l, qJ_s, qJ_n, qV0, qEx, ↓qif0, ↓zchk_pos, ↓reduceIte, qput, qWW, qmW, qkW, qnW, h3, r, z]
theorem qwr333 (e : Nat) (S S1 : zS) (a1 a2 a3 : Int) (v : Int) (h3 : zk S 3 = (32, 0)) (h102 : zk S1 102 = (1, 1)) (r : zD e 142 [vr 3, vi a1, vi a2, vi a3] S = some (.inl (some (vi v)), S1)) : zD (e + 1) 333 [vr 3, vi a1, vi a2, vi a3, vr 102] S = some (.inl (some (vi 0)), qo S1 (qid v)) := by
  simp (config := { maxSteps := 2000000 }) (disch := first | omega | (simp only [h3, h102, qb_in, qkW, qmW, qnW, true_and, and_true, or_self, true_or, or_true, and_self]; done) | (simp only [h3, h102, qb_in, qkW, qmW, qnW, true_and, and_true, or_self, true_or, or_true, and_self]; omega)) only [zD_333, b333_0, b333_10, b333_15, b333_19, qcall_l, qcall_r, qretn_l, qJ_s, qJ_n, qV0, qEx, ↓qif0, ↓zchk_pos, ↓reduceIte, qput, qWW, qmW, qkW, qnW, h3, h102, r]
  rfl
theorem qwt333 (e : Nat) (S S1 : zS) (a1 a2 a3 : Int) (x : Nat) (hx : qpsF x ≠ 0) (h3 : zk S 3 = (32, 0)) (r : zD e 142 [vr 3, vi a1, vi a2, vi a3] S = some (.inr x, S1)) : zD (e + 1) 333 [vr 3, vi a1, vi a2, vi a3, vr 102] S = some (.inl (some (vi (qpsF x))), S1) := by
  obtain rfl := qpsF_c hx
  have z : zthr [(0, 12, 15, 2)] 7 [vr 3, vi a1, vi a2, vi a3, vr 102, vu] (zF_333 e) 2 S1 = zF_333 e 15 [vr 3, vi a1, vi a2, vi a3, vr 102, vu] [vu] S1 := rfl
  show zD (e + 1) 333 [vr 3, vi a1, vi a2, vi a3, vr 102] S = some (.inl (some (vi 1)), S1)
  simp (config := { maxSteps := 2000000 }) (disch := first | omega | (simp only [h3, qb_in, qkW, qmW, qnW, true_and, and_true, or_self, true_or, or_true, and_self]; done) | (simp only [h3, qb_in, qkW, qmW, qnW, true_and, and_true, or_self, true_or, or_true, and_self]; omega)) only [zD_333, b333_0, b333_10, b333_15, b333_19, qcall_l, qcall_r, qretn_l, qJ_s, qJ_n, qV0, qEx, ↓qif0, ↓zchk_pos, ↓reduceIte, qput, qWW, qmW, qkW, qnW, h3, r, z]
theorem qwr334 (e : Nat) (S S1 : zS) (a1 a2 : Int) (v : Int) (h3 : zk S 3 = (32, 0)) (h102 : zk S1 102 = (1, 1)) (r : zD e 143 [vr 3, vi a1, vi a2] S = some (.inl (some (vi v)), S1)) : zD (e + 1) 334 [vr 3, vi a1, vi a2, vr 102] S = some (.inl (some (vi 0)), qo S1 (qid v)) := by
  simp (config := { maxSteps := 2000000 }) (disch := first | omega | (simp only [h3, h102, qb_in, qkW, qmW, qnW, true_and, and_true, or_self, true_or, or_true, and_self]; done) | (simp only [h3, h102, qb_in, qkW, qmW, qnW, true_and, and_true, or_self, true_or, or_true, and_self]; omega)) only [zD_334, b334_0, b334_8, b334_13, b334_17, qcall_l, qcall_r, qretn_l, qJ_s, qJ_n, qV0, qEx, ↓qif0, ↓zchk_pos, ↓reduceIte, qput, qWW, qmW, qkW, qnW, h3, h102, r]
  rfl
theorem qwt334 (e : Nat) (S S1 : zS) (a1 a2 : Int) (x : Nat) (hx : qpsF x ≠ 0) (h3 : zk S 3 = (32, 0)) (r : zD e 143 [vr 3, vi a1, vi a2] S = some (.inr x, S1)) : zD (e + 1) 334 [vr 3, vi a1, vi a2, vr 102] S = some (.inl (some (vi (qpsF x))), S1) := by
  obtain rfl := qpsF_c hx
  have z : zthr [(0, 10, 13, 2)] 5 [vr 3, vi a1, vi a2, vr 102, vu] (zF_334 e) 2 S1 = zF_334 e 13 [vr 3, vi a1, vi a2, vr 102, vu] [vu] S1 := rfl
  show zD (e + 1) 334 [vr 3, vi a1, vi a2, vr 102] S = some (.inl (some (vi 1)), S1)
  simp (config := { maxSteps := 2000000 }) (disch := first | omega | (simp only [h3, qb_in, qkW, qmW, qnW, true_and, and_true, or_self, true_or, or_true, and_self]; done) | (simp only [h3, qb_in, qkW, qmW, qnW, true_and, and_true, or_self, true_or, or_true, and_self]; omega)) only [zD_334, b334_0, b334_8, b334_13, b334_17, qcall_l, qcall_r, qretn_l, qJ_s, qJ_n, qV0, qEx, ↓qif0, ↓zchk_pos, ↓reduceIte, qput, qWW, qmW, qkW, qnW, h3, r, z]
theorem qwr335 (e : Nat) (S S1 : zS) (a1 a2 : Int) (v : Int) (h3 : zk S 3 = (32, 0)) (h102 : zk S1 102 = (1, 1)) (r : zD e 144 [vr 3, vi a1, vi a2] S = some (.inl (some (vi v)), S1)) : zD (e + 1) 335 [vr 3, vi a1, vi a2, vr 102] S = some (.inl (some (vi 0)), qo S1 (qid v)) := by
  simp (config := { maxSteps := 2000000 }) (disch := first | omega | (simp only [h3, h102, qb_in, qkW, qmW, qnW, true_and, and_true, or_self, true_or, or_true, and_self]; done) | (simp only [h3, h102, qb_in, qkW, qmW, qnW, true_and, and_true, or_self, true_or, or_true, and_self]; omega)) only [zD_335, b335_0, b335_8, b335_13, b335_17, b335_21, qcall_l, qcall_r, qretn_l, qJ_s, qJ_n, qV0, qEx, ↓qif0, ↓zchk_pos, ↓reduceIte, qput, qWW, qmW, qkW, qnW, h3, h102, r]
  rfl
theorem qwt335 (e : Nat) (S S1 : zS) (a1 a2 : Int) (x : Nat) (hx : qpsE x ≠ 0) (h3 : zk S 3 = (32, 0)) (r : zD e 144 [vr 3, vi a1, vi a2] S = some (.inr x, S1)) : zD (e + 1) 335 [vr 3, vi a1, vi a2, vr 102] S = some (.inl (some (vi (qpsE x))), S1) := by
  rcases qpsE_c hx with rfl | rfl
  · have z : zthr [(0, 10, 13, 2), (0, 10, 17, 1)] 5 [vr 3, vi a1, vi a2, vr 102, vu] (zF_335 e) 2 S1 = zF_335 e 13 [vr 3, vi a1, vi a2, vr 102, vu] [vu] S1 := rfl
    show zD (e + 1) 335 [vr 3, vi a1, vi a2, vr 102] S = some (.inl (some (vi 1)), S1)
    simp (config := { maxSteps := 2000000 }) (disch := first | omega | (simp only [h3, qb_in, qkW, qmW, qnW, true_and, and_true, or_self, true_or, or_true, and_self]; done) | (simp only [h3, qb_in, qkW, qmW, qnW, true_and, and_true, or_self, true_or, or_true, and_self]; omega)) only [zD_335, b335_0, b335_8, b335_13, b335_17, b335_21, qcall_l, qcall_r, qretn_l, qJ_s, qJ_n, qV0, qEx, ↓qif0, ↓zchk_pos, ↓reduceIte, qput, qWW, qmW, qkW, qnW, h3, r, z]
  · have z : zthr [(0, 10, 13, 2), (0, 10, 17, 1)] 5 [vr 3, vi a1, vi a2, vr 102, vu] (zF_335 e) 1 S1 = zF_335 e 17 [vr 3, vi a1, vi a2, vr 102, vu] [vu] S1 := rfl
    show zD (e + 1) 335 [vr 3, vi a1, vi a2, vr 102] S = some (.inl (some (vi 2)), S1)
    simp (config := { maxSteps := 2000000 }) (disch := first | omega | (simp only [h3, qb_in, qkW, qmW, qnW, true_and, and_true, or_self, true_or, or_true, and_self]; done) | (simp only [h3, qb_in, qkW, qmW, qnW, true_and, and_true, or_self, true_or, or_true, and_self]; omega)) only [zD_335, b335_0, b335_8, b335_13, b335_17, b335_21, qcall_l, qcall_r, qretn_l, qJ_s, qJ_n, qV0, qEx, ↓qif0, ↓zchk_pos, ↓reduceIte, qput, qWW, qmW, qkW, qnW, h3, r, z]
theorem qwr336 (e : Nat) (S S1 : zS) (a1 a2 a3 : Int) (v : Int) (h3 : zk S 3 = (32, 0)) (h102 : zk S1 102 = (1, 1)) (r : zD e 145 [vr 3, vi a1, vi a2, vi a3] S = some (.inl (some (vi v)), S1)) : zD (e + 1) 336 [vr 3, vi a1, vi a2, vi a3, vr 102] S = some (.inl (some (vi 0)), qo S1 (qid v)) := by
  simp (config := { maxSteps := 2000000 }) (disch := first | omega | (simp only [h3, h102, qb_in, qkW, qmW, qnW, true_and, and_true, or_self, true_or, or_true, and_self]; done) | (simp only [h3, h102, qb_in, qkW, qmW, qnW, true_and, and_true, or_self, true_or, or_true, and_self]; omega)) only [zD_336, b336_0, b336_10, b336_15, b336_19, b336_23, qcall_l, qcall_r, qretn_l, qJ_s, qJ_n, qV0, qEx, ↓qif0, ↓zchk_pos, ↓reduceIte, qput, qWW, qmW, qkW, qnW, h3, h102, r]
  rfl
theorem qwt336 (e : Nat) (S S1 : zS) (a1 a2 a3 : Int) (x : Nat) (hx : qpsD x ≠ 0) (h3 : zk S 3 = (32, 0)) (r : zD e 145 [vr 3, vi a1, vi a2, vi a3] S = some (.inr x, S1)) : zD (e + 1) 336 [vr 3, vi a1, vi a2, vi a3, vr 102] S = some (.inl (some (vi (qpsD x))), S1) := by
  rcases qpsD_c hx with rfl | rfl
  · have z : zthr [(0, 12, 15, 2), (0, 12, 19, 0)] 7 [vr 3, vi a1, vi a2, vi a3, vr 102, vu] (zF_336 e) 2 S1 = zF_336 e 15 [vr 3, vi a1, vi a2, vi a3, vr 102, vu] [vu] S1 := rfl
    show zD (e + 1) 336 [vr 3, vi a1, vi a2, vi a3, vr 102] S = some (.inl (some (vi 1)), S1)
    simp (config := { maxSteps := 2000000 }) (disch := first | omega | (simp only [h3, qb_in, qkW, qmW, qnW, true_and, and_true, or_self, true_or, or_true, and_self]; done) | (simp only [h3, qb_in, qkW, qmW, qnW, true_and, and_true, or_self, true_or, or_true, and_self]; omega)) only [zD_336, b336_0, b336_10, b336_15, b336_19, b336_23, qcall_l, qcall_r, qretn_l, qJ_s, qJ_n, qV0, qEx, ↓qif0, ↓zchk_pos, ↓reduceIte, qput, qWW, qmW, qkW, qnW, h3, r, z]
  · have z : zthr [(0, 12, 15, 2), (0, 12, 19, 0)] 7 [vr 3, vi a1, vi a2, vi a3, vr 102, vu] (zF_336 e) 0 S1 = zF_336 e 19 [vr 3, vi a1, vi a2, vi a3, vr 102, vu] [vu] S1 := rfl
    show zD (e + 1) 336 [vr 3, vi a1, vi a2, vi a3, vr 102] S = some (.inl (some (vi 2)), S1)
    simp (config := { maxSteps := 2000000 }) (disch := first | omega | (simp only [h3, qb_in, qkW, qmW, qnW, true_and, and_true, or_self, true_or, or_true, and_self]; done) | (simp only [h3, qb_in, qkW, qmW, qnW, true_and, and_true, or_self, true_or, or_true, and_self]; omega)) only [zD_336, b336_0, b336_10, b336_15, b336_19, b336_23, qcall_l, qcall_r, qretn_l, qJ_s, qJ_n, qV0, qEx, ↓qif0, ↓zchk_pos, ↓reduceIte, qput, qWW, qmW, qkW, qnW, h3, r, z]
theorem qwr337 (e : Nat) (S S1 : zS) (a1 : Int) (v : Int) (h3 : zk S 3 = (32, 0)) (h102 : zk S1 102 = (1, 1)) (r : zD e 146 [vr 3, vi a1] S = some (.inl (some (vi v)), S1)) : zD (e + 1) 337 [vr 3, vi a1, vr 102] S = some (.inl (some (vi 0)), qo S1 (qid v)) := by
  simp (config := { maxSteps := 2000000 }) (disch := first | omega | (simp only [h3, h102, qb_in, qkW, qmW, qnW, true_and, and_true, or_self, true_or, or_true, and_self]; done) | (simp only [h3, h102, qb_in, qkW, qmW, qnW, true_and, and_true, or_self, true_or, or_true, and_self]; omega)) only [zD_337, b337_0, b337_7, b337_12, b337_15, b337_18, qcall_l, qcall_r, qretn_l, qJ_s, qJ_n, qV0, qEx, ↓qif0, ↓zchk_pos, ↓reduceIte, qput, qWW, qmW, qkW, qnW, h3, h102, r]
  rfl
theorem qwt337 (e : Nat) (S S1 : zS) (a1 : Int) (x : Nat) (hx : qpsA x ≠ 0) (h3 : zk S 3 = (32, 0)) (r : zD e 146 [vr 3, vi a1] S = some (.inr x, S1)) : zD (e + 1) 337 [vr 3, vi a1, vr 102] S = some (.inl (some (vi (qpsA x))), S1) := by
  rcases qpsA_c hx with rfl | rfl
  · have z : zthr [(0, 9, 12, 0), (0, 9, 15, 1)] 4 [vr 3, vi a1, vr 102, vu] (zF_337 e) 0 S1 = zF_337 e 12 [vr 3, vi a1, vr 102, vu] [vu] S1 := rfl
    show zD (e + 1) 337 [vr 3, vi a1, vr 102] S = some (.inl (some (vi 1)), S1)
    simp (config := { maxSteps := 2000000 }) (disch := first | omega | (simp only [h3, qb_in, qkW, qmW, qnW, true_and, and_true, or_self, true_or, or_true, and_self]; done) | (simp only [h3, qb_in, qkW, qmW, qnW, true_and, and_true, or_self, true_or, or_true, and_self]; omega)) only [zD_337, b337_0, b337_7, b337_12, b337_15, b337_18, qcall_l, qcall_r, qretn_l, qJ_s, qJ_n, qV0, qEx, ↓qif0, ↓zchk_pos, ↓reduceIte, qput, qWW, qmW, qkW, qnW, h3, r, z]
  · have z : zthr [(0, 9, 12, 0), (0, 9, 15, 1)] 4 [vr 3, vi a1, vr 102, vu] (zF_337 e) 1 S1 = zF_337 e 15 [vr 3, vi a1, vr 102, vu] [vu] S1 := rfl
    show zD (e + 1) 337 [vr 3, vi a1, vr 102] S = some (.inl (some (vi 2)), S1)
    simp (config := { maxSteps := 2000000 }) (disch := first | omega | (simp only [h3, qb_in, qkW, qmW, qnW, true_and, and_true, or_self, true_or, or_true, and_self]; done) | (simp only [h3, qb_in, qkW, qmW, qnW, true_and, and_true, or_self, true_or, or_true, and_self]; omega)) only [zD_337, b337_0, b337_7, b337_12, b337_15, b337_18, qcall_l, qcall_r, qretn_l, qJ_s, qJ_n, qV0, qEx, ↓qif0, ↓zchk_pos, ↓reduceIte, qput, qWW, qmW, qkW, qnW, h3, r, z]
theorem qwr338 (e : Nat) (S S1 : zS) (a1 a2 : Int) (v : Int) (h3 : zk S 3 = (32, 0)) (h102 : zk S1 102 = (1, 1)) (r : zD e 148 [vr 3, vi a1, vi a2] S = some (.inl (some (vi v)), S1)) : zD (e + 1) 338 [vr 3, vi a1, vi a2, vr 102] S = some (.inl (some (vi 0)), qo S1 (qid v)) := by
  simp (config := { maxSteps := 2000000 }) (disch := first | omega | (simp only [h3, h102, qb_in, qkW, qmW, qnW, true_and, and_true, or_self, true_or, or_true, and_self]; done) | (simp only [h3, h102, qb_in, qkW, qmW, qnW, true_and, and_true, or_self, true_or, or_true, and_self]; omega)) only [zD_338, b338_0, b338_8, b338_13, b338_17, b338_21, qcall_l, qcall_r, qretn_l, qJ_s, qJ_n, qV0, qEx, ↓qif0, ↓zchk_pos, ↓reduceIte, qput, qWW, qmW, qkW, qnW, h3, h102, r]
  rfl
theorem qwt338 (e : Nat) (S S1 : zS) (a1 a2 : Int) (x : Nat) (hx : qpsE x ≠ 0) (h3 : zk S 3 = (32, 0)) (r : zD e 148 [vr 3, vi a1, vi a2] S = some (.inr x, S1)) : zD (e + 1) 338 [vr 3, vi a1, vi a2, vr 102] S = some (.inl (some (vi (qpsE x))), S1) := by
  rcases qpsE_c hx with rfl | rfl
  · have z : zthr [(0, 10, 13, 2), (0, 10, 17, 1)] 5 [vr 3, vi a1, vi a2, vr 102, vu] (zF_338 e) 2 S1 = zF_338 e 13 [vr 3, vi a1, vi a2, vr 102, vu] [vu] S1 := rfl
    show zD (e + 1) 338 [vr 3, vi a1, vi a2, vr 102] S = some (.inl (some (vi 1)), S1)
    simp (config := { maxSteps := 2000000 }) (disch := first | omega | (simp only [h3, qb_in, qkW, qmW, qnW, true_and, and_true, or_self, true_or, or_true, and_self]; done) | (simp only [h3, qb_in, qkW, qmW, qnW, true_and, and_true, or_self, true_or, or_true, and_self]; omega)) only [zD_338, b338_0, b338_8, b338_13, b338_17, b338_21, qcall_l, qcall_r, qretn_l, qJ_s, qJ_n, qV0, qEx, ↓qif0, ↓zchk_pos, ↓reduceIte, qput, qWW, qmW, qkW, qnW, h3, r, z]
  · have z : zthr [(0, 10, 13, 2), (0, 10, 17, 1)] 5 [vr 3, vi a1, vi a2, vr 102, vu] (zF_338 e) 1 S1 = zF_338 e 17 [vr 3, vi a1, vi a2, vr 102, vu] [vu] S1 := rfl
    show zD (e + 1) 338 [vr 3, vi a1, vi a2, vr 102] S = some (.inl (some (vi 2)), S1)
    simp (config := { maxSteps := 2000000 }) (disch := first | omega | (simp only [h3, qb_in, qkW, qmW, qnW, true_and, and_true, or_self, true_or, or_true, and_self]; done) | (simp only [h3, qb_in, qkW, qmW, qnW, true_and, and_true, or_self, true_or, or_true, and_self]; omega)) only [zD_338, b338_0, b338_8, b338_13, b338_17, b338_21, qcall_l, qcall_r, qretn_l, qJ_s, qJ_n, qV0, qEx, ↓qif0, ↓zchk_pos, ↓reduceIte, qput, qWW, qmW, qkW, qnW, h3, r, z]
theorem qwr339 (e : Nat) (S S1 : zS) (a1 a2 : Int) (v : Int) (h3 : zk S 3 = (32, 0)) (h102 : zk S1 102 = (1, 1)) (r : zD e 149 [vr 3, vi a1, vi a2] S = some (.inl (some (vi v)), S1)) : zD (e + 1) 339 [vr 3, vi a1, vi a2, vr 102] S = some (.inl (some (vi 0)), qo S1 (qid v)) := by
  simp (config := { maxSteps := 2000000 }) (disch := first | omega | (simp only [h3, h102, qb_in, qkW, qmW, qnW, true_and, and_true, or_self, true_or, or_true, and_self]; done) | (simp only [h3, h102, qb_in, qkW, qmW, qnW, true_and, and_true, or_self, true_or, or_true, and_self]; omega)) only [zD_339, b339_0, b339_8, b339_13, b339_17, qcall_l, qcall_r, qretn_l, qJ_s, qJ_n, qV0, qEx, ↓qif0, ↓zchk_pos, ↓reduceIte, qput, qWW, qmW, qkW, qnW, h3, h102, r]
  rfl
theorem qwt339 (e : Nat) (S S1 : zS) (a1 a2 : Int) (x : Nat) (hx : qpsF x ≠ 0) (h3 : zk S 3 = (32, 0)) (r : zD e 149 [vr 3, vi a1, vi a2] S = some (.inr x, S1)) : zD (e + 1) 339 [vr 3, vi a1, vi a2, vr 102] S = some (.inl (some (vi (qpsF x))), S1) := by
  obtain rfl := qpsF_c hx
  have z : zthr [(0, 10, 13, 2)] 5 [vr 3, vi a1, vi a2, vr 102, vu] (zF_339 e) 2 S1 = zF_339 e 13 [vr 3, vi a1, vi a2, vr 102, vu] [vu] S1 := rfl
  show zD (e + 1) 339 [vr 3, vi a1, vi a2, vr 102] S = some (.inl (some (vi 1)), S1)
  simp (config := { maxSteps := 2000000 }) (disch := first | omega | (simp only [h3, qb_in, qkW, qmW, qnW, true_and, and_true, or_self, true_or, or_true, and_self]; done) | (simp only [h3, qb_in, qkW, qmW, qnW, true_and, and_true, or_self, true_or, or_true, and_self]; omega)) only [zD_339, b339_0, b339_8, b339_13, b339_17, qcall_l, qcall_r, qretn_l, qJ_s, qJ_n, qV0, qEx, ↓qif0, ↓zchk_pos, ↓reduceIte, qput, qWW, qmW, qkW, qnW, h3, r, z]
theorem qwr340 (e : Nat) (S S1 : zS) (a1 : Int) (v : Int) (h3 : zk S 3 = (32, 0)) (h102 : zk S1 102 = (1, 1)) (r : zD e 150 [vr 3, vi a1] S = some (.inl (some (vi v)), S1)) : zD (e + 1) 340 [vr 3, vi a1, vr 102] S = some (.inl (some (vi 0)), qo S1 (qid v)) := by
  simp (config := { maxSteps := 2000000 }) (disch := first | omega | (simp only [h3, h102, qb_in, qkW, qmW, qnW, true_and, and_true, or_self, true_or, or_true, and_self]; done) | (simp only [h3, h102, qb_in, qkW, qmW, qnW, true_and, and_true, or_self, true_or, or_true, and_self]; omega)) only [zD_340, b340_0, b340_7, b340_12, b340_15, qcall_l, qcall_r, qretn_l, qJ_s, qJ_n, qV0, qEx, ↓qif0, ↓zchk_pos, ↓reduceIte, qput, qWW, qmW, qkW, qnW, h3, h102, r]
  rfl
theorem qwt340 (e : Nat) (S S1 : zS) (a1 : Int) (x : Nat) (hx : qpsF x ≠ 0) (h3 : zk S 3 = (32, 0)) (r : zD e 150 [vr 3, vi a1] S = some (.inr x, S1)) : zD (e + 1) 340 [vr 3, vi a1, vr 102] S = some (.inl (some (vi (qpsF x))), S1) := by
  obtain rfl := qpsF_c hx
  have z : zthr [(0, 9, 12, 2)] 4 [vr 3, vi a1, vr 102, vu] (zF_340 e) 2 S1 = zF_340 e 12 [vr 3, vi a1, vr 102, vu] [vu] S1 := rfl
  show zD (e + 1) 340 [vr 3, vi a1, vr 102] S = some (.inl (some (vi 1)), S1)
  simp (config := { maxSteps := 2000000 }) (disch := first | omega | (simp only [h3, qb_in, qkW, qmW, qnW, true_and, and_true, or_self, true_or, or_true, and_self]; done) | (simp only [h3, qb_in, qkW, qmW, qnW, true_and, and_true, or_self, true_or, or_true, and_self]; omega)) only [zD_340, b340_0, b340_7, b340_12, b340_15, qcall_l, qcall_r, qretn_l, qJ_s, qJ_n, qV0, qEx, ↓qif0, ↓zchk_pos, ↓reduceIte, qput, qWW, qmW, qkW, qnW, h3, r, z]
theorem qlc0 (e : Nat) (S : zS) (L i : Int) (x5 x6 x7 : zV) (Q : zS → Prop) (hi : 0 ≤ i ∧ i + 6 ≤ L ∧ L ≤ 3072) (hL : qLs S L) (hu : qUn vi qid Q S (zD e 115 [vr 3, vl (zlor (zlshl (zm S 1 (i + 1)) 32) (zlnd (zm S 1 (i + 2)) 4294967295)), vi (zm S 1 (i + 3))] S) (zD e 196 [vr 37, vl (zlor (zlshl (zm S 1 (i + 1)) 32) (zlnd (zm S 1 (i + 2)) 4294967295)), vi (zm S 1 (i + 3))]) qpsA) : ∃ S2, zF_341 (e + 1) 200 [vr 1, vr 3, vr 37, vr 102, vi i, x5, x6, x7] [] S = zF_341 (e + 1) 2493 [vr 1, vr 3, vr 37, vr 102, vi i, vu, vu, vu] [] S2 ∧ qKs S S2 ∧ Q S2 := by
  have z1 : z32 (i + 1) = i + 1 := q32 (by omega)
  have z2 : z32 (i + 2) = i + 2 := q32 (by omega)
  have z3 : z32 (i + 3) = i + 3 := q32 (by omega)
  have z4 : z32 (i + 4) = i + 4 := q32 (by omega)
  have z5 : z32 (i + 5) = i + 5 := q32 (by omega)
  obtain ⟨a1, a3, a37, a102⟩ := hL
  rcases hu with ⟨v, S1, r, k1, S2, f, k2, h0, h2, q⟩ | ⟨x, v, S1, S2, r, k1, f, k2, h0, hx, q⟩
  · have w := qwr310 e S S1 _ _ v a3 (by rw [k1.2 102 (by decide)]; exact a102) r
    have k1 := qKs_o k1 (qid v)
    have f := zD_up f
    generalize qo S1 (qid v) = U at w f k1
    obtain ⟨u1, u3, u37, u102⟩ := qLs_k ⟨a1, a3, a37, a102⟩ k1
    obtain ⟨t1, t3, t37, t102⟩ := qLs_k ⟨a1, a3, a37, a102⟩ k2
    have e1 := k1.1
    have t := r_thrown (e + 1) S2 (by omega) t37
    rw [h0] at t
    refine ⟨S2, ?_, k2, q⟩
    have h2 : zm S2 102 0 = v := h2
    simp (config := { maxSteps := 2000000 }) (disch := first | omega | (simp only [a1, a3, a37, a102, u1, u3, u37, u102, t1, t3, t37, t102, z1, z2, z3, z4, z5, e1, qb_in, qkW, qmW, qnW, true_and, and_true, or_self, true_or, or_true, and_self]; done) | (simp only [a1, a3, a37, a102, u1, u3, u37, u102, t1, t3, t37, t102, z1, z2, z3, z4, z5, e1, qb_in, qkW, qmW, qnW, true_and, and_true, or_self, true_or, or_true, and_self]; omega)) only [qcall_l, qcall_r, qretn_l, qJ_s, qJ_n, qV0, qEx, ↓qif0, ↓zchk_pos, ↓reduceIte, qput, qWW, qmW, qkW, qnW, b341_200, b341_212, b341_226, b341_233, b341_246, b341_259, b341_267, b341_273, b341_278, b341_280, b341_285, b341_295, b341_297, a1, a3, a37, a102, u1, u3, u37, u102, t1, t3, t37, t102, z1, z2, z3, z4, z5, e1, w, f, t, h2, zcmp_s, eq_self, Int.reduceEq]
  · have w := qwt310 e S S1 _ _ x hx a3 r
    have f := zD_up f
    obtain ⟨u1, u3, u37, u102⟩ := qLs_k ⟨a1, a3, a37, a102⟩ k1
    obtain ⟨t1, t3, t37, t102⟩ := qLs_k ⟨a1, a3, a37, a102⟩ k2
    have e1 := k1.1
    have t := r_thrown (e + 1) S2 (by omega) t37
    rw [h0] at t
    refine ⟨S2, ?_, k2, q⟩
    simp (config := { maxSteps := 2000000 }) (disch := first | omega | (simp only [a1, a3, a37, a102, u1, u3, u37, u102, t1, t3, t37, t102, z1, z2, z3, z4, z5, e1, qb_in, qkW, qmW, qnW, true_and, and_true, or_self, true_or, or_true, and_self]; done) | (simp only [a1, a3, a37, a102, u1, u3, u37, u102, t1, t3, t37, t102, z1, z2, z3, z4, z5, e1, qb_in, qkW, qmW, qnW, true_and, and_true, or_self, true_or, or_true, and_self]; omega)) only [qcall_l, qcall_r, qretn_l, qJ_s, qJ_n, qV0, qEx, ↓qif0, ↓zchk_pos, ↓reduceIte, qput, qWW, qmW, qkW, qnW, b341_200, b341_212, b341_226, b341_233, b341_246, b341_259, b341_267, b341_273, b341_278, b341_280, b341_285, b341_295, b341_297, a1, a3, a37, a102, u1, u3, u37, u102, t1, t3, t37, t102, z1, z2, z3, z4, z5, e1, w, f, t, if_neg hx, eq_self, Int.reduceEq]
theorem qlc1 (e : Nat) (S : zS) (L i : Int) (x5 x6 x7 : zV) (Q : zS → Prop) (hL : qLs S L) (hu : qUn0 Q S (zD (e + 1) 116 [vr 3] S) (zD (e + 1) 198 [vr 37])) : ∃ S2, zF_341 (e + 1) 300 [vr 1, vr 3, vr 37, vr 102, vi i, x5, x6, x7] [] S = zF_341 (e + 1) 2493 [vr 1, vr 3, vr 37, vr 102, vi i, vu, vu, vu] [] S2 ∧ qKs S S2 ∧ Q S2 := by
  obtain ⟨v, S1, S2, r, k1, f, k2, q⟩ := hu
  refine ⟨S2, ?_, k2, q⟩
  have h3 := hL.2.1
  have h37 : zk S1 37 = (33, 0) := (qLs_k hL k1).2.2.1
  simp (config := { maxSteps := 2000000 }) (disch := first | omega | (simp only [h3, h37, qb_in, qkW, qmW, qnW, true_and, and_true, or_self, true_or, or_true, and_self]; done) | (simp only [h3, h37, qb_in, qkW, qmW, qnW, true_and, and_true, or_self, true_or, or_true, and_self]; omega)) only [qcall_l, qcall_r, qretn_l, qJ_s, qJ_n, qV0, qEx, ↓qif0, ↓zchk_pos, ↓reduceIte, qput, qWW, qmW, qkW, qnW, b341_300, b341_304, b341_308, b341_311, r, f, h3, h37, eq_self]
theorem qlc2 (e : Nat) (S : zS) (L i : Int) (x5 x6 x7 : zV) (Q : zS → Prop) (hL : qLs S L) (hu : qUn0 Q S (zD (e + 1) 117 [vr 3] S) (zD (e + 1) 203 [vr 37])) : ∃ S2, zF_341 (e + 1) 313 [vr 1, vr 3, vr 37, vr 102, vi i, x5, x6, x7] [] S = zF_341 (e + 1) 2493 [vr 1, vr 3, vr 37, vr 102, vi i, vu, vu, vu] [] S2 ∧ qKs S S2 ∧ Q S2 := by
  obtain ⟨v, S1, S2, r, k1, f, k2, q⟩ := hu
  refine ⟨S2, ?_, k2, q⟩
  have h3 := hL.2.1
  have h37 : zk S1 37 = (33, 0) := (qLs_k hL k1).2.2.1
  simp (config := { maxSteps := 2000000 }) (disch := first | omega | (simp only [h3, h37, qb_in, qkW, qmW, qnW, true_and, and_true, or_self, true_or, or_true, and_self]; done) | (simp only [h3, h37, qb_in, qkW, qmW, qnW, true_and, and_true, or_self, true_or, or_true, and_self]; omega)) only [qcall_l, qcall_r, qretn_l, qJ_s, qJ_n, qV0, qEx, ↓qif0, ↓zchk_pos, ↓reduceIte, qput, qWW, qmW, qkW, qnW, b341_313, b341_317, b341_321, b341_324, r, f, h3, h37, eq_self]
theorem qlc3 (e : Nat) (S : zS) (L i : Int) (x5 x6 x7 : zV) (Q : zS → Prop) (hi : 0 ≤ i ∧ i + 6 ≤ L ∧ L ≤ 3072) (hL : qLs S L) (hu : qUn vi qid Q S (zD e 118 [vr 3] S) (zD e 208 [vr 37]) qpsK) : ∃ S2, zF_341 (e + 1) 326 [vr 1, vr 3, vr 37, vr 102, vi i, x5, x6, x7] [] S = zF_341 (e + 1) 2493 [vr 1, vr 3, vr 37, vr 102, vi i, vu, vu, vu] [] S2 ∧ qKs S S2 ∧ Q S2 := by
  have z1 : z32 (i + 1) = i + 1 := q32 (by omega)
  have z2 : z32 (i + 2) = i + 2 := q32 (by omega)
  have z3 : z32 (i + 3) = i + 3 := q32 (by omega)
  have z4 : z32 (i + 4) = i + 4 := q32 (by omega)
  have z5 : z32 (i + 5) = i + 5 := q32 (by omega)
  obtain ⟨a1, a3, a37, a102⟩ := hL
  rcases hu with ⟨v, S1, r, k1, S2, f, k2, h0, h2, q⟩ | ⟨x, v, S1, S2, r, k1, f, k2, h0, hx, q⟩
  · have w := qwr311 e S S1 v a3 (by rw [k1.2 102 (by decide)]; exact a102) r
    have k1 := qKs_o k1 (qid v)
    have f := zD_up f
    generalize qo S1 (qid v) = U at w f k1
    obtain ⟨u1, u3, u37, u102⟩ := qLs_k ⟨a1, a3, a37, a102⟩ k1
    obtain ⟨t1, t3, t37, t102⟩ := qLs_k ⟨a1, a3, a37, a102⟩ k2
    have e1 := k1.1
    have t := r_thrown (e + 1) S2 (by omega) t37
    rw [h0] at t
    refine ⟨S2, ?_, k2, q⟩
    have h2 : zm S2 102 0 = v := h2
    simp (config := { maxSteps := 2000000 }) (disch := first | omega | (simp only [a1, a3, a37, a102, u1, u3, u37, u102, t1, t3, t37, t102, z1, z2, z3, z4, z5, e1, qb_in, qkW, qmW, qnW, true_and, and_true, or_self, true_or, or_true, and_self]; done) | (simp only [a1, a3, a37, a102, u1, u3, u37, u102, t1, t3, t37, t102, z1, z2, z3, z4, z5, e1, qb_in, qkW, qmW, qnW, true_and, and_true, or_self, true_or, or_true, and_self]; omega)) only [qcall_l, qcall_r, qretn_l, qJ_s, qJ_n, qV0, qEx, ↓qif0, ↓zchk_pos, ↓reduceIte, qput, qWW, qmW, qkW, qnW, b341_326, b341_331, b341_337, b341_343, b341_348, b341_350, b341_355, b341_365, b341_367, a1, a3, a37, a102, u1, u3, u37, u102, t1, t3, t37, t102, z1, z2, z3, z4, z5, e1, w, f, t, h2, zcmp_s, eq_self, Int.reduceEq]
  · have w := qwt311 e S S1 x hx a3 r
    have f := zD_up f
    obtain ⟨u1, u3, u37, u102⟩ := qLs_k ⟨a1, a3, a37, a102⟩ k1
    obtain ⟨t1, t3, t37, t102⟩ := qLs_k ⟨a1, a3, a37, a102⟩ k2
    have e1 := k1.1
    have t := r_thrown (e + 1) S2 (by omega) t37
    rw [h0] at t
    refine ⟨S2, ?_, k2, q⟩
    simp (config := { maxSteps := 2000000 }) (disch := first | omega | (simp only [a1, a3, a37, a102, u1, u3, u37, u102, t1, t3, t37, t102, z1, z2, z3, z4, z5, e1, qb_in, qkW, qmW, qnW, true_and, and_true, or_self, true_or, or_true, and_self]; done) | (simp only [a1, a3, a37, a102, u1, u3, u37, u102, t1, t3, t37, t102, z1, z2, z3, z4, z5, e1, qb_in, qkW, qmW, qnW, true_and, and_true, or_self, true_or, or_true, and_self]; omega)) only [qcall_l, qcall_r, qretn_l, qJ_s, qJ_n, qV0, qEx, ↓qif0, ↓zchk_pos, ↓reduceIte, qput, qWW, qmW, qkW, qnW, b341_326, b341_331, b341_337, b341_343, b341_348, b341_350, b341_355, b341_365, b341_367, a1, a3, a37, a102, u1, u3, u37, u102, t1, t3, t37, t102, z1, z2, z3, z4, z5, e1, w, f, t, if_neg hx, eq_self, Int.reduceEq]
theorem qlc4 (e : Nat) (S : zS) (L i : Int) (x5 x6 x7 : zV) (Q : zS → Prop) (hi : 0 ≤ i ∧ i + 6 ≤ L ∧ L ≤ 3072) (hL : qLs S L) (hu : qUn vi qid Q S (zD e 119 [vr 3, vi (zm S 1 (i + 1)), vi (zm S 1 (i + 2)), vi (zm S 1 (i + 3)), vi (zm S 1 (i + 4)), vi (zm S 1 (i + 5))] S) (zD e 211 [vr 37, vi (zm S 1 (i + 1)), vi (zm S 1 (i + 2)), vi (zm S 1 (i + 3)), vi (zm S 1 (i + 4)), vi (zm S 1 (i + 5))]) qps3) : ∃ S2, zF_341 (e + 1) 370 [vr 1, vr 3, vr 37, vr 102, vi i, x5, x6, x7] [] S = zF_341 (e + 1) 2493 [vr 1, vr 3, vr 37, vr 102, vi i, vu, vu, vu] [] S2 ∧ qKs S S2 ∧ Q S2 := by
  have z1 : z32 (i + 1) = i + 1 := q32 (by omega)
  have z2 : z32 (i + 2) = i + 2 := q32 (by omega)
  have z3 : z32 (i + 3) = i + 3 := q32 (by omega)
  have z4 : z32 (i + 4) = i + 4 := q32 (by omega)
  have z5 : z32 (i + 5) = i + 5 := q32 (by omega)
  obtain ⟨a1, a3, a37, a102⟩ := hL
  rcases hu with ⟨v, S1, r, k1, S2, f, k2, h0, h2, q⟩ | ⟨x, v, S1, S2, r, k1, f, k2, h0, hx, q⟩
  · have w := qwr312 e S S1 _ _ _ _ _ v a3 (by rw [k1.2 102 (by decide)]; exact a102) r
    have k1 := qKs_o k1 (qid v)
    have f := zD_up f
    generalize qo S1 (qid v) = U at w f k1
    obtain ⟨u1, u3, u37, u102⟩ := qLs_k ⟨a1, a3, a37, a102⟩ k1
    obtain ⟨t1, t3, t37, t102⟩ := qLs_k ⟨a1, a3, a37, a102⟩ k2
    have e1 := k1.1
    have t := r_thrown (e + 1) S2 (by omega) t37
    rw [h0] at t
    refine ⟨S2, ?_, k2, q⟩
    have h2 : zm S2 102 0 = v := h2
    simp (config := { maxSteps := 2000000 }) (disch := first | omega | (simp only [a1, a3, a37, a102, u1, u3, u37, u102, t1, t3, t37, t102, z1, z2, z3, z4, z5, e1, qb_in, qkW, qmW, qnW, true_and, and_true, or_self, true_or, or_true, and_self]; done) | (simp only [a1, a3, a37, a102, u1, u3, u37, u102, t1, t3, t37, t102, z1, z2, z3, z4, z5, e1, qb_in, qkW, qmW, qnW, true_and, and_true, or_self, true_or, or_true, and_self]; omega)) only [qcall_l, qcall_r, qretn_l, qJ_s, qJ_n, qV0, qEx, ↓qif0, ↓zchk_pos, ↓reduceIte, qput, qWW, qmW, qkW, qnW, b341_370, b341_382, b341_394, b341_405, b341_418, b341_430, b341_441, b341_447, b341_452, b341_454, b341_459, b341_469, b341_471, a1, a3, a37, a102, u1, u3, u37, u102, t1, t3, t37, t102, z1, z2, z3, z4, z5, e1, w, f, t, h2, zcmp_s, eq_self, Int.reduceEq]
  · have w := qwt312 e S S1 _ _ _ _ _ x hx a3 r
    have f := zD_up f
    obtain ⟨u1, u3, u37, u102⟩ := qLs_k ⟨a1, a3, a37, a102⟩ k1
    obtain ⟨t1, t3, t37, t102⟩ := qLs_k ⟨a1, a3, a37, a102⟩ k2
    have e1 := k1.1
    have t := r_thrown (e + 1) S2 (by omega) t37
    rw [h0] at t
    refine ⟨S2, ?_, k2, q⟩
    simp (config := { maxSteps := 2000000 }) (disch := first | omega | (simp only [a1, a3, a37, a102, u1, u3, u37, u102, t1, t3, t37, t102, z1, z2, z3, z4, z5, e1, qb_in, qkW, qmW, qnW, true_and, and_true, or_self, true_or, or_true, and_self]; done) | (simp only [a1, a3, a37, a102, u1, u3, u37, u102, t1, t3, t37, t102, z1, z2, z3, z4, z5, e1, qb_in, qkW, qmW, qnW, true_and, and_true, or_self, true_or, or_true, and_self]; omega)) only [qcall_l, qcall_r, qretn_l, qJ_s, qJ_n, qV0, qEx, ↓qif0, ↓zchk_pos, ↓reduceIte, qput, qWW, qmW, qkW, qnW, b341_370, b341_382, b341_394, b341_405, b341_418, b341_430, b341_441, b341_447, b341_452, b341_454, b341_459, b341_469, b341_471, a1, a3, a37, a102, u1, u3, u37, u102, t1, t3, t37, t102, z1, z2, z3, z4, z5, e1, w, f, t, if_neg hx, eq_self, Int.reduceEq]
theorem qlc5 (e : Nat) (S : zS) (L i : Int) (x5 x6 x7 : zV) (Q : zS → Prop) (hi : 0 ≤ i ∧ i + 6 ≤ L ∧ L ≤ 3072) (hL : qLs S L) (hu : qUn vi qid Q S (zD e 120 [vr 3] S) (zD e 213 [vr 37]) qpsA) : ∃ S2, zF_341 (e + 1) 474 [vr 1, vr 3, vr 37, vr 102, vi i, x5, x6, x7] [] S = zF_341 (e + 1) 2493 [vr 1, vr 3, vr 37, vr 102, vi i, vu, vu, vu] [] S2 ∧ qKs S S2 ∧ Q S2 := by
  have z1 : z32 (i + 1) = i + 1 := q32 (by omega)
  have z2 : z32 (i + 2) = i + 2 := q32 (by omega)
  have z3 : z32 (i + 3) = i + 3 := q32 (by omega)
  have z4 : z32 (i + 4) = i + 4 := q32 (by omega)
  have z5 : z32 (i + 5) = i + 5 := q32 (by omega)
  obtain ⟨a1, a3, a37, a102⟩ := hL
  rcases hu with ⟨v, S1, r, k1, S2, f, k2, h0, h2, q⟩ | ⟨x, v, S1, S2, r, k1, f, k2, h0, hx, q⟩
  · have w := qwr313 e S S1 v a3 (by rw [k1.2 102 (by decide)]; exact a102) r
    have k1 := qKs_o k1 (qid v)
    have f := zD_up f
    generalize qo S1 (qid v) = U at w f k1
    obtain ⟨u1, u3, u37, u102⟩ := qLs_k ⟨a1, a3, a37, a102⟩ k1
    obtain ⟨t1, t3, t37, t102⟩ := qLs_k ⟨a1, a3, a37, a102⟩ k2
    have e1 := k1.1
    have t := r_thrown (e + 1) S2 (by omega) t37
    rw [h0] at t
    refine ⟨S2, ?_, k2, q⟩
    have h2 : zm S2 102 0 = v := h2
    simp (config := { maxSteps := 2000000 }) (disch := first | omega | (simp only [a1, a3, a37, a102, u1, u3, u37, u102, t1, t3, t37, t102, z1, z2, z3, z4, z5, e1, qb_in, qkW, qmW, qnW, true_and, and_true, or_self, true_or, or_true, and_self]; done) | (simp only [a1, a3, a37, a102, u1, u3, u37, u102, t1, t3, t37, t102, z1, z2, z3, z4, z5, e1, qb_in, qkW, qmW, qnW, true_and, and_true, or_self, true_or, or_true, and_self]; omega)) only [qcall_l, qcall_r, qretn_l, qJ_s, qJ_n, qV0, qEx, ↓qif0, ↓zchk_pos, ↓reduceIte, qput, qWW, qmW, qkW, qnW, b341_474, b341_479, b341_485, b341_491, b341_496, b341_498, b341_503, b341_513, b341_515, a1, a3, a37, a102, u1, u3, u37, u102, t1, t3, t37, t102, z1, z2, z3, z4, z5, e1, w, f, t, h2, zcmp_s, eq_self, Int.reduceEq]
  · have w := qwt313 e S S1 x hx a3 r
    have f := zD_up f
    obtain ⟨u1, u3, u37, u102⟩ := qLs_k ⟨a1, a3, a37, a102⟩ k1
    obtain ⟨t1, t3, t37, t102⟩ := qLs_k ⟨a1, a3, a37, a102⟩ k2
    have e1 := k1.1
    have t := r_thrown (e + 1) S2 (by omega) t37
    rw [h0] at t
    refine ⟨S2, ?_, k2, q⟩
    simp (config := { maxSteps := 2000000 }) (disch := first | omega | (simp only [a1, a3, a37, a102, u1, u3, u37, u102, t1, t3, t37, t102, z1, z2, z3, z4, z5, e1, qb_in, qkW, qmW, qnW, true_and, and_true, or_self, true_or, or_true, and_self]; done) | (simp only [a1, a3, a37, a102, u1, u3, u37, u102, t1, t3, t37, t102, z1, z2, z3, z4, z5, e1, qb_in, qkW, qmW, qnW, true_and, and_true, or_self, true_or, or_true, and_self]; omega)) only [qcall_l, qcall_r, qretn_l, qJ_s, qJ_n, qV0, qEx, ↓qif0, ↓zchk_pos, ↓reduceIte, qput, qWW, qmW, qkW, qnW, b341_474, b341_479, b341_485, b341_491, b341_496, b341_498, b341_503, b341_513, b341_515, a1, a3, a37, a102, u1, u3, u37, u102, t1, t3, t37, t102, z1, z2, z3, z4, z5, e1, w, f, t, if_neg hx, eq_self, Int.reduceEq]
theorem qlc6 (e : Nat) (S : zS) (L i : Int) (x5 x6 x7 : zV) (Q : zS → Prop) (hi : 0 ≤ i ∧ i + 6 ≤ L ∧ L ≤ 3072) (hL : qLs S L) (hu : qUn vi qid Q S (zD e 121 [vr 3, vi (zm S 1 (i + 1)), vi (zm S 1 (i + 2))] S) (zD e 228 [vr 37, vi (zm S 1 (i + 1)), vi (zm S 1 (i + 2))]) qps3) : ∃ S2, zF_341 (e + 1) 518 [vr 1, vr 3, vr 37, vr 102, vi i, x5, x6, x7] [] S = zF_341 (e + 1) 2493 [vr 1, vr 3, vr 37, vr 102, vi i, vu, vu, vu] [] S2 ∧ qKs S S2 ∧ Q S2 := by
  have z1 : z32 (i + 1) = i + 1 := q32 (by omega)
  have z2 : z32 (i + 2) = i + 2 := q32 (by omega)
  have z3 : z32 (i + 3) = i + 3 := q32 (by omega)
  have z4 : z32 (i + 4) = i + 4 := q32 (by omega)
  have z5 : z32 (i + 5) = i + 5 := q32 (by omega)
  obtain ⟨a1, a3, a37, a102⟩ := hL
  rcases hu with ⟨v, S1, r, k1, S2, f, k2, h0, h2, q⟩ | ⟨x, v, S1, S2, r, k1, f, k2, h0, hx, q⟩
  · have w := qwr314 e S S1 _ _ v a3 (by rw [k1.2 102 (by decide)]; exact a102) r
    have k1 := qKs_o k1 (qid v)
    have f := zD_up f
    generalize qo S1 (qid v) = U at w f k1
    obtain ⟨u1, u3, u37, u102⟩ := qLs_k ⟨a1, a3, a37, a102⟩ k1
    obtain ⟨t1, t3, t37, t102⟩ := qLs_k ⟨a1, a3, a37, a102⟩ k2
    have e1 := k1.1
    have t := r_thrown (e + 1) S2 (by omega) t37
    rw [h0] at t
    refine ⟨S2, ?_, k2, q⟩
    have h2 : zm S2 102 0 = v := h2
    simp (config := { maxSteps := 2000000 }) (disch := first | omega | (simp only [a1, a3, a37, a102, u1, u3, u37, u102, t1, t3, t37, t102, z1, z2, z3, z4, z5, e1, qb_in, qkW, qmW, qnW, true_and, and_true, or_self, true_or, or_true, and_self]; done) | (simp only [a1, a3, a37, a102, u1, u3, u37, u102, t1, t3, t37, t102, z1, z2, z3, z4, z5, e1, qb_in, qkW, qmW, qnW, true_and, and_true, or_self, true_or, or_true, and_self]; omega)) only [qcall_l, qcall_r, qretn_l, qJ_s, qJ_n, qV0, qEx, ↓qif0, ↓zchk_pos, ↓reduceIte, qput, qWW, qmW, qkW, qnW, b341_518, b341_530, b341_535, b341_548, b341_553, b341_559, b341_564, b341_566, b341_571, b341_581, b341_583, a1, a3, a37, a102, u1, u3, u37, u102, t1, t3, t37, t102, z1, z2, z3, z4, z5, e1, w, f, t, h2, zcmp_s, eq_self, Int.reduceEq]
  · have w := qwt314 e S S1 _ _ x hx a3 r
    have f := zD_up f
    obtain ⟨u1, u3, u37, u102⟩ := qLs_k ⟨a1, a3, a37, a102⟩ k1
    obtain ⟨t1, t3, t37, t102⟩ := qLs_k ⟨a1, a3, a37, a102⟩ k2
    have e1 := k1.1
    have t := r_thrown (e + 1) S2 (by omega) t37
    rw [h0] at t
    refine ⟨S2, ?_, k2, q⟩
    simp (config := { maxSteps := 2000000 }) (disch := first | omega | (simp only [a1, a3, a37, a102, u1, u3, u37, u102, t1, t3, t37, t102, z1, z2, z3, z4, z5, e1, qb_in, qkW, qmW, qnW, true_and, and_true, or_self, true_or, or_true, and_self]; done) | (simp only [a1, a3, a37, a102, u1, u3, u37, u102, t1, t3, t37, t102, z1, z2, z3, z4, z5, e1, qb_in, qkW, qmW, qnW, true_and, and_true, or_self, true_or, or_true, and_self]; omega)) only [qcall_l, qcall_r, qretn_l, qJ_s, qJ_n, qV0, qEx, ↓qif0, ↓zchk_pos, ↓reduceIte, qput, qWW, qmW, qkW, qnW, b341_518, b341_530, b341_535, b341_548, b341_553, b341_559, b341_564, b341_566, b341_571, b341_581, b341_583, a1, a3, a37, a102, u1, u3, u37, u102, t1, t3, t37, t102, z1, z2, z3, z4, z5, e1, w, f, t, if_neg hx, eq_self, Int.reduceEq]
theorem qlc7 (e : Nat) (S : zS) (L i : Int) (x5 x6 x7 : zV) (Q : zS → Prop) (hi : 0 ≤ i ∧ i + 6 ≤ L ∧ L ≤ 3072) (hL : qLs S L) (hu : qUn vi qid Q S (zD e 122 [vr 3, vi (zm S 1 (i + 1)), vi (zm S 1 (i + 2)), vi (zm S 1 (i + 3))] S) (zD e 229 [vr 37, vi (zm S 1 (i + 1)), vi (zm S 1 (i + 2)), vi (zm S 1 (i + 3))]) qps3) : ∃ S2, zF_341 (e + 1) 586 [vr 1, vr 3, vr 37, vr 102, vi i, x5, x6, x7] [] S = zF_341 (e + 1) 2493 [vr 1, vr 3, vr 37, vr 102, vi i, vu, vu, vu] [] S2 ∧ qKs S S2 ∧ Q S2 := by
  have z1 : z32 (i + 1) = i + 1 := q32 (by omega)
  have z2 : z32 (i + 2) = i + 2 := q32 (by omega)
  have z3 : z32 (i + 3) = i + 3 := q32 (by omega)
  have z4 : z32 (i + 4) = i + 4 := q32 (by omega)
  have z5 : z32 (i + 5) = i + 5 := q32 (by omega)
  obtain ⟨a1, a3, a37, a102⟩ := hL
  rcases hu with ⟨v, S1, r, k1, S2, f, k2, h0, h2, q⟩ | ⟨x, v, S1, S2, r, k1, f, k2, h0, hx, q⟩
  · have w := qwr315 e S S1 _ _ _ v a3 (by rw [k1.2 102 (by decide)]; exact a102) r
    have k1 := qKs_o k1 (qid v)
    have f := zD_up f
    generalize qo S1 (qid v) = U at w f k1
    obtain ⟨u1, u3, u37, u102⟩ := qLs_k ⟨a1, a3, a37, a102⟩ k1
    obtain ⟨t1, t3, t37, t102⟩ := qLs_k ⟨a1, a3, a37, a102⟩ k2
    have e1 := k1.1
    have t := r_thrown (e + 1) S2 (by omega) t37
    rw [h0] at t
    refine ⟨S2, ?_, k2, q⟩
    have h2 : zm S2 102 0 = v := h2
    simp (config := { maxSteps := 2000000 }) (disch := first | omega | (simp only [a1, a3, a37, a102, u1, u3, u37, u102, t1, t3, t37, t102, z1, z2, z3, z4, z5, e1, qb_in, qkW, qmW, qnW, true_and, and_true, or_self, true_or, or_true, and_self]; done) | (simp only [a1, a3, a37, a102, u1, u3, u37, u102, t1, t3, t37, t102, z1, z2, z3, z4, z5, e1, qb_in, qkW, qmW, qnW, true_and, and_true, or_self, true_or, or_true, and_self]; omega)) only [qcall_l, qcall_r, qretn_l, qJ_s, qJ_n, qV0, qEx, ↓qif0, ↓zchk_pos, ↓reduceIte, qput, qWW, qmW, qkW, qnW, b341_586, b341_598, b341_609, b341_622, b341_633, b341_639, b341_644, b341_646, b341_651, b341_661, b341_663, a1, a3, a37, a102, u1, u3, u37, u102, t1, t3, t37, t102, z1, z2, z3, z4, z5, e1, w, f, t, h2, zcmp_s, eq_self, Int.reduceEq]
  · have w := qwt315 e S S1 _ _ _ x hx a3 r
    have f := zD_up f
    obtain ⟨u1, u3, u37, u102⟩ := qLs_k ⟨a1, a3, a37, a102⟩ k1
    obtain ⟨t1, t3, t37, t102⟩ := qLs_k ⟨a1, a3, a37, a102⟩ k2
    have e1 := k1.1
    have t := r_thrown (e + 1) S2 (by omega) t37
    rw [h0] at t
    refine ⟨S2, ?_, k2, q⟩
    simp (config := { maxSteps := 2000000 }) (disch := first | omega | (simp only [a1, a3, a37, a102, u1, u3, u37, u102, t1, t3, t37, t102, z1, z2, z3, z4, z5, e1, qb_in, qkW, qmW, qnW, true_and, and_true, or_self, true_or, or_true, and_self]; done) | (simp only [a1, a3, a37, a102, u1, u3, u37, u102, t1, t3, t37, t102, z1, z2, z3, z4, z5, e1, qb_in, qkW, qmW, qnW, true_and, and_true, or_self, true_or, or_true, and_self]; omega)) only [qcall_l, qcall_r, qretn_l, qJ_s, qJ_n, qV0, qEx, ↓qif0, ↓zchk_pos, ↓reduceIte, qput, qWW, qmW, qkW, qnW, b341_586, b341_598, b341_609, b341_622, b341_633, b341_639, b341_644, b341_646, b341_651, b341_661, b341_663, a1, a3, a37, a102, u1, u3, u37, u102, t1, t3, t37, t102, z1, z2, z3, z4, z5, e1, w, f, t, if_neg hx, eq_self, Int.reduceEq]
theorem qlc8 (e : Nat) (S : zS) (L i : Int) (x5 x6 x7 : zV) (Q : zS → Prop) (hi : 0 ≤ i ∧ i + 6 ≤ L ∧ L ≤ 3072) (hL : qLs S L) (hu : qUn vi qtf01 Q S (zD e 123 [vr 3, vi (zm S 1 (i + 1)), vi (zm S 1 (i + 2))] S) (zD e 230 [vr 37, vi (zm S 1 (i + 1)), vi (zm S 1 (i + 2))]) qps3) : ∃ S2, zF_341 (e + 1) 666 [vr 1, vr 3, vr 37, vr 102, vi i, x5, x6, x7] [] S = zF_341 (e + 1) 2493 [vr 1, vr 3, vr 37, vr 102, vi i, vu, vu, vu] [] S2 ∧ qKs S S2 ∧ Q S2 := by
  have z1 : z32 (i + 1) = i + 1 := q32 (by omega)
  have z2 : z32 (i + 2) = i + 2 := q32 (by omega)
  have z3 : z32 (i + 3) = i + 3 := q32 (by omega)
  have z4 : z32 (i + 4) = i + 4 := q32 (by omega)
  have z5 : z32 (i + 5) = i + 5 := q32 (by omega)
  obtain ⟨a1, a3, a37, a102⟩ := hL
  rcases hu with ⟨v, S1, r, k1, S2, f, k2, h0, h2, q⟩ | ⟨x, v, S1, S2, r, k1, f, k2, h0, hx, q⟩
  · have w := qwr316 e S S1 _ _ v a3 (by rw [k1.2 102 (by decide)]; exact a102) r
    have k1 := qKs_o k1 (qtf01 v)
    have f := zD_up f
    generalize qo S1 (qtf01 v) = U at w f k1
    obtain ⟨u1, u3, u37, u102⟩ := qLs_k ⟨a1, a3, a37, a102⟩ k1
    obtain ⟨t1, t3, t37, t102⟩ := qLs_k ⟨a1, a3, a37, a102⟩ k2
    have e1 := k1.1
    have t := r_thrown (e + 1) S2 (by omega) t37
    rw [h0] at t
    refine ⟨S2, ?_, k2, q⟩
    unfold qtf01 at h2
    by_cases c : v = 0
    · rw [if_pos c] at h2
      simp (config := { maxSteps := 2000000 }) (disch := first | omega | (simp only [a1, a3, a37, a102, u1, u3, u37, u102, t1, t3, t37, t102, z1, z2, z3, z4, z5, e1, qb_in, qkW, qmW, qnW, true_and, and_true, or_self, true_or, or_true, and_self]; done) | (simp only [a1, a3, a37, a102, u1, u3, u37, u102, t1, t3, t37, t102, z1, z2, z3, z4, z5, e1, qb_in, qkW, qmW, qnW, true_and, and_true, or_self, true_or, or_true, and_self]; omega)) only [qcall_l, qcall_r, qretn_l, qJ_s, qJ_n, qV0, qEx, ↓qif0, ↓zchk_pos, ↓reduceIte, qput, qWW, qmW, qkW, qnW, b341_666, b341_678, b341_683, b341_696, b341_701, b341_707, b341_712, b341_714, b341_719, b341_727, b341_731, b341_732, b341_736, b341_738, a1, a3, a37, a102, u1, u3, u37, u102, t1, t3, t37, t102, z1, z2, z3, z4, z5, e1, w, f, t, if_pos c, h2, zcmp_s, eq_self, Int.reduceEq]
    · rw [if_neg c] at h2
      simp (config := { maxSteps := 2000000 }) (disch := first | omega | (simp only [a1, a3, a37, a102, u1, u3, u37, u102, t1, t3, t37, t102, z1, z2, z3, z4, z5, e1, qb_in, qkW, qmW, qnW, true_and, and_true, or_self, true_or, or_true, and_self]; done) | (simp only [a1, a3, a37, a102, u1, u3, u37, u102, t1, t3, t37, t102, z1, z2, z3, z4, z5, e1, qb_in, qkW, qmW, qnW, true_and, and_true, or_self, true_or, or_true, and_self]; omega)) only [qcall_l, qcall_r, qretn_l, qJ_s, qJ_n, qV0, qEx, ↓qif0, ↓zchk_pos, ↓reduceIte, qput, qWW, qmW, qkW, qnW, b341_666, b341_678, b341_683, b341_696, b341_701, b341_707, b341_712, b341_714, b341_719, b341_727, b341_731, b341_732, b341_736, b341_738, a1, a3, a37, a102, u1, u3, u37, u102, t1, t3, t37, t102, z1, z2, z3, z4, z5, e1, w, f, t, if_neg c, h2, zcmp_s, eq_self, Int.reduceEq]
  · have w := qwt316 e S S1 _ _ x hx a3 r
    have f := zD_up f
    obtain ⟨u1, u3, u37, u102⟩ := qLs_k ⟨a1, a3, a37, a102⟩ k1
    obtain ⟨t1, t3, t37, t102⟩ := qLs_k ⟨a1, a3, a37, a102⟩ k2
    have e1 := k1.1
    have t := r_thrown (e + 1) S2 (by omega) t37
    rw [h0] at t
    refine ⟨S2, ?_, k2, q⟩
    simp (config := { maxSteps := 2000000 }) (disch := first | omega | (simp only [a1, a3, a37, a102, u1, u3, u37, u102, t1, t3, t37, t102, z1, z2, z3, z4, z5, e1, qb_in, qkW, qmW, qnW, true_and, and_true, or_self, true_or, or_true, and_self]; done) | (simp only [a1, a3, a37, a102, u1, u3, u37, u102, t1, t3, t37, t102, z1, z2, z3, z4, z5, e1, qb_in, qkW, qmW, qnW, true_and, and_true, or_self, true_or, or_true, and_self]; omega)) only [qcall_l, qcall_r, qretn_l, qJ_s, qJ_n, qV0, qEx, ↓qif0, ↓zchk_pos, ↓reduceIte, qput, qWW, qmW, qkW, qnW, b341_666, b341_678, b341_683, b341_696, b341_701, b341_707, b341_712, b341_714, b341_719, b341_727, b341_731, b341_732, b341_736, b341_738, a1, a3, a37, a102, u1, u3, u37, u102, t1, t3, t37, t102, z1, z2, z3, z4, z5, e1, w, f, t, if_neg hx, eq_self, Int.reduceEq]
theorem qlc9 (e : Nat) (S : zS) (L i : Int) (x5 x6 x7 : zV) (Q : zS → Prop) (hi : 0 ≤ i ∧ i + 6 ≤ L ∧ L ≤ 3072) (hL : qLs S L) (hu : qUn vi qid Q S (zD e 124 [vr 3, vi (zm S 1 (i + 1)), vi (zm S 1 (i + 2))] S) (zD e 231 [vr 37, vi (zm S 1 (i + 1)), vi (zm S 1 (i + 2))]) qps3) : ∃ S2, zF_341 (e + 1) 741 [vr 1, vr 3, vr 37, vr 102, vi i, x5, x6, x7] [] S = zF_341 (e + 1) 2493 [vr 1, vr 3, vr 37, vr 102, vi i, vu, vu, vu] [] S2 ∧ qKs S S2 ∧ Q S2 := by
  have z1 : z32 (i + 1) = i + 1 := q32 (by omega)
  have z2 : z32 (i + 2) = i + 2 := q32 (by omega)
  have z3 : z32 (i + 3) = i + 3 := q32 (by omega)
  have z4 : z32 (i + 4) = i + 4 := q32 (by omega)
  have z5 : z32 (i + 5) = i + 5 := q32 (by omega)
  obtain ⟨a1, a3, a37, a102⟩ := hL
  rcases hu with ⟨v, S1, r, k1, S2, f, k2, h0, h2, q⟩ | ⟨x, v, S1, S2, r, k1, f, k2, h0, hx, q⟩
  · have w := qwr317 e S S1 _ _ v a3 (by rw [k1.2 102 (by decide)]; exact a102) r
    have k1 := qKs_o k1 (qid v)
    have f := zD_up f
    generalize qo S1 (qid v) = U at w f k1
    obtain ⟨u1, u3, u37, u102⟩ := qLs_k ⟨a1, a3, a37, a102⟩ k1
    obtain ⟨t1, t3, t37, t102⟩ := qLs_k ⟨a1, a3, a37, a102⟩ k2
    have e1 := k1.1
    have t := r_thrown (e + 1) S2 (by omega) t37
    rw [h0] at t
    refine ⟨S2, ?_, k2, q⟩
    have h2 : zm S2 102 0 = v := h2
    simp (config := { maxSteps := 2000000 }) (disch := first | omega | (simp only [a1, a3, a37, a102, u1, u3, u37, u102, t1, t3, t37, t102, z1, z2, z3, z4, z5, e1, qb_in, qkW, qmW, qnW, true_and, and_true, or_self, true_or, or_true, and_self]; done) | (simp only [a1, a3, a37, a102, u1, u3, u37, u102, t1, t3, t37, t102, z1, z2, z3, z4, z5, e1, qb_in, qkW, qmW, qnW, true_and, and_true, or_self, true_or, or_true, and_self]; omega)) only [qcall_l, qcall_r, qretn_l, qJ_s, qJ_n, qV0, qEx, ↓qif0, ↓zchk_pos, ↓reduceIte, qput, qWW, qmW, qkW, qnW, b341_741, b341_753, b341_758, b341_771, b341_776, b341_782, b341_787, b341_789, b341_794, b341_804, b341_806, a1, a3, a37, a102, u1, u3, u37, u102, t1, t3, t37, t102, z1, z2, z3, z4, z5, e1, w, f, t, h2, zcmp_s, eq_self, Int.reduceEq]
  · have w := qwt317 e S S1 _ _ x hx a3 r
    have f := zD_up f
    obtain ⟨u1, u3, u37, u102⟩ := qLs_k ⟨a1, a3, a37, a102⟩ k1
    obtain ⟨t1, t3, t37, t102⟩ := qLs_k ⟨a1, a3, a37, a102⟩ k2
    have e1 := k1.1
    have t := r_thrown (e + 1) S2 (by omega) t37
    rw [h0] at t
    refine ⟨S2, ?_, k2, q⟩
    simp (config := { maxSteps := 2000000 }) (disch := first | omega | (simp only [a1, a3, a37, a102, u1, u3, u37, u102, t1, t3, t37, t102, z1, z2, z3, z4, z5, e1, qb_in, qkW, qmW, qnW, true_and, and_true, or_self, true_or, or_true, and_self]; done) | (simp only [a1, a3, a37, a102, u1, u3, u37, u102, t1, t3, t37, t102, z1, z2, z3, z4, z5, e1, qb_in, qkW, qmW, qnW, true_and, and_true, or_self, true_or, or_true, and_self]; omega)) only [qcall_l, qcall_r, qretn_l, qJ_s, qJ_n, qV0, qEx, ↓qif0, ↓zchk_pos, ↓reduceIte, qput, qWW, qmW, qkW, qnW, b341_741, b341_753, b341_758, b341_771, b341_776, b341_782, b341_787, b341_789, b341_794, b341_804, b341_806, a1, a3, a37, a102, u1, u3, u37, u102, t1, t3, t37, t102, z1, z2, z3, z4, z5, e1, w, f, t, if_neg hx, eq_self, Int.reduceEq]
theorem qlc10 (e : Nat) (S : zS) (L i : Int) (x5 x6 x7 : zV) (Q : zS → Prop) (hi : 0 ≤ i ∧ i + 6 ≤ L ∧ L ≤ 3072) (hL : qLs S L) (hu : qUn vl qid Q S (zD e 125 [vr 3, vi (zm S 1 (i + 1)), vi (zm S 1 (i + 2))] S) (zD e 232 [vr 37, vi (zm S 1 (i + 1)), vi (zm S 1 (i + 2))]) qps3) : ∃ S2, zF_341 (e + 1) 809 [vr 1, vr 3, vr 37, vr 102, vi i, x5, x6, x7] [] S = zF_341 (e + 1) 2493 [vr 1, vr 3, vr 37, vr 102, vi i, vu, vu, vu] [] S2 ∧ qKs S S2 ∧ Q S2 := by
  have z1 : z32 (i + 1) = i + 1 := q32 (by omega)
  have z2 : z32 (i + 2) = i + 2 := q32 (by omega)
  have z3 : z32 (i + 3) = i + 3 := q32 (by omega)
  have z4 : z32 (i + 4) = i + 4 := q32 (by omega)
  have z5 : z32 (i + 5) = i + 5 := q32 (by omega)
  obtain ⟨a1, a3, a37, a102⟩ := hL
  rcases hu with ⟨v, S1, r, k1, S2, f, k2, h0, h2, q⟩ | ⟨x, v, S1, S2, r, k1, f, k2, h0, hx, q⟩
  · have w := qwr318 e S S1 _ _ v a3 (by rw [k1.2 102 (by decide)]; exact a102) r
    have k1 := qKs_o k1 (qid v)
    have f := zD_up f
    generalize qo S1 (qid v) = U at w f k1
    obtain ⟨u1, u3, u37, u102⟩ := qLs_k ⟨a1, a3, a37, a102⟩ k1
    obtain ⟨t1, t3, t37, t102⟩ := qLs_k ⟨a1, a3, a37, a102⟩ k2
    have e1 := k1.1
    have t := r_thrown (e + 1) S2 (by omega) t37
    rw [h0] at t
    refine ⟨S2, ?_, k2, q⟩
    have h2 : zm S2 102 0 = v := h2
    simp (config := { maxSteps := 2000000 }) (disch := first | omega | (simp only [a1, a3, a37, a102, u1, u3, u37, u102, t1, t3, t37, t102, z1, z2, z3, z4, z5, e1, qb_in, qkW, qmW, qnW, true_and, and_true, or_self, true_or, or_true, and_self]; done) | (simp only [a1, a3, a37, a102, u1, u3, u37, u102, t1, t3, t37, t102, z1, z2, z3, z4, z5, e1, qb_in, qkW, qmW, qnW, true_and, and_true, or_self, true_or, or_true, and_self]; omega)) only [qcall_l, qcall_r, qretn_l, qJ_s, qJ_n, qV0, qEx, ↓qif0, ↓zchk_pos, ↓reduceIte, qput, qWW, qmW, qkW, qnW, b341_809, b341_821, b341_826, b341_839, b341_844, b341_850, b341_855, b341_857, b341_862, b341_871, b341_873, a1, a3, a37, a102, u1, u3, u37, u102, t1, t3, t37, t102, z1, z2, z3, z4, z5, e1, w, f, t, h2, zcmp_s, eq_self, Int.reduceEq]
  · have w := qwt318 e S S1 _ _ x hx a3 r
    have f := zD_up f
    obtain ⟨u1, u3, u37, u102⟩ := qLs_k ⟨a1, a3, a37, a102⟩ k1
    obtain ⟨t1, t3, t37, t102⟩ := qLs_k ⟨a1, a3, a37, a102⟩ k2
    have e1 := k1.1
    have t := r_thrown (e + 1) S2 (by omega) t37
    rw [h0] at t
    refine ⟨S2, ?_, k2, q⟩
    simp (config := { maxSteps := 2000000 }) (disch := first | omega | (simp only [a1, a3, a37, a102, u1, u3, u37, u102, t1, t3, t37, t102, z1, z2, z3, z4, z5, e1, qb_in, qkW, qmW, qnW, true_and, and_true, or_self, true_or, or_true, and_self]; done) | (simp only [a1, a3, a37, a102, u1, u3, u37, u102, t1, t3, t37, t102, z1, z2, z3, z4, z5, e1, qb_in, qkW, qmW, qnW, true_and, and_true, or_self, true_or, or_true, and_self]; omega)) only [qcall_l, qcall_r, qretn_l, qJ_s, qJ_n, qV0, qEx, ↓qif0, ↓zchk_pos, ↓reduceIte, qput, qWW, qmW, qkW, qnW, b341_809, b341_821, b341_826, b341_839, b341_844, b341_850, b341_855, b341_857, b341_862, b341_871, b341_873, a1, a3, a37, a102, u1, u3, u37, u102, t1, t3, t37, t102, z1, z2, z3, z4, z5, e1, w, f, t, if_neg hx, eq_self, Int.reduceEq]
theorem qlc11 (e : Nat) (S : zS) (L i : Int) (x5 x6 x7 : zV) (Q : zS → Prop) (hi : 0 ≤ i ∧ i + 6 ≤ L ∧ L ≤ 3072) (hL : qLs S L) (hu : qUn vl qid Q S (zD e 126 [vr 3, vi (zm S 1 (i + 1)), vi (zm S 1 (i + 2))] S) (zD e 233 [vr 37, vi (zm S 1 (i + 1)), vi (zm S 1 (i + 2))]) qps3) : ∃ S2, zF_341 (e + 1) 876 [vr 1, vr 3, vr 37, vr 102, vi i, x5, x6, x7] [] S = zF_341 (e + 1) 2493 [vr 1, vr 3, vr 37, vr 102, vi i, vu, vu, vu] [] S2 ∧ qKs S S2 ∧ Q S2 := by
  have z1 : z32 (i + 1) = i + 1 := q32 (by omega)
  have z2 : z32 (i + 2) = i + 2 := q32 (by omega)
  have z3 : z32 (i + 3) = i + 3 := q32 (by omega)
  have z4 : z32 (i + 4) = i + 4 := q32 (by omega)
  have z5 : z32 (i + 5) = i + 5 := q32 (by omega)
  obtain ⟨a1, a3, a37, a102⟩ := hL
  rcases hu with ⟨v, S1, r, k1, S2, f, k2, h0, h2, q⟩ | ⟨x, v, S1, S2, r, k1, f, k2, h0, hx, q⟩
  · have w := qwr319 e S S1 _ _ v a3 (by rw [k1.2 102 (by decide)]; exact a102) r
    have k1 := qKs_o k1 (qid v)
    have f := zD_up f
    generalize qo S1 (qid v) = U at w f k1
    obtain ⟨u1, u3, u37, u102⟩ := qLs_k ⟨a1, a3, a37, a102⟩ k1
    obtain ⟨t1, t3, t37, t102⟩ := qLs_k ⟨a1, a3, a37, a102⟩ k2
    have e1 := k1.1
    have t := r_thrown (e + 1) S2 (by omega) t37
    rw [h0] at t
    refine ⟨S2, ?_, k2, q⟩
    have h2 : zm S2 102 0 = v := h2
    simp (config := { maxSteps := 2000000 }) (disch := first | omega | (simp only [a1, a3, a37, a102, u1, u3, u37, u102, t1, t3, t37, t102, z1, z2, z3, z4, z5, e1, qb_in, qkW, qmW, qnW, true_and, and_true, or_self, true_or, or_true, and_self]; done) | (simp only [a1, a3, a37, a102, u1, u3, u37, u102, t1, t3, t37, t102, z1, z2, z3, z4, z5, e1, qb_in, qkW, qmW, qnW, true_and, and_true, or_self, true_or, or_true, and_self]; omega)) only [qcall_l, qcall_r, qretn_l, qJ_s, qJ_n, qV0, qEx, ↓qif0, ↓zchk_pos, ↓reduceIte, qput, qWW, qmW, qkW, qnW, b341_876, b341_888, b341_893, b341_906, b341_911, b341_917, b341_922, b341_924, b341_929, b341_938, b341_940, a1, a3, a37, a102, u1, u3, u37, u102, t1, t3, t37, t102, z1, z2, z3, z4, z5, e1, w, f, t, h2, zcmp_s, eq_self, Int.reduceEq]
  · have w := qwt319 e S S1 _ _ x hx a3 r
    have f := zD_up f
    obtain ⟨u1, u3, u37, u102⟩ := qLs_k ⟨a1, a3, a37, a102⟩ k1
    obtain ⟨t1, t3, t37, t102⟩ := qLs_k ⟨a1, a3, a37, a102⟩ k2
    have e1 := k1.1
    have t := r_thrown (e + 1) S2 (by omega) t37
    rw [h0] at t
    refine ⟨S2, ?_, k2, q⟩
    simp (config := { maxSteps := 2000000 }) (disch := first | omega | (simp only [a1, a3, a37, a102, u1, u3, u37, u102, t1, t3, t37, t102, z1, z2, z3, z4, z5, e1, qb_in, qkW, qmW, qnW, true_and, and_true, or_self, true_or, or_true, and_self]; done) | (simp only [a1, a3, a37, a102, u1, u3, u37, u102, t1, t3, t37, t102, z1, z2, z3, z4, z5, e1, qb_in, qkW, qmW, qnW, true_and, and_true, or_self, true_or, or_true, and_self]; omega)) only [qcall_l, qcall_r, qretn_l, qJ_s, qJ_n, qV0, qEx, ↓qif0, ↓zchk_pos, ↓reduceIte, qput, qWW, qmW, qkW, qnW, b341_876, b341_888, b341_893, b341_906, b341_911, b341_917, b341_922, b341_924, b341_929, b341_938, b341_940, a1, a3, a37, a102, u1, u3, u37, u102, t1, t3, t37, t102, z1, z2, z3, z4, z5, e1, w, f, t, if_neg hx, eq_self, Int.reduceEq]
theorem qlc12 (e : Nat) (S : zS) (L i : Int) (x5 x6 x7 : zV) (Q : zS → Prop) (hL : qLs S L) (hu : qUn0 Q S (zD (e + 1) 127 [vr 3] S) (zD (e + 1) 237 [vr 37])) : ∃ S2, zF_341 (e + 1) 943 [vr 1, vr 3, vr 37, vr 102, vi i, x5, x6, x7] [] S = zF_341 (e + 1) 2493 [vr 1, vr 3, vr 37, vr 102, vi i, vu, vu, vu] [] S2 ∧ qKs S S2 ∧ Q S2 := by
  obtain ⟨v, S1, S2, r, k1, f, k2, q⟩ := hu
  refine ⟨S2, ?_, k2, q⟩
  have h3 := hL.2.1
  have h37 : zk S1 37 = (33, 0) := (qLs_k hL k1).2.2.1
  simp (config := { maxSteps := 2000000 }) (disch := first | omega | (simp only [h3, h37, qb_in, qkW, qmW, qnW, true_and, and_true, or_self, true_or, or_true, and_self]; done) | (simp only [h3, h37, qb_in, qkW, qmW, qnW, true_and, and_true, or_self, true_or, or_true, and_self]; omega)) only [qcall_l, qcall_r, qretn_l, qJ_s, qJ_n, qV0, qEx, ↓qif0, ↓zchk_pos, ↓reduceIte, qput, qWW, qmW, qkW, qnW, b341_943, b341_947, b341_951, b341_954, r, f, h3, h37, eq_self]
theorem qlc13 (e : Nat) (S : zS) (L i : Int) (x5 x6 x7 : zV) (Q : zS → Prop) (hi : 0 ≤ i ∧ i + 6 ≤ L ∧ L ≤ 3072) (hL : qLs S L) (hu : qUn vi qid Q S (zD e 128 [vr 3, vi (zm S 1 (i + 1))] S) (zD e 249 [vr 37, vi (zm S 1 (i + 1))]) qpsA) : ∃ S2, zF_341 (e + 1) 956 [vr 1, vr 3, vr 37, vr 102, vi i, x5, x6, x7] [] S = zF_341 (e + 1) 2493 [vr 1, vr 3, vr 37, vr 102, vi i, vu, vu, vu] [] S2 ∧ qKs S S2 ∧ Q S2 := by
  have z1 : z32 (i + 1) = i + 1 := q32 (by omega)
  have z2 : z32 (i + 2) = i + 2 := q32 (by omega)
  have z3 : z32 (i + 3) = i + 3 := q32 (by omega)
  have z4 : z32 (i + 4) = i + 4 := q32 (by omega)
  have z5 : z32 (i + 5) = i + 5 := q32 (by omega)
  obtain ⟨a1, a3, a37, a102⟩ := hL
  rcases hu with ⟨v, S1, r, k1, S2, f, k2, h0, h2, q⟩ | ⟨x, v, S1, S2, r, k1, f, k2, h0, hx, q⟩
  · have w := qwr320 e S S1 _ v a3 (by rw [k1.2 102 (by decide)]; exact a102) r
    have k1 := qKs_o k1 (qid v)
    have f := zD_up f
    generalize qo S1 (qid v) = U at w f k1
    obtain ⟨u1, u3, u37, u102⟩ := qLs_k ⟨a1, a3, a37, a102⟩ k1
    obtain ⟨t1, t3, t37, t102⟩ := qLs_k ⟨a1, a3, a37, a102⟩ k2
    have e1 := k1.1
    have t := r_thrown (e + 1) S2 (by omega) t37
    rw [h0] at t
    refine ⟨S2, ?_, k2, q⟩
    have h2 : zm S2 102 0 = v := h2
    simp (config := { maxSteps := 2000000 }) (disch := first | omega | (simp only [a1, a3, a37, a102, u1, u3, u37, u102, t1, t3, t37, t102, z1, z2, z3, z4, z5, e1, qb_in, qkW, qmW, qnW, true_and, and_true, or_self, true_or, or_true, and_self]; done) | (simp only [a1, a3, a37, a102, u1, u3, u37, u102, t1, t3, t37, t102, z1, z2, z3, z4, z5, e1, qb_in, qkW, qmW, qnW, true_and, and_true, or_self, true_or, or_true, and_self]; omega)) only [qcall_l, qcall_r, qretn_l, qJ_s, qJ_n, qV0, qEx, ↓qif0, ↓zchk_pos, ↓reduceIte, qput, qWW, qmW, qkW, qnW, b341_956, b341_967, b341_979, b341_985, b341_990, b341_992, b341_997, b341_1007, b341_1009, a1, a3, a37, a102, u1, u3, u37, u102, t1, t3, t37, t102, z1, z2, z3, z4, z5, e1, w, f, t, h2, zcmp_s, eq_self, Int.reduceEq]
  · have w := qwt320 e S S1 _ x hx a3 r
    have f := zD_up f
    obtain ⟨u1, u3, u37, u102⟩ := qLs_k ⟨a1, a3, a37, a102⟩ k1
    obtain ⟨t1, t3, t37, t102⟩ := qLs_k ⟨a1, a3, a37, a102⟩ k2
    have e1 := k1.1
    have t := r_thrown (e + 1) S2 (by omega) t37
    rw [h0] at t
    refine ⟨S2, ?_, k2, q⟩
    simp (config := { maxSteps := 2000000 }) (disch := first | omega | (simp only [a1, a3, a37, a102, u1, u3, u37, u102, t1, t3, t37, t102, z1, z2, z3, z4, z5, e1, qb_in, qkW, qmW, qnW, true_and, and_true, or_self, true_or, or_true, and_self]; done) | (simp only [a1, a3, a37, a102, u1, u3, u37, u102, t1, t3, t37, t102, z1, z2, z3, z4, z5, e1, qb_in, qkW, qmW, qnW, true_and, and_true, or_self, true_or, or_true, and_self]; omega)) only [qcall_l, qcall_r, qretn_l, qJ_s, qJ_n, qV0, qEx, ↓qif0, ↓zchk_pos, ↓reduceIte, qput, qWW, qmW, qkW, qnW, b341_956, b341_967, b341_979, b341_985, b341_990, b341_992, b341_997, b341_1007, b341_1009, a1, a3, a37, a102, u1, u3, u37, u102, t1, t3, t37, t102, z1, z2, z3, z4, z5, e1, w, f, t, if_neg hx, eq_self, Int.reduceEq]
theorem qlc14 (e : Nat) (S : zS) (L i : Int) (x5 x6 x7 : zV) (Q : zS → Prop) (hi : 0 ≤ i ∧ i + 6 ≤ L ∧ L ≤ 3072) (hL : qLs S L) (hu : qUn vi qid Q S (zD e 129 [vr 3, vi (zm S 1 (i + 1)), vi (zm S 1 (i + 2))] S) (zD e 250 [vr 37, vi (zm S 1 (i + 1)), vi (zm S 1 (i + 2))]) qpsB) : ∃ S2, zF_341 (e + 1) 1012 [vr 1, vr 3, vr 37, vr 102, vi i, x5, x6, x7] [] S = zF_341 (e + 1) 2493 [vr 1, vr 3, vr 37, vr 102, vi i, vu, vu, vu] [] S2 ∧ qKs S S2 ∧ Q S2 := by
  have z1 : z32 (i + 1) = i + 1 := q32 (by omega)
  have z2 : z32 (i + 2) = i + 2 := q32 (by omega)
  have z3 : z32 (i + 3) = i + 3 := q32 (by omega)
  have z4 : z32 (i + 4) = i + 4 := q32 (by omega)
  have z5 : z32 (i + 5) = i + 5 := q32 (by omega)
  obtain ⟨a1, a3, a37, a102⟩ := hL
  rcases hu with ⟨v, S1, r, k1, S2, f, k2, h0, h2, q⟩ | ⟨x, v, S1, S2, r, k1, f, k2, h0, hx, q⟩
  · have w := qwr321 e S S1 _ _ v a3 (by rw [k1.2 102 (by decide)]; exact a102) r
    have k1 := qKs_o k1 (qid v)
    have f := zD_up f
    generalize qo S1 (qid v) = U at w f k1
    obtain ⟨u1, u3, u37, u102⟩ := qLs_k ⟨a1, a3, a37, a102⟩ k1
    obtain ⟨t1, t3, t37, t102⟩ := qLs_k ⟨a1, a3, a37, a102⟩ k2
    have e1 := k1.1
    have t := r_thrown (e + 1) S2 (by omega) t37
    rw [h0] at t
    refine ⟨S2, ?_, k2, q⟩
    have h2 : zm S2 102 0 = v := h2
    simp (config := { maxSteps := 2000000 }) (disch := first | omega | (simp only [a1, a3, a37, a102, u1, u3, u37, u102, t1, t3, t37, t102, z1, z2, z3, z4, z5, e1, qb_in, qkW, qmW, qnW, true_and, and_true, or_self, true_or, or_true, and_self]; done) | (simp only [a1, a3, a37, a102, u1, u3, u37, u102, t1, t3, t37, t102, z1, z2, z3, z4, z5, e1, qb_in, qkW, qmW, qnW, true_and, and_true, or_self, true_or, or_true, and_self]; omega)) only [qcall_l, qcall_r, qretn_l, qJ_s, qJ_n, qV0, qEx, ↓qif0, ↓zchk_pos, ↓reduceIte, qput, qWW, qmW, qkW, qnW, b341_1012, b341_1024, b341_1029, b341_1042, b341_1047, b341_1053, b341_1058, b341_1060, b341_1065, b341_1075, b341_1077, a1, a3, a37, a102, u1, u3, u37, u102, t1, t3, t37, t102, z1, z2, z3, z4, z5, e1, w, f, t, h2, zcmp_s, eq_self, Int.reduceEq]
  · have w := qwt321 e S S1 _ _ x hx a3 r
    have f := zD_up f
    obtain ⟨u1, u3, u37, u102⟩ := qLs_k ⟨a1, a3, a37, a102⟩ k1
    obtain ⟨t1, t3, t37, t102⟩ := qLs_k ⟨a1, a3, a37, a102⟩ k2
    have e1 := k1.1
    have t := r_thrown (e + 1) S2 (by omega) t37
    rw [h0] at t
    refine ⟨S2, ?_, k2, q⟩
    simp (config := { maxSteps := 2000000 }) (disch := first | omega | (simp only [a1, a3, a37, a102, u1, u3, u37, u102, t1, t3, t37, t102, z1, z2, z3, z4, z5, e1, qb_in, qkW, qmW, qnW, true_and, and_true, or_self, true_or, or_true, and_self]; done) | (simp only [a1, a3, a37, a102, u1, u3, u37, u102, t1, t3, t37, t102, z1, z2, z3, z4, z5, e1, qb_in, qkW, qmW, qnW, true_and, and_true, or_self, true_or, or_true, and_self]; omega)) only [qcall_l, qcall_r, qretn_l, qJ_s, qJ_n, qV0, qEx, ↓qif0, ↓zchk_pos, ↓reduceIte, qput, qWW, qmW, qkW, qnW, b341_1012, b341_1024, b341_1029, b341_1042, b341_1047, b341_1053, b341_1058, b341_1060, b341_1065, b341_1075, b341_1077, a1, a3, a37, a102, u1, u3, u37, u102, t1, t3, t37, t102, z1, z2, z3, z4, z5, e1, w, f, t, if_neg hx, eq_self, Int.reduceEq]
theorem qlc15 (e : Nat) (S : zS) (L i : Int) (x5 x6 x7 : zV) (Q : zS → Prop) (hi : 0 ≤ i ∧ i + 6 ≤ L ∧ L ≤ 3072) (hL : qLs S L) (hu : qUn vi qtf01 Q S (zD e 130 [vr 3, vi (zm S 1 (i + 1))] S) (zD e 251 [vr 37, vi (zm S 1 (i + 1))]) qpsA) : ∃ S2, zF_341 (e + 1) 1080 [vr 1, vr 3, vr 37, vr 102, vi i, x5, x6, x7] [] S = zF_341 (e + 1) 2493 [vr 1, vr 3, vr 37, vr 102, vi i, vu, vu, vu] [] S2 ∧ qKs S S2 ∧ Q S2 := by
  have z1 : z32 (i + 1) = i + 1 := q32 (by omega)
  have z2 : z32 (i + 2) = i + 2 := q32 (by omega)
  have z3 : z32 (i + 3) = i + 3 := q32 (by omega)
  have z4 : z32 (i + 4) = i + 4 := q32 (by omega)
  have z5 : z32 (i + 5) = i + 5 := q32 (by omega)
  obtain ⟨a1, a3, a37, a102⟩ := hL
  rcases hu with ⟨v, S1, r, k1, S2, f, k2, h0, h2, q⟩ | ⟨x, v, S1, S2, r, k1, f, k2, h0, hx, q⟩
  · have w := qwr322 e S S1 _ v a3 (by rw [k1.2 102 (by decide)]; exact a102) r
    have k1 := qKs_o k1 (qtf01 v)
    have f := zD_up f
    generalize qo S1 (qtf01 v) = U at w f k1
    obtain ⟨u1, u3, u37, u102⟩ := qLs_k ⟨a1, a3, a37, a102⟩ k1
    obtain ⟨t1, t3, t37, t102⟩ := qLs_k ⟨a1, a3, a37, a102⟩ k2
    have e1 := k1.1
    have t := r_thrown (e + 1) S2 (by omega) t37
    rw [h0] at t
    refine ⟨S2, ?_, k2, q⟩
    unfold qtf01 at h2
    by_cases c : v = 0
    · rw [if_pos c] at h2
      simp (config := { maxSteps := 2000000 }) (disch := first | omega | (simp only [a1, a3, a37, a102, u1, u3, u37, u102, t1, t3, t37, t102, z1, z2, z3, z4, z5, e1, qb_in, qkW, qmW, qnW, true_and, and_true, or_self, true_or, or_true, and_self]; done) | (simp only [a1, a3, a37, a102, u1, u3, u37, u102, t1, t3, t37, t102, z1, z2, z3, z4, z5, e1, qb_in, qkW, qmW, qnW, true_and, and_true, or_self, true_or, or_true, and_self]; omega)) only [qcall_l, qcall_r, qretn_l, qJ_s, qJ_n, qV0, qEx, ↓qif0, ↓zchk_pos, ↓reduceIte, qput, qWW, qmW, qkW, qnW, b341_1080, b341_1091, b341_1103, b341_1109, b341_1114, b341_1116, b341_1121, b341_1129, b341_1133, b341_1134, b341_1138, b341_1140, a1, a3, a37, a102, u1, u3, u37, u102, t1, t3, t37, t102, z1, z2, z3, z4, z5, e1, w, f, t, if_pos c, h2, zcmp_s, eq_self, Int.reduceEq]
    · rw [if_neg c] at h2
      simp (config := { maxSteps := 2000000 }) (disch := first | omega | (simp only [a1, a3, a37, a102, u1, u3, u37, u102, t1, t3, t37, t102, z1, z2, z3, z4, z5, e1, qb_in, qkW, qmW, qnW, true_and, and_true, or_self, true_or, or_true, and_self]; done) | (simp only [a1, a3, a37, a102, u1, u3, u37, u102, t1, t3, t37, t102, z1, z2, z3, z4, z5, e1, qb_in, qkW, qmW, qnW, true_and, and_true, or_self, true_or, or_true, and_self]; omega)) only [qcall_l, qcall_r, qretn_l, qJ_s, qJ_n, qV0, qEx, ↓qif0, ↓zchk_pos, ↓reduceIte, qput, qWW, qmW, qkW, qnW, b341_1080, b341_1091, b341_1103, b341_1109, b341_1114, b341_1116, b341_1121, b341_1129, b341_1133, b341_1134, b341_1138, b341_1140, a1, a3, a37, a102, u1, u3, u37, u102, t1, t3, t37, t102, z1, z2, z3, z4, z5, e1, w, f, t, if_neg c, h2, zcmp_s, eq_self, Int.reduceEq]
  · have w := qwt322 e S S1 _ x hx a3 r
    have f := zD_up f
    obtain ⟨u1, u3, u37, u102⟩ := qLs_k ⟨a1, a3, a37, a102⟩ k1
    obtain ⟨t1, t3, t37, t102⟩ := qLs_k ⟨a1, a3, a37, a102⟩ k2
    have e1 := k1.1
    have t := r_thrown (e + 1) S2 (by omega) t37
    rw [h0] at t
    refine ⟨S2, ?_, k2, q⟩
    simp (config := { maxSteps := 2000000 }) (disch := first | omega | (simp only [a1, a3, a37, a102, u1, u3, u37, u102, t1, t3, t37, t102, z1, z2, z3, z4, z5, e1, qb_in, qkW, qmW, qnW, true_and, and_true, or_self, true_or, or_true, and_self]; done) | (simp only [a1, a3, a37, a102, u1, u3, u37, u102, t1, t3, t37, t102, z1, z2, z3, z4, z5, e1, qb_in, qkW, qmW, qnW, true_and, and_true, or_self, true_or, or_true, and_self]; omega)) only [qcall_l, qcall_r, qretn_l, qJ_s, qJ_n, qV0, qEx, ↓qif0, ↓zchk_pos, ↓reduceIte, qput, qWW, qmW, qkW, qnW, b341_1080, b341_1091, b341_1103, b341_1109, b341_1114, b341_1116, b341_1121, b341_1129, b341_1133, b341_1134, b341_1138, b341_1140, a1, a3, a37, a102, u1, u3, u37, u102, t1, t3, t37, t102, z1, z2, z3, z4, z5, e1, w, f, t, if_neg hx, eq_self, Int.reduceEq]
theorem qlc16 (e : Nat) (S : zS) (L i : Int) (x5 x6 x7 : zV) (Q : zS → Prop) (b : Int) (hb : b = if zm S 1 (i + 5) = 0 then 0 else 1) (hi : 0 ≤ i ∧ i + 6 ≤ L ∧ L ≤ 3072) (hL : qLs S L) (hu : qUn vi qid Q S (zD e 131 [vr 3, vi (zm S 1 (i + 1)), vi (zm S 1 (i + 2)), vi (zm S 1 (i + 3)), vi (zm S 1 (i + 4)), vi b] S) (zD e 253 [vr 37, vi (zm S 1 (i + 1)), vi (zm S 1 (i + 2)), vi (zm S 1 (i + 3)), vi (zm S 1 (i + 4)), vi b]) qps3) : ∃ S2, zF_341 (e + 1) 1143 [vr 1, vr 3, vr 37, vr 102, vi i, x5, x6, x7] [] S = zF_341 (e + 1) 2493 [vr 1, vr 3, vr 37, vr 102, vi i, vu, vu, vu] [] S2 ∧ qKs S S2 ∧ Q S2 := by
  have z1 : z32 (i + 1) = i + 1 := q32 (by omega)
  have z2 : z32 (i + 2) = i + 2 := q32 (by omega)
  have z3 : z32 (i + 3) = i + 3 := q32 (by omega)
  have z4 : z32 (i + 4) = i + 4 := q32 (by omega)
  have z5 : z32 (i + 5) = i + 5 := q32 (by omega)
  obtain ⟨a1, a3, a37, a102⟩ := hL
  rcases hu with ⟨v, S1, r, k1, S2, f, k2, h0, h2, q⟩ | ⟨x, v, S1, S2, r, k1, f, k2, h0, hx, q⟩
  · have w := qwr323 e S S1 _ _ _ _ _ v a3 (by rw [k1.2 102 (by decide)]; exact a102) r
    have k1 := qKs_o k1 (qid v)
    have f := zD_up f
    generalize qo S1 (qid v) = U at w f k1
    obtain ⟨u1, u3, u37, u102⟩ := qLs_k ⟨a1, a3, a37, a102⟩ k1
    obtain ⟨t1, t3, t37, t102⟩ := qLs_k ⟨a1, a3, a37, a102⟩ k2
    have e1 := k1.1
    have t := r_thrown (e + 1) S2 (by omega) t37
    rw [h0] at t
    refine ⟨S2, ?_, k2, q⟩
    by_cases c5 : zm S 1 (i + 5) = 0
    · rw [if_pos c5] at hb
      subst hb
      have h2 : zm S2 102 0 = v := h2
      simp (config := { maxSteps := 2000000 }) (disch := first | omega | (simp only [a1, a3, a37, a102, u1, u3, u37, u102, t1, t3, t37, t102, z1, z2, z3, z4, z5, e1, qb_in, qkW, qmW, qnW, true_and, and_true, or_self, true_or, or_true, and_self]; done) | (simp only [a1, a3, a37, a102, u1, u3, u37, u102, t1, t3, t37, t102, z1, z2, z3, z4, z5, e1, qb_in, qkW, qmW, qnW, true_and, and_true, or_self, true_or, or_true, and_self]; omega)) only [qcall_l, qcall_r, qretn_l, qJ_s, qJ_n, qV0, qEx, ↓qif0, ↓zchk_pos, ↓reduceIte, qput, qWW, qmW, qkW, qnW, b341_1143, b341_1155, b341_1167, b341_1177, b341_1181, b341_1182, b341_1186, b341_1199, b341_1211, b341_1222, b341_1226, b341_1227, b341_1230, b341_1236, b341_1241, b341_1243, b341_1248, b341_1258, b341_1260, a1, a3, a37, a102, u1, u3, u37, u102, t1, t3, t37, t102, z1, z2, z3, z4, z5, e1, w, f, t, if_pos c5, h2, zcmp_s, eq_self, Int.reduceEq]
    · rw [if_neg c5] at hb
      subst hb
      have h2 : zm S2 102 0 = v := h2
      simp (config := { maxSteps := 2000000 }) (disch := first | omega | (simp only [a1, a3, a37, a102, u1, u3, u37, u102, t1, t3, t37, t102, z1, z2, z3, z4, z5, e1, qb_in, qkW, qmW, qnW, true_and, and_true, or_self, true_or, or_true, and_self]; done) | (simp only [a1, a3, a37, a102, u1, u3, u37, u102, t1, t3, t37, t102, z1, z2, z3, z4, z5, e1, qb_in, qkW, qmW, qnW, true_and, and_true, or_self, true_or, or_true, and_self]; omega)) only [qcall_l, qcall_r, qretn_l, qJ_s, qJ_n, qV0, qEx, ↓qif0, ↓zchk_pos, ↓reduceIte, qput, qWW, qmW, qkW, qnW, b341_1143, b341_1155, b341_1167, b341_1177, b341_1181, b341_1182, b341_1186, b341_1199, b341_1211, b341_1222, b341_1226, b341_1227, b341_1230, b341_1236, b341_1241, b341_1243, b341_1248, b341_1258, b341_1260, a1, a3, a37, a102, u1, u3, u37, u102, t1, t3, t37, t102, z1, z2, z3, z4, z5, e1, w, f, t, if_neg c5, h2, zcmp_s, eq_self, Int.reduceEq]
  · have w := qwt323 e S S1 _ _ _ _ _ x hx a3 r
    have f := zD_up f
    obtain ⟨u1, u3, u37, u102⟩ := qLs_k ⟨a1, a3, a37, a102⟩ k1
    obtain ⟨t1, t3, t37, t102⟩ := qLs_k ⟨a1, a3, a37, a102⟩ k2
    have e1 := k1.1
    have t := r_thrown (e + 1) S2 (by omega) t37
    rw [h0] at t
    refine ⟨S2, ?_, k2, q⟩
    by_cases c5 : zm S 1 (i + 5) = 0
    · rw [if_pos c5] at hb
      subst hb
      simp (config := { maxSteps := 2000000 }) (disch := first | omega | (simp only [a1, a3, a37, a102, u1, u3, u37, u102, t1, t3, t37, t102, z1, z2, z3, z4, z5, e1, qb_in, qkW, qmW, qnW, true_and, and_true, or_self, true_or, or_true, and_self]; done) | (simp only [a1, a3, a37, a102, u1, u3, u37, u102, t1, t3, t37, t102, z1, z2, z3, z4, z5, e1, qb_in, qkW, qmW, qnW, true_and, and_true, or_self, true_or, or_true, and_self]; omega)) only [qcall_l, qcall_r, qretn_l, qJ_s, qJ_n, qV0, qEx, ↓qif0, ↓zchk_pos, ↓reduceIte, qput, qWW, qmW, qkW, qnW, b341_1143, b341_1155, b341_1167, b341_1177, b341_1181, b341_1182, b341_1186, b341_1199, b341_1211, b341_1222, b341_1226, b341_1227, b341_1230, b341_1236, b341_1241, b341_1243, b341_1248, b341_1258, b341_1260, a1, a3, a37, a102, u1, u3, u37, u102, t1, t3, t37, t102, z1, z2, z3, z4, z5, e1, w, f, t, if_pos c5, if_neg hx, eq_self, Int.reduceEq]
    · rw [if_neg c5] at hb
      subst hb
      simp (config := { maxSteps := 2000000 }) (disch := first | omega | (simp only [a1, a3, a37, a102, u1, u3, u37, u102, t1, t3, t37, t102, z1, z2, z3, z4, z5, e1, qb_in, qkW, qmW, qnW, true_and, and_true, or_self, true_or, or_true, and_self]; done) | (simp only [a1, a3, a37, a102, u1, u3, u37, u102, t1, t3, t37, t102, z1, z2, z3, z4, z5, e1, qb_in, qkW, qmW, qnW, true_and, and_true, or_self, true_or, or_true, and_self]; omega)) only [qcall_l, qcall_r, qretn_l, qJ_s, qJ_n, qV0, qEx, ↓qif0, ↓zchk_pos, ↓reduceIte, qput, qWW, qmW, qkW, qnW, b341_1143, b341_1155, b341_1167, b341_1177, b341_1181, b341_1182, b341_1186, b341_1199, b341_1211, b341_1222, b341_1226, b341_1227, b341_1230, b341_1236, b341_1241, b341_1243, b341_1248, b341_1258, b341_1260, a1, a3, a37, a102, u1, u3, u37, u102, t1, t3, t37, t102, z1, z2, z3, z4, z5, e1, w, f, t, if_neg c5, if_neg hx, eq_self, Int.reduceEq]
theorem qlc17 (e : Nat) (S : zS) (L i : Int) (x5 x6 x7 : zV) (Q : zS → Prop) (hi : 0 ≤ i ∧ i + 6 ≤ L ∧ L ≤ 3072) (hL : qLs S L) (hu : qUn vi qid Q S (zD e 132 [vr 3, vi (zm S 1 (i + 1))] S) (zD e 255 [vr 37, vi (zm S 1 (i + 1))]) qps3) : ∃ S2, zF_341 (e + 1) 1263 [vr 1, vr 3, vr 37, vr 102, vi i, x5, x6, x7] [] S = zF_341 (e + 1) 2493 [vr 1, vr 3, vr 37, vr 102, vi i, vu, vu, vu] [] S2 ∧ qKs S S2 ∧ Q S2 := by
  have z1 : z32 (i + 1) = i + 1 := q32 (by omega)
  have z2 : z32 (i + 2) = i + 2 := q32 (by omega)
  have z3 : z32 (i + 3) = i + 3 := q32 (by omega)
  have z4 : z32 (i + 4) = i + 4 := q32 (by omega)
  have z5 : z32 (i + 5) = i + 5 := q32 (by omega)
  obtain ⟨a1, a3, a37, a102⟩ := hL
  rcases hu with ⟨v, S1, r, k1, S2, f, k2, h0, h2, q⟩ | ⟨x, v, S1, S2, r, k1, f, k2, h0, hx, q⟩
  · have w := qwr324 e S S1 _ v a3 (by rw [k1.2 102 (by decide)]; exact a102) r
    have k1 := qKs_o k1 (qid v)
    have f := zD_up f
    generalize qo S1 (qid v) = U at w f k1
    obtain ⟨u1, u3, u37, u102⟩ := qLs_k ⟨a1, a3, a37, a102⟩ k1
    obtain ⟨t1, t3, t37, t102⟩ := qLs_k ⟨a1, a3, a37, a102⟩ k2
    have e1 := k1.1
    have t := r_thrown (e + 1) S2 (by omega) t37
    rw [h0] at t
    refine ⟨S2, ?_, k2, q⟩
    have h2 : zm S2 102 0 = v := h2
    simp (config := { maxSteps := 2000000 }) (disch := first | omega | (simp only [a1, a3, a37, a102, u1, u3, u37, u102, t1, t3, t37, t102, z1, z2, z3, z4, z5, e1, qb_in, qkW, qmW, qnW, true_and, and_true, or_self, true_or, or_true, and_self]; done) | (simp only [a1, a3, a37, a102, u1, u3, u37, u102, t1, t3, t37, t102, z1, z2, z3, z4, z5, e1, qb_in, qkW, qmW, qnW, true_and, and_true, or_self, true_or, or_true, and_self]; omega)) only [qcall_l, qcall_r, qretn_l, qJ_s, qJ_n, qV0, qEx, ↓qif0, ↓zchk_pos, ↓reduceIte, qput, qWW, qmW, qkW, qnW, b341_1263, b341_1274, b341_1286, b341_1292, b341_1297, b341_1299, b341_1304, b341_1314, b341_1316, a1, a3, a37, a102, u1, u3, u37, u102, t1, t3, t37, t102, z1, z2, z3, z4, z5, e1, w, f, t, h2, zcmp_s, eq_self, Int.reduceEq]
  · have w := qwt324 e S S1 _ x hx a3 r
    have f := zD_up f
    obtain ⟨u1, u3, u37, u102⟩ := qLs_k ⟨a1, a3, a37, a102⟩ k1
    obtain ⟨t1, t3, t37, t102⟩ := qLs_k ⟨a1, a3, a37, a102⟩ k2
    have e1 := k1.1
    have t := r_thrown (e + 1) S2 (by omega) t37
    rw [h0] at t
    refine ⟨S2, ?_, k2, q⟩
    simp (config := { maxSteps := 2000000 }) (disch := first | omega | (simp only [a1, a3, a37, a102, u1, u3, u37, u102, t1, t3, t37, t102, z1, z2, z3, z4, z5, e1, qb_in, qkW, qmW, qnW, true_and, and_true, or_self, true_or, or_true, and_self]; done) | (simp only [a1, a3, a37, a102, u1, u3, u37, u102, t1, t3, t37, t102, z1, z2, z3, z4, z5, e1, qb_in, qkW, qmW, qnW, true_and, and_true, or_self, true_or, or_true, and_self]; omega)) only [qcall_l, qcall_r, qretn_l, qJ_s, qJ_n, qV0, qEx, ↓qif0, ↓zchk_pos, ↓reduceIte, qput, qWW, qmW, qkW, qnW, b341_1263, b341_1274, b341_1286, b341_1292, b341_1297, b341_1299, b341_1304, b341_1314, b341_1316, a1, a3, a37, a102, u1, u3, u37, u102, t1, t3, t37, t102, z1, z2, z3, z4, z5, e1, w, f, t, if_neg hx, eq_self, Int.reduceEq]
theorem qlc18 (e : Nat) (S : zS) (L i : Int) (x5 x6 x7 : zV) (Q : zS → Prop) (hi : 0 ≤ i ∧ i + 6 ≤ L ∧ L ≤ 3072) (hL : qLs S L) (hu : qUn vi qid Q S (zD e 133 [vr 3, vi (zm S 1 (i + 1)), vi (zm S 1 (i + 2)), vi (zm S 1 (i + 3))] S) (zD e 268 [vr 37, vi (zm S 1 (i + 1)), vi (zm S 1 (i + 2)), vi (zm S 1 (i + 3))]) qpsD) : ∃ S2, zF_341 (e + 1) 1319 [vr 1, vr 3, vr 37, vr 102, vi i, x5, x6, x7] [] S = zF_341 (e + 1) 2493 [vr 1, vr 3, vr 37, vr 102, vi i, vu, vu, vu] [] S2 ∧ qKs S S2 ∧ Q S2 := by
  have z1 : z32 (i + 1) = i + 1 := q32 (by omega)
  have z2 : z32 (i + 2) = i + 2 := q32 (by omega)
  have z3 : z32 (i + 3) = i + 3 := q32 (by omega)
  have z4 : z32 (i + 4) = i + 4 := q32 (by omega)
  have z5 : z32 (i + 5) = i + 5 := q32 (by omega)
  obtain ⟨a1, a3, a37, a102⟩ := hL
  rcases hu with ⟨v, S1, r, k1, S2, f, k2, h0, h2, q⟩ | ⟨x, v, S1, S2, r, k1, f, k2, h0, hx, q⟩
  · have w := qwr325 e S S1 _ _ _ v a3 (by rw [k1.2 102 (by decide)]; exact a102) r
    have k1 := qKs_o k1 (qid v)
    have f := zD_up f
    generalize qo S1 (qid v) = U at w f k1
    obtain ⟨u1, u3, u37, u102⟩ := qLs_k ⟨a1, a3, a37, a102⟩ k1
    obtain ⟨t1, t3, t37, t102⟩ := qLs_k ⟨a1, a3, a37, a102⟩ k2
    have e1 := k1.1
    have t := r_thrown (e + 1) S2 (by omega) t37
    rw [h0] at t
    refine ⟨S2, ?_, k2, q⟩
    have h2 : zm S2 102 0 = v := h2
    simp (config := { maxSteps := 2000000 }) (disch := first | omega | (simp only [a1, a3, a37, a102, u1, u3, u37, u102, t1, t3, t37, t102, z1, z2, z3, z4, z5, e1, qb_in, qkW, qmW, qnW, true_and, and_true, or_self, true_or, or_true, and_self]; done) | (simp only [a1, a3, a37, a102, u1, u3, u37, u102, t1, t3, t37, t102, z1, z2, z3, z4, z5, e1, qb_in, qkW, qmW, qnW, true_and, and_true, or_self, true_or, or_true, and_self]; omega)) only [qcall_l, qcall_r, qretn_l, qJ_s, qJ_n, qV0, qEx, ↓qif0, ↓zchk_pos, ↓reduceIte, qput, qWW, qmW, qkW, qnW, b341_1319, b341_1331, b341_1342, b341_1355, b341_1366, b341_1372, b341_1377, b341_1379, b341_1384, b341_1394, b341_1396, a1, a3, a37, a102, u1, u3, u37, u102, t1, t3, t37, t102, z1, z2, z3, z4, z5, e1, w, f, t, h2, zcmp_s, eq_self, Int.reduceEq]
  · have w := qwt325 e S S1 _ _ _ x hx a3 r
    have f := zD_up f
    obtain ⟨u1, u3, u37, u102⟩ := qLs_k ⟨a1, a3, a37, a102⟩ k1
    obtain ⟨t1, t3, t37, t102⟩ := qLs_k ⟨a1, a3, a37, a102⟩ k2
    have e1 := k1.1
    have t := r_thrown (e + 1) S2 (by omega) t37
    rw [h0] at t
    refine ⟨S2, ?_, k2, q⟩
    simp (config := { maxSteps := 2000000 }) (disch := first | omega | (simp only [a1, a3, a37, a102, u1, u3, u37, u102, t1, t3, t37, t102, z1, z2, z3, z4, z5, e1, qb_in, qkW, qmW, qnW, true_and, and_true, or_self, true_or, or_true, and_self]; done) | (simp only [a1, a3, a37, a102, u1, u3, u37, u102, t1, t3, t37, t102, z1, z2, z3, z4, z5, e1, qb_in, qkW, qmW, qnW, true_and, and_true, or_self, true_or, or_true, and_self]; omega)) only [qcall_l, qcall_r, qretn_l, qJ_s, qJ_n, qV0, qEx, ↓qif0, ↓zchk_pos, ↓reduceIte, qput, qWW, qmW, qkW, qnW, b341_1319, b341_1331, b341_1342, b341_1355, b341_1366, b341_1372, b341_1377, b341_1379, b341_1384, b341_1394, b341_1396, a1, a3, a37, a102, u1, u3, u37, u102, t1, t3, t37, t102, z1, z2, z3, z4, z5, e1, w, f, t, if_neg hx, eq_self, Int.reduceEq]
theorem qlc19 (e : Nat) (S : zS) (L i : Int) (x5 x6 x7 : zV) (Q : zS → Prop) (hi : 0 ≤ i ∧ i + 6 ≤ L ∧ L ≤ 3072) (hL : qLs S L) (hu : qUn vi qid Q S (zD e 134 [vr 3, vi (zm S 1 (i + 1)), vi (zm S 1 (i + 2))] S) (zD e 271 [vr 37, vi (zm S 1 (i + 1)), vi (zm S 1 (i + 2))]) qpsD) : ∃ S2, zF_341 (e + 1) 1399 [vr 1, vr 3, vr 37, vr 102, vi i, x5, x6, x7] [] S = zF_341 (e + 1) 2493 [vr 1, vr 3, vr 37, vr 102, vi i, vu, vu, vu] [] S2 ∧ qKs S S2 ∧ Q S2 := by
  have z1 : z32 (i + 1) = i + 1 := q32 (by omega)
  have z2 : z32 (i + 2) = i + 2 := q32 (by omega)
  have z3 : z32 (i + 3) = i + 3 := q32 (by omega)
  have z4 : z32 (i + 4) = i + 4 := q32 (by omega)
  have z5 : z32 (i + 5) = i + 5 := q32 (by omega)
  obtain ⟨a1, a3, a37, a102⟩ := hL
  rcases hu with ⟨v, S1, r, k1, S2, f, k2, h0, h2, q⟩ | ⟨x, v, S1, S2, r, k1, f, k2, h0, hx, q⟩
  · have w := qwr326 e S S1 _ _ v a3 (by rw [k1.2 102 (by decide)]; exact a102) r
    have k1 := qKs_o k1 (qid v)
    have f := zD_up f
    generalize qo S1 (qid v) = U at w f k1
    obtain ⟨u1, u3, u37, u102⟩ := qLs_k ⟨a1, a3, a37, a102⟩ k1
    obtain ⟨t1, t3, t37, t102⟩ := qLs_k ⟨a1, a3, a37, a102⟩ k2
    have e1 := k1.1
    have t := r_thrown (e + 1) S2 (by omega) t37
    rw [h0] at t
    refine ⟨S2, ?_, k2, q⟩
    have h2 : zm S2 102 0 = v := h2
    simp (config := { maxSteps := 2000000 }) (disch := first | omega | (simp only [a1, a3, a37, a102, u1, u3, u37, u102, t1, t3, t37, t102, z1, z2, z3, z4, z5, e1, qb_in, qkW, qmW, qnW, true_and, and_true, or_self, true_or, or_true, and_self]; done) | (simp only [a1, a3, a37, a102, u1, u3, u37, u102, t1, t3, t37, t102, z1, z2, z3, z4, z5, e1, qb_in, qkW, qmW, qnW, true_and, and_true, or_self, true_or, or_true, and_self]; omega)) only [qcall_l, qcall_r, qretn_l, qJ_s, qJ_n, qV0, qEx, ↓qif0, ↓zchk_pos, ↓reduceIte, qput, qWW, qmW, qkW, qnW, b341_1399, b341_1411, b341_1416, b341_1429, b341_1434, b341_1440, b341_1445, b341_1447, b341_1452, b341_1462, b341_1464, a1, a3, a37, a102, u1, u3, u37, u102, t1, t3, t37, t102, z1, z2, z3, z4, z5, e1, w, f, t, h2, zcmp_s, eq_self, Int.reduceEq]
  · have w := qwt326 e S S1 _ _ x hx a3 r
    have f := zD_up f
    obtain ⟨u1, u3, u37, u102⟩ := qLs_k ⟨a1, a3, a37, a102⟩ k1
    obtain ⟨t1, t3, t37, t102⟩ := qLs_k ⟨a1, a3, a37, a102⟩ k2
    have e1 := k1.1
    have t := r_thrown (e + 1) S2 (by omega) t37
    rw [h0] at t
    refine ⟨S2, ?_, k2, q⟩
    simp (config := { maxSteps := 2000000 }) (disch := first | omega | (simp only [a1, a3, a37, a102, u1, u3, u37, u102, t1, t3, t37, t102, z1, z2, z3, z4, z5, e1, qb_in, qkW, qmW, qnW, true_and, and_true, or_self, true_or, or_true, and_self]; done) | (simp only [a1, a3, a37, a102, u1, u3, u37, u102, t1, t3, t37, t102, z1, z2, z3, z4, z5, e1, qb_in, qkW, qmW, qnW, true_and, and_true, or_self, true_or, or_true, and_self]; omega)) only [qcall_l, qcall_r, qretn_l, qJ_s, qJ_n, qV0, qEx, ↓qif0, ↓zchk_pos, ↓reduceIte, qput, qWW, qmW, qkW, qnW, b341_1399, b341_1411, b341_1416, b341_1429, b341_1434, b341_1440, b341_1445, b341_1447, b341_1452, b341_1462, b341_1464, a1, a3, a37, a102, u1, u3, u37, u102, t1, t3, t37, t102, z1, z2, z3, z4, z5, e1, w, f, t, if_neg hx, eq_self, Int.reduceEq]
theorem qlc20 (e : Nat) (S : zS) (L i : Int) (x5 x6 x7 : zV) (Q : zS → Prop) (hi : 0 ≤ i ∧ i + 6 ≤ L ∧ L ≤ 3072) (hL : qLs S L) (hu : qUn vi qid Q S (zD e 135 [vr 3, vi (zm S 1 (i + 1)), vi (zm S 1 (i + 2)), vi (zm S 1 (i + 3)), vi (zm S 1 (i + 4))] S) (zD e 273 [vr 37, vi (zm S 1 (i + 1)), vi (zm S 1 (i + 2)), vi (zm S 1 (i + 3)), vi (zm S 1 (i + 4))]) qpsF) : ∃ S2, zF_341 (e + 1) 1467 [vr 1, vr 3, vr 37, vr 102, vi i, x5, x6, x7] [] S = zF_341 (e + 1) 2493 [vr 1, vr 3, vr 37, vr 102, vi i, vu, vu, vu] [] S2 ∧ qKs S S2 ∧ Q S2 := by
  have z1 : z32 (i + 1) = i + 1 := q32 (by omega)
  have z2 : z32 (i + 2) = i + 2 := q32 (by omega)
  have z3 : z32 (i + 3) = i + 3 := q32 (by omega)
  have z4 : z32 (i + 4) = i + 4 := q32 (by omega)
  have z5 : z32 (i + 5) = i + 5 := q32 (by omega)
  obtain ⟨a1, a3, a37, a102⟩ := hL
  rcases hu with ⟨v, S1, r, k1, S2, f, k2, h0, h2, q⟩ | ⟨x, v, S1, S2, r, k1, f, k2, h0, hx, q⟩
  · have w := qwr327 e S S1 _ _ _ _ v a3 (by rw [k1.2 102 (by decide)]; exact a102) r
    have k1 := qKs_o k1 (qid v)
    have f := zD_up f
    generalize qo S1 (qid v) = U at w f k1
    obtain ⟨u1, u3, u37, u102⟩ := qLs_k ⟨a1, a3, a37, a102⟩ k1
    obtain ⟨t1, t3, t37, t102⟩ := qLs_k ⟨a1, a3, a37, a102⟩ k2
    have e1 := k1.1
    have t := r_thrown (e + 1) S2 (by omega) t37
    rw [h0] at t
    refine ⟨S2, ?_, k2, q⟩
    have h2 : zm S2 102 0 = v := h2
    simp (config := { maxSteps := 2000000 }) (disch := first | omega | (simp only [a1, a3, a37, a102, u1, u3, u37, u102, t1, t3, t37, t102, z1, z2, z3, z4, z5, e1, qb_in, qkW, qmW, qnW, true_and, and_true, or_self, true_or, or_true, and_self]; done) | (simp only [a1, a3, a37, a102, u1, u3, u37, u102, t1, t3, t37, t102, z1, z2, z3, z4, z5, e1, qb_in, qkW, qmW, qnW, true_and, and_true, or_self, true_or, or_true, and_self]; omega)) only [qcall_l, qcall_r, qretn_l, qJ_s, qJ_n, qV0, qEx, ↓qif0, ↓zchk_pos, ↓reduceIte, qput, qWW, qmW, qkW, qnW, b341_1467, b341_1479, b341_1491, b341_1496, b341_1509, b341_1521, b341_1526, b341_1532, b341_1537, b341_1539, b341_1544, b341_1554, b341_1556, a1, a3, a37, a102, u1, u3, u37, u102, t1, t3, t37, t102, z1, z2, z3, z4, z5, e1, w, f, t, h2, zcmp_s, eq_self, Int.reduceEq]
  · have w := qwt327 e S S1 _ _ _ _ x hx a3 r
    have f := zD_up f
    obtain ⟨u1, u3, u37, u102⟩ := qLs_k ⟨a1, a3, a37, a102⟩ k1
    obtain ⟨t1, t3, t37, t102⟩ := qLs_k ⟨a1, a3, a37, a102⟩ k2
    have e1 := k1.1
    have t := r_thrown (e + 1) S2 (by omega) t37
    rw [h0] at t
    refine ⟨S2, ?_, k2, q⟩
    simp (config := { maxSteps := 2000000 }) (disch := first | omega | (simp only [a1, a3, a37, a102, u1, u3, u37, u102, t1, t3, t37, t102, z1, z2, z3, z4, z5, e1, qb_in, qkW, qmW, qnW, true_and, and_true, or_self, true_or, or_true, and_self]; done) | (simp only [a1, a3, a37, a102, u1, u3, u37, u102, t1, t3, t37, t102, z1, z2, z3, z4, z5, e1, qb_in, qkW, qmW, qnW, true_and, and_true, or_self, true_or, or_true, and_self]; omega)) only [qcall_l, qcall_r, qretn_l, qJ_s, qJ_n, qV0, qEx, ↓qif0, ↓zchk_pos, ↓reduceIte, qput, qWW, qmW, qkW, qnW, b341_1467, b341_1479, b341_1491, b341_1496, b341_1509, b341_1521, b341_1526, b341_1532, b341_1537, b341_1539, b341_1544, b341_1554, b341_1556, a1, a3, a37, a102, u1, u3, u37, u102, t1, t3, t37, t102, z1, z2, z3, z4, z5, e1, w, f, t, if_neg hx, eq_self, Int.reduceEq]
theorem qlc21 (e : Nat) (S : zS) (L i : Int) (x5 x6 x7 : zV) (Q : zS → Prop) (hi : 0 ≤ i ∧ i + 6 ≤ L ∧ L ≤ 3072) (hL : qLs S L) (hu : qUn vi qid Q S (zD e 136 [vr 3, vi (zm S 1 (i + 1)), vi (zm S 1 (i + 2)), vi (zm S 1 (i + 3))] S) (zD e 275 [vr 37, vi (zm S 1 (i + 1)), vi (zm S 1 (i + 2)), vi (zm S 1 (i + 3))]) qpsD) : ∃ S2, zF_341 (e + 1) 1559 [vr 1, vr 3, vr 37, vr 102, vi i, x5, x6, x7] [] S = zF_341 (e + 1) 2493 [vr 1, vr 3, vr 37, vr 102, vi i, vu, vu, vu] [] S2 ∧ qKs S S2 ∧ Q S2 := by
  have z1 : z32 (i + 1) = i + 1 := q32 (by omega)
  have z2 : z32 (i + 2) = i + 2 := q32 (by omega)
  have z3 : z32 (i + 3) = i + 3 := q32 (by omega)
  have z4 : z32 (i + 4) = i + 4 := q32 (by omega)
  have z5 : z32 (i + 5) = i + 5 := q32 (by omega)
  obtain ⟨a1, a3, a37, a102⟩ := hL
  rcases hu with ⟨v, S1, r, k1, S2, f, k2, h0, h2, q⟩ | ⟨x, v, S1, S2, r, k1, f, k2, h0, hx, q⟩
  · have w := qwr328 e S S1 _ _ _ v a3 (by rw [k1.2 102 (by decide)]; exact a102) r
    have k1 := qKs_o k1 (qid v)
    have f := zD_up f
    generalize qo S1 (qid v) = U at w f k1
    obtain ⟨u1, u3, u37, u102⟩ := qLs_k ⟨a1, a3, a37, a102⟩ k1
    obtain ⟨t1, t3, t37, t102⟩ := qLs_k ⟨a1, a3, a37, a102⟩ k2
    have e1 := k1.1
    have t := r_thrown (e + 1) S2 (by omega) t37
    rw [h0] at t
    refine ⟨S2, ?_, k2, q⟩
    have h2 : zm S2 102 0 = v := h2
    simp (config := { maxSteps := 2000000 }) (disch := first | omega | (simp only [a1, a3, a37, a102, u1, u3, u37, u102, t1, t3, t37, t102, z1, z2, z3, z4, z5, e1, qb_in, qkW, qmW, qnW, true_and, and_true, or_self, true_or, or_true, and_self]; done) | (simp only [a1, a3, a37, a102, u1, u3, u37, u102, t1, t3, t37, t102, z1, z2, z3, z4, z5, e1, qb_in, qkW, qmW, qnW, true_and, and_true, or_self, true_or, or_true, and_self]; omega)) only [qcall_l, qcall_r, qretn_l, qJ_s, qJ_n, qV0, qEx, ↓qif0, ↓zchk_pos, ↓reduceIte, qput, qWW, qmW, qkW, qnW, b341_1559, b341_1571, b341_1582, b341_1595, b341_1606, b341_1612, b341_1617, b341_1619, b341_1624, b341_1634, b341_1636, a1, a3, a37, a102, u1, u3, u37, u102, t1, t3, t37, t102, z1, z2, z3, z4, z5, e1, w, f, t, h2, zcmp_s, eq_self, Int.reduceEq]
  · have w := qwt328 e S S1 _ _ _ x hx a3 r
    have f := zD_up f
    obtain ⟨u1, u3, u37, u102⟩ := qLs_k ⟨a1, a3, a37, a102⟩ k1
    obtain ⟨t1, t3, t37, t102⟩ := qLs_k ⟨a1, a3, a37, a102⟩ k2
    have e1 := k1.1
    have t := r_thrown (e + 1) S2 (by omega) t37
    rw [h0] at t
    refine ⟨S2, ?_, k2, q⟩
    simp (config := { maxSteps := 2000000 }) (disch := first | omega | (simp only [a1, a3, a37, a102, u1, u3, u37, u102, t1, t3, t37, t102, z1, z2, z3, z4, z5, e1, qb_in, qkW, qmW, qnW, true_and, and_true, or_self, true_or, or_true, and_self]; done) | (simp only [a1, a3, a37, a102, u1, u3, u37, u102, t1, t3, t37, t102, z1, z2, z3, z4, z5, e1, qb_in, qkW, qmW, qnW, true_and, and_true, or_self, true_or, or_true, and_self]; omega)) only [qcall_l, qcall_r, qretn_l, qJ_s, qJ_n, qV0, qEx, ↓qif0, ↓zchk_pos, ↓reduceIte, qput, qWW, qmW, qkW, qnW, b341_1559, b341_1571, b341_1582, b341_1595, b341_1606, b341_1612, b341_1617, b341_1619, b341_1624, b341_1634, b341_1636, a1, a3, a37, a102, u1, u3, u37, u102, t1, t3, t37, t102, z1, z2, z3, z4, z5, e1, w, f, t, if_neg hx, eq_self, Int.reduceEq]
theorem qlc22 (e : Nat) (S : zS) (L i : Int) (x5 x6 x7 : zV) (Q : zS → Prop) (hi : 0 ≤ i ∧ i + 6 ≤ L ∧ L ≤ 3072) (hL : qLs S L) (hu : qUn vi qid Q S (zD e 137 [vr 3, vi (zm S 1 (i + 1)), vi (zm S 1 (i + 2))] S) (zD e 276 [vr 37, vi (zm S 1 (i + 1)), vi (zm S 1 (i + 2))]) qpsE) : ∃ S2, zF_341 (e + 1) 1639 [vr 1, vr 3, vr 37, vr 102, vi i, x5, x6, x7] [] S = zF_341 (e + 1) 2493 [vr 1, vr 3, vr 37, vr 102, vi i, vu, vu, vu] [] S2 ∧ qKs S S2 ∧ Q S2 := by
  have z1 : z32 (i + 1) = i + 1 := q32 (by omega)
  have z2 : z32 (i + 2) = i + 2 := q32 (by omega)
  have z3 : z32 (i + 3) = i + 3 := q32 (by omega)
  have z4 : z32 (i + 4) = i + 4 := q32 (by omega)
  have z5 : z32 (i + 5) = i + 5 := q32 (by omega)
  obtain ⟨a1, a3, a37, a102⟩ := hL
  rcases hu with ⟨v, S1, r, k1, S2, f, k2, h0, h2, q⟩ | ⟨x, v, S1, S2, r, k1, f, k2, h0, hx, q⟩
  · have w := qwr329 e S S1 _ _ v a3 (by rw [k1.2 102 (by decide)]; exact a102) r
    have k1 := qKs_o k1 (qid v)
    have f := zD_up f
    generalize qo S1 (qid v) = U at w f k1
    obtain ⟨u1, u3, u37, u102⟩ := qLs_k ⟨a1, a3, a37, a102⟩ k1
    obtain ⟨t1, t3, t37, t102⟩ := qLs_k ⟨a1, a3, a37, a102⟩ k2
    have e1 := k1.1
    have t := r_thrown (e + 1) S2 (by omega) t37
    rw [h0] at t
    refine ⟨S2, ?_, k2, q⟩
    have h2 : zm S2 102 0 = v := h2
    simp (config := { maxSteps := 2000000 }) (disch := first | omega | (simp only [a1, a3, a37, a102, u1, u3, u37, u102, t1, t3, t37, t102, z1, z2, z3, z4, z5, e1, qb_in, qkW, qmW, qnW, true_and, and_true, or_self, true_or, or_true, and_self]; done) | (simp only [a1, a3, a37, a102, u1, u3, u37, u102, t1, t3, t37, t102, z1, z2, z3, z4, z5, e1, qb_in, qkW, qmW, qnW, true_and, and_true, or_self, true_or, or_true, and_self]; omega)) only [qcall_l, qcall_r, qretn_l, qJ_s, qJ_n, qV0, qEx, ↓qif0, ↓zchk_pos, ↓reduceIte, qput, qWW, qmW, qkW, qnW, b341_1639, b341_1651, b341_1656, b341_1669, b341_1674, b341_1680, b341_1685, b341_1687, b341_1692, b341_1702, b341_1704, a1, a3, a37, a102, u1, u3, u37, u102, t1, t3, t37, t102, z1, z2, z3, z4, z5, e1, w, f, t, h2, zcmp_s, eq_self, Int.reduceEq]
  · have w := qwt329 e S S1 _ _ x hx a3 r
    have f := zD_up f
    obtain ⟨u1, u3, u37, u102⟩ := qLs_k ⟨a1, a3, a37, a102⟩ k1
    obtain ⟨t1, t3, t37, t102⟩ := qLs_k ⟨a1, a3, a37, a102⟩ k2
    have e1 := k1.1
    have t := r_thrown (e + 1) S2 (by omega) t37
    rw [h0] at t
    refine ⟨S2, ?_, k2, q⟩
    simp (config := { maxSteps := 2000000 }) (disch := first | omega | (simp only [a1, a3, a37, a102, u1, u3, u37, u102, t1, t3, t37, t102, z1, z2, z3, z4, z5, e1, qb_in, qkW, qmW, qnW, true_and, and_true, or_self, true_or, or_true, and_self]; done) | (simp only [a1, a3, a37, a102, u1, u3, u37, u102, t1, t3, t37, t102, z1, z2, z3, z4, z5, e1, qb_in, qkW, qmW, qnW, true_and, and_true, or_self, true_or, or_true, and_self]; omega)) only [qcall_l, qcall_r, qretn_l, qJ_s, qJ_n, qV0, qEx, ↓qif0, ↓zchk_pos, ↓reduceIte, qput, qWW, qmW, qkW, qnW, b341_1639, b341_1651, b341_1656, b341_1669, b341_1674, b341_1680, b341_1685, b341_1687, b341_1692, b341_1702, b341_1704, a1, a3, a37, a102, u1, u3, u37, u102, t1, t3, t37, t102, z1, z2, z3, z4, z5, e1, w, f, t, if_neg hx, eq_self, Int.reduceEq]
theorem qlc23 (e : Nat) (S : zS) (L i : Int) (x5 x6 x7 : zV) (Q : zS → Prop) (hi : 0 ≤ i ∧ i + 6 ≤ L ∧ L ≤ 3072) (hL : qLs S L) (hu : qUn vi qid Q S (zD e 138 [vr 3, vi (zm S 1 (i + 1)), vi (zm S 1 (i + 2)), vi (zm S 1 (i + 3)), vi (zm S 1 (i + 4))] S) (zD e 281 [vr 37, vi (zm S 1 (i + 1)), vi (zm S 1 (i + 2)), vi (zm S 1 (i + 3)), vi (zm S 1 (i + 4))]) qpsF) : ∃ S2, zF_341 (e + 1) 1707 [vr 1, vr 3, vr 37, vr 102, vi i, x5, x6, x7] [] S = zF_341 (e + 1) 2493 [vr 1, vr 3, vr 37, vr 102, vi i, vu, vu, vu] [] S2 ∧ qKs S S2 ∧ Q S2 := by
  have z1 : z32 (i + 1) = i + 1 := q32 (by omega)
  have z2 : z32 (i + 2) = i + 2 := q32 (by omega)
  have z3 : z32 (i + 3) = i + 3 := q32 (by omega)
  have z4 : z32 (i + 4) = i + 4 := q32 (by omega)
  have z5 : z32 (i + 5) = i + 5 := q32 (by omega)
  obtain ⟨a1, a3, a37, a102⟩ := hL
  rcases hu with ⟨v, S1, r, k1, S2, f, k2, h0, h2, q⟩ | ⟨x, v, S1, S2, r, k1, f, k2, h0, hx, q⟩
  · have w := qwr330 e S S1 _ _ _ _ v a3 (by rw [k1.2 102 (by decide)]; exact a102) r
    have k1 := qKs_o k1 (qid v)
    have f := zD_up f
    generalize qo S1 (qid v) = U at w f k1
    obtain ⟨u1, u3, u37, u102⟩ := qLs_k ⟨a1, a3, a37, a102⟩ k1
    obtain ⟨t1, t3, t37, t102⟩ := qLs_k ⟨a1, a3, a37, a102⟩ k2
    have e1 := k1.1
    have t := r_thrown (e + 1) S2 (by omega) t37
    rw [h0] at t
    refine ⟨S2, ?_, k2, q⟩
    have h2 : zm S2 102 0 = v := h2
    simp (config := { maxSteps := 2000000 }) (disch := first | omega | (simp only [a1, a3, a37, a102, u1, u3, u37, u102, t1, t3, t37, t102, z1, z2, z3, z4, z5, e1, qb_in, qkW, qmW, qnW, true_and, and_true, or_self, true_or, or_true, and_self]; done) | (simp only [a1, a3, a37, a102, u1, u3, u37, u102, t1, t3, t37, t102, z1, z2, z3, z4, z5, e1, qb_in, qkW, qmW, qnW, true_and, and_true, or_self, true_or, or_true, and_self]; omega)) only [qcall_l, qcall_r, qretn_l, qJ_s, qJ_n, qV0, qEx, ↓qif0, ↓zchk_pos, ↓reduceIte, qput, qWW, qmW, qkW, qnW, b341_1707, b341_1719, b341_1731, b341_1736, b341_1749, b341_1761, b341_1766, b341_1772, b341_1777, b341_1779, b341_1784, b341_1794, b341_1796, a1, a3, a37, a102, u1, u3, u37, u102, t1, t3, t37, t102, z1, z2, z3, z4, z5, e1, w, f, t, h2, zcmp_s, eq_self, Int.reduceEq]
  · have w := qwt330 e S S1 _ _ _ _ x hx a3 r
    have f := zD_up f
    obtain ⟨u1, u3, u37, u102⟩ := qLs_k ⟨a1, a3, a37, a102⟩ k1
    obtain ⟨t1, t3, t37, t102⟩ := qLs_k ⟨a1, a3, a37, a102⟩ k2
    have e1 := k1.1
    have t := r_thrown (e + 1) S2 (by omega) t37
    rw [h0] at t
    refine ⟨S2, ?_, k2, q⟩
    simp (config := { maxSteps := 2000000 }) (disch := first | omega | (simp only [a1, a3, a37, a102, u1, u3, u37, u102, t1, t3, t37, t102, z1, z2, z3, z4, z5, e1, qb_in, qkW, qmW, qnW, true_and, and_true, or_self, true_or, or_true, and_self]; done) | (simp only [a1, a3, a37, a102, u1, u3, u37, u102, t1, t3, t37, t102, z1, z2, z3, z4, z5, e1, qb_in, qkW, qmW, qnW, true_and, and_true, or_self, true_or, or_true, and_self]; omega)) only [qcall_l, qcall_r, qretn_l, qJ_s, qJ_n, qV0, qEx, ↓qif0, ↓zchk_pos, ↓reduceIte, qput, qWW, qmW, qkW, qnW, b341_1707, b341_1719, b341_1731, b341_1736, b341_1749, b341_1761, b341_1766, b341_1772, b341_1777, b341_1779, b341_1784, b341_1794, b341_1796, a1, a3, a37, a102, u1, u3, u37, u102, t1, t3, t37, t102, z1, z2, z3, z4, z5, e1, w, f, t, if_neg hx, eq_self, Int.reduceEq]
theorem qlc24 (e : Nat) (S : zS) (L i : Int) (x5 x6 x7 : zV) (Q : zS → Prop) (hi : 0 ≤ i ∧ i + 6 ≤ L ∧ L ≤ 3072) (hL : qLs S L) (hu : qUn vi qid Q S (zD e 139 [vr 3, vi (zm S 1 (i + 1)), vi (zm S 1 (i + 2))] S) (zD e 287 [vr 37, vi (zm S 1 (i + 1)), vi (zm S 1 (i + 2))]) qpsD) : ∃ S2, zF_341 (e + 1) 1799 [vr 1, vr 3, vr 37, vr 102, vi i, x5, x6, x7] [] S = zF_341 (e + 1) 2493 [vr 1, vr 3, vr 37, vr 102, vi i, vu, vu, vu] [] S2 ∧ qKs S S2 ∧ Q S2 := by
  have z1 : z32 (i + 1) = i + 1 := q32 (by omega)
  have z2 : z32 (i + 2) = i + 2 := q32 (by omega)
  have z3 : z32 (i + 3) = i + 3 := q32 (by omega)
  have z4 : z32 (i + 4) = i + 4 := q32 (by omega)
  have z5 : z32 (i + 5) = i + 5 := q32 (by omega)
  obtain ⟨a1, a3, a37, a102⟩ := hL
  rcases hu with ⟨v, S1, r, k1, S2, f, k2, h0, h2, q⟩ | ⟨x, v, S1, S2, r, k1, f, k2, h0, hx, q⟩
  · have w := qwr331 e S S1 _ _ v a3 (by rw [k1.2 102 (by decide)]; exact a102) r
    have k1 := qKs_o k1 (qid v)
    have f := zD_up f
    generalize qo S1 (qid v) = U at w f k1
    obtain ⟨u1, u3, u37, u102⟩ := qLs_k ⟨a1, a3, a37, a102⟩ k1
    obtain ⟨t1, t3, t37, t102⟩ := qLs_k ⟨a1, a3, a37, a102⟩ k2
    have e1 := k1.1
    have t := r_thrown (e + 1) S2 (by omega) t37
    rw [h0] at t
    refine ⟨S2, ?_, k2, q⟩
    have h2 : zm S2 102 0 = v := h2
    simp (config := { maxSteps := 2000000 }) (disch := first | omega | (simp only [a1, a3, a37, a102, u1, u3, u37, u102, t1, t3, t37, t102, z1, z2, z3, z4, z5, e1, qb_in, qkW, qmW, qnW, true_and, and_true, or_self, true_or, or_true, and_self]; done) | (simp only [a1, a3, a37, a102, u1, u3, u37, u102, t1, t3, t37, t102, z1, z2, z3, z4, z5, e1, qb_in, qkW, qmW, qnW, true_and, and_true, or_self, true_or, or_true, and_self]; omega)) only [qcall_l, qcall_r, qretn_l, qJ_s, qJ_n, qV0, qEx, ↓qif0, ↓zchk_pos, ↓reduceIte, qput, qWW, qmW, qkW, qnW, b341_1799, b341_1811, b341_1816, b341_1829, b341_1834, b341_1840, b341_1845, b341_1847, b341_1852, b341_1862, b341_1864, a1, a3, a37, a102, u1, u3, u37, u102, t1, t3, t37, t102, z1, z2, z3, z4, z5, e1, w, f, t, h2, zcmp_s, eq_self, Int.reduceEq]
  · have w := qwt331 e S S1 _ _ x hx a3 r
    have f := zD_up f
    obtain ⟨u1, u3, u37, u102⟩ := qLs_k ⟨a1, a3, a37, a102⟩ k1
    obtain ⟨t1, t3, t37, t102⟩ := qLs_k ⟨a1, a3, a37, a102⟩ k2
    have e1 := k1.1
    have t := r_thrown (e + 1) S2 (by omega) t37
    rw [h0] at t
    refine ⟨S2, ?_, k2, q⟩
    simp (config := { maxSteps := 2000000 }) (disch := first | omega | (simp only [a1, a3, a37, a102, u1, u3, u37, u102, t1, t3, t37, t102, z1, z2, z3, z4, z5, e1, qb_in, qkW, qmW, qnW, true_and, and_true, or_self, true_or, or_true, and_self]; done) | (simp only [a1, a3, a37, a102, u1, u3, u37, u102, t1, t3, t37, t102, z1, z2, z3, z4, z5, e1, qb_in, qkW, qmW, qnW, true_and, and_true, or_self, true_or, or_true, and_self]; omega)) only [qcall_l, qcall_r, qretn_l, qJ_s, qJ_n, qV0, qEx, ↓qif0, ↓zchk_pos, ↓reduceIte, qput, qWW, qmW, qkW, qnW, b341_1799, b341_1811, b341_1816, b341_1829, b341_1834, b341_1840, b341_1845, b341_1847, b341_1852, b341_1862, b341_1864, a1, a3, a37, a102, u1, u3, u37, u102, t1, t3, t37, t102, z1, z2, z3, z4, z5, e1, w, f, t, if_neg hx, eq_self, Int.reduceEq]
theorem qlc25 (e : Nat) (S : zS) (L i : Int) (x5 x6 x7 : zV) (Q : zS → Prop) (hL : qLs S L) (hu : qUn0 Q S (zD (e + 1) 140 [vr 3] S) (zD (e + 1) 288 [vr 37])) : ∃ S2, zF_341 (e + 1) 1867 [vr 1, vr 3, vr 37, vr 102, vi i, x5, x6, x7] [] S = zF_341 (e + 1) 2493 [vr 1, vr 3, vr 37, vr 102, vi i, vu, vu, vu] [] S2 ∧ qKs S S2 ∧ Q S2 := by
  obtain ⟨v, S1, S2, r, k1, f, k2, q⟩ := hu
  refine ⟨S2, ?_, k2, q⟩
  have h3 := hL.2.1
  have h37 : zk S1 37 = (33, 0) := (qLs_k hL k1).2.2.1
  simp (config := { maxSteps := 2000000 }) (disch := first | omega | (simp only [h3, h37, qb_in, qkW, qmW, qnW, true_and, and_true, or_self, true_or, or_true, and_self]; done) | (simp only [h3, h37, qb_in, qkW, qmW, qnW, true_and, and_true, or_self, true_or, or_true, and_self]; omega)) only [qcall_l, qcall_r, qretn_l, qJ_s, qJ_n, qV0, qEx, ↓qif0, ↓zchk_pos, ↓reduceIte, qput, qWW, qmW, qkW, qnW, b341_1867, b341_1871, b341_1875, b341_1878, r, f, h3, h37, eq_self]
theorem qlc26 (e : Nat) (S : zS) (L i : Int) (x5 x6 x7 : zV) (Q : zS → Prop) (hi : 0 ≤ i ∧ i + 6 ≤ L ∧ L ≤ 3072) (hL : qLs S L) (hu : qUn vi qid Q S (zD e 141 [vr 3, vi (zm S 1 (i + 1))] S) (zD e 290 [vr 37, vi (zm S 1 (i + 1))]) qpsA) : ∃ S2, zF_341 (e + 1) 1880 [vr 1, vr 3, vr 37, vr 102, vi i, x5, x6, x7] [] S = zF_341 (e + 1) 2493 [vr 1, vr 3, vr 37, vr 102, vi i, vu, vu, vu] [] S2 ∧ qKs S S2 ∧ Q S2 := by
  have z1 : z32 (i + 1) = i + 1 := q32 (by omega)
  have z2 : z32 (i + 2) = i + 2 := q32 (by omega)
  have z3 : z32 (i + 3) = i + 3 := q32 (by omega)
  have z4 : z32 (i + 4) = i + 4 := q32 (by omega)
  have z5 : z32 (i + 5) = i + 5 := q32 (by omega)
  obtain ⟨a1, a3, a37, a102⟩ := hL
  rcases hu with ⟨v, S1, r, k1, S2, f, k2, h0, h2, q⟩ | ⟨x, v, S1, S2, r, k1, f, k2, h0, hx, q⟩
  · have w := qwr332 e S S1 _ v a3 (by rw [k1.2 102 (by decide)]; exact a102) r
    have k1 := qKs_o k1 (qid v)
    have f := zD_up f
    generalize qo S1 (qid v) = U at w f k1
    obtain ⟨u1, u3, u37, u102⟩ := qLs_k ⟨a1, a3, a37, a102⟩ k1
    obtain ⟨t1, t3, t37, t102⟩ := qLs_k ⟨a1, a3, a37, a102⟩ k2
    have e1 := k1.1
    have t := r_thrown (e + 1) S2 (by omega) t37
    rw [h0] at t
    refine ⟨S2, ?_, k2, q⟩
    have h2 : zm S2 102 0 = v := h2
    simp (config := { maxSteps := 2000000 }) (disch := first | omega | (simp only [a1, a3, a37, a102, u1, u3, u37, u102, t1, t3, t37, t102, z1, z2, z3, z4, z5, e1, qb_in, qkW, qmW, qnW, true_and, and_true, or_self, true_or, or_true, and_self]; done) | (simp only [a1, a3, a37, a102, u1, u3, u37, u102, t1, t3, t37, t102, z1, z2, z3, z4, z5, e1, qb_in, qkW, qmW, qnW, true_and, and_true, or_self, true_or, or_true, and_self]; omega)) only [qcall_l, qcall_r, qretn_l, qJ_s, qJ_n, qV0, qEx, ↓qif0, ↓zchk_pos, ↓reduceIte, qput, qWW, qmW, qkW, qnW, b341_1880, b341_1891, b341_1903, b341_1909, b341_1914, b341_1916, b341_1921, b341_1931, b341_1933, a1, a3, a37, a102, u1, u3, u37, u102, t1, t3, t37, t102, z1, z2, z3, z4, z5, e1, w, f, t, h2, zcmp_s, eq_self, Int.reduceEq]
  · have w := qwt332 e S S1 _ x hx a3 r
    have f := zD_up f
    obtain ⟨u1, u3, u37, u102⟩ := qLs_k ⟨a1, a3, a37, a102⟩ k1
    obtain ⟨t1, t3, t37, t102⟩ := qLs_k ⟨a1, a3, a37, a102⟩ k2
    have e1 := k1.1
    have t := r_thrown (e + 1) S2 (by omega) t37
    rw [h0] at t
    refine ⟨S2, ?_, k2, q⟩
    simp (config := { maxSteps := 2000000 }) (disch := first | omega | (simp only [a1, a3, a37, a102, u1, u3, u37, u102, t1, t3, t37, t102, z1, z2, z3, z4, z5, e1, qb_in, qkW, qmW, qnW, true_and, and_true, or_self, true_or, or_true, and_self]; done) | (simp only [a1, a3, a37, a102, u1, u3, u37, u102, t1, t3, t37, t102, z1, z2, z3, z4, z5, e1, qb_in, qkW, qmW, qnW, true_and, and_true, or_self, true_or, or_true, and_self]; omega)) only [qcall_l, qcall_r, qretn_l, qJ_s, qJ_n, qV0, qEx, ↓qif0, ↓zchk_pos, ↓reduceIte, qput, qWW, qmW, qkW, qnW, b341_1880, b341_1891, b341_1903, b341_1909, b341_1914, b341_1916, b341_1921, b341_1931, b341_1933, a1, a3, a37, a102, u1, u3, u37, u102, t1, t3, t37, t102, z1, z2, z3, z4, z5, e1, w, f, t, if_neg hx, eq_self, Int.reduceEq]
theorem qlc27 (e : Nat) (S : zS) (L i : Int) (x5 x6 x7 : zV) (Q : zS → Prop) (hi : 0 ≤ i ∧ i + 6 ≤ L ∧ L ≤ 3072) (hL : qLs S L) (hu : qUn vi qid Q S (zD e 142 [vr 3, vi (zm S 1 (i + 1)), vi (zm S 1 (i + 2)), vi (zm S 1 (i + 3))] S) (zD e 291 [vr 37, vi (zm S 1 (i + 1)), vi (zm S 1 (i + 2)), vi (zm S 1 (i + 3))]) qpsF) : ∃ S2, zF_341 (e + 1) 1936 [vr 1, vr 3, vr 37, vr 102, vi i, x5, x6, x7] [] S = zF_341 (e + 1) 2493 [vr 1, vr 3, vr 37, vr 102, vi i, vu, vu, vu] [] S2 ∧ qKs S S2 ∧ Q S2 := by
  have z1 : z32 (i + 1) = i + 1 := q32 (by omega)
  have z2 : z32 (i + 2) = i + 2 := q32 (by omega)
  have z3 : z32 (i + 3) = i + 3 := q32 (by omega)
  have z4 : z32 (i + 4) = i + 4 := q32 (by omega)
  have z5 : z32 (i + 5) = i + 5 := q32 (by omega)
  obtain ⟨a1, a3, a37, a102⟩ := hL
  rcases hu with ⟨v, S1, r, k1, S2, f, k2, h0, h2, q⟩ | ⟨x, v, S1, S2, r, k1, f, k2, h0, hx, q⟩
  · have w := qwr333 e S S1 _ _ _ v a3 (by rw [k1.2 102 (by decide)]; exact a102) r
    have k1 := qKs_o k1 (qid v)
    have f := zD_up f
    generalize qo S1 (qid v) = U at w f k1
    obtain ⟨u1, u3, u37, u102⟩ := qLs_k ⟨a1, a3, a37, a102⟩ k1
    obtain ⟨t1, t3, t37, t102⟩ := qLs_k ⟨a1, a3, a37, a102⟩ k2
    have e1 := k1.1
    have t := r_thrown (e + 1) S2 (by omega) t37
    rw [h0] at t
    refine ⟨S2, ?_, k2, q⟩
    have h2 : zm S2 102 0 = v := h2
    simp (config := { maxSteps := 2000000 }) (disch := first | omega | (simp only [a1, a3, a37, a102, u1, u3, u37, u102, t1, t3, t37, t102, z1, z2, z3, z4, z5, e1, qb_in, qkW, qmW, qnW, true_and, and_true, or_self, true_or, or_true, and_self]; done) | (simp only [a1, a3, a37, a102, u1, u3, u37, u102, t1, t3, t37, t102, z1, z2, z3, z4, z5, e1, qb_in, qkW, qmW, qnW, true_and, and_true, or_self, true_or, or_true, and_self]; omega)) only [qcall_l, qcall_r, qretn_l, qJ_s, qJ_n, qV0, qEx, ↓qif0, ↓zchk_pos, ↓reduceIte, qput, qWW, qmW, qkW, qnW, b341_1936, b341_1948, b341_1959, b341_1972, b341_1983, b341_1989, b341_1994, b341_1996, b341_2001, b341_2011, b341_2013, a1, a3, a37, a102, u1, u3, u37, u102, t1, t3, t37, t102, z1, z2, z3, z4, z5, e1, w, f, t, h2, zcmp_s, eq_self, Int.reduceEq]
  · have w := qwt333 e S S1 _ _ _ x hx a3 r
    have f := zD_up f
    obtain ⟨u1, u3, u37, u102⟩ := qLs_k ⟨a1, a3, a37, a102⟩ k1
    obtain ⟨t1, t3, t37, t102⟩ := qLs_k ⟨a1, a3, a37, a102⟩ k2
    have e1 := k1.1
    have t := r_thrown (e + 1) S2 (by omega) t37
    rw [h0] at t
    refine ⟨S2, ?_, k2, q⟩
    simp (config := { maxSteps := 2000000 }) (disch := first | omega | (simp only [a1, a3, a37, a102, u1, u3, u37, u102, t1, t3, t37, t102, z1, z2, z3, z4, z5, e1, qb_in, qkW, qmW, qnW, true_and, and_true, or_self, true_or, or_true, and_self]; done) | (simp only [a1, a3, a37, a102, u1, u3, u37, u102, t1, t3, t37, t102, z1, z2, z3, z4, z5, e1, qb_in, qkW, qmW, qnW, true_and, and_true, or_self, true_or, or_true, and_self]; omega)) only [qcall_l, qcall_r, qretn_l, qJ_s, qJ_n, qV0, qEx, ↓qif0, ↓zchk_pos, ↓reduceIte, qput, qWW, qmW, qkW, qnW, b341_1936, b341_1948, b341_1959, b341_1972, b341_1983, b341_1989, b341_1994, b341_1996, b341_2001, b341_2011, b341_2013, a1, a3, a37, a102, u1, u3, u37, u102, t1, t3, t37, t102, z1, z2, z3, z4, z5, e1, w, f, t, if_neg hx, eq_self, Int.reduceEq]
theorem qlc28 (e : Nat) (S : zS) (L i : Int) (x5 x6 x7 : zV) (Q : zS → Prop) (hi : 0 ≤ i ∧ i + 6 ≤ L ∧ L ≤ 3072) (hL : qLs S L) (hu : qUn vi qid Q S (zD e 143 [vr 3, vi (zm S 1 (i + 1)), vi (zm S 1 (i + 2))] S) (zD e 293 [vr 37, vi (zm S 1 (i + 1)), vi (zm S 1 (i + 2))]) qpsF) : ∃ S2, zF_341 (e + 1) 2016 [vr 1, vr 3, vr 37, vr 102, vi i, x5, x6, x7] [] S = zF_341 (e + 1) 2493 [vr 1, vr 3, vr 37, vr 102, vi i, vu, vu, vu] [] S2 ∧ qKs S S2 ∧ Q S2 := by
  have z1 : z32 (i + 1) = i + 1 := q32 (by omega)
  have z2 : z32 (i + 2) = i + 2 := q32 (by omega)
  have z3 : z32 (i + 3) = i + 3 := q32 (by omega)
  have z4 : z32 (i + 4) = i + 4 := q32 (by omega)
  have z5 : z32 (i + 5) = i + 5 := q32 (by omega)
  obtain ⟨a1, a3, a37, a102⟩ := hL
  rcases hu with ⟨v, S1, r, k1, S2, f, k2, h0, h2, q⟩ | ⟨x, v, S1, S2, r, k1, f, k2, h0, hx, q⟩
  · have w := qwr334 e S S1 _ _ v a3 (by rw [k1.2 102 (by decide)]; exact a102) r
    have k1 := qKs_o k1 (qid v)
    have f := zD_up f
    generalize qo S1 (qid v) = U at w f k1
    obtain ⟨u1, u3, u37, u102⟩ := qLs_k ⟨a1, a3, a37, a102⟩ k1
    obtain ⟨t1, t3, t37, t102⟩ := qLs_k ⟨a1, a3, a37, a102⟩ k2
    have e1 := k1.1
    have t := r_thrown (e + 1) S2 (by omega) t37
    rw [h0] at t
    refine ⟨S2, ?_, k2, q⟩
    have h2 : zm S2 102 0 = v := h2
    simp (config := { maxSteps := 2000000 }) (disch := first | omega | (simp only [a1, a3, a37, a102, u1, u3, u37, u102, t1, t3, t37, t102, z1, z2, z3, z4, z5, e1, qb_in, qkW, qmW, qnW, true_and, and_true, or_self, true_or, or_true, and_self]; done) | (simp only [a1, a3, a37, a102, u1, u3, u37, u102, t1, t3, t37, t102, z1, z2, z3, z4, z5, e1, qb_in, qkW, qmW, qnW, true_and, and_true, or_self, true_or, or_true, and_self]; omega)) only [qcall_l, qcall_r, qretn_l, qJ_s, qJ_n, qV0, qEx, ↓qif0, ↓zchk_pos, ↓reduceIte, qput, qWW, qmW, qkW, qnW, b341_2016, b341_2028, b341_2033, b341_2046, b341_2051, b341_2057, b341_2062, b341_2064, b341_2069, b341_2079, b341_2081, a1, a3, a37, a102, u1, u3, u37, u102, t1, t3, t37, t102, z1, z2, z3, z4, z5, e1, w, f, t, h2, zcmp_s, eq_self, Int.reduceEq]
  · have w := qwt334 e S S1 _ _ x hx a3 r
    have f := zD_up f
    obtain ⟨u1, u3, u37, u102⟩ := qLs_k ⟨a1, a3, a37, a102⟩ k1
    obtain ⟨t1, t3, t37, t102⟩ := qLs_k ⟨a1, a3, a37, a102⟩ k2
    have e1 := k1.1
    have t := r_thrown (e + 1) S2 (by omega) t37
    rw [h0] at t
    refine ⟨S2, ?_, k2, q⟩
    simp (config := { maxSteps := 2000000 }) (disch := first | omega | (simp only [a1, a3, a37, a102, u1, u3, u37, u102, t1, t3, t37, t102, z1, z2, z3, z4, z5, e1, qb_in, qkW, qmW, qnW, true_and, and_true, or_self, true_or, or_true, and_self]; done) | (simp only [a1, a3, a37, a102, u1, u3, u37, u102, t1, t3, t37, t102, z1, z2, z3, z4, z5, e1, qb_in, qkW, qmW, qnW, true_and, and_true, or_self, true_or, or_true, and_self]; omega)) only [qcall_l, qcall_r, qretn_l, qJ_s, qJ_n, qV0, qEx, ↓qif0, ↓zchk_pos, ↓reduceIte, qput, qWW, qmW, qkW, qnW, b341_2016, b341_2028, b341_2033, b341_2046, b341_2051, b341_2057, b341_2062, b341_2064, b341_2069, b341_2079, b341_2081, a1, a3, a37, a102, u1, u3, u37, u102, t1, t3, t37, t102, z1, z2, z3, z4, z5, e1, w, f, t, if_neg hx, eq_self, Int.reduceEq]
theorem qlc29 (e : Nat) (S : zS) (L i : Int) (x5 x6 x7 : zV) (Q : zS → Prop) (hi : 0 ≤ i ∧ i + 6 ≤ L ∧ L ≤ 3072) (hL : qLs S L) (hu : qUn vi qid Q S (zD e 144 [vr 3, vi (zm S 1 (i + 1)), vi (zm S 1 (i + 2))] S) (zD e 296 [vr 37, vi (zm S 1 (i + 1)), vi (zm S 1 (i + 2))]) qpsE) : ∃ S2, zF_341 (e + 1) 2084 [vr 1, vr 3, vr 37, vr 102, vi i, x5, x6, x7] [] S = zF_341 (e + 1) 2493 [vr 1, vr 3, vr 37, vr 102, vi i, vu, vu, vu] [] S2 ∧ qKs S S2 ∧ Q S2 := by
  have z1 : z32 (i + 1) = i + 1 := q32 (by omega)
  have z2 : z32 (i + 2) = i + 2 := q32 (by omega)
  have z3 : z32 (i + 3) = i + 3 := q32 (by omega)
  have z4 : z32 (i + 4) = i + 4 := q32 (by omega)
  have z5 : z32 (i + 5) = i + 5 := q32 (by omega)
  obtain ⟨a1, a3, a37, a102⟩ := hL
  rcases hu with ⟨v, S1, r, k1, S2, f, k2, h0, h2, q⟩ | ⟨x, v, S1, S2, r, k1, f, k2, h0, hx, q⟩
  · have w := qwr335 e S S1 _ _ v a3 (by rw [k1.2 102 (by decide)]; exact a102) r
    have k1 := qKs_o k1 (qid v)
    have f := zD_up f
    generalize qo S1 (qid v) = U at w f k1
    obtain ⟨u1, u3, u37, u102⟩ := qLs_k ⟨a1, a3, a37, a102⟩ k1
    obtain ⟨t1, t3, t37, t102⟩ := qLs_k ⟨a1, a3, a37, a102⟩ k2
    have e1 := k1.1
    have t := r_thrown (e + 1) S2 (by omega) t37
    rw [h0] at t
    refine ⟨S2, ?_, k2, q⟩
    have h2 : zm S2 102 0 = v := h2
    simp (config := { maxSteps := 2000000 }) (disch := first | omega | (simp only [a1, a3, a37, a102, u1, u3, u37, u102, t1, t3, t37, t102, z1, z2, z3, z4, z5, e1, qb_in, qkW, qmW, qnW, true_and, and_true, or_self, true_or, or_true, and_self]; done) | (simp only [a1, a3, a37, a102, u1, u3, u37, u102, t1, t3, t37, t102, z1, z2, z3, z4, z5, e1, qb_in, qkW, qmW, qnW, true_and, and_true, or_self, true_or, or_true, and_self]; omega)) only [qcall_l, qcall_r, qretn_l, qJ_s, qJ_n, qV0, qEx, ↓qif0, ↓zchk_pos, ↓reduceIte, qput, qWW, qmW, qkW, qnW, b341_2084, b341_2096, b341_2101, b341_2114, b341_2119, b341_2125, b341_2130, b341_2132, b341_2137, b341_2147, b341_2149, a1, a3, a37, a102, u1, u3, u37, u102, t1, t3, t37, t102, z1, z2, z3, z4, z5, e1, w, f, t, h2, zcmp_s, eq_self, Int.reduceEq]
  · have w := qwt335 e S S1 _ _ x hx a3 r
    have f := zD_up f
    obtain ⟨u1, u3, u37, u102⟩ := qLs_k ⟨a1, a3, a37, a102⟩ k1
    obtain ⟨t1, t3, t37, t102⟩ := qLs_k ⟨a1, a3, a37, a102⟩ k2
    have e1 := k1.1
    have t := r_thrown (e + 1) S2 (by omega) t37
    rw [h0] at t
    refine ⟨S2, ?_, k2, q⟩
    simp (config := { maxSteps := 2000000 }) (disch := first | omega | (simp only [a1, a3, a37, a102, u1, u3, u37, u102, t1, t3, t37, t102, z1, z2, z3, z4, z5, e1, qb_in, qkW, qmW, qnW, true_and, and_true, or_self, true_or, or_true, and_self]; done) | (simp only [a1, a3, a37, a102, u1, u3, u37, u102, t1, t3, t37, t102, z1, z2, z3, z4, z5, e1, qb_in, qkW, qmW, qnW, true_and, and_true, or_self, true_or, or_true, and_self]; omega)) only [qcall_l, qcall_r, qretn_l, qJ_s, qJ_n, qV0, qEx, ↓qif0, ↓zchk_pos, ↓reduceIte, qput, qWW, qmW, qkW, qnW, b341_2084, b341_2096, b341_2101, b341_2114, b341_2119, b341_2125, b341_2130, b341_2132, b341_2137, b341_2147, b341_2149, a1, a3, a37, a102, u1, u3, u37, u102, t1, t3, t37, t102, z1, z2, z3, z4, z5, e1, w, f, t, if_neg hx, eq_self, Int.reduceEq]
theorem qlc30 (e : Nat) (S : zS) (L i : Int) (x5 x6 x7 : zV) (Q : zS → Prop) (hi : 0 ≤ i ∧ i + 6 ≤ L ∧ L ≤ 3072) (hL : qLs S L) (hu : qUn vi qid Q S (zD e 145 [vr 3, vi (zm S 1 (i + 1)), vi (zm S 1 (i + 2)), vi (zm S 1 (i + 3))] S) (zD e 297 [vr 37, vi (zm S 1 (i + 1)), vi (zm S 1 (i + 2)), vi (zm S 1 (i + 3))]) qpsD) : ∃ S2, zF_341 (e + 1) 2152 [vr 1, vr 3, vr 37, vr 102, vi i, x5, x6, x7] [] S = zF_341 (e + 1) 2493 [vr 1, vr 3, vr 37, vr 102, vi i, vu, vu, vu] [] S2 ∧ qKs S S2 ∧ Q S2 := by
  have z1 : z32 (i + 1) = i + 1 := q32 (by omega)
  have z2 : z32 (i + 2) = i + 2 := q32 (by omega)
  have z3 : z32 (i + 3) = i + 3 := q32 (by omega)
  have z4 : z32 (i + 4) = i + 4 := q32 (by omega)
  have z5 : z32 (i + 5) = i + 5 := q32 (by omega)
  obtain ⟨a1, a3, a37, a102⟩ := hL
  rcases hu with ⟨v, S1, r, k1, S2, f, k2, h0, h2, q⟩ | ⟨x, v, S1, S2, r, k1, f, k2, h0, hx, q⟩
  · have w := qwr336 e S S1 _ _ _ v a3 (by rw [k1.2 102 (by decide)]; exact a102) r
    have k1 := qKs_o k1 (qid v)
    have f := zD_up f
    generalize qo S1 (qid v) = U at w f k1
    obtain ⟨u1, u3, u37, u102⟩ := qLs_k ⟨a1, a3, a37, a102⟩ k1
    obtain ⟨t1, t3, t37, t102⟩ := qLs_k ⟨a1, a3, a37, a102⟩ k2
    have e1 := k1.1
    have t := r_thrown (e + 1) S2 (by omega) t37
    rw [h0] at t
    refine ⟨S2, ?_, k2, q⟩
    have h2 : zm S2 102 0 = v := h2
    simp (config := { maxSteps := 2000000 }) (disch := first | omega | (simp only [a1, a3, a37, a102, u1, u3, u37, u102, t1, t3, t37, t102, z1, z2, z3, z4, z5, e1, qb_in, qkW, qmW, qnW, true_and, and_true, or_self, true_or, or_true, and_self]; done) | (simp only [a1, a3, a37, a102, u1, u3, u37, u102, t1, t3, t37, t102, z1, z2, z3, z4, z5, e1, qb_in, qkW, qmW, qnW, true_and, and_true, or_self, true_or, or_true, and_self]; omega)) only [qcall_l, qcall_r, qretn_l, qJ_s, qJ_n, qV0, qEx, ↓qif0, ↓zchk_pos, ↓reduceIte, qput, qWW, qmW, qkW, qnW, b341_2152, b341_2164, b341_2175, b341_2188, b341_2199, b341_2205, b341_2210, b341_2212, b341_2217, b341_2227, b341_2229, a1, a3, a37, a102, u1, u3, u37, u102, t1, t3, t37, t102, z1, z2, z3, z4, z5, e1, w, f, t, h2, zcmp_s, eq_self, Int.reduceEq]
  · have w := qwt336 e S S1 _ _ _ x hx a3 r
    have f := zD_up f
    obtain ⟨u1, u3, u37, u102⟩ := qLs_k ⟨a1, a3, a37, a102⟩ k1
    obtain ⟨t1, t3, t37, t102⟩ := qLs_k ⟨a1, a3, a37, a102⟩ k2
    have e1 := k1.1
    have t := r_thrown (e + 1) S2 (by omega) t37
    rw [h0] at t
    refine ⟨S2, ?_, k2, q⟩
    simp (config := { maxSteps := 2000000 }) (disch := first | omega | (simp only [a1, a3, a37, a102, u1, u3, u37, u102, t1, t3, t37, t102, z1, z2, z3, z4, z5, e1, qb_in, qkW, qmW, qnW, true_and, and_true, or_self, true_or, or_true, and_self]; done) | (simp only [a1, a3, a37, a102, u1, u3, u37, u102, t1, t3, t37, t102, z1, z2, z3, z4, z5, e1, qb_in, qkW, qmW, qnW, true_and, and_true, or_self, true_or, or_true, and_self]; omega)) only [qcall_l, qcall_r, qretn_l, qJ_s, qJ_n, qV0, qEx, ↓qif0, ↓zchk_pos, ↓reduceIte, qput, qWW, qmW, qkW, qnW, b341_2152, b341_2164, b341_2175, b341_2188, b341_2199, b341_2205, b341_2210, b341_2212, b341_2217, b341_2227, b341_2229, a1, a3, a37, a102, u1, u3, u37, u102, t1, t3, t37, t102, z1, z2, z3, z4, z5, e1, w, f, t, if_neg hx, eq_self, Int.reduceEq]
theorem qlc31 (e : Nat) (S : zS) (L i : Int) (x5 x6 x7 : zV) (Q : zS → Prop) (hi : 0 ≤ i ∧ i + 6 ≤ L ∧ L ≤ 3072) (hL : qLs S L) (hu : qUn vi qid Q S (zD e 146 [vr 3, vi (zm S 1 (i + 1))] S) (zD e 300 [vr 37, vi (zm S 1 (i + 1))]) qpsA) : ∃ S2, zF_341 (e + 1) 2232 [vr 1, vr 3, vr 37, vr 102, vi i, x5, x6, x7] [] S = zF_341 (e + 1) 2493 [vr 1, vr 3, vr 37, vr 102, vi i, vu, vu, vu] [] S2 ∧ qKs S S2 ∧ Q S2 := by
  have z1 : z32 (i + 1) = i + 1 := q32 (by omega)
  have z2 : z32 (i + 2) = i + 2 := q32 (by omega)
  have z3 : z32 (i + 3) = i + 3 := q32 (by omega)
  have z4 : z32 (i + 4) = i + 4 := q32 (by omega)
  have z5 : z32 (i + 5) = i + 5 := q32 (by omega)
  obtain ⟨a1, a3, a37, a102⟩ := hL
  rcases hu with ⟨v, S1, r, k1, S2, f, k2, h0, h2, q⟩ | ⟨x, v, S1, S2, r, k1, f, k2, h0, hx, q⟩
  · have w := qwr337 e S S1 _ v a3 (by rw [k1.2 102 (by decide)]; exact a102) r
    have k1 := qKs_o k1 (qid v)
    have f := zD_up f
    generalize qo S1 (qid v) = U at w f k1
    obtain ⟨u1, u3, u37, u102⟩ := qLs_k ⟨a1, a3, a37, a102⟩ k1
    obtain ⟨t1, t3, t37, t102⟩ := qLs_k ⟨a1, a3, a37, a102⟩ k2
    have e1 := k1.1
    have t := r_thrown (e + 1) S2 (by omega) t37
    rw [h0] at t
    refine ⟨S2, ?_, k2, q⟩
    have h2 : zm S2 102 0 = v := h2
    simp (config := { maxSteps := 2000000 }) (disch := first | omega | (simp only [a1, a3, a37, a102, u1, u3, u37, u102, t1, t3, t37, t102, z1, z2, z3, z4, z5, e1, qb_in, qkW, qmW, qnW, true_and, and_true, or_self, true_or, or_true, and_self]; done) | (simp only [a1, a3, a37, a102, u1, u3, u37, u102, t1, t3, t37, t102, z1, z2, z3, z4, z5, e1, qb_in, qkW, qmW, qnW, true_and, and_true, or_self, true_or, or_true, and_self]; omega)) only [qcall_l, qcall_r, qretn_l, qJ_s, qJ_n, qV0, qEx, ↓qif0, ↓zchk_pos, ↓reduceIte, qput, qWW, qmW, qkW, qnW, b341_2232, b341_2243, b341_2255, b341_2261, b341_2266, b341_2268, b341_2273, b341_2283, b341_2285, a1, a3, a37, a102, u1, u3, u37, u102, t1, t3, t37, t102, z1, z2, z3, z4, z5, e1, w, f, t, h2, zcmp_s, eq_self, Int.reduceEq]
  · have w := qwt337 e S S1 _ x hx a3 r
    have f := zD_up f
    obtain ⟨u1, u3, u37, u102⟩ := qLs_k ⟨a1, a3, a37, a102⟩ k1
    obtain ⟨t1, t3, t37, t102⟩ := qLs_k ⟨a1, a3, a37, a102⟩ k2
    have e1 := k1.1
    have t := r_thrown (e + 1) S2 (by omega) t37
    rw [h0] at t
    refine ⟨S2, ?_, k2, q⟩
    simp (config := { maxSteps := 2000000 }) (disch := first | omega | (simp only [a1, a3, a37, a102, u1, u3, u37, u102, t1, t3, t37, t102, z1, z2, z3, z4, z5, e1, qb_in, qkW, qmW, qnW, true_and, and_true, or_self, true_or, or_true, and_self]; done) | (simp only [a1, a3, a37, a102, u1, u3, u37, u102, t1, t3, t37, t102, z1, z2, z3, z4, z5, e1, qb_in, qkW, qmW, qnW, true_and, and_true, or_self, true_or, or_true, and_self]; omega)) only [qcall_l, qcall_r, qretn_l, qJ_s, qJ_n, qV0, qEx, ↓qif0, ↓zchk_pos, ↓reduceIte, qput, qWW, qmW, qkW, qnW, b341_2232, b341_2243, b341_2255, b341_2261, b341_2266, b341_2268, b341_2273, b341_2283, b341_2285, a1, a3, a37, a102, u1, u3, u37, u102, t1, t3, t37, t102, z1, z2, z3, z4, z5, e1, w, f, t, if_neg hx, eq_self, Int.reduceEq]
theorem qlc32 (e : Nat) (S : zS) (L i : Int) (x5 x6 x7 : zV) (Q : zS → Prop) (hL : qLs S L) (hu : qUn0 Q S (zD (e + 1) 147 [vr 3] S) (zD (e + 1) 301 [vr 37])) : ∃ S2, zF_341 (e + 1) 2288 [vr 1, vr 3, vr 37, vr 102, vi i, x5, x6, x7] [] S = zF_341 (e + 1) 2493 [vr 1, vr 3, vr 37, vr 102, vi i, vu, vu, vu] [] S2 ∧ qKs S S2 ∧ Q S2 := by
  obtain ⟨v, S1, S2, r, k1, f, k2, q⟩ := hu
  refine ⟨S2, ?_, k2, q⟩
  have h3 := hL.2.1
  have h37 : zk S1 37 = (33, 0) := (qLs_k hL k1).2.2.1
  simp (config := { maxSteps := 2000000 }) (disch := first | omega | (simp only [h3, h37, qb_in, qkW, qmW, qnW, true_and, and_true, or_self, true_or, or_true, and_self]; done) | (simp only [h3, h37, qb_in, qkW, qmW, qnW, true_and, and_true, or_self, true_or, or_true, and_self]; omega)) only [qcall_l, qcall_r, qretn_l, qJ_s, qJ_n, qV0, qEx, ↓qif0, ↓zchk_pos, ↓reduceIte, qput, qWW, qmW, qkW, qnW, b341_2288, b341_2292, b341_2296, b341_2299, r, f, h3, h37, eq_self]
theorem qlc33 (e : Nat) (S : zS) (L i : Int) (x5 x6 x7 : zV) (Q : zS → Prop) (hi : 0 ≤ i ∧ i + 6 ≤ L ∧ L ≤ 3072) (hL : qLs S L) (hu : qUn vi qid Q S (zD e 148 [vr 3, vi (zm S 1 (i + 1)), vi (zm S 1 (i + 2))] S) (zD e 303 [vr 37, vi (zm S 1 (i + 1)), vi (zm S 1 (i + 2))]) qpsE) : ∃ S2, zF_341 (e + 1) 2301 [vr 1, vr 3, vr 37, vr 102, vi i, x5, x6, x7] [] S = zF_341 (e + 1) 2493 [vr 1, vr 3, vr 37, vr 102, vi i, vu, vu, vu] [] S2 ∧ qKs S S2 ∧ Q S2 := by
  have z1 : z32 (i + 1) = i + 1 := q32 (by omega)
  have z2 : z32 (i + 2) = i + 2 := q32 (by omega)
  have z3 : z32 (i + 3) = i + 3 := q32 (by omega)
  have z4 : z32 (i + 4) = i + 4 := q32 (by omega)
  have z5 : z32 (i + 5) = i + 5 := q32 (by omega)
  obtain ⟨a1, a3, a37, a102⟩ := hL
  rcases hu with ⟨v, S1, r, k1, S2, f, k2, h0, h2, q⟩ | ⟨x, v, S1, S2, r, k1, f, k2, h0, hx, q⟩
  · have w := qwr338 e S S1 _ _ v a3 (by rw [k1.2 102 (by decide)]; exact a102) r
    have k1 := qKs_o k1 (qid v)
    have f := zD_up f
    generalize qo S1 (qid v) = U at w f k1
    obtain ⟨u1, u3, u37, u102⟩ := qLs_k ⟨a1, a3, a37, a102⟩ k1
    obtain ⟨t1, t3, t37, t102⟩ := qLs_k ⟨a1, a3, a37, a102⟩ k2
    have e1 := k1.1
    have t := r_thrown (e + 1) S2 (by omega) t37
    rw [h0] at t
    refine ⟨S2, ?_, k2, q⟩
    have h2 : zm S2 102 0 = v := h2
    simp (config := { maxSteps := 2000000 }) (disch := first | omega | (simp only [a1, a3, a37, a102, u1, u3, u37, u102, t1, t3, t37, t102, z1, z2, z3, z4, z5, e1, qb_in, qkW, qmW, qnW, true_and, and_true, or_self, true_or, or_true, and_self]; done) | (simp only [a1, a3, a37, a102, u1, u3, u37, u102, t1, t3, t37, t102, z1, z2, z3, z4, z5, e1, qb_in, qkW, qmW, qnW, true_and, and_true, or_self, true_or, or_true, and_self]; omega)) only [qcall_l, qcall_r, qretn_l, qJ_s, qJ_n, qV0, qEx, ↓qif0, ↓zchk_pos, ↓reduceIte, qput, qWW, qmW, qkW, qnW, b341_2301, b341_2313, b341_2318, b341_2331, b341_2336, b341_2342, b341_2347, b341_2349, b341_2354, b341_2364, b341_2366, a1, a3, a37, a102, u1, u3, u37, u102, t1, t3, t37, t102, z1, z2, z3, z4, z5, e1, w, f, t, h2, zcmp_s, eq_self, Int.reduceEq]
  · have w := qwt338 e S S1 _ _ x hx a3 r
    have f := zD_up f
    obtain ⟨u1, u3, u37, u102⟩ := qLs_k ⟨a1, a3, a37, a102⟩ k1
    obtain ⟨t1, t3, t37, t102⟩ := qLs_k ⟨a1, a3, a37, a102⟩ k2
    have e1 := k1.1
    have t := r_thrown (e + 1) S2 (by omega) t37
    rw [h0] at t
    refine ⟨S2, ?_, k2, q⟩
    simp (config := { maxSteps := 2000000 }) (disch := first | omega | (simp only [a1, a3, a37, a102, u1, u3, u37, u102, t1, t3, t37, t102, z1, z2, z3, z4, z5, e1, qb_in, qkW, qmW, qnW, true_and, and_true, or_self, true_or, or_true, and_self]; done) | (simp only [a1, a3, a37, a102, u1, u3, u37, u102, t1, t3, t37, t102, z1, z2, z3, z4, z5, e1, qb_in, qkW, qmW, qnW, true_and, and_true, or_self, true_or, or_true, and_self]; omega)) only [qcall_l, qcall_r, qretn_l, qJ_s, qJ_n, qV0, qEx, ↓qif0, ↓zchk_pos, ↓reduceIte, qput, qWW, qmW, qkW, qnW, b341_2301, b341_2313, b341_2318, b341_2331, b341_2336, b341_2342, b341_2347, b341_2349, b341_2354, b341_2364, b341_2366, a1, a3, a37, a102, u1, u3, u37, u102, t1, t3, t37, t102, z1, z2, z3, z4, z5, e1, w, f, t, if_neg hx, eq_self, Int.reduceEq]
theorem qlc34 (e : Nat) (S : zS) (L i : Int) (x5 x6 x7 : zV) (Q : zS → Prop) (hi : 0 ≤ i ∧ i + 6 ≤ L ∧ L ≤ 3072) (hL : qLs S L) (hu : qUn vi qid Q S (zD e 149 [vr 3, vi (zm S 1 (i + 1)), vi (zm S 1 (i + 2))] S) (zD e 304 [vr 37, vi (zm S 1 (i + 1)), vi (zm S 1 (i + 2))]) qpsF) : ∃ S2, zF_341 (e + 1) 2369 [vr 1, vr 3, vr 37, vr 102, vi i, x5, x6, x7] [] S = zF_341 (e + 1) 2493 [vr 1, vr 3, vr 37, vr 102, vi i, vu, vu, vu] [] S2 ∧ qKs S S2 ∧ Q S2 := by
  have z1 : z32 (i + 1) = i + 1 := q32 (by omega)
  have z2 : z32 (i + 2) = i + 2 := q32 (by omega)
  have z3 : z32 (i + 3) = i + 3 := q32 (by omega)
  have z4 : z32 (i + 4) = i + 4 := q32 (by omega)
  have z5 : z32 (i + 5) = i + 5 := q32 (by omega)
  obtain ⟨a1, a3, a37, a102⟩ := hL
  rcases hu with ⟨v, S1, r, k1, S2, f, k2, h0, h2, q⟩ | ⟨x, v, S1, S2, r, k1, f, k2, h0, hx, q⟩
  · have w := qwr339 e S S1 _ _ v a3 (by rw [k1.2 102 (by decide)]; exact a102) r
    have k1 := qKs_o k1 (qid v)
    have f := zD_up f
    generalize qo S1 (qid v) = U at w f k1
    obtain ⟨u1, u3, u37, u102⟩ := qLs_k ⟨a1, a3, a37, a102⟩ k1
    obtain ⟨t1, t3, t37, t102⟩ := qLs_k ⟨a1, a3, a37, a102⟩ k2
    have e1 := k1.1
    have t := r_thrown (e + 1) S2 (by omega) t37
    rw [h0] at t
    refine ⟨S2, ?_, k2, q⟩
    have h2 : zm S2 102 0 = v := h2
    simp (config := { maxSteps := 2000000 }) (disch := first | omega | (simp only [a1, a3, a37, a102, u1, u3, u37, u102, t1, t3, t37, t102, z1, z2, z3, z4, z5, e1, qb_in, qkW, qmW, qnW, true_and, and_true, or_self, true_or, or_true, and_self]; done) | (simp only [a1, a3, a37, a102, u1, u3, u37, u102, t1, t3, t37, t102, z1, z2, z3, z4, z5, e1, qb_in, qkW, qmW, qnW, true_and, and_true, or_self, true_or, or_true, and_self]; omega)) only [qcall_l, qcall_r, qretn_l, qJ_s, qJ_n, qV0, qEx, ↓qif0, ↓zchk_pos, ↓reduceIte, qput, qWW, qmW, qkW, qnW, b341_2369, b341_2381, b341_2386, b341_2399, b341_2404, b341_2410, b341_2415, b341_2417, b341_2422, b341_2432, b341_2434, a1, a3, a37, a102, u1, u3, u37, u102, t1, t3, t37, t102, z1, z2, z3, z4, z5, e1, w, f, t, h2, zcmp_s, eq_self, Int.reduceEq]
  · have w := qwt339 e S S1 _ _ x hx a3 r
    have f := zD_up f
    obtain ⟨u1, u3, u37, u102⟩ := qLs_k ⟨a1, a3, a37, a102⟩ k1
    obtain ⟨t1, t3, t37, t102⟩ := qLs_k ⟨a1, a3, a37, a102⟩ k2
    have e1 := k1.1
    have t := r_thrown (e + 1) S2 (by omega) t37
    rw [h0] at t
    refine ⟨S2, ?_, k2, q⟩
    simp (config := { maxSteps := 2000000 }) (disch := first | omega | (simp only [a1, a3, a37, a102, u1, u3, u37, u102, t1, t3, t37, t102, z1, z2, z3, z4, z5, e1, qb_in, qkW, qmW, qnW, true_and, and_true, or_self, true_or, or_true, and_self]; done) | (simp only [a1, a3, a37, a102, u1, u3, u37, u102, t1, t3, t37, t102, z1, z2, z3, z4, z5, e1, qb_in, qkW, qmW, qnW, true_and, and_true, or_self, true_or, or_true, and_self]; omega)) only [qcall_l, qcall_r, qretn_l, qJ_s, qJ_n, qV0, qEx, ↓qif0, ↓zchk_pos, ↓reduceIte, qput, qWW, qmW, qkW, qnW, b341_2369, b341_2381, b341_2386, b341_2399, b341_2404, b341_2410, b341_2415, b341_2417, b341_2422, b341_2432, b341_2434, a1, a3, a37, a102, u1, u3, u37, u102, t1, t3, t37, t102, z1, z2, z3, z4, z5, e1, w, f, t, if_neg hx, eq_self, Int.reduceEq]
theorem qlc35 (e : Nat) (S : zS) (L i : Int) (x5 x6 x7 : zV) (Q : zS → Prop) (hi : 0 ≤ i ∧ i + 6 ≤ L ∧ L ≤ 3072) (hL : qLs S L) (hu : qUn vi qid Q S (zD e 150 [vr 3, vi (zm S 1 (i + 1))] S) (zD e 305 [vr 37, vi (zm S 1 (i + 1))]) qpsF) : ∃ S2, zF_341 (e + 1) 2437 [vr 1, vr 3, vr 37, vr 102, vi i, x5, x6, x7] [] S = zF_341 (e + 1) 2493 [vr 1, vr 3, vr 37, vr 102, vi i, vu, vu, vu] [] S2 ∧ qKs S S2 ∧ Q S2 := by
  have z1 : z32 (i + 1) = i + 1 := q32 (by omega)
  have z2 : z32 (i + 2) = i + 2 := q32 (by omega)
  have z3 : z32 (i + 3) = i + 3 := q32 (by omega)
  have z4 : z32 (i + 4) = i + 4 := q32 (by omega)
  have z5 : z32 (i + 5) = i + 5 := q32 (by omega)
  obtain ⟨a1, a3, a37, a102⟩ := hL
  rcases hu with ⟨v, S1, r, k1, S2, f, k2, h0, h2, q⟩ | ⟨x, v, S1, S2, r, k1, f, k2, h0, hx, q⟩
  · have w := qwr340 e S S1 _ v a3 (by rw [k1.2 102 (by decide)]; exact a102) r
    have k1 := qKs_o k1 (qid v)
    have f := zD_up f
    generalize qo S1 (qid v) = U at w f k1
    obtain ⟨u1, u3, u37, u102⟩ := qLs_k ⟨a1, a3, a37, a102⟩ k1
    obtain ⟨t1, t3, t37, t102⟩ := qLs_k ⟨a1, a3, a37, a102⟩ k2
    have e1 := k1.1
    have t := r_thrown (e + 1) S2 (by omega) t37
    rw [h0] at t
    refine ⟨S2, ?_, k2, q⟩
    have h2 : zm S2 102 0 = v := h2
    simp (config := { maxSteps := 2000000 }) (disch := first | omega | (simp only [a1, a3, a37, a102, u1, u3, u37, u102, t1, t3, t37, t102, z1, z2, z3, z4, z5, e1, qb_in, qkW, qmW, qnW, true_and, and_true, or_self, true_or, or_true, and_self]; done) | (simp only [a1, a3, a37, a102, u1, u3, u37, u102, t1, t3, t37, t102, z1, z2, z3, z4, z5, e1, qb_in, qkW, qmW, qnW, true_and, and_true, or_self, true_or, or_true, and_self]; omega)) only [qcall_l, qcall_r, qretn_l, qJ_s, qJ_n, qV0, qEx, ↓qif0, ↓zchk_pos, ↓reduceIte, qput, qWW, qmW, qkW, qnW, b341_2437, b341_2448, b341_2460, b341_2466, b341_2471, b341_2473, b341_2478, b341_2488, b341_2490, a1, a3, a37, a102, u1, u3, u37, u102, t1, t3, t37, t102, z1, z2, z3, z4, z5, e1, w, f, t, h2, zcmp_s, eq_self, Int.reduceEq]
  · have w := qwt340 e S S1 _ x hx a3 r
    have f := zD_up f
    obtain ⟨u1, u3, u37, u102⟩ := qLs_k ⟨a1, a3, a37, a102⟩ k1
    obtain ⟨t1, t3, t37, t102⟩ := qLs_k ⟨a1, a3, a37, a102⟩ k2
    have e1 := k1.1
    have t := r_thrown (e + 1) S2 (by omega) t37
    rw [h0] at t
    refine ⟨S2, ?_, k2, q⟩
    simp (config := { maxSteps := 2000000 }) (disch := first | omega | (simp only [a1, a3, a37, a102, u1, u3, u37, u102, t1, t3, t37, t102, z1, z2, z3, z4, z5, e1, qb_in, qkW, qmW, qnW, true_and, and_true, or_self, true_or, or_true, and_self]; done) | (simp only [a1, a3, a37, a102, u1, u3, u37, u102, t1, t3, t37, t102, z1, z2, z3, z4, z5, e1, qb_in, qkW, qmW, qnW, true_and, and_true, or_self, true_or, or_true, and_self]; omega)) only [qcall_l, qcall_r, qretn_l, qJ_s, qJ_n, qV0, qEx, ↓qif0, ↓zchk_pos, ↓reduceIte, qput, qWW, qmW, qkW, qnW, b341_2437, b341_2448, b341_2460, b341_2466, b341_2471, b341_2473, b341_2478, b341_2488, b341_2490, a1, a3, a37, a102, u1, u3, u37, u102, t1, t3, t37, t102, z1, z2, z3, z4, z5, e1, w, f, t, if_neg hx, eq_self, Int.reduceEq]
