/-! What is written is read back: symbols of cells, and the tree that they are. -/
def qxsg (c fld : Int) : Int := if c = 60 then 35 else if c = 35 then 40 else if c = 28 then 41 else if c = 55 then (if fld = 0 then 32 else 91) else if c = 62 then (if fld = 0 then 32 else 93) else if c = 24 then (if fld = 0 then 32 else 123) else if c = 16 then (if fld = 0 then 32 else 125) else if c = 22 then 43 else if c = 36 then 45 else if c = 20 then 46 else if c = 12 then 47 else if c = 34 then 94 else 32
def qxsn (a c : Int) : Int := if c = 60 ∨ ¬ a = 0 ∧ ¬ qdo c = -1 then 1 else 0
def qxsb (fld a c : Int) : Int := if ¬ qxsn a c = 0 ∧ ¬ qdo c = -1 then 48 + qdo c else if ¬ qlo c = -1 then 97 + qlo c else qxsg c fld
def qxss (fld : Int) : Int → List Int → List Int
  | _, [] => []
  | a, c :: L => qxsb fld a c :: qxss fld (qxsn a c) L
def qxsa : Int → List Int → Int
  | a, [] => a
  | a, c :: L => qxsa (qxsn a c) L
theorem qxss_l (fld : Int) : ∀ (L : List Int) (a : Int), (qxss fld a L).length = L.length := by
  intro L
  induction L with
  | nil => intro a; rfl
  | cons c L ih => intro a; rw [qxss, List.length_cons, List.length_cons, ih]
theorem qxss_a (fld : Int) : ∀ (L K : List Int) (a : Int), qxss fld a (L ++ K) = qxss fld a L ++ qxss fld (qxsa a L) K := by
  intro L
  induction L with
  | nil => intro K a; rfl
  | cons c L ih => intro K a; rw [List.cons_append, qxss, qxss, ih, List.cons_append, qxsa]
theorem qxsa_a : ∀ (L K : List Int) (a : Int), qxsa a (L ++ K) = qxsa (qxsa a L) K := by
  intro L
  induction L with
  | nil => intro K a; rfl
  | cons c L ih => intro K a; rw [List.cons_append, qxsa, qxsa, ih]
/-- a sign, whatever was ahead -/
abbrev qxsi (c : Int) : Prop := c = 35 ∨ c = 28 ∨ c = 55 ∨ c = 62 ∨ c = 24 ∨ c = 16 ∨ c = 22 ∨ c = 36 ∨ c = 20 ∨ c = 12 ∨ c = 34
theorem qxsi_o (fld a : Int) {c : Int} (h : qxsi c) (K : List Int) : qxss fld a (c :: K) = qxsg c fld :: qxss fld 0 K ∧ qxsa a [c] = 0 := by
  have key : qlo c = -1 ∧ qdo c = -1 ∧ ¬ c = 60 := by
    rcases h with rfl | rfl | rfl | rfl | rfl | rfl | rfl | rfl | rfl | rfl | rfl <;> decide
  have n0 : qxsn a c = 0 := if_neg (fun z => by
    rcases z with z | ⟨-, z⟩
    · exact key.2.2 z
    · exact z key.2.1)
  refine ⟨?_, n0⟩
  rw [qxss, n0]
  have : qxsb fld a c = qxsg c fld := by
    unfold qxsb
    rw [if_neg (fun z => z.2 key.2.1), if_neg (fun z => z key.1)]
  rw [this]
def qxdl (z : Int) : List Int := if z < 100 then [48 + z % 10] else if z < 1000 then [48 + z / 10 % 10, 48 + z % 10] else if z < 10000 then [48 + z / 100 % 10, 48 + z / 10 % 10, 48 + z % 10] else [48 + z / 1000 % 10, 48 + z / 100 % 10, 48 + z / 10 % 10, 48 + z % 10]
def qxbk (b : Int) (L : List Int) : List Int := if b = 0 then L else [40] ++ L ++ [41]
/-- the symbols of a tree -/
def qxps (fld : Int) : qTree → List Int
  | .nest z .nil => if z < 0 then [96 - z] else 35 :: qxdl z
  | .tag o (.append l r) => if fld = 1 ∧ (o : Int) = 47 then [91] ++ qxps fld l ++ [47] ++ qxps fld r ++ [93] else if fld = 1 ∧ (o : Int) = 94 then qxbk (qnb fld o l 0) (qxps fld l) ++ [123] ++ qxps fld r ++ [125] else qxbk (qnb fld o l 0) (qxps fld l) ++ [(o : Int)] ++ qxbk (qnb fld o r 1) (qxps fld r)
  | _ => []
theorem qxps_a (fld z : Int) : qxps fld (qAt z) = if z < 0 then [96 - z] else 35 :: qxdl z := rfl
theorem qxps_o (fld : Int) (o : Nat) (l r : qTree) : qxps fld (qOp o l r) = if fld = 1 ∧ (o : Int) = 47 then [91] ++ qxps fld l ++ [47] ++ qxps fld r ++ [93] else if fld = 1 ∧ (o : Int) = 94 then qxbk (qnb fld o l 0) (qxps fld l) ++ [123] ++ qxps fld r ++ [125] else qxbk (qnb fld o l 0) (qxps fld l) ++ [(o : Int)] ++ qxbk (qnb fld o r 1) (qxps fld r) := rfl
theorem qdo_c (g : Int) (h : 0 ≤ g ∧ g ≤ 9) : qdo (qdc g) = g ∧ ¬ qdc g = 60 := by
  have : g = 0 ∨ g = 1 ∨ g = 2 ∨ g = 3 ∨ g = 4 ∨ g = 5 ∨ g = 6 ∨ g = 7 ∨ g = 8 ∨ g = 9 := by omega
  rcases this with rfl | rfl | rfl | rfl | rfl | rfl | rfl | rfl | rfl | rfl <;> decide
theorem qx_dig (fld g : Int) (h : 0 ≤ g ∧ g ≤ 9) (L : List Int) : qxss fld 1 (qdc g :: L) = (48 + g) :: qxss fld 1 L := by
  obtain ⟨h1, h2⟩ := qdo_c g h
  have n1 : qxsn 1 (qdc g) = 1 := if_pos (Or.inr ⟨by decide, by omega⟩)
  rw [qxss, n1]
  unfold qxsb
  rw [n1, if_pos ⟨by decide, by omega⟩, h1]
theorem qx_let (fld a l : Int) (h : 0 ≤ l ∧ l < 26) (ha : a = 0) : qxss fld a [qlc l] = [97 + l] := by
  have h1 := qlo_lc l h
  have h2 : ¬ qlc l = 60 := fun z => by
    rw [z] at h1
    have : qlo 60 = -1 := by decide
    omega
  have n0 : qxsn a (qlc l) = 0 := if_neg (fun z => by
    rcases z with z | ⟨z, -⟩
    · exact h2 z
    · exact z ha)
  rw [qxss, qxss]
  unfold qxsb
  rw [n0, if_neg (fun z => z.1 rfl), if_pos (by omega), h1]
theorem qx_60 (fld : Int) (L : List Int) : qxss fld 0 (60 :: L) = 35 :: qxss fld 1 L := by
  rw [qxss]
  rfl
/-- the cells of a tree are read as its symbols -/
theorem qx_cells (fld : Int) (hfl : fld = 0 ∨ fld = 1) : ∀ x, qwf x → qxss fld 0 (qpr fld x) = qxps fld x := by
  have bk : ∀ (b : Int) (L M : List Int), qxss fld 0 L = M → qxss fld 0 (qbk b L) = qxbk b M := fun b L M h => by
    unfold qbk qxbk
    by_cases c : b = 0
    · rw [if_pos c, if_pos c, h]
    · rw [if_neg c, if_neg c, List.append_assoc, List.singleton_append, (qxsi_o fld 0 (c := 35) (Or.inl rfl) _).1, qxss_a, h, (qxsi_o fld _ (c := 28) (Or.inr (Or.inl rfl)) _).1]
      rfl
  refine q_ind (fun z hz => ?_) fun o l r hj wl wr il ir => ?_
  · rw [qpr_a, qxps_a]
    by_cases c : z < 0
    · rw [if_pos c, if_pos c, qx_let fld 0 (-1 - z) (by unfold qza at hz; omega) rfl, show 97 + (-1 - z) = 96 - z by omega]
    · rw [if_neg c, if_neg c, qx_60]
      congr 1
      unfold qdl qxdl
      by_cases c1 : z < 100
      · rw [if_pos c1, if_pos c1, qx_dig fld _ (by omega)]
        rfl
      · by_cases c2 : z < 1000
        · rw [if_neg c1, if_neg c1, if_pos c2, if_pos c2, qx_dig fld _ (by omega), qx_dig fld _ (by omega)]
          rfl
        · by_cases c3 : z < 10000
          · rw [if_neg c1, if_neg c1, if_neg c2, if_neg c2, if_pos c3, if_pos c3, qx_dig fld _ (by omega), qx_dig fld _ (by omega), qx_dig fld _ (by omega)]
            rfl
          · rw [if_neg c1, if_neg c1, if_neg c2, if_neg c2, if_neg c3, if_neg c3, qx_dig fld _ (by omega), qx_dig fld _ (by omega), qx_dig fld _ (by omega), qx_dig fld _ (by omega)]
            rfl
  · have two : ∀ (c1 c2 c3 : Int) (A B : List Int), qxsi c1 → qxsi c2 → qxsi c3 → qxss fld 0 ([c1] ++ A ++ [c2] ++ B ++ [c3]) = [qxsg c1 fld] ++ qxss fld 0 A ++ [qxsg c2 fld] ++ qxss fld 0 B ++ [qxsg c3 fld] := fun c1 c2 c3 A B h1 h2 h3 => by
      rw [show [c1] ++ A ++ [c2] ++ B ++ [c3] = c1 :: (A ++ c2 :: (B ++ [c3])) by simp, (qxsi_o fld 0 h1 _).1, qxss_a, (qxsi_o fld _ h2 _).1, qxss_a, (qxsi_o fld _ h3 _).1]
      simp [qxss]
    have mid : ∀ (c2 : Int) (A B : List Int), qxsi c2 → qxss fld 0 (A ++ [c2] ++ B) = qxss fld 0 A ++ [qxsg c2 fld] ++ qxss fld 0 B := fun c2 A B h2 => by
      rw [show A ++ [c2] ++ B = A ++ c2 :: B by simp, qxss_a, (qxsi_o fld _ h2 _).1]
      simp
    rw [qpr_o, qxps_o]
    by_cases c1 : fld = 1 ∧ (o : Int) = 47
    · rw [if_pos c1, if_pos c1, two 55 12 62 _ _ (by decide) (by decide) (by decide), il, ir, c1.1]
      rfl
    · rw [if_neg c1, if_neg c1]
      by_cases c2 : fld = 1 ∧ (o : Int) = 94
      · rw [if_pos c2, if_pos c2, show qbk (qnb fld o l 0) (qpr fld l) ++ [24] ++ qpr fld r ++ [16] = qbk (qnb fld o l 0) (qpr fld l) ++ [24] ++ (qpr fld r ++ [16]) by simp, mid 24 _ _ (by decide), bk _ _ _ il, qxss_a, (qxsi_o fld _ (c := 16) (by decide) _).1, ir, c2.1]
        simp [qxss, qxsg]
      · rw [if_neg c2, if_neg c2, mid (qcs o) _ _ (by
          unfold qcs qxsi
          repeat' split
          all_goals decide), bk _ _ _ il, bk _ _ _ ir, show qxsg (qcs o) fld = (o : Int) by
          rcases hj with h | h | h | h | h <;> rw [h] <;> rfl]
