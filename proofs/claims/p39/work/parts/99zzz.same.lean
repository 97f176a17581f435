/-! What both read is the same. -/
theorem qrd_f {T : Int → Int → Int} {r bR : Int → Int} {all : Int} (hb : ∀ a, bR a = -1) : ∀ (f : Nat) (at_ : Int) (acc K : List Int), at_ + f = all → qrd T r bR all f at_ acc = some K → K.length = acc.length + f ∧ (∀ i, 0 ≤ i → i < (acc.length : Int) → qnth K i = qnth acc i) ∧ ∀ i : Nat, i < f → qlo (r (at_ + i)) ≠ -1 ∧ qnth K (acc.length + i) = qlo (r (at_ + i)) := by
  intro f
  induction f with
  | zero =>
    intro at_ acc K h1 h2
    simp only [qrd, Option.some.injEq] at h2
    subst h2
    exact ⟨rfl, fun _ _ _ => rfl, fun i hi => absurd hi (by omega)⟩
  | succ f ih =>
    intro at_ acc K h1 h2
    simp only [qrd] at h2
    rw [if_neg (show ¬ all ≤ at_ by omega), if_pos (hb at_)] at h2
    by_cases c : qlo (r at_) = -1
    · rw [if_pos c] at h2
      exact absurd h2 (by simp)
    · rw [if_neg c] at h2
      obtain ⟨g1, g2, g3⟩ := ih (at_ + 1) (acc ++ [qlo (r at_)]) K (by omega) h2
      have el : (acc ++ [qlo (r at_)]).length = acc.length + 1 := by rw [List.length_append]; rfl
      rw [el] at g1 g2 g3
      refine ⟨by omega, fun i i1 i2 => ?_, fun i hi => ?_⟩
      · rw [g2 i i1 (by omega), qnth_l _ _ _ ⟨i1, i2⟩]
      · rcases i with _ | i
        · refine ⟨by rw [show at_ + ((0 : Nat) : Int) = at_ by omega]; exact c, ?_⟩
          rw [show (acc.length : Int) + ((0 : Nat) : Int) = acc.length by omega, g2 acc.length (by omega) (by omega), qnth_r _ _ _ (Int.le_refl _), Int.sub_self, show at_ + ((0 : Nat) : Int) = at_ by omega]
          rfl
        · have := g3 i (by omega)
          rw [show at_ + 1 + (i : Int) = at_ + ((i + 1 : Nat) : Int) by omega, show ((acc.length + 1 : Nat) : Int) + (i : Int) = acc.length + ((i + 1 : Nat) : Int) by omega] at this
          exact this
theorem qrd_b {T : Int → Int → Int} {r bR : Int → Int} {all : Int} (hb : ∀ a, bR a = -1) : ∀ (f : Nat) (at_ : Int) (acc : List Int), at_ + f = all → (∀ i : Nat, i < f → qlo (r (at_ + i)) ≠ -1) → ∃ K, qrd T r bR all f at_ acc = some K := by
  intro f
  induction f with
  | zero =>
    intro at_ acc h1 h2
    exact ⟨acc, rfl⟩
  | succ f ih =>
    intro at_ acc h1 h2
    have c := h2 0 (by omega)
    rw [show at_ + ((0 : Nat) : Int) = at_ by omega] at c
    obtain ⟨K, hK⟩ := ih (at_ + 1) (acc ++ [qlo (r at_)]) (by omega) (fun i hi => by
      have := h2 (i + 1) (by omega)
      rw [show at_ + ((i + 1 : Nat) : Int) = at_ + 1 + (i : Int) by omega] at this
      exact this)
    refine ⟨K, ?_⟩
    simp only [qrd]
    rw [if_neg (show ¬ all ≤ at_ by omega), if_pos (hb at_), if_neg c]
    exact hK
theorem qbr_m {T : Int → Int → Int} {N : Int} {r : Int → Int} {all : Int} (h0 : 0 ≤ N) (hT : qTok T N) (a : Int) : qbr T N (-1) r all a = -1 := by
  rcases qbr_s (T := T) (N := N) (g := -1) (r := r) (all := all) (at_ := a) h0 with q | ⟨q1, q2, q3⟩
  · exact q
  · have := (hT _ q1 q2).2.1.1
    have := q3.1
    omega
/-- letters alone -/
theorem qrd_w {T : Int → Int → Int} {N n : Int} {r : Int → Int} {W : List Int} (h0 : 0 ≤ N) (hT : qTok T N) (hn : 0 ≤ n) : qrd T r (qbr T N (-1) r n) n n.toNat 0 [] = some W ↔ n = W.length ∧ ∀ i, 0 ≤ i → i < n → qlo (r i) ≠ -1 ∧ qnth W i = qlo (r i) := by
  have e0 : ∀ i : Int, (0 : Int) + i = i := fun i => by omega
  constructor
  · intro h
    obtain ⟨g1, -, g3⟩ := qrd_f (qbr_m h0 hT) n.toNat 0 [] W (by omega) h
    refine ⟨by have : W.length = 0 + n.toNat := g1; omega, fun i i1 i2 => ?_⟩
    have := g3 i.toNat (by omega)
    rw [show ((i.toNat : Nat) : Int) = i by omega, e0] at this
    have e1 : qnth W ((([] : List Int).length : Int) + i) = qnth W i := by rw [show (([] : List Int).length : Int) + i = i by show ((0 : Nat) : Int) + i = i; omega]
    rw [e1] at this
    exact this
  · rintro ⟨h1, h2⟩
    obtain ⟨K, hK⟩ := qrd_b (T := T) (all := n) (qbr_m (r := r) (all := n) h0 hT) n.toNat 0 [] (by omega) (fun i hi => by
      rw [e0]
      exact (h2 i (by omega) (by omega)).1)
    obtain ⟨g1, -, g3⟩ := qrd_f (qbr_m h0 hT) n.toNat 0 [] K (by omega) hK
    have g1 : K.length = 0 + n.toNat := g1
    rw [hK, qnth_x (K := K) (W := W) (by omega) fun i i1 i2 => ?_]
    have := (g3 i.toNat (by omega)).2
    rw [show ((i.toNat : Nat) : Int) = i by omega, e0] at this
    have e1 : qnth K ((([] : List Int).length : Int) + i) = qnth K i := by rw [show (([] : List Int).length : Int) + i = i by show ((0 : Nat) : Int) + i = i; omega]
    rw [e1] at this
    rw [this, (h2 i i1 (by omega)).2]
theorem qmo_c {x mk : Int} (hx : qmkc x) (hm : mk = 0 ∨ qmk mk) : qmo x = mk ↔ x = qmc mk := by
  rcases hx with rfl | rfl | rfl | rfl <;> rcases hm with rfl | rfl | rfl | rfl | rfl <;> decide
theorem qmc_0m {mk : Int} (hm : mk = 0 ∨ qmk mk) : 0 = mk ↔ 0 = qmc mk := by
  rcases hm with rfl | rfl | rfl | rfl | rfl <;> decide
theorem qyh_e {L : List Int} (hl : 0 < L.length) : qyhd L (qyb L) (qye L) = qyh L ∧ (qyb L < qye L ↔ qyb L < L.length) ∧ (0 ≤ qyb L ∧ qyb L ≤ qye L ∧ qye L ≤ L.length) := by
  have r1 := qys_r L
  have r2 := qyg_r L (by omega)
  have hbb : qys L + qyg L = qyb L := rfl
  have ye : qye L = L.length - qym L := rfl
  have e1 : qyb L < qye L ↔ qyb L < L.length := by
    rcases qym_r L with ⟨a, b, -⟩ | ⟨a, -⟩ <;> constructor <;> intro <;> omega
  refine ⟨?_, e1, ?_⟩
  · unfold qyhd qyh
    by_cases c : qyb L < qye L
    · rw [if_pos c, if_pos (e1.mp c)]
    · rw [if_neg c, if_neg (fun q => c (e1.mpr q))]
  · rcases qym_r L with ⟨a, b, -⟩ | ⟨a, -⟩ <;> omega
/-- what the class's reading and comparing come to -/
def qyCl (T : Int → Int → Int) (N g : Int) (L W : List Int) (dg st bg mk : Int) : Prop :=
  qyK T N g L W ∧ qys L = st ∧ (if qyh L = 60 then 1 else 0) = dg ∧ (if qym L = 1 then qnth L (L.length - 1) else 0) = qmc mk ∧ qcb W (if qyh L = 60 then 1 else 0) (qyg L) = qcb W dg bg
theorem qy_same {T : Int → Int → Int} {N g : Int} {L W : List Int} {dg st bg mk : Int} (hl : 0 < L.length) (h0 : 0 ≤ N) (hT : qTok T N) (hW : qWk2 W dg st bg mk) (hX : dg = 1 → qys L = st → qyh L = 60 → qyg L = 0) : qyCl T N g L W dg st bg mk ↔ qyAs T N g L W dg st bg mk := by
  obtain ⟨⟨w0, w10⟩, wst, wdg, wbg, wmk, wb2⟩ := hW
  obtain ⟨hd, hlt, b0, bn, nl⟩ := qyh_e hl
  have gr := (qyg_r L (by omega)).1
  have mark : (if qym L = 1 then qnth L (L.length - 1) else 0) = qmc mk ↔ (if qym L = 1 then qmo (qnth L (L.length - 1)) else 0) = mk := by
    rcases qym_r L with ⟨a, -, c⟩ | ⟨a, -⟩
    · rw [if_pos a, if_pos a]
      exact (qmo_c c wmk).symm
    · rw [if_neg (by omega), if_neg (by omega)]
      exact (qmc_0m wmk).symm
  have dig : dg = 0 ∨ dg = 1 := by omega
  -- the body
  have body : (qyK T N g L W ∧ (if qyh L = 60 then 1 else 0) = dg) ↔ qySo T N g L (qyb L) (qye L) W dg := by
    unfold qyK qySo
    rw [hd]
    by_cases c60 : qyh L = 60
    · rw [if_pos c60, if_pos c60, if_pos (Or.inl c60)]
      have Bl : qyb L < L.length := by
        by_cases q : qyb L < L.length
        · exact q
        · unfold qyh at c60; rw [if_neg q] at c60; exact absurd c60 (by decide)
      constructor
      · rintro ⟨⟨k1, k2, k3⟩, d1⟩
        refine ⟨⟨fun _ => d1.symm, fun _ => c60⟩, by omega, fun i i1 i2 => ?_⟩
        rw [(k3 i i1 (by omega)).2, ← d1]
        rfl
      · rintro ⟨d1, k2, k3⟩
        have d1 : dg = 1 := d1.mp c60
        rcases wdg with ⟨q, -⟩ | ⟨-, -, -, wd⟩
        · omega
        refine ⟨⟨by omega, by omega, fun i i1 i2 => ?_⟩, d1.symm⟩
        have e1 := k3 i i1 (by omega)
        have e2 := wd i i1 (by omega)
        rw [d1] at e1
        have e1 : qdo (qnth L (qyb L + 1 + i)) = qnth W i := e1
        exact ⟨by omega, e1.symm⟩
    · by_cases c48 : qyh L = 48
      · rw [if_neg c60, if_pos c48, if_neg c60, if_pos (Or.inr c48)]
        have e2 : ∀ (d : Int), d = 0 → ∀ i, qvl d (qnth L (qyb L + 1 + i)) = qlo (qnth L (qyb L + 1 + i)) := fun d q i => by rw [q]; rfl
        constructor
        · rintro ⟨⟨k1, k2⟩, d1⟩
          obtain ⟨k3, k4⟩ := (qrd_w h0 hT (by omega)).mp k2
          refine ⟨⟨fun q => absurd q c60, fun q => by omega⟩, by omega, fun i i1 i2 => ?_⟩
          rw [e2 dg d1.symm, (k4 i i1 (by omega)).2]
        · rintro ⟨d1, k2, k3⟩
          have d0 : dg = 0 := dig.resolve_right fun q => c60 (d1.mpr q)
          rcases wdg with ⟨-, wd⟩ | ⟨q, -⟩
          · refine ⟨⟨by omega, (qrd_w h0 hT (by omega)).mpr ⟨by omega, fun i i1 i2 => ?_⟩⟩, d0.symm⟩
            have e1 := k3 i i1 (by omega)
            have e3 := wd i i1 (by omega)
            rw [e2 dg d0] at e1
            exact ⟨by omega, e1.symm⟩
          · omega
      · rw [if_neg c60, if_neg c48, if_neg c60, if_neg (by omega)]
        exact ⟨fun z => ⟨z.1.1, z.2.symm, z.1.2⟩, fun z => ⟨⟨z.1, z.2.2⟩, z.2.1.symm⟩⟩
  constructor
  · rintro ⟨k1, k2, k3, k4, k5⟩
    refine ⟨k2, mark.mp k4, ?_, body.mp ⟨k1, k3⟩⟩
    rw [k3] at k5
    rcases dig with d | d
    · subst d
      unfold qcb at k5
      rw [if_pos rfl, if_pos rfl] at k5
      split at k5 <;> split at k5 <;> omega
    · have b0 : bg = 0 := by omega
      have c60 : qyh L = 60 := by
        by_cases q : qyh L = 60
        · exact q
        · rw [if_neg q] at k3; omega
      exact Or.inl (by rw [hX d k2 c60, b0])
  · rintro ⟨k2, k4, k5, k6⟩
    obtain ⟨k1, k3⟩ := body.mpr k6
    refine ⟨k1, k2, k3, mark.mpr k4, ?_⟩
    rw [k3]
    unfold qcb
    rcases dig with d | d
    · rw [if_pos d, if_pos d]
      split <;> split <;> omega
    · rw [if_neg (by omega), if_neg (by omega)]
/-- a felt cell that shows number has both its dots in the book -/
theorem qfwx_60 {f r : Int → Int} {i : Nat} (h : qfwx f r 6 i = 60) : qbt (f i) 2 = 1 ∧ qbt (f i) 3 = 1 := by
  have e : ∀ (j : Nat) (v : Int), v = 2 ^ j → ((if qbt (f i) j = 1 ∧ qsb f j i < r j then (2 : Int) ^ j else 0) = 0 ∨ (qbt (f i) j = 1 ∧ (if qbt (f i) j = 1 ∧ qsb f j i < r j then (2 : Int) ^ j else 0) = v)) := fun j v hv => by
    split
    · next q => exact Or.inr ⟨q.1, hv.symm⟩
    · exact Or.inl rfl
  have h0 := e 0 1 (by decide)
  have h1 := e 1 2 (by decide)
  have h2 := e 2 4 (by decide)
  have h3 := e 3 8 (by decide)
  have h4 := e 4 16 (by decide)
  have h5 := e 5 32 (by decide)
  clear e
  simp only [qfwx] at h
  generalize (if qbt (f i) (0 : Nat) = 1 ∧ qsb f (0 : Nat) i < r (0 : Nat) then (2 : Int) ^ 0 else 0) = x0 at h h0
  generalize (if qbt (f i) (1 : Nat) = 1 ∧ qsb f (1 : Nat) i < r (1 : Nat) then (2 : Int) ^ 1 else 0) = x1 at h h1
  generalize (if qbt (f i) (2 : Nat) = 1 ∧ qsb f (2 : Nat) i < r (2 : Nat) then (2 : Int) ^ 2 else 0) = x2 at h h2
  generalize (if qbt (f i) (3 : Nat) = 1 ∧ qsb f (3 : Nat) i < r (3 : Nat) then (2 : Int) ^ 3 else 0) = x3 at h h3
  generalize (if qbt (f i) (4 : Nat) = 1 ∧ qsb f (4 : Nat) i < r (4 : Nat) then (2 : Int) ^ 4 else 0) = x4 at h h4
  generalize (if qbt (f i) (5 : Nat) = 1 ∧ qsb f (5 : Nat) i < r (5 : Nat) then (2 : Int) ^ 5 else 0) = x5 at h h5
  have g2 : qbt (f i) (2 : Nat) = 1 := by
    rcases h2 with h2 | ⟨q, -⟩
    · rcases h0 with h0 | ⟨-, h0⟩ <;> rcases h1 with h1 | ⟨-, h1⟩ <;> rcases h3 with h3 | ⟨-, h3⟩ <;> rcases h4 with h4 | ⟨-, h4⟩ <;> rcases h5 with h5 | ⟨-, h5⟩ <;> omega
    · exact q
  have g3 : qbt (f i) (3 : Nat) = 1 := by
    rcases h3 with h3 | ⟨q, -⟩
    · rcases h0 with h0 | ⟨-, h0⟩ <;> rcases h1 with h1 | ⟨-, h1⟩ <;> rcases h2 with h2 | ⟨-, h2⟩ <;> rcases h4 with h4 | ⟨-, h4⟩ <;> rcases h5 with h5 | ⟨-, h5⟩ <;> omega
    · exact q
  exact ⟨g2, g3⟩
/-- no cell behind number's sign shows it -/
def qn23 (v : Int) : Prop := ¬ (qbt v 2 = 1 ∧ qbt v 3 = 1)
theorem qn23_d {v : Int} (h : v = 1 ∨ v = 3 ∨ v = 9 ∨ v = 25 ∨ v = 17 ∨ v = 11 ∨ v = 27 ∨ v = 19 ∨ v = 10 ∨ v = 26 ∨ v = 2 ∨ v = 6 ∨ v = 38 ∨ v = 50) : qn23 v := by
  unfold qn23
  obtain ⟨n, rfl⟩ : ∃ n : Nat, v = (n : Int) := ⟨v.toNat, by omega⟩
  rw [qbt_nat n (by omega) 2, qbt_nat n (by omega) 3]
  have hn : n = 1 ∨ n = 3 ∨ n = 9 ∨ n = 25 ∨ n = 17 ∨ n = 11 ∨ n = 27 ∨ n = 19 ∨ n = 10 ∨ n = 26 ∨ n = 2 ∨ n = 6 ∨ n = 38 ∨ n = 50 := by omega
  clear h
  rcases hn with rfl | rfl | rfl | rfl | rfl | rfl | rfl | rfl | rfl | rfl | rfl | rfl | rfl | rfl <;> decide
theorem qdt_23 {ws : Int → Int} : ∀ n : Nat, (∀ i : Nat, i < n → 0 ≤ ws i ∧ ws i ≤ 9) → ∀ x ∈ qdt ws n, qn23 x.1 := by
  intro n
  induction n with
  | zero => intro _ x hx; exact absurd hx (by simp [qdt])
  | succ n ih =>
    intro h x hx
    rw [qdt] at hx
    rcases List.mem_append.mp hx with q | q
    · exact ih (fun i hi => h i (by omega)) x q
    · rw [List.mem_singleton.mp q]
      have r := h n (by omega)
      refine qn23_d ?_
      show qlc _ = 1 ∨ qlc _ = 3 ∨ qlc _ = 9 ∨ qlc _ = 25 ∨ qlc _ = 17 ∨ qlc _ = 11 ∨ qlc _ = 27 ∨ qlc _ = 19 ∨ qlc _ = 10 ∨ qlc _ = 26 ∨ qlc _ = 2 ∨ qlc _ = 6 ∨ qlc _ = 38 ∨ qlc _ = 50
      obtain ⟨v, hv⟩ : ∃ v, (if ws n = 0 then 9 else ws n - 1) = v := ⟨_, rfl⟩
      rw [hv]
      have vr : v = 0 ∨ v = 1 ∨ v = 2 ∨ v = 3 ∨ v = 4 ∨ v = 5 ∨ v = 6 ∨ v = 7 ∨ v = 8 ∨ v = 9 := by
        split at hv <;> omega
      clear hv
      rcases vr with rfl | rfl | rfl | rfl | rfl | rfl | rfl | rfl | rfl | rfl <;> decide
theorem qwL_23 {T : Int → Int → Int} {N g P st mk : Int} {W : List Int} (hst : st = 0 ∨ st = 1) (hW : ∀ i, 0 ≤ i → i < (W.length : Int) → 0 ≤ qnth W i ∧ qnth W i ≤ 9) (hm : mk = 0 ∨ qmk mk) (i : Int) (h1 : st < i) (h2 : i < (qwL T N g W P 1 st 0 (qmc mk)).length) : qn23 (qnth (qwL T N g W P 1 st 0 (qmc mk)) i) := by
  have e1 : qwL T N g W P 1 st 0 (qmc mk) = (qpre st 0 ++ [60]) ++ ((qdt (qnth W) W.length).map Prod.fst ++ if qmc mk = 0 then [] else [qmc mk]) := by
    unfold qwL qwS qwC
    rw [if_pos rfl, if_pos rfl, List.append_assoc]
  have l1 : ((qpre st 0 ++ [60]).length : Int) = st + 1 := by
    rcases hst with rfl | rfl <;> rfl
  rw [e1] at h2 ⊢
  rw [List.length_append] at h2
  rw [qnth_r _ _ _ (by omega)]
  have hm2 := qnth_m ((qdt (qnth W) W.length).map Prod.fst ++ if qmc mk = 0 then [] else [qmc mk]) (i - ((qpre st 0 ++ [60]).length : Int)) ⟨by omega, by omega⟩
  obtain ⟨v, hv⟩ : ∃ v, qnth ((qdt (qnth W) W.length).map Prod.fst ++ if qmc mk = 0 then [] else [qmc mk]) (i - ((qpre st 0 ++ [60]).length : Int)) = v := ⟨_, rfl⟩
  rw [hv] at hm2 ⊢
  rcases List.mem_append.mp hm2 with q | q
  · obtain ⟨x, x1, x2⟩ := List.mem_map.mp q
    rw [← x2]
    exact qdt_23 W.length (fun i hi => hW i (by omega) (by omega)) x x1
  · by_cases c : qmc mk = 0
    · rw [if_pos c] at q
      exact absurd q (by simp)
    · rw [if_neg c] at q
      rw [List.mem_singleton.mp q]
      refine qn23_d ?_
      rcases hm with rfl | rfl | rfl | rfl | rfl
      · exact absurd rfl c
      all_goals decide
