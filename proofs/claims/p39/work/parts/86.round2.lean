/-! The symbols of a tree are read as the tree. -/
def qxm (y : Int → Int) : Int → List Int → Prop
  | _, [] => True
  | p, c :: L => y p = c ∧ qxm y (p + 1) L
theorem qxm_a (y : Int → Int) : ∀ (L K : List Int) (p : Int), qxm y p (L ++ K) → qxm y p L ∧ qxm y (p + L.length) K := by
  intro L
  induction L with
  | nil => intro K p h; exact ⟨trivial, by rw [show p + (([] : List Int).length : Int) = p by simp]; exact h⟩
  | cons c L ih =>
    intro K p h
    obtain ⟨h1, h2⟩ := h
    obtain ⟨h3, h4⟩ := ih K (p + 1) h2
    refine ⟨⟨h1, h3⟩, ?_⟩
    rw [List.length_cons, show p + ((L.length + 1 : Nat) : Int) = p + 1 + L.length by omega]
    exact h4
def qxlv (fld : Int) (x : qTree) : Int := match x with
  | .tag k _ => if (k : Int) = 43 ∨ (k : Int) = 45 then 0 else if (k : Int) = 94 then 4 else if fld = 1 ∧ (k : Int) = 47 then 5 else 2
  | _ => 5
theorem qxlv_a (fld z : Int) : qxlv fld (qAt z) = 5 := rfl
theorem qxlv_o (fld : Int) (k : Nat) (l r : qTree) : qxlv fld (qOp k l r) = if (k : Int) = 43 ∨ (k : Int) = 45 then 0 else if (k : Int) = 94 then 4 else if fld = 1 ∧ (k : Int) = 47 then 5 else 2 := rfl
abbrev qx5 (c : Int) : Prop := ¬ qdg c
abbrev qx4 (fld c : Int) : Prop := ¬ qdg c ∧ ¬ (fld = 0 ∧ c = 94) ∧ ¬ (fld ≠ 0 ∧ c = 123)
abbrev qx2 (fld c : Int) : Prop := qx4 fld c ∧ ¬ (c = 46 ∨ c = 47 ∧ fld = 0)
abbrev qx0 (fld c : Int) : Prop := qx2 fld c ∧ ¬ (c = 43 ∨ c = 45)
/-- read at each level that it has -/
def qxR (y : Int → Int) (fld : Int) (x : qTree) (v : Int) (L : List Int) (k : Int) : Prop := ∀ p dep : Int, 0 ≤ p → dep + k ≤ 40 → qxm y p L →
  (∀ q x' l, qx2 fld (y (p + L.length)) → qPx y fld 1 dep (p + L.length) x q x' → qPx y fld 0 dep p l q x') ∧
  (2 ≤ v → ∀ q x' l, qx4 fld (y (p + L.length)) → qPx y fld 3 dep (p + L.length) x q x' → qPx y fld 2 dep p l q x') ∧
  (4 ≤ v → ∀ l, qx4 fld (y (p + L.length)) → qPx y fld 4 dep p l (p + L.length) x) ∧
  (5 ≤ v → ∀ l, qx5 (y (p + L.length)) → qPx y fld 5 dep p l (p + L.length) x)
/-- from the highest level down -/
theorem qxR_5 {y : Int → Int} {fld : Int} {x : qTree} {L : List Int} {k : Int} (hk : 0 ≤ k) (h : ∀ p dep : Int, 0 ≤ p → dep + k ≤ 40 → qxm y p L → ∀ l, qx5 (y (p + L.length)) → qPx y fld 5 dep p l (p + L.length) x) (v : Int) : qxR y fld x v L k := fun p dep hp hd hm => by
  have h5 := h p dep hp hd hm
  have h4 : ∀ l, qx4 fld (y (p + L.length)) → qPx y fld 4 dep p l (p + L.length) x := fun l q => qPx_4e (by omega) (h5 qNl q.1) q.2.1 q.2.2
  have h2 : ∀ q x' l, qx4 fld (y (p + L.length)) → qPx y fld 3 dep (p + L.length) x q x' → qPx y fld 2 dep p l q x' := fun q x' l g c => qPx_20 (h4 qNl g) c
  exact ⟨fun q x' l g c => qPx_0 (by omega) (h2 _ _ qNl g.1 (qPx_3e g.2)) c, fun _ => h2, fun _ => h4, fun _ => h5⟩
theorem qxR_4 {y : Int → Int} {fld : Int} {x : qTree} {L : List Int} {k : Int} (hk : 0 ≤ k) (h : ∀ p dep : Int, 0 ≤ p → dep + k ≤ 40 → qxm y p L → ∀ l, qx4 fld (y (p + L.length)) → qPx y fld 4 dep p l (p + L.length) x) {v : Int} (hv : v ≤ 4) : qxR y fld x v L k := fun p dep hp hd hm => by
  have h4 := h p dep hp hd hm
  have h2 : ∀ q x' l, qx4 fld (y (p + L.length)) → qPx y fld 3 dep (p + L.length) x q x' → qPx y fld 2 dep p l q x' := fun q x' l g c => qPx_20 (h4 qNl g) c
  exact ⟨fun q x' l g c => qPx_0 (by omega) (h2 _ _ qNl g.1 (qPx_3e g.2)) c, fun _ => h2, fun _ => h4, fun z => by omega⟩
theorem qxR_2 {y : Int → Int} {fld : Int} {x : qTree} {L : List Int} {k : Int} (hk : 0 ≤ k) (h : ∀ p dep : Int, 0 ≤ p → dep + k ≤ 40 → qxm y p L → ∀ q x' l, qx4 fld (y (p + L.length)) → qPx y fld 3 dep (p + L.length) x q x' → qPx y fld 2 dep p l q x') {v : Int} (hv : v ≤ 2) : qxR y fld x v L k := fun p dep hp hd hm => by
  have h2 := h p dep hp hd hm
  exact ⟨fun q x' l g c => qPx_0 (by omega) (h2 _ _ qNl g.1 (qPx_3e g.2)) c, fun _ => h2, fun z => by omega, fun z => by omega⟩
theorem qxR_0 {y : Int → Int} {fld : Int} {x : qTree} {L : List Int} {k : Int} (h : ∀ p dep : Int, 0 ≤ p → dep + k ≤ 40 → qxm y p L → ∀ q x' l, qx2 fld (y (p + L.length)) → qPx y fld 1 dep (p + L.length) x q x' → qPx y fld 0 dep p l q x') {v : Int} (hv : v ≤ 0) : qxR y fld x v L k := fun p dep hp hd hm => ⟨h p dep hp hd hm, fun z => by omega, fun z => by omega, fun z => by omega⟩
/-- a whole sum -/
theorem qxR_w {y : Int → Int} {fld : Int} {x : qTree} {v : Int} {L : List Int} {k : Int} (h : qxR y fld x v L k) {p dep : Int} (hp : 0 ≤ p) (hd : dep + k ≤ 40) (hm : qxm y p L) (l : qTree) (hc : qx0 fld (y (p + L.length))) : qPx y fld 0 dep p l (p + L.length) x := (h p dep hp hd hm).1 _ _ _ hc.1 (qPx_1e hc.2)
/-- a part, in brackets or not -/
theorem qxR_b {y : Int → Int} {fld : Int} {x : qTree} {v : Int} {L : List Int} {k : Int} (hk : 0 ≤ k) (h : qxR y fld x v L k) (b : Int) : qxR y fld x (if b = 0 then v else 5) (qxbk b L) (k + 1) := by
  unfold qxbk
  by_cases c : b = 0
  · rw [if_pos c, if_pos c]
    exact fun p dep hp hd hm => h p dep hp (by omega) hm
  · rw [if_neg c, if_neg c]
    refine qxR_5 (by omega) (fun p dep hp hd hm l hc => ?_) 5
    rw [List.append_assoc, List.singleton_append] at hm ⊢
    obtain ⟨m1, m2⟩ := hm
    obtain ⟨m3, m4⟩ := qxm_a y L [41] (p + 1) m2
    have m4 : y (p + 1 + L.length) = 41 := m4.1
    have r := qxR_w h (p := p + 1) (dep := dep + 1) (by omega) (by omega) m3 qNl (by rw [m4]; omega)
    have r2 := qPx_5b (l := l) m1 r m4
    rw [show p + (((40 : Int) :: (L ++ [41])).length : Int) = p + 1 + L.length + 1 by rw [List.length_cons, List.length_append]; simp; omega]
    exact r2
theorem qnb_v (fld rt : Int) (hrt : rt = 0 ∨ rt = 1) (o : Int) (x : qTree) (wx : qwf x) (h : qnb fld o x rt = 0) : (o = 94 → 5 - rt ≤ qxlv fld x) ∧ ((o = 46 ∨ o = 47) → 2 + 2 * rt ≤ qxlv fld x) ∧ ((o = 43 ∨ o = 45) → 2 * rt ≤ qxlv fld x) := by
  revert h
  refine q_ind (P := fun x => qnb fld o x rt = 0 → (o = 94 → 5 - rt ≤ qxlv fld x) ∧ ((o = 46 ∨ o = 47) → 2 + 2 * rt ≤ qxlv fld x) ∧ ((o = 43 ∨ o = 45) → 2 * rt ≤ qxlv fld x)) (fun z _ _ => ?_) (fun k l r hj wl wr _ _ h => ?_) x wx
  · rw [qxlv_a]
    omega
  · rw [qnb_o] at h
    rw [qxlv_o]
    have hk : qrk k = if (k : Int) = 43 ∨ (k : Int) = 45 then 0 else if (k : Int) = 94 then 2 else 1 := rfl
    have ho : qrk o = if o = 43 ∨ o = 45 then 0 else if o = 94 then 2 else 1 := rfl
    generalize qrk k = K at h hk
    generalize qrk o = O at h ho
    by_cases f : fld = 1 ∧ (k : Int) = 47
    · rw [if_pos f, if_neg (by omega), if_neg (by omega)]
      omega
    · rw [if_neg f] at h ⊢
      by_cases g : K < O ∨ K = O ∧ (rt = 1 ∧ O < 2 ∨ rt = 0 ∧ ¬ O < 2)
      · rw [if_pos g] at h
        omega
      · clear h
        by_cases k1 : (k : Int) = 43 ∨ (k : Int) = 45
        · rw [if_pos k1] at hk ⊢
          refine ⟨fun e => ?_, fun e => ?_, fun e => ?_⟩
          · rw [if_neg (by omega), if_pos e] at ho
            omega
          · rw [if_neg (by omega), if_neg (by omega)] at ho
            omega
          · rw [if_pos e] at ho
            omega
        · rw [if_neg k1] at hk ⊢
          by_cases k2 : (k : Int) = 94
          · rw [if_pos k2] at hk ⊢
            refine ⟨fun e => ?_, fun e => ?_, fun e => ?_⟩
            · rw [if_neg (by omega), if_pos e] at ho
              omega
            · clear ho g
              omega
            · clear ho g
              omega
          · rw [if_neg k2] at hk ⊢
            refine ⟨fun e => ?_, fun e => ?_, fun e => ?_⟩
            · rw [if_neg (by omega), if_pos e] at ho
              omega
            · rw [if_neg (by omega), if_neg (by omega)] at ho
              omega
            · clear ho g
              omega
theorem qx_back (y : Int → Int) (fld : Int) (hfl : fld = 0 ∨ fld = 1) : ∀ x, qwf x → qxR y fld x (qxlv fld x) (qxps fld x) (qsz x) := by
  refine q_ind (fun z hz => ?_) fun o l r hj wl wr il ir => ?_
  · rw [qxlv_a]
    refine qxR_5 (by omega) (fun p dep hp hd hm l hc => ?_) 5
    rw [qxps_a] at hm hc ⊢
    by_cases c : z < 0
    · rw [if_pos c] at hm hc ⊢
      have m1 : y p = 96 - z := hm.1
      have r := qPx_5l (fld := fld) (dep := dep) (l := l) (y := y) (p := p) (by rw [m1]; unfold qza at hz; omega)
      rw [m1, show 96 - (96 - z) = z by omega] at r
      exact r
    · rw [if_neg c] at hm hc ⊢
      obtain ⟨m1, m2⟩ := hm
      have fin : ∀ k : Nat, 1 ≤ k ∧ k ≤ 4 → (qxdl z).length = k → (∀ j : Int, 0 ≤ j → j < k → qdg (y (p + 1 + j))) → qnv y (p + 1) k = z → qPx y fld 5 dep p l (p + ((35 :: qxdl z).length : Nat)) (qAt z) := fun k hk hl hd hv => by
        rw [List.length_cons, hl, show p + ((k + 1 : Nat) : Int) = p + 1 + k by omega] at hc ⊢
        have r := qPx_5n (fld := fld) (dep := dep) (l := l) k hk m1 hd hc
        rw [hv] at r
        exact r
      have a0 : ∀ p : Int, p + ((0 : Nat) : Int) = p := fun p => by omega
      have a1 : ∀ p : Int, p + ((0 + 1 : Nat) : Int) = p + 1 := fun p => rfl
      have a2 : ∀ p : Int, p + ((0 + 1 + 1 : Nat) : Int) = p + 2 := fun p => rfl
      have a3 : ∀ p : Int, p + ((0 + 1 + 1 + 1 : Nat) : Int) = p + 3 := fun p => rfl
      unfold qza at hz
      by_cases c1 : z < 100
      · have e : qxdl z = [48 + z % 10] := if_pos c1
        rw [e] at m2
        have d0 : y (p + 1) = 48 + z % 10 := m2.1
        refine fin 1 (by decide) (by rw [e]; rfl) (fun j j1 j2 => ?_) ?_
        · have : j = 0 := by omega
          rw [this, Int.add_zero, d0]
          omega
        · simp only [qnv, a0, d0]
          omega
      · by_cases c2 : z < 1000
        · have e : qxdl z = [48 + z / 10 % 10, 48 + z % 10] := by unfold qxdl; rw [if_neg c1, if_pos c2]
          rw [e] at m2
          have d0 : y (p + 1) = 48 + z / 10 % 10 := m2.1
          have d1 : y (p + 1 + 1) = 48 + z % 10 := m2.2.1
          refine fin 2 (by decide) (by rw [e]; rfl) (fun j j1 j2 => ?_) ?_
          · have : j = 0 ∨ j = 1 := by omega
            rcases this with h | h
            · rw [h, Int.add_zero, d0]; omega
            · rw [h, d1]; omega
          · simp only [qnv, a0, a1, d0, d1]
            omega
        · by_cases c3 : z < 10000
          · have e : qxdl z = [48 + z / 100 % 10, 48 + z / 10 % 10, 48 + z % 10] := by unfold qxdl; rw [if_neg c1, if_neg c2, if_pos c3]
            rw [e] at m2
            have d0 : y (p + 1) = 48 + z / 100 % 10 := m2.1
            have d1 : y (p + 1 + 1) = 48 + z / 10 % 10 := m2.2.1
            have d2 : y (p + 1 + 2) = 48 + z % 10 := by have h := m2.2.2.1; rw [show p + 1 + 1 + 1 = p + 1 + 2 by omega] at h; exact h
            refine fin 3 (by decide) (by rw [e]; rfl) (fun j j1 j2 => ?_) ?_
            · have : j = 0 ∨ j = 1 ∨ j = 2 := by omega
              rcases this with h | h | h
              · rw [h, Int.add_zero, d0]; omega
              · rw [h, d1]; omega
              · rw [h, d2]; omega
            · simp only [qnv, a0, a1, a2, d0, d1, d2]
              omega
          · have e : qxdl z = [48 + z / 1000 % 10, 48 + z / 100 % 10, 48 + z / 10 % 10, 48 + z % 10] := by unfold qxdl; rw [if_neg c1, if_neg c2, if_neg c3]
            rw [e] at m2
            have d0 : y (p + 1) = 48 + z / 1000 % 10 := m2.1
            have d1 : y (p + 1 + 1) = 48 + z / 100 % 10 := m2.2.1
            have d2 : y (p + 1 + 2) = 48 + z / 10 % 10 := by have h := m2.2.2.1; rw [show p + 1 + 1 + 1 = p + 1 + 2 by omega] at h; exact h
            have d3 : y (p + 1 + 3) = 48 + z % 10 := by have h := m2.2.2.2.1; rw [show p + 1 + 1 + 1 + 1 = p + 1 + 3 by omega] at h; exact h
            refine fin 4 (by decide) (by rw [e]; rfl) (fun j j1 j2 => ?_) ?_
            · have : j = 0 ∨ j = 1 ∨ j = 2 ∨ j = 3 := by omega
              rcases this with h | h | h | h
              · rw [h, Int.add_zero, d0]; omega
              · rw [h, d1]; omega
              · rw [h, d2]; omega
              · rw [h, d3]; omega
            · simp only [qnv, a0, a1, a2, a3, d0, d1, d2, d3]
              omega
  · have sl := qsz_1 l wl
    have sr := qsz_1 r wr
    rw [qsz_o]
    have plv : ∀ (x : qTree) (rt v : Int), qwf x → (rt = 0 ∨ rt = 1) → v ≤ 5 → (qnb fld o x rt = 0 → v ≤ qxlv fld x) → v ≤ (if qnb fld o x rt = 0 then qxlv fld x else 5) := fun x rt v wx hrt hv h => by
      by_cases c : qnb fld o x rt = 0
      · rw [if_pos c]; exact h c
      · rw [if_neg c]; exact hv
    have bl := qxR_b (by omega) il (qnb fld o l 0)
    have br := qxR_b (by omega) ir (qnb fld o r 1)
    have vl := qnb_v fld 0 (Or.inl rfl) o l wl
    have vr := qnb_v fld 1 (Or.inr rfl) o r wr
    by_cases c1 : fld = 1 ∧ (o : Int) = 47
    · -- a fraction
      rw [qxps_o, if_pos c1]
      have ho : o = 47 := by omega
      refine qxR_5 (by omega) (fun p dep hp hd hm l0 hc => ?_) _
      rw [show [91] ++ qxps fld l ++ [47] ++ qxps fld r ++ [93] = 91 :: (qxps fld l ++ 47 :: (qxps fld r ++ [93])) by simp] at hm ⊢
      obtain ⟨m1, m2⟩ := hm
      obtain ⟨m3, m4, m5⟩ := qxm_a _ _ _ _ m2
      obtain ⟨m6, m7, -⟩ := qxm_a _ _ _ _ m5
      have r1 := qxR_w il (p := p + 1) (dep := dep + 1) (by omega) (by omega) m3 qNl (by rw [m4]; omega)
      have r2 := qxR_w ir (p := p + 1 + (qxps fld l).length + 1) (dep := dep + 1) (by omega) (by omega) m6 qNl (by rw [m7]; omega)
      have r3 := qPx_5f (l := l0) m1 r1 m4 r2 m7
      rw [show p + ((91 :: (qxps fld l ++ 47 :: (qxps fld r ++ [93]))).length : Nat) = p + 1 + (qxps fld l).length + 1 + (qxps fld r).length + 1 by
        simp only [List.length_cons, List.length_append, List.length_nil]
        omega, ho]
      exact r3
    · by_cases c2 : fld = 1 ∧ (o : Int) = 94
      · -- a power of the field code
        rw [qxps_o, if_neg c1, if_pos c2, qxlv_o, if_neg (by omega), if_pos c2.2]
        have ho : o = 94 := by omega
        have lv := plv l 0 5 wl (Or.inl rfl) (by decide) fun z => (vl z).1 c2.2
        refine qxR_4 (by omega) (fun p dep hp hd hm l0 hc => ?_) (Int.le_refl 4)
        rw [show qxbk (qnb fld o l 0) (qxps fld l) ++ [123] ++ qxps fld r ++ [125] = qxbk (qnb fld o l 0) (qxps fld l) ++ 123 :: (qxps fld r ++ [125]) by simp] at hm ⊢
        obtain ⟨m3, m4, m5⟩ := qxm_a _ _ _ _ hm
        obtain ⟨m6, m7, -⟩ := qxm_a _ _ _ _ m5
        have r1 := (bl p dep hp (by omega) m3).2.2.2 lv qNl (by rw [m4]; omega)
        have r2 := qxR_w ir (p := p + (qxbk (qnb fld o l 0) (qxps fld l)).length + 1) (dep := dep + 1) (by omega) (by omega) m6 qNl (by rw [m7]; omega)
        have r3 := qPx_4f (l := l0) (by omega) (by omega) r1 m4 r2 m7
        have eM : p + ((qxbk (qnb fld o l 0) (qxps fld l) ++ 123 :: (qxps fld r ++ [125])).length : Nat) = p + (qxbk (qnb fld o l 0) (qxps fld l)).length + 1 + (qxps fld r).length + 1 := by
          simp only [List.length_cons, List.length_append, List.length_nil]
          omega
        rw [eM]
        have eo : qOp o l r = qOp 94 l r := by rw [ho]
        rw [eo]
        exact r3
      · rw [qxps_o, if_neg c1, if_neg c2]
        have eL : qxbk (qnb fld o l 0) (qxps fld l) ++ [(o : Int)] ++ qxbk (qnb fld o r 1) (qxps fld r) = qxbk (qnb fld o l 0) (qxps fld l) ++ (o : Int) :: qxbk (qnb fld o r 1) (qxps fld r) := by simp
        have eN : ∀ p : Int, p + ((qxbk (qnb fld o l 0) (qxps fld l) ++ (o : Int) :: qxbk (qnb fld o r 1) (qxps fld r)).length : Nat) = p + (qxbk (qnb fld o l 0) (qxps fld l)).length + 1 + (qxbk (qnb fld o r 1) (qxps fld r)).length := fun p => by
          simp only [List.length_cons, List.length_append, List.length_nil]
          omega
        rw [eL]
        by_cases c3 : (o : Int) = 43 ∨ (o : Int) = 45
        · -- a sum
          rw [qxlv_o, if_pos c3]
          refine qxR_0 (fun p dep hp hd hm q x' l0 hc hq => ?_) (Int.le_refl 0)
          rw [eN] at hc hq
          obtain ⟨m3, m4, m5⟩ := qxm_a _ _ _ _ hm
          have rr := (br (p + (qxbk (qnb fld o l 0) (qxps fld l)).length + 1) dep (by omega) (by omega) m5).2.1 (plv r 1 2 wr (Or.inr rfl) (by decide) fun z => (vr z).2.2 c3) _ _ qNl hc.1 (qPx_3e hc.2)
          have r1 := (bl p dep hp (by omega) m3).1 q x' l0 (by rw [m4]; omega) (qPx_1s (by rw [m4]; exact c3) rr (by rw [m4]; exact hq))
          exact r1
        · rw [qxlv_o, if_neg c3]
          by_cases c4 : (o : Int) = 94
          · -- a power
            rw [if_pos c4]
            have f0 : fld = 0 := by omega
            have ho : o = 94 := by omega
            refine qxR_4 (by omega) (fun p dep hp hd hm l0 hc => ?_) (Int.le_refl 4)
            rw [eN] at hc ⊢
            obtain ⟨m3, m4, m5⟩ := qxm_a _ _ _ _ hm
            have r1 := (bl p dep hp (by omega) m3).2.2.2 (plv l 0 5 wl (Or.inl rfl) (by decide) fun z => (vl z).1 c4) qNl (by rw [m4]; omega)
            have r2 := (br (p + (qxbk (qnb fld o l 0) (qxps fld l)).length + 1) (dep + 1) (by omega) (by omega) m5).2.2.1 (plv r 1 4 wr (Or.inr rfl) (by decide) fun z => (vr z).1 c4) qNl hc
            have m4 := m4.trans c4
            have eo : qOp o l r = qOp 94 l r := by rw [ho]
            rw [eo]
            rw [f0] at r1 r2 m4 ⊢
            exact qPx_4p (l := l0) (by omega) r1 m4 r2
          · -- a product
            rw [if_neg c4, if_neg c1]
            have c5 : (o : Int) = 46 ∨ (o : Int) = 47 := by
              rcases hj with h | h | h | h | h
              · exact absurd (Or.inl h) c3
              · exact absurd (Or.inr h) c3
              · exact Or.inl h
              · exact Or.inr h
              · exact absurd h c4
            refine qxR_2 (by omega) (fun p dep hp hd hm q x' l0 hc hq => ?_) (Int.le_refl 2)
            rw [eN] at hc hq
            obtain ⟨m3, m4, m5⟩ := qxm_a _ _ _ _ hm
            have rr := (br (p + (qxbk (qnb fld o l 0) (qxps fld l)).length + 1) dep (by omega) (by omega) m5).2.2.1 (plv r 1 4 wr (Or.inr rfl) (by decide) fun z => (vr z).2.1 c5) qNl hc
            exact (bl p dep hp (by omega) m3).2.1 (plv l 0 2 wl (Or.inl rfl) (by decide) fun z => (vl z).2.1 c5) q x' l0 (by rw [m4]; omega) (qPx_3s (by rw [m4]; omega) rr (by rw [m4]; exact hq))
