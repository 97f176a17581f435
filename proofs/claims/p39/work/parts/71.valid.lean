/-! What has no fault is read as a tree. -/
def qza (z : Int) : Prop := (-26 ≤ z ∧ z < 0) ∨ (10 ≤ z ∧ z < 20) ∨ (100 ≤ z ∧ z < 200) ∨ (1000 ≤ z ∧ z < 2000) ∨ (10000 ≤ z ∧ z < 20000)
def qwf : qTree → Prop
  | .nest z .nil => qza z
  | .tag o (.append l r) => qjn (o : Int) ∧ qwf l ∧ qwf r
  | _ => False
theorem qwf_a (z : Int) : qwf (qAt z) = qza z := rfl
theorem qwf_o (o : Nat) (l r : qTree) : qwf (qOp o l r) = (qjn (o : Int) ∧ qwf l ∧ qwf r) := rfl
def qgz : qTree → Nat
  | .nest _ f => qgz f + 1
  | .append a b => qgz a + qgz b + 1
  | .tag _ f => qgz f + 1
  | .group f _ => qgz f + 1
  | _ => 1
theorem q_ind {P : qTree → Prop} (ha : ∀ z, qza z → P (qAt z)) (ho : ∀ (o : Nat) (l r : qTree), qjn (o : Int) → qwf l → qwf r → P l → P r → P (qOp o l r)) : ∀ x, qwf x → P x := by
  have key : ∀ (n : Nat) (x : qTree), qgz x ≤ n → qwf x → P x := by
    intro n
    induction n with
    | zero =>
      intro x h1 h2
      cases x <;> exact absurd h1 (by unfold qgz; omega)
    | succ n ih =>
      intro x h1 h2
      cases x with
      | nest z f =>
        cases f with
        | nil => exact ha z h2
        | _ => exact absurd h2 id
      | tag o f =>
        cases f with
        | append l r =>
          have h3 : qjn (o : Int) ∧ qwf l ∧ qwf r := h2
          have e : qgz (Std.Format.tag o (Std.Format.append l r)) = qgz l + qgz r + 1 + 1 := rfl
          rw [e] at h1
          exact ho o l r h3.1 h3.2.1 h3.2.2 (ih l (by omega) h3.2.1) (ih r (by omega) h3.2.2)
        | _ => exact absurd h2 id
      | _ => exact absurd h2 id
  exact fun x h => key _ x (Nat.le_refl _) h
theorem qnv_z (y : Int → Int) (p : Int) (k : Nat) (hk : 1 ≤ k ∧ k ≤ 4) (h : ∀ j : Int, 0 ≤ j → j < k → qdg (y (p + j))) : qza (qnv y p k) := by
  have h0 := h 0 (by decide) (by omega)
  unfold qza
  by_cases k1 : k = 1
  · subst k1
    simp only [qnv]
    rw [show p + ((0 : Nat) : Int) = p + 0 from rfl]
    omega
  · have h1 := h 1 (by decide) (by omega)
    by_cases k2 : k = 2
    · subst k2
      simp only [qnv]
      rw [show p + ((0 : Nat) : Int) = p + 0 from rfl, show p + ((0 + 1 : Nat) : Int) = p + 1 from rfl]
      omega
    · have h2 := h 2 (by decide) (by omega)
      by_cases k3 : k = 3
      · subst k3
        simp only [qnv]
        rw [show p + ((0 : Nat) : Int) = p + 0 from rfl, show p + ((0 + 1 : Nat) : Int) = p + 1 from rfl, show p + ((0 + 1 + 1 : Nat) : Int) = p + 2 from rfl]
        omega
      · have h3 := h 3 (by decide) (by omega)
        have k4 : k = 4 := by omega
        subst k4
        simp only [qnv]
        rw [show p + ((0 : Nat) : Int) = p + 0 from rfl, show p + ((0 + 1 : Nat) : Int) = p + 1 from rfl, show p + ((0 + 1 + 1 : Nat) : Int) = p + 2 from rfl, show p + ((0 + 1 + 1 + 1 : Nat) : Int) = p + 3 from rfl]
        omega
theorem qnv_c (y y' : Int → Int) (p : Int) : ∀ k : Nat, (∀ j : Int, 0 ≤ j → j < k → y (p + j) = y' (p + j)) → qnv y p k = qnv y' p k := by
  intro k
  induction k with
  | zero => intro _; rfl
  | succ k ih =>
    intro h
    rw [qnv, qnv, ih fun j j1 j2 => h j j1 (by omega), h k (by omega) (by omega)]
/-- read from a place at which an atom is due -/
def qRd (t : Int → Int) (n : Int) (md : Nat) (E : Int → Prop) (p o : Int) : Prop := ∀ (a g dep : Int), 0 ≤ dep → 2 * dep ≤ o + p → 0 ≤ a → qVd t n p o a g 1 → ∃ q x a' g', qPx (qsy t n) 0 md dep p qNl q x ∧ p < q ∧ q ≤ n ∧ qVd t n q o a' g' 0 ∧ a' ≤ 12 ∧ (qsz x : Int) = 2 * (a' - a) - 1 ∧ qwf x ∧ (q < n → E (t q))
/-- read on from a place at which something has been read -/
def qRo (t : Int → Int) (n : Int) (md : Nat) (E0 E : Int → Prop) (p o : Int) : Prop := ∀ (a g dep : Int) (l : qTree), 0 ≤ dep → 2 * dep ≤ o + p → 0 ≤ a → a ≤ 12 → qwf l → (p < n → E0 (t p)) → qVd t n p o a g 0 → ∃ q x a' g', qPx (qsy t n) 0 md dep p l q x ∧ p ≤ q ∧ q ≤ n ∧ qVd t n q o a' g' 0 ∧ a ≤ a' ∧ a' ≤ 12 ∧ (qsz x : Int) = qsz l + 2 * (a' - a) ∧ qwf x ∧ (q < n → E (t q))
abbrev qE5 (c : Int) : Prop := ¬ qdg c
abbrev qE4 (c : Int) : Prop := ¬ qdg c ∧ c ≠ 94
abbrev qE2 (c : Int) : Prop := ¬ qdg c ∧ c ≠ 94 ∧ c ≠ 46 ∧ c ≠ 47
abbrev qE0 (c : Int) : Prop := ¬ qdg c ∧ c ≠ 94 ∧ c ≠ 46 ∧ c ≠ 47 ∧ c ≠ 43 ∧ c ≠ 45
theorem qVd_s {t : Int → Int} {n p o a g due : Int} (hp : 0 ≤ p ∧ p < n) : qVd t n p o a g due = (qfo t n ((n - p - 1).toNat + 1) p o a g due = -1) := by
  unfold qVd
  rw [show (n - p).toNat = (n - p - 1).toNat + 1 by omega]
theorem qVd_n {t : Int → Int} {n p o a g due : Int} (hp : 0 ≤ p ∧ p < n) : (n - (p + 1)).toNat = (n - p - 1).toNat := by omega
theorem qVd_j {t : Int → Int} {n p o a g : Int} (hp : 0 ≤ p ∧ p < n) (h : qjn (t p)) (hv : qVd t n p o a g 0) : qVd t n (p + 1) o a g 1 := by
  rw [qVd_s hp, qfo_B3 h] at hv
  unfold qVd
  rw [show (n - (p + 1)).toNat = (n - p - 1).toNat by omega]
  exact hv
theorem q_valid (t : Int → Int) (n : Int) (hn : 0 ≤ n ∧ n ≤ 60) : ∀ (F : Nat) (p o : Int), 0 ≤ p → p ≤ n → 0 ≤ o → n - p ≤ F → qRd t n 5 qE5 p o ∧ qRd t n 4 qE4 p o ∧ qRd t n 2 qE2 p o ∧ qRd t n 0 qE0 p o ∧ qRo t n 3 qE4 qE2 p o ∧ qRo t n 1 qE2 qE0 p o := by
  intro F
  induction F with
  | zero =>
    intro p o h1 h2 h3 h4
    have hp : p = n := by omega
    subst hp
    have bad : ∀ a g, ¬ qVd t p p o a g 1 := fun a g z => by
      have := qVd_o z ⟨h1, h2⟩ (Or.inr rfl)
      omega
    have hy : qsy t p p = 32 := qsy_n (by omega)
    refine ⟨fun a g _ _ _ _ z => absurd z (bad _ _), fun a g _ _ _ _ z => absurd z (bad _ _), fun a g _ _ _ _ z => absurd z (bad _ _), fun a g _ _ _ _ z => absurd z (bad _ _), fun a g dep l hd hd2 ha ha2 hw he hv => ?_, fun a g dep l hd hd2 ha ha2 hw he hv => ?_⟩
    · exact ⟨p, l, a, g, qPx_3e (by rw [hy]; omega), by omega, by omega, hv, by omega, ha2, by omega, hw, fun q => by omega⟩
    · exact ⟨p, l, a, g, qPx_1e (by rw [hy]; omega), by omega, by omega, hv, by omega, ha2, by omega, hw, fun q => by omega⟩
  | succ F ih =>
    intro p o h1 h2 h3 h4
    by_cases hp : p = n
    · subst hp
      have bad : ∀ a g, ¬ qVd t p p o a g 1 := fun a g z => by
        have := qVd_o z ⟨h1, h2⟩ (Or.inr rfl)
        omega
      have hy : qsy t p p = 32 := qsy_n (by omega)
      refine ⟨fun a g _ _ _ _ z => absurd z (bad _ _), fun a g _ _ _ _ z => absurd z (bad _ _), fun a g _ _ _ _ z => absurd z (bad _ _), fun a g _ _ _ _ z => absurd z (bad _ _), fun a g dep l hd hd2 ha ha2 hw he hv => ?_, fun a g dep l hd hd2 ha ha2 hw he hv => ?_⟩
      · exact ⟨p, l, a, g, qPx_3e (by rw [hy]; omega), by omega, by omega, hv, by omega, ha2, by omega, hw, fun q => by omega⟩
      · exact ⟨p, l, a, g, qPx_1e (by rw [hy]; omega), by omega, by omega, hv, by omega, ha2, by omega, hw, fun q => by omega⟩
    · have hpn : 0 ≤ p ∧ p < n := by omega
      have hy : qsy t n p = t p := qsy_i hpn
      have dep40 : ∀ {a g dep : Int}, 2 * dep ≤ o + p → qVd t n p o a g 1 → dep ≤ 40 := fun hd z => by
        have := qVd_o z ⟨h1, h2⟩ (Or.inr rfl)
        omega
      -- an atom
      have R5 : qRd t n 5 qE5 p o := by
        intro a g dep hd hd2 ha hv
        have hv0 := hv
        rw [qVd_s hpn] at hv
        by_cases c1 : t p = 40
        · rw [qfo_A1 c1] at hv
          have hv1 : qVd t n (p + 1) (o + 1) a g 1 := by
            unfold qVd
            rw [show (n - (p + 1)).toNat = (n - p - 1).toNat by omega]
            exact hv
          obtain ⟨q, x, a', g', r1, r2, r3, r4, r5, r6, r7, r8⟩ := (ih (p + 1) (o + 1) (by omega) (by omega) (by omega) (by omega)).2.2.2.1 a g (dep + 1) (by omega) (by omega) ha hv1
          have hqn : q < n := by
            have := qVd_o r4 ⟨by omega, r3⟩ (Or.inl rfl)
            omega
          have r8 := r8 hqn
          have hq0 : 0 ≤ q ∧ q < n := by omega
          have hc : t q = 41 := by
            by_cases c : t q = 41
            · exact c
            · rw [qVd_s hq0, qfo_B4 (fun z => r8.1 z.1) (fun z => c z.1) (by omega)] at r4
              omega
          have r4' : qVd t n (q + 1) o a' 0 0 := by
            rw [qVd_s hq0, qfo_B2 hc (by omega), show o + 1 - 1 = o by omega] at r4
            unfold qVd
            rw [show (n - (q + 1)).toNat = (n - q - 1).toNat by omega]
            exact r4
          refine ⟨q + 1, x, a', 0, qPx_5b (by rw [hy]; exact c1) r1 (by rw [qsy_i hq0]; exact hc), by omega, by omega, r4', r5, r6, r7, fun z1 z2 => ?_⟩
          rw [qVd_s ⟨by omega, z1⟩, qfo_B4 (by omega) (by omega) (by omega)] at r4'
          omega
        · by_cases c2 : qdg (t p) ∧ a < 12
          · rw [qfo_A2 c2.1 c2.2] at hv
            have hv1 : qVd t n (p + ((1 : Nat) : Int)) o (a + 1) ((1 : Nat) : Int) 0 := by
              unfold qVd
              rw [show (n - (p + ((1 : Nat) : Int))).toNat = (n - p - 1).toNat by omega]
              exact hv
            obtain ⟨k, k1, k2, k3, k4, k5, k6⟩ := q_digits t n o (a + 1) p h1 3 1 (by omega) (by omega) (by omega) (by omega) (fun j j1 j2 => by rw [show j = 0 by omega, Int.add_zero]; exact c2.1) hv1
            have hyk : ∀ j : Int, 0 ≤ j → j < k → qsy t n (p + j) = t (p + j) := fun j j1 j2 => qsy_i (by omega)
            refine ⟨p + k, qAt (qnv (qsy t n) p k), a + 1, k, qPx_5d k ⟨k1, k2⟩ (fun j j1 j2 => by rw [hyk j j1 j2]; exact k4 j j1 j2) ?_, by omega, k3, k5, by omega, by rw [qsz_a]; omega, by rw [qwf_a]; exact qnv_z _ _ _ ⟨k1, k2⟩ (fun j j1 j2 => by rw [hyk j j1 j2]; exact k4 j j1 j2), k6⟩
            by_cases c : p + k < n
            · rw [qsy_i ⟨by omega, c⟩]; exact k6 c
            · rw [qsy_n (by omega)]; decide
          · by_cases c3 : qsm (t p) ∧ a < 12
            · rw [qfo_A3 c3.1 c3.2] at hv
              have hv1 : qVd t n (p + 1) o (a + 1) 0 0 := by
                unfold qVd
                rw [show (n - (p + 1)).toNat = (n - p - 1).toNat by omega]
                exact hv
              refine ⟨p + 1, qAt (96 - qsy t n p), a + 1, 0, qPx_5l (by rw [hy]; exact c3.1), by omega, by omega, hv1, by omega, by rw [qsz_a]; omega, by rw [qwf_a, hy]; unfold qza; omega, fun z1 z2 => ?_⟩
              rw [qVd_s ⟨by omega, z1⟩, qfo_B4 (by omega) (by omega) (by omega)] at hv1
              omega
            · rw [qfo_A4 c1 (fun z => by
                rcases z.1 with q | q
                · exact c2 ⟨q, z.2⟩
                · exact c3 ⟨q, z.2⟩)] at hv
              omega
      -- a power
      have R4 : qRd t n 4 qE4 p o := by
        intro a g dep hd hd2 ha hv
        have hd40 := dep40 hd2 hv
        obtain ⟨q, x, a', g', r1, r2, r3, r4, r5, r6, r7, r8⟩ := R5 a g dep hd hd2 ha hv
        by_cases c : q < n ∧ t q = 94
        · have hq0 : 0 ≤ q ∧ q < n := by omega
          obtain ⟨q2, x2, a2, g2, u1, u2, u3, u4, u5, u6, u7, u8⟩ := (ih (q + 1) o (by omega) (by omega) h3 (by omega)).2.1 a' g' (dep + 1) (by omega) (by omega) (by omega) (qVd_j hq0 (by omega) r4)
          exact ⟨q2, qOp 94 x x2, a2, g2, qPx_4p hd40 r1 (by rw [qsy_i hq0]; exact c.2) u1, by omega, u3, u4, u5, by rw [qsz_o]; omega, by rw [qwf_o]; exact ⟨by decide, r7, u7⟩, u8⟩
        · refine ⟨q, x, a', g', qPx_4e hd40 r1 (fun z => ?_) (fun z => z.1 rfl), r2, r3, r4, r5, r6, r7, fun z => ⟨r8 z, fun w => c ⟨z, w⟩⟩⟩
          by_cases cq : q < n
          · rw [qsy_i ⟨by omega, cq⟩] at z
            exact c ⟨cq, z.2⟩
          · rw [qsy_n (by omega)] at z
            exact absurd z.2 (by decide)
      -- a product goes on
      have R3 : qRo t n 3 qE4 qE2 p o := by
        intro a g dep l hd hd2 ha ha2 hw he hv
        have he := he hpn.2
        by_cases c : t p = 46 ∨ t p = 47
        · obtain ⟨q, x, a', g', r1, r2, r3, r4, r5, r6, r7, r8⟩ := (ih (p + 1) o (by omega) (by omega) h3 (by omega)).2.1 a g dep hd (by omega) ha (qVd_j hpn (by omega) hv)
          have hl : qwf (qOp (qsy t n p).toNat l x) := by
            rw [qwf_o, hy]
            exact ⟨by omega, hw, r7⟩
          obtain ⟨q2, x2, a2, g2, u1, u2, u3, u4, u5, u6, u7, u8, u9⟩ := (ih q o (by omega) (by omega) h3 (by omega)).2.2.2.2.1 a' g' dep _ hd (by omega) (by omega) r5 hl r8 r4
          rw [qsz_o] at u7
          exact ⟨q2, x2, a2, g2, qPx_3s (by rw [hy]; omega) r1 u1, by omega, u3, u4, by omega, u6, by omega, u8, u9⟩
        · exact ⟨p, l, a, g, qPx_3e (by rw [hy]; omega), by omega, by omega, hv, by omega, ha2, by omega, hw, fun _ => ⟨he.1, he.2, fun z => c (Or.inl z), fun z => c (Or.inr z)⟩⟩
      -- a product
      have R2 : qRd t n 2 qE2 p o := by
        intro a g dep hd hd2 ha hv
        obtain ⟨q, x, a', g', r1, r2, r3, r4, r5, r6, r7, r8⟩ := R4 a g dep hd hd2 ha hv
        obtain ⟨q2, x2, a2, g2, u1, u2, u3, u4, u5, u6, u7, u8, u9⟩ := (ih q o (by omega) (by omega) h3 (by omega)).2.2.2.2.1 a' g' dep x hd (by omega) (by omega) r5 r7 r8 r4
        exact ⟨q2, x2, a2, g2, qPx_20 r1 u1, by omega, u3, u4, u6, by omega, u8, u9⟩
      -- a sum goes on
      have R1 : qRo t n 1 qE2 qE0 p o := by
        intro a g dep l hd hd2 ha ha2 hw he hv
        have he := he hpn.2
        by_cases c : t p = 43 ∨ t p = 45
        · obtain ⟨q, x, a', g', r1, r2, r3, r4, r5, r6, r7, r8⟩ := (ih (p + 1) o (by omega) (by omega) h3 (by omega)).2.2.1 a g dep hd (by omega) ha (qVd_j hpn (by omega) hv)
          have hl : qwf (qOp (qsy t n p).toNat l x) := by
            rw [qwf_o, hy]
            exact ⟨by omega, hw, r7⟩
          obtain ⟨q2, x2, a2, g2, u1, u2, u3, u4, u5, u6, u7, u8, u9⟩ := (ih q o (by omega) (by omega) h3 (by omega)).2.2.2.2.2 a' g' dep _ hd (by omega) (by omega) r5 hl r8 r4
          rw [qsz_o] at u7
          exact ⟨q2, x2, a2, g2, qPx_1s (by rw [hy]; omega) r1 u1, by omega, u3, u4, by omega, u6, by omega, u8, u9⟩
        · exact ⟨p, l, a, g, qPx_1e (by rw [hy]; omega), by omega, by omega, hv, by omega, ha2, by omega, hw, fun _ => ⟨he.1, he.2.1, he.2.2.1, he.2.2.2, fun z => c (Or.inl z), fun z => c (Or.inr z)⟩⟩
      refine ⟨R5, R4, R2, ?_, R3, R1⟩
      intro a g dep hd hd2 ha hv
      have hd40 := dep40 hd2 hv
      obtain ⟨q, x, a', g', r1, r2, r3, r4, r5, r6, r7, r8⟩ := R2 a g dep hd hd2 ha hv
      obtain ⟨q2, x2, a2, g2, u1, u2, u3, u4, u5, u6, u7, u8, u9⟩ := (ih q o (by omega) (by omega) h3 (by omega)).2.2.2.2.2 a' g' dep x hd (by omega) (by omega) r5 r7 r8 r4
      exact ⟨q2, x2, a2, g2, qPx_0 hd40 r1 u1, by omega, u3, u4, u6, by omega, u8, u9⟩
/-- a tape without fault is a formula -/
theorem q_formula (t : Int → Int) (n : Int) (hn : 0 ≤ n ∧ n ≤ 60) (h : qff1 t n = -1) : ∃ x, qPx (qsy t n) 0 0 0 0 qNl n x ∧ qwf x ∧ qsz x ≤ 23 := by
  have hv : qVd t n 0 0 0 0 1 := by
    unfold qVd
    rw [Int.sub_zero]
    exact h
  obtain ⟨q, x, a', g', r1, r2, r3, r4, r5, r6, r7, r8⟩ := (q_valid t n hn n.toNat 0 0 (Int.le_refl 0) hn.1 (Int.le_refl 0) (by omega)).2.2.2.1 0 0 0 (Int.le_refl 0) (by decide) (Int.le_refl 0) hv
  have hq : q = n := by
    by_cases c : q < n
    · have r8 := r8 c
      rw [qVd_s ⟨by omega, c⟩, qfo_B4 (fun z => r8.1 z.1) (by omega) (by omega)] at r4
      omega
    · omega
  subst hq
  exact ⟨x, r1, r7, by omega⟩
