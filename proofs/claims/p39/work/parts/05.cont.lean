/-! Inversion of the interpreter's pieces; a step's continuation is used at one place; a run never takes away. -/
theorem zchk_inv {c : Prop} [Decidable c] {x : zR} {r : zO × zS} (h : zchk c x = some r) : c ∧ x = some r := by
  unfold zchk at h
  by_cases hc : c
  · rw [if_pos hc] at h; exact ⟨hc, h⟩
  · rw [if_neg hc] at h; cases h
theorem zchk_pos {c : Prop} [Decidable c] {x : zR} (h : c) : zchk c x = x := if_pos h
theorem zld_inv {i : Nat} {ls st : List zV} {S : zS} {k : List zV → zR} {r : zO × zS} (h : zldi i ls st S k = some r) : ∃ v : Int, ls[i]? = some (vi v) ∧ k (vi v :: st) = some r := by
  unfold zldi at h
  split at h
  · exact ⟨_, by assumption, h⟩
  · cases h
theorem zldl_inv {i : Nat} {ls st : List zV} {S : zS} {k : List zV → zR} {r : zO × zS} (h : zldl i ls st S k = some r) : ∃ v : Int, ls[i]? = some (vl v) ∧ k (vl v :: st) = some r := by
  unfold zldl at h
  split at h
  · exact ⟨_, by assumption, h⟩
  · cases h
theorem zlda_inv {i : Nat} {ls st : List zV} {S : zS} {k : List zV → zR} {r : zO × zS} (h : zlda i ls st S k = some r) : ∃ v : Int, ls[i]? = some (vr v) ∧ k (vr v :: st) = some r := by
  unfold zlda at h
  split at h
  · exact ⟨_, by assumption, h⟩
  · cases h
theorem zii_inv {st : List zV} {f : Int → Int → Int} {k : List zV → zR} {r : zO × zS} (h : zii st f k = some r) : ∃ (a b : Int) (t : List zV), st = vi b :: vi a :: t ∧ k (vi (f a b) :: t) = some r := by
  unfold zii at h
  split at h
  · exact ⟨_, _, _, rfl, h⟩
  · cases h
theorem zll_inv {st : List zV} {f : Int → Int → Int} {k : List zV → zR} {r : zO × zS} (h : zll st f k = some r) : ∃ (a b : Int) (t : List zV), st = vl b :: vl a :: t ∧ k (vl (f a b) :: t) = some r := by
  unfold zll at h
  split at h
  · exact ⟨_, _, _, rfl, h⟩
  · cases h
theorem zli_inv {st : List zV} {f : Int → Int → Int} {k : List zV → zR} {r : zO × zS} (h : zli st f k = some r) : ∃ (a b : Int) (t : List zV), st = vi b :: vl a :: t ∧ k (vl (f a b) :: t) = some r := by
  unfold zli at h
  split at h
  · exact ⟨_, _, _, rfl, h⟩
  · cases h
theorem zone_inv {st : List zV} {f : Int → zV} {k : List zV → zR} {r : zO × zS} (h : zone st f k = some r) : ∃ (a : Int) (t : List zV), st = vi a :: t ∧ k (f a :: t) = some r := by
  unfold zone at h
  split at h
  · exact ⟨_, _, rfl, h⟩
  · cases h
theorem zoneL_inv {st : List zV} {f : Int → zV} {k : List zV → zR} {r : zO × zS} (h : zoneL st f k = some r) : ∃ (a : Int) (t : List zV), st = vl a :: t ∧ k (f a :: t) = some r := by
  unfold zoneL at h
  split at h
  · exact ⟨_, _, rfl, h⟩
  · cases h
theorem zsti_inv {i : Nat} {ls st : List zV} {k : List zV → List zV → zR} {r : zO × zS} (h : zsti i ls st k = some r) : ∃ (v : Int) (t : List zV), st = vi v :: t ∧ k (zst1 i (vi v) ls) t = some r := by
  unfold zsti at h
  split at h
  · exact ⟨_, _, rfl, h⟩
  · cases h
theorem zstl_inv {i : Nat} {ls st : List zV} {k : List zV → List zV → zR} {r : zO × zS} (h : zstl i ls st k = some r) : ∃ (v : Int) (t : List zV), st = vl v :: t ∧ k (zst2 i (vl v) ls) t = some r := by
  unfold zstl at h
  split at h
  · exact ⟨_, _, rfl, h⟩
  · cases h
theorem zsta_inv {i : Nat} {ls st : List zV} {k : List zV → List zV → zR} {r : zO × zS} (h : zsta i ls st k = some r) : ∃ (v : Int ⊕ Unit) (t : List zV), st = .inr (.inr v) :: t ∧ k (zst1 i (.inr (.inr v)) ls) t = some r := by
  unfold zsta at h
  split at h
  · exact ⟨_, _, rfl, h⟩
  · cases h
theorem zald_inv {t u g : Nat} {st : List zV} {S : zS} {k : List zV → zR} {r : zO × zS} (h : zald t u g st S k = some r) : ∃ (j a : Int) (rr : List zV), st = vi j :: vr a :: rr ∧ ((zk S a).1 = t ∨ (zk S a).1 = u) ∧ 0 ≤ j ∧ j < (zk S a).2 ∧ k (ztag g (zm S a j) :: rr) = some r := by
  unfold zald at h
  split at h
  · obtain ⟨⟨h1, h2, h3⟩, h4⟩ := zchk_inv h
    exact ⟨_, _, _, rfl, h1, h2, h3, h4⟩
  · cases h
theorem zcall_inv {x : zR} {f : Option zV → zS → zR} {g : Nat → zS → zR} {r : zO × zS} (h : zcall x f g = some r) : (∃ v S, x = some (.inl v, S) ∧ f v S = some r) ∨ (∃ e S, x = some (.inr e, S) ∧ g e S = some r) := by
  unfold zcall at h
  split at h
  · cases h
  · exact Or.inl ⟨_, _, rfl, h⟩
  · exact Or.inr ⟨_, _, rfl, h⟩
theorem zretn_inv {x : zR} {f : Option zV → zS → zR} {r : zO × zS} (h : zretn f x = some r) : ∃ v S, x = some (.inl v, S) ∧ f v S = some r := by
  unfold zretn at h
  split at h
  · exact ⟨_, _, rfl, h⟩
  · cases h
theorem zvoid_inv {v : Option zV} {x : zR} {r : zO × zS} (h : zvoid v x = some r) : v = none ∧ x = some r := by
  cases v with
  | none => exact ⟨rfl, h⟩
  | some w => cases h
theorem zthr_inv {hs : List (Nat × Nat × Nat × Nat)} {pc : Nat} {ls : List zV} {k : zC} {e : Nat} {S : zS} {r : zO × zS} (h : zthr hs pc ls k e S = some r) : (hs = [] ∧ r = (.inr e, S)) ∨ (∃ hh, zcatch hs pc e = some hh ∧ k hh ls [vu] S = some r) := by
  unfold zthr at h
  split at h
  · exact Or.inl ⟨rfl, (Option.some.inj h).symm⟩
  · split at h
    · cases h
    · exact Or.inr ⟨_, by assumption, h⟩
theorem zrng_inv {t : Nat} {z : Int} {x : zR} {r : zO × zS} (h : zrng t z x = some r) : x = some r ∧ (t = 2 → 0 ≤ z ∧ z < 65536) ∧ (t = 3 → -128 ≤ z ∧ z < 128) ∧ (t = 4 → 0 ≤ z ∧ z ≤ 1) := by
  unfold zrng at h
  split at h
  · obtain ⟨h1, h2⟩ := zchk_inv h
    exact ⟨h2, fun _ => h1, fun q => by omega, fun q => by omega⟩
  · obtain ⟨h1, h2⟩ := zchk_inv h
    exact ⟨h2, fun q => by omega, fun _ => h1, fun q => by omega⟩
  · obtain ⟨h1, h2⟩ := zchk_inv h
    exact ⟨h2, fun q => by omega, fun q => by omega, fun _ => h1⟩
  · exact ⟨h, fun q => absurd q (by assumption), fun q => absurd q (by assumption), fun q => absurd q (by assumption)⟩
theorem bif_inv {c : Bool} {x : zR} {r : zO × zS} (h : (bif c then x else none) = some r) : c = true ∧ x = some r := by
  cases c
  · cases h
  · exact ⟨rfl, h⟩
theorem zmm_inv {st : List zV} {f : Int → Int → Int} {k : List zV → zR} {r : zO × zS} (h : zmm st f k = some r) : ∃ (a b : Int) (t : List zV), st = vi b :: vi a :: t ∧ zcat t ≤ 8 ∧ k (vi (f a b) :: t) = some r := by
  unfold zmm at h
  split at h
  · obtain ⟨hc, h⟩ := bif_inv h
    exact ⟨_, _, _, rfl, Nat.le_of_ble_eq_true hc, h⟩
  · cases h
theorem zml_inv {st : List zV} {f : Int → Int → Int} {k : List zV → zR} {r : zO × zS} (h : zml st f k = some r) : ∃ (a b : Int) (t : List zV), st = vl b :: vl a :: t ∧ zcat t ≤ 8 ∧ k (vl (f a b) :: t) = some r := by
  unfold zml at h
  split at h
  · obtain ⟨hc, h⟩ := bif_inv h
    exact ⟨_, _, _, rfl, Nat.le_of_ble_eq_true hc, h⟩
  · cases h
/-- the value z that a putfield of type g stores for v -/
def zpv (g : Nat) (v : zV) (z : Int) : Prop := (v = vi z ∧ (g = 0 ∨ (g = 2 ∧ 0 ≤ z ∧ z < 65536) ∨ (g = 3 ∧ -128 ≤ z ∧ z < 128) ∨ (g = 4 ∧ 0 ≤ z ∧ z ≤ 1))) ∨ (v = vl z ∧ g = 1) ∨ (v = vr z ∧ g = 5)
theorem zputf_inv {g : Nat} {v : zV} {f : Int → zR} {r : zO × zS} (h : zputf g v f = some r) : ∃ z, zpv g v z ∧ f z = some r := by
  unfold zputf at h
  split at h
  · split at h
    · exact ⟨_, Or.inl ⟨rfl, Or.inl rfl⟩, h⟩
    · obtain ⟨h1, h2⟩ := zchk_inv h
      exact ⟨_, Or.inl ⟨rfl, Or.inr (Or.inl ⟨rfl, h1⟩)⟩, h2⟩
    · obtain ⟨h1, h2⟩ := zchk_inv h
      exact ⟨_, Or.inl ⟨rfl, Or.inr (Or.inr (Or.inl ⟨rfl, h1⟩))⟩, h2⟩
    · obtain ⟨h1, h2⟩ := zchk_inv h
      exact ⟨_, Or.inl ⟨rfl, Or.inr (Or.inr (Or.inr ⟨rfl, h1⟩))⟩, h2⟩
    · cases h
  · split at h
    · exact ⟨_, Or.inr (Or.inl ⟨rfl, rfl⟩), h⟩
    · cases h
  · split at h
    · exact ⟨_, Or.inr (Or.inr ⟨rfl, rfl⟩), h⟩
    · cases h
  · cases h
theorem zputf_of {g : Nat} {v : zV} {z : Int} {f : Int → zR} (h : zpv g v z) : zputf g v f = f z := by
  rcases h with ⟨rfl, rfl | ⟨rfl, h⟩ | ⟨rfl, h⟩ | ⟨rfl, h⟩⟩ | ⟨rfl, rfl⟩ | ⟨rfl, rfl⟩
  · rfl
  · exact zchk_pos h
  · exact zchk_pos h
  · exact zchk_pos h
  · rfl
  · rfl
/-- nothing is taken away, no kind changes -/
def zmono (S S1 : zS) : Prop := zn S ≤ zn S1 ∧ zc S ≤ zc S1 ∧ zw S ≤ zw S1 ∧ ∀ a : Int, a < zn S → zk S1 a = zk S a
theorem zmono.rf (S : zS) : zmono S S := ⟨Nat.le_refl _, Nat.le_refl _, Nat.le_refl _, fun _ _ => rfl⟩
theorem zmono.tr {A B C : zS} (h : zmono A B) (g : zmono B C) : zmono A C :=
  ⟨Nat.le_trans h.1 g.1, Nat.le_trans h.2.1 g.2.1, Nat.le_trans h.2.2.1 g.2.2.1, fun a ha => (g.2.2.2 a (by have := h.1; omega)).trans (h.2.2.2 a ha)⟩
theorem zmono_put (S : zS) (a j v : Int) : zmono S (zput S a j v) := ⟨Nat.le_refl _, Nat.le_refl _, Nat.le_refl _, fun _ _ => rfl⟩
theorem zmono_bump (S : zS) : zmono S (zbump S) := ⟨Nat.le_refl _, Nat.le_add_right _ _, Nat.le_add_right _ _, fun _ _ => rfl⟩
theorem zmono_alloc (S : zS) (t : Nat) (len : Int) (w : Nat) : zmono S (zalloc S t len w) :=
  ⟨Nat.le_add_right _ _, Nat.le_add_right _ _, Nat.le_add_right _ _, fun a h => if_neg (fun e => by unfold zn at h; omega)⟩
theorem zmono_multi (S : zS) (t u n k : Nat) : zmono S (zmulti S t u n k) := by
  refine ⟨?_, ?_, ?_, fun a h => ?_⟩
  · show S.1.1 ≤ S.1.1 + 1 + n; omega
  · show S.1.2.1 ≤ S.1.2.1 + 1 + n; omega
  · show S.1.2.2 ≤ S.1.2.2 + n + n * k; omega
  · unfold zn at h
    show (if a = (S.1.1 : Int) then _ else if (S.1.1 : Int) < a ∧ a ≤ (S.1.1 : Int) + n then _ else S.2.1 a) = S.2.1 a
    rw [if_neg (by omega), if_neg (by omega)]
def zgood (K : Nat → List zV → zS → zR) : Prop := ∀ y as S o S1, K y as S = some (o, S1) → zmono S S1
/-- the step's result comes from itself, or from its continuation at one place -/
def zat (S : zS) (k : zC) (r : zO × zS) (F : zC → zR) : Prop := (zmono S r.2 ∧ ∀ k', F k' = some r) ∨ ∃ p l t S1, zmono S S1 ∧ k p l t S1 = some r ∧ ∀ k', k' p l t S1 = some r → F k' = some r
theorem zat.k {S S1 : zS} {k : zC} {r : zO × zS} {F : zC → zR} (p : Nat) (l t : List zV) (hm : zmono S S1) (h : k p l t S1 = some r) (hF : ∀ k', k' p l t S1 = some r → F k' = some r) : zat S k r F := Or.inr ⟨p, l, t, S1, hm, h, hF⟩
theorem zif_at {S S1 : zS} {c : Jvm.ClassFile.Cond} {a b : Int} {p q : Nat} {l t : List zV} {k : zC} {r : zO × zS} (hm : zmono S S1) (h : zif c a b (k p l t S1) (k q l t S1) = some r) : zat S k r (fun k => zif c a b (k p l t S1) (k q l t S1)) := by
  unfold zif at h
  cases c <;> simp only at h <;> split at h <;> rename_i hc <;>
    exact Or.inr ⟨_, _, _, _, hm, h, fun k' h' => by simp only [zif, hc, if_true, if_false]; exact h'⟩
theorem zthr_at {S S1 : zS} {hs : List (Nat × Nat × Nat × Nat)} {pc : Nat} {ls : List zV} {k : zC} {e : Nat} {r : zO × zS} (hm : zmono S S1) (h : zthr hs pc ls k e S1 = some r) : zat S k r (fun k => zthr hs pc ls k e S1) := by
  rcases zthr_inv h with ⟨rfl, rfl⟩ | ⟨hh, h1, h2⟩
  · exact Or.inl ⟨hm, fun k' => rfl⟩
  · cases hs with
    | nil => cases h1
    | cons q qs => exact Or.inr ⟨_, _, _, _, hm, h2, fun k' h' => by simp only [zthr, h1]; exact h'⟩
