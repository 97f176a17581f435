/-! The memory and the machine's heap: what the one says of the other. -/
def zcl : List vw_C := [(RX0, TX0, 18), (RX1, TX1, 7), (RX2, TX2, 4), (RX3, TX3, 6), (RX4, TX4, 9), (RX5, TX5, 4), (RX6, TX6, 12), (RX7, TX7, 4), (RX8, TX8, 6), (RX9, TX9, 2), (RX10, TX10, 3), (RX11, TX11, 6), (RX12, TX12, 18)]
def zcode (t : FieldType) : Nat := match t with
  | .int => 0
  | .long => 1
  | .char => 2
  | .byte => 3
  | .boolean => 4
  | .object _ => 5
  | .array _ => 5
  | _ => 9
def zfT (ci : Nat) : Nat → FieldType := match ci with
  | 0 => tyX0
  | 1 => tyX1
  | 2 => tyX2
  | 3 => tyX3
  | 4 => tyX4
  | 5 => tyX5
  | 6 => tyX6
  | 7 => tyX7
  | 8 => tyX8
  | 9 => tyX9
  | 10 => tyX10
  | 11 => tyX11
  | 12 => tyX12
  | _ => tyX13
def zN (ci : Nat) : Nat := match ci with
  | 0 => 18
  | 1 => 7
  | 2 => 4
  | 3 => 6
  | 4 => 9
  | 5 => 4
  | 6 => 12
  | 7 => 4
  | 8 => 6
  | 9 => 2
  | 10 => 3
  | 11 => 6
  | 12 => 18
  | _ => 95
/-- what an array of kind t holds -/
def zaT (t : Nat) : FieldType := match t with
  | 0 => .int
  | 1 => .long
  | 2 => .char
  | 3 => .byte
  | 4 => .boolean
  | 5 => .object RX2
  | 6 => .object RX5
  | 7 => .object RX0
  | 8 => .array .int
  | 9 => .object RX4
  | 10 => .object RX7
  | 11 => .object RX1
  | _ => .object RX3
def zst (t : Nat) (j : Int) : Nat := if t < 5 then t else if t < 20 then 5 else if t < 33 then zcode (zfT (t - 20) j.toNat) else if t = 40 then 0 else 9
def zad (A : Int → Nat) (z : Int) : Option Nat := if z = 0 then none else some (A z)
def ztv (A : Int → Nat) (t : Nat) (z : Int) : Value := match t with
  | 1 => .long (Int64.ofInt z)
  | 5 => va_rf (zad A z)
  | _ => .int (Int32.ofInt z)
def zent (DA : Nat → ClassId) (A : Int → Nat) (S : zS) (a : Int) : va_E :=
  if (zk S a).1 = 1 then .inl (DA 1, (zk S a).2.toNat, .inr (.inl fun j => Int64.ofInt (zm S a j)))
  else if (zk S a).1 < 5 then .inl (DA (zk S a).1, (zk S a).2.toNat, .inl fun j => Int32.ofInt (zm S a j))
  else if (zk S a).1 < 20 then .inl (DA (zk S a).1, (zk S a).2.toNat, .inr (.inr (.inr (.inr fun j => zad A (zm S a j)))))
  else .inr ((zk S a).1 - 20, (List.range (zN ((zk S a).1 - 20))).map fun j => ztv A (zcode (zfT ((zk S a).1 - 20) j)) (zm S a j))
def zws (DA : Nat → ClassId) (A : Int → Nat) (S : zS) : va_W := (List.range (zn S - 3)).map fun i => (A ((i + 3 : Nat) : Int), zent DA A S ((i + 3 : Nat) : Int))
def ztys (DA : Nat → ClassId) : List (ClassId × FieldType) := (List.range 13).map fun t => (DA t, zaT t)
/-- the memory alone: what is in use, kinds, what each place may hold -/
def zok (L : Nat) (S : zS) : Prop := 3 ≤ zn S ∧ (∀ a : Int, a ≤ 0 ∨ (zn S : Int) ≤ a → (zk S a).1 = 99) ∧ zk S 1 = (40, (L : Int)) ∧ zk S 2 = (40, 26) ∧
  (∀ a : Int, 3 ≤ a → a < zn S → (zk S a).1 < 13 ∨ (20 ≤ (zk S a).1 ∧ (zk S a).1 < 33)) ∧ (∀ a j : Int, zfit (zn S) (zst (zk S a).1 j) (zm S a j)) ∧ ∀ a : Int, 0 ≤ (zk S a).2 ∧ (zk S a).2 < 2147483648
def zR1 (A : Int → Nat) (n : Nat) (v : zV) (V : Value) : Prop := match v with
  | .inl z => ∃ x : Int32, V = .int x ∧ x.toInt = z
  | .inr (.inl z) => ∃ x : Int64, V = .long x ∧ x.toInt = z
  | .inr (.inr (.inl z)) => V = va_rf (zad A z) ∧ 0 ≤ z ∧ z < n
  | .inr (.inr (.inr _)) => ∃ q, V = .ref q
def zRs (A : Int → Nat) (n : Nat) : List zV → List Value → Prop
  | [], [] => True
  | v :: r, V :: R => zR1 A n v V ∧ zRs A n r R
  | _, _ => False
def zRl (A : Int → Nat) (n : Nat) (als : List zV) (ls : Array Slot) (nL : Nat) : Prop := als.length = nL ∧ ls.size = nL ∧ lv_wf ls ∧ ∀ (i : Nat) (v : zV), als[i]? = some v → v ≠ vu → ∃ V, ls[i]? = some (.val V) ∧ zR1 A n v V
theorem zR1.up {A A' : Int → Nat} {n n' : Nat} {v : zV} {V : Value} (hn : n ≤ n') (hA : ∀ a : Int, a < n → A' a = A a) (h : zR1 A n v V) : zR1 A' n' v V := by
  rcases v with z | z | z | z
  · exact h
  · exact h
  · obtain ⟨h1, h2, h3⟩ := h
    exact ⟨by rw [h1]; unfold zad; rw [hA z h3], h2, by omega⟩
  · exact h
theorem zRs.up {A A' : Int → Nat} {n n' : Nat} (hn : n ≤ n') (hA : ∀ a : Int, a < n → A' a = A a) : ∀ {vs : List zV} {Vs : List Value}, zRs A n vs Vs → zRs A' n' vs Vs
  | [], [], _ => trivial
  | v :: r, V :: R, h => ⟨h.1.up hn hA, zRs.up hn hA h.2⟩
  | [], _ :: _, h => h.elim
  | _ :: _, [], h => h.elim
theorem zRl.up {A A' : Int → Nat} {n n' nL : Nat} {als : List zV} {ls : Array Slot} (hn : n ≤ n') (hA : ∀ a : Int, a < n → A' a = A a) (h : zRl A n als ls nL) : zRl A' n' als ls nL :=
  ⟨h.1, h.2.1, h.2.2.1, fun i v hv hu => by
    obtain ⟨V, h1, h2⟩ := h.2.2.2 i v hv hu
    exact ⟨V, h1, h2.up hn hA⟩⟩
theorem zmask_get : ∀ (m : List Bool) (ls : List zV) (i : Nat) (v : zV), (zmask m ls)[i]? = some v → v ≠ vu → ls[i]? = some v
  | [], ls, i, v, h, _ => by cases ls <;> exact h
  | b :: bs, [], i, v, h, _ => h
  | b :: bs, w :: vs, 0, v, h, hu => by
    simp only [zmask, List.getElem?_cons_zero, Option.some.injEq] at h ⊢
    cases b
    · exact absurd h.symm hu
    · exact h
  | b :: bs, w :: vs, i + 1, v, h, hu => by
    simp only [zmask, List.getElem?_cons_succ] at h ⊢
    exact zmask_get bs vs i v h hu
theorem zmask_len : ∀ (m : List Bool) (ls : List zV), (zmask m ls).length = ls.length
  | [], ls => by cases ls <;> rfl
  | b :: bs, [] => rfl
  | b :: bs, w :: vs => by simp only [zmask, List.length_cons, zmask_len bs vs]
theorem zRl.mask {A : Int → Nat} {n nL : Nat} {als : List zV} {ls : Array Slot} (m : List Bool) (h : zRl A n als ls nL) : zRl A n (zmask m als) ls nL :=
  ⟨by rw [zmask_len]; exact h.1, h.2.1, h.2.2.1, fun i v hv hu => h.2.2.2 i v (zmask_get m als i v hv hu) hu⟩
def zall (ls : Array Slot) : List (Nat × Value) := (List.range ls.size).filterMap fun j => match (ls[j]? : Option Slot) with
  | some (Slot.val V) => some (j, V)
  | _ => none
theorem zall_mem {ls : Array Slot} {j : Nat} {V : Value} : (j, V) ∈ zall ls ↔ ls[j]? = some (.val V) := by
  unfold zall
  rw [List.mem_filterMap]
  constructor
  · rintro ⟨i, -, h⟩
    split at h
    · rename_i hh
      cases h
      exact hh
    · cases h
  · intro h
    exact ⟨j, List.mem_range.mpr (Array.getElem?_eq_some_iff.mp h).1, by rw [h]⟩
theorem zall_has {ls : Array Slot} {nL : Nat} (h1 : ls.size = nL) (h2 : lv_wf ls) : lv_has ls nL (zall ls) := ⟨h1, h2, fun q hq => zall_mem.mp (by obtain ⟨a, b⟩ := q; exact hq)⟩
theorem zR1_cat {A : Int → Nat} {n : Nat} {v : zV} {V : Value} (h : zR1 A n v V) : (V.category = 2 ↔ ∃ z, v = vl z) ∧ (V.category = 1 ∨ V.category = 2) := by
  rcases v with z | z | z | z
  · obtain ⟨x, rfl, -⟩ := h
    exact ⟨by simp [Value.category], Or.inl rfl⟩
  · obtain ⟨x, rfl, -⟩ := h
    exact ⟨⟨fun _ => ⟨_, rfl⟩, fun _ => rfl⟩, Or.inr rfl⟩
  · obtain ⟨rfl, -⟩ := h
    unfold zad
    split <;> exact ⟨by simp [Value.category, va_rf], Or.inl rfl⟩
  · obtain ⟨x, rfl⟩ := h
    exact ⟨by simp [Value.category], Or.inl rfl⟩
theorem zclr_len (i : Nat) (ls : List zV) : (zclr i ls).length = ls.length := by
  unfold zclr
  split
  · rfl
  · split <;> simp
theorem zclr_get {i j : Nat} {ls : List zV} {v : zV} (h : (zclr i ls)[j]? = some v) (hu : v ≠ vu) : ls[j]? = some v ∧ (j + 1 = i → ¬ ∃ z, v = vl z) := by
  unfold zclr at h
  split at h
  · exact ⟨h, fun q => by omega⟩
  · rename_i i
    split at h
    · rename_i z hz
      by_cases hj : j = i
      · subst hj
        rw [List.getElem?_set_self (List.getElem?_eq_some_iff.mp hz).1] at h
        exact absurd (Option.some.inj h).symm hu
      · rw [List.getElem?_set_ne (Ne.symm hj)] at h
        exact ⟨h, fun q => by omega⟩
    · rename_i hz
      refine ⟨h, fun q => ?_⟩
      rintro ⟨z, rfl⟩
      have e : j = i := by omega
      subst e
      exact hz _ h
theorem zRl.st1 {A : Int → Nat} {n nL i : Nat} {als : List zV} {ls ls' : Array Slot} {v : zV} {V : Value} (h : zRl A n als ls nL) (hv : zR1 A n v V)
    (h' : lv_has ls' nL ((i, V) :: (zall ls).filter (fun q => !(q.1 == i) && !(q.1 + 1 == i && q.2.category == 2)))) : zRl A n (zst1 i v als) ls' nL := by
  refine ⟨by unfold zst1; rw [List.length_set, zclr_len]; exact h.1, h'.1, h'.2.1, fun j w hw hu => ?_⟩
  unfold zst1 at hw
  by_cases hj : j = i
  · subst hj
    rw [List.getElem?_set_self (by have := (List.getElem?_eq_some_iff.mp hw).1; rw [List.length_set] at this; exact this)] at hw
    cases hw
    exact ⟨V, h'.2.2 (j, V) List.mem_cons_self, hv⟩
  · rw [List.getElem?_set_ne (Ne.symm hj)] at hw
    obtain ⟨h1, h2⟩ := zclr_get hw hu
    obtain ⟨W, h3, h4⟩ := h.2.2.2 j w h1 hu
    refine ⟨W, h'.2.2 (j, W) (List.mem_cons_of_mem _ (List.mem_filter.mpr ⟨zall_mem.mpr h3, ?_⟩)), h4⟩
    have hc := (zR1_cat h4).1
    by_cases hi : j + 1 = i
    · have : ¬ W.category = 2 := fun q => h2 hi (hc.mp q)
      simp [hj, this]
    · simp [hj, hi]
theorem zRl.st2 {A : Int → Nat} {n nL i : Nat} {als : List zV} {ls ls' : Array Slot} {v : zV} {V : Value} (h : zRl A n als ls nL) (hv : zR1 A n v V)
    (h' : lv_has ls' nL ((i, V) :: (zall ls).filter (fun q => !(q.1 == i) && (!(q.1 == i + 1) && !(q.1 + 1 == i && q.2.category == 2))))) : zRl A n (zst2 i v als) ls' nL := by
  refine ⟨by unfold zst2; rw [List.length_set, List.length_set, zclr_len]; exact h.1, h'.1, h'.2.1, fun j w hw hu => ?_⟩
  unfold zst2 at hw
  by_cases hj2 : j = i + 1
  · subst hj2
    rw [List.getElem?_set_self (by have := (List.getElem?_eq_some_iff.mp hw).1; rw [List.length_set] at this; exact this)] at hw
    cases hw
    exact absurd rfl hu
  rw [List.getElem?_set_ne (Ne.symm hj2)] at hw
  by_cases hj : j = i
  · subst hj
    rw [List.getElem?_set_self (by have := (List.getElem?_eq_some_iff.mp hw).1; rw [List.length_set] at this; exact this)] at hw
    cases hw
    exact ⟨V, h'.2.2 (j, V) List.mem_cons_self, hv⟩
  · rw [List.getElem?_set_ne (Ne.symm hj)] at hw
    obtain ⟨h1, h2⟩ := zclr_get hw hu
    obtain ⟨W, h3, h4⟩ := h.2.2.2 j w h1 hu
    refine ⟨W, h'.2.2 (j, W) (List.mem_cons_of_mem _ (List.mem_filter.mpr ⟨zall_mem.mpr h3, ?_⟩)), h4⟩
    have hc := (zR1_cat h4).1
    by_cases hi : j + 1 = i
    · have : ¬ W.category = 2 := fun q => h2 hi (hc.mp q)
      simp [hj, hj2, this]
    · simp [hj, hj2, hi]
theorem zRs_cat {A : Int → Nat} {n : Nat} : ∀ {vs : List zV} {Vs : List Value}, zRs A n vs Vs → (Vs.map fun v => v.category).sum = zcat vs
  | [], [], _ => rfl
  | v :: r, V :: R, h => by
    have ih := zRs_cat h.2
    have hc := zR1_cat h.1
    rw [List.map_cons, List.sum_cons, ih]
    rcases v with z | z | z | z
    · obtain ⟨x, rfl, -⟩ := h.1
      rfl
    · obtain ⟨x, rfl, -⟩ := h.1
      rfl
    · have : ¬ V.category = 2 := fun q => by obtain ⟨w, hw⟩ := hc.1.mp q; cases hw
      show _ = 1 + zcat r
      omega
    · obtain ⟨x, hx⟩ := h.1
      rw [hx]
      rfl
  | [], _ :: _, h => h.elim
  | _ :: _, [], h => h.elim
theorem zRs_len {A : Int → Nat} {n : Nat} : ∀ {vs : List zV} {Vs : List Value}, zRs A n vs Vs → Vs.length = vs.length
  | [], [], _ => rfl
  | v :: r, V :: R, h => by simp only [List.length_cons, zRs_len h.2]
  | [], _ :: _, h => h.elim
  | _ :: _, [], h => h.elim
theorem zRs_drop {A : Int → Nat} {n : Nat} : ∀ (k : Nat) {vs : List zV} {Vs : List Value}, zRs A n vs Vs → zRs A n (vs.drop k) (Vs.drop k)
  | 0, _, _, h => h
  | k + 1, [], [], h => h
  | k + 1, v :: r, V :: R, h => zRs_drop k h.2
  | _ + 1, [], _ :: _, h => h.elim
  | _ + 1, _ :: _, [], h => h.elim
theorem zRs_take {A : Int → Nat} {n : Nat} : ∀ (k : Nat) {vs : List zV} {Vs : List Value}, zRs A n vs Vs → zRs A n (vs.take k) (Vs.take k)
  | 0, _, _, h => trivial
  | k + 1, [], [], h => h
  | k + 1, v :: r, V :: R, h => ⟨h.1, zRs_take k h.2⟩
  | _ + 1, [], _ :: _, h => h.elim
  | _ + 1, _ :: _, [], h => h.elim
theorem zRs_app {A : Int → Nat} {n : Nat} : ∀ {vs ws : List zV} {Vs Ws : List Value}, zRs A n vs Vs → zRs A n ws Ws → zRs A n (vs ++ ws) (Vs ++ Ws)
  | [], _, [], _, _, g => g
  | v :: r, _, V :: R, _, h, g => ⟨h.1, zRs_app h.2 g⟩
  | [], _, _ :: _, _, h, _ => h.elim
  | _ :: _, _, [], _, h, _ => h.elim
theorem zRs_rev {A : Int → Nat} {n : Nat} : ∀ {vs : List zV} {Vs : List Value}, zRs A n vs Vs → zRs A n vs.reverse Vs.reverse
  | [], [], _ => trivial
  | v :: r, V :: R, h => by
    rw [List.reverse_cons, List.reverse_cons]
    exact zRs_app (zRs_rev h.2) ⟨h.1, trivial⟩
  | [], _ :: _, h => h.elim
  | _ :: _, [], h => h.elim
theorem zRs_cons {A : Int → Nat} {n : Nat} {v : zV} {r : List zV} {Vs : List Value} (h : zRs A n (v :: r) Vs) : ∃ V R, Vs = V :: R ∧ zR1 A n v V ∧ zRs A n r R := by
  cases Vs with
  | nil => exact h.elim
  | cons V R => exact ⟨V, R, rfl, h.1, h.2⟩
theorem zRs_nil {A : Int → Nat} {n : Nat} {Vs : List Value} (h : zRs A n [] Vs) : Vs = [] := by
  cases Vs with
  | nil => rfl
  | cons V R => exact h.elim
