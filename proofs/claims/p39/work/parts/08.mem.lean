/-! Numbers; the memory under its changes; the list of the heap's cells under them. -/
theorem z32_bmod (x : Int) : x.bmod 4294967296 = z32 x := by
  unfold Int.bmod z32
  dsimp only
  split <;> omega
theorem z64_bmod (x : Int) : x.bmod 18446744073709551616 = z64 x := by
  unfold Int.bmod z64
  dsimp only
  split <;> omega
theorem z32_id {x : Int} (h : -2147483648 ≤ x) (h' : x < 2147483648) : z32 x = x := by unfold z32; omega
theorem z64_id {x : Int} (h : -9223372036854775808 ≤ x) (h' : x < 9223372036854775808) : z64 x = x := by unfold z64; omega
theorem z32_in (x : Int) : -2147483648 ≤ z32 x ∧ z32 x < 2147483648 := by unfold z32; omega
theorem z64_in (x : Int) : -9223372036854775808 ≤ z64 x ∧ z64 x < 9223372036854775808 := by unfold z64; omega
theorem i32_in (x : Int32) : -2147483648 ≤ x.toInt ∧ x.toInt < 2147483648 := ⟨Int32.le_toInt x, Int32.toInt_lt x⟩
theorem i64_in (x : Int64) : -9223372036854775808 ≤ x.toInt ∧ x.toInt < 9223372036854775808 := ⟨Int64.le_toInt x, Int64.toInt_lt x⟩
theorem i32_of {z : Int} (h : -2147483648 ≤ z) (h' : z < 2147483648) : (Int32.ofInt z).toInt = z := Int32.toInt_ofInt_of_le h h'
theorem i64_of {z : Int} (h : -9223372036854775808 ≤ z) (h' : z < 9223372036854775808) : (Int64.ofInt z).toInt = z := Int64.toInt_ofInt_of_le h h'
theorem zsg_r {N : Int} {a b : Nat} (h : (a : Int) < N) : -N ≤ zsg a b ∧ zsg a b < N := by
  unfold zsg
  split <;> omega
theorem i32_z (z : Int) : (Int32.ofInt z).toInt = z32 z := Int32.toInt_ofInt.trans (z32_bmod z)
theorem i64_z (z : Int) : (Int64.ofInt z).toInt = z64 z := Int64.toInt_ofInt.trans (z64_bmod z)
theorem i32_add (x y : Int32) : (x + y).toInt = z32 (x.toInt + y.toInt) := (Int32.toInt_add x y).trans (z32_bmod _)
theorem i32_sub (x y : Int32) : (x - y).toInt = z32 (x.toInt - y.toInt) := (Int32.toInt_sub x y).trans (z32_bmod _)
theorem i32_mul (x y : Int32) : (x * y).toInt = z32 (x.toInt * y.toInt) := (Int32.toInt_mul x y).trans (z32_bmod _)
theorem i32_div (x y : Int32) : (x / y).toInt = z32 (x.toInt.tdiv y.toInt) := (Int32.toInt_div x y).trans (z32_bmod _)
theorem i64_add (x y : Int64) : (x + y).toInt = z64 (x.toInt + y.toInt) := (Int64.toInt_add x y).trans (z64_bmod _)
theorem i64_sub (x y : Int64) : (x - y).toInt = z64 (x.toInt - y.toInt) := (Int64.toInt_sub x y).trans (z64_bmod _)
theorem i64_mul (x y : Int64) : (x * y).toInt = z64 (x.toInt * y.toInt) := (Int64.toInt_mul x y).trans (z64_bmod _)
theorem z32_z32_mul (a b : Int) : z32 (z32 a * b) = z32 (a * b) := by
  rw [← z32_bmod, ← z32_bmod, ← z32_bmod]
  exact Int.bmod_mul_bmod
theorem z32_sub_z32 (a b : Int) : z32 (a - z32 b) = z32 (a - b) := by
  rw [← z32_bmod, ← z32_bmod, ← z32_bmod]
  exact Int.sub_bmod_bmod
theorem i32_rem (x y : Int32) (hy : y.toInt ≠ 0) : (x - x / y * y).toInt = x.toInt.tmod y.toInt := by
  rw [i32_sub, i32_mul, i32_div, z32_z32_mul, z32_sub_z32]
  have h := Int.mul_tdiv_add_tmod x.toInt y.toInt
  have e : x.toInt - x.toInt.tdiv y.toInt * y.toInt = x.toInt.tmod y.toInt := by rw [Int.mul_comm]; omega
  rw [e]
  have hx := i32_in x
  have hb : (x % y).toInt = x.toInt.tmod y.toInt := Int32.toInt_mod x y
  have := i32_in (x % y)
  rw [hb] at this
  exact z32_id this.1 this.2
theorem i32_eq0 (x : Int32) : x = 0 ↔ x.toInt = 0 := by rw [← Int32.toInt_inj]; exact Iff.rfl
theorem zcmp_l (x y : Int64) : (lg_cmp x y).toInt = zcmp x.toInt y.toInt := by
  have h1 : y < x ↔ y.toInt < x.toInt := Int64.lt_iff_toInt_lt
  have h2 : x = y ↔ x.toInt = y.toInt := Int64.toInt_inj.symm
  unfold lg_cmp zcmp
  by_cases a : y < x
  · have a' := h1.mp a
    simp only [a, if_true]
    rw [if_neg (by omega), if_neg (by omega)]
    rfl
  · have a' : ¬ y.toInt < x.toInt := fun q => a (h1.mpr q)
    by_cases b : x = y
    · subst b
      simp only [a, if_false, if_true]
      rw [if_neg (by omega)]
      rfl
    · have b' : ¬ x.toInt = y.toInt := fun q => b (h2.mpr q)
      simp only [a, b, if_false]
      rw [if_pos (by omega)]
      rfl
theorem zfit.up {n n' t : Nat} {z : Int} (hn : n ≤ n') (h : zfit n t z) : zfit n' t z := by
  unfold zfit at h ⊢
  split <;> simp_all
  omega
theorem zfit0 (n t : Nat) (hn : 0 < n) : zfit n t 0 := by
  unfold zfit
  split <;> simp
  omega
theorem zok.lt {L : Nat} {S : zS} (h : zok L S) {a : Int} {t : Nat} (hk : (zk S a).1 = t) (ht : t ≠ 99) : 1 ≤ a ∧ a < zn S := by
  by_cases q : a ≤ 0 ∨ (zn S : Int) ≤ a
  · exact absurd (hk.symm.trans (h.2.1 a q)) ht
  · omega
theorem zok.lt3 {L : Nat} {S : zS} (h : zok L S) {a : Int} {t : Nat} (hk : (zk S a).1 = t) (ht : t ≠ 99) (ht2 : t ≠ 40) : 3 ≤ a ∧ a < zn S := by
  have h1 := h.lt hk ht
  have n1 : a ≠ 1 := fun e => by rw [e, h.2.2.1] at hk; exact ht2 hk.symm
  have n2 : a ≠ 2 := fun e => by rw [e, h.2.2.2.1] at hk; exact ht2 hk.symm
  omega
theorem zok.put {L : Nat} {S : zS} {a j v : Int} (h : zok L S) (hf : zfit (zn S) (zst (zk S a).1 j) v) : zok L (zput S a j v) := by
  refine ⟨h.1, h.2.1, h.2.2.1, h.2.2.2.1, h.2.2.2.2.1, fun b i => ?_, h.2.2.2.2.2.2⟩
  show zfit (zn S) (zst (zk S b).1 i) (if b = a then (if i = j then v else zm S b i) else zm S b i)
  by_cases hb : b = a
  · subst hb
    by_cases hi : i = j
    · subst hi; rw [if_pos rfl, if_pos rfl]; exact hf
    · rw [if_pos rfl, if_neg hi]; exact h.2.2.2.2.2.1 b i
  · rw [if_neg hb]; exact h.2.2.2.2.2.1 b i
theorem zok.bump {L : Nat} {S : zS} (h : zok L S) : zok L (zbump S) := h
theorem zok.alloc {L : Nat} {S : zS} {t w : Nat} {len : Int} (h : zok L S) (ht : t < 13 ∨ (20 ≤ t ∧ t < 33)) (h0 : 0 ≤ len) (h1 : len < 2147483648) : zok L (zalloc S t len w) := by
  obtain ⟨a1, a2, a3, a4, a5, a6, a7⟩ := h
  have hk : ∀ b : Int, zk (zalloc S t len w) b = if b = (zn S : Int) then (t, len) else zk S b := fun b => rfl
  have hm : ∀ b i : Int, zm (zalloc S t len w) b i = if b = (zn S : Int) then 0 else zm S b i := fun b i => rfl
  have hn : zn (zalloc S t len w) = zn S + 1 := rfl
  refine ⟨by omega, fun b hb => ?_, ?_, ?_, fun b h3 h4 => ?_, fun b i => ?_, fun b => ?_⟩
  · rw [hk, if_neg (by omega)]; exact a2 b (by omega)
  · rw [hk, if_neg (by omega)]; exact a3
  · rw [hk, if_neg (by omega)]; exact a4
  · rw [hk]
    split
    · exact ht
    · exact a5 b h3 (by omega)
  · rw [hm, hn]
    split
    · exact zfit0 _ _ (by omega)
    · rename_i hb
      rw [hk, if_neg hb]; exact (a6 b i).up (by omega)
  · rw [hk]
    split
    · exact ⟨h0, h1⟩
    · exact a7 b
theorem zok.multi {L : Nat} {S : zS} {t u n k : Nat} (h : zok L S) (ht : 4 < t ∧ t < 13) (hu : u < 13) (h0 : n < 2147483648) (h1 : k < 2147483648) : zok L (zmulti S t u n k) := by
  obtain ⟨a1, a2, a3, a4, a5, a6, a7⟩ := h
  have hk : ∀ b : Int, zk (zmulti S t u n k) b = if b = (zn S : Int) then (t, (n : Int)) else if (zn S : Int) < b ∧ b ≤ (zn S : Int) + n then (u, (k : Int)) else zk S b := fun b => rfl
  have hm : ∀ b i : Int, zm (zmulti S t u n k) b i = if b = (zn S : Int) then (if 0 ≤ i ∧ i < n then (zn S : Int) + 1 + i else 0) else if (zn S : Int) < b ∧ b ≤ (zn S : Int) + n then 0 else zm S b i := fun b i => rfl
  have hn : zn (zmulti S t u n k) = zn S + 1 + n := rfl
  refine ⟨by omega, fun b hb => ?_, ?_, ?_, fun b h3 h4 => ?_, fun b i => ?_, fun b => ?_⟩
  · rw [hk, if_neg (by omega), if_neg (by omega)]; exact a2 b (by omega)
  · rw [hk, if_neg (by omega), if_neg (by omega)]; exact a3
  · rw [hk, if_neg (by omega), if_neg (by omega)]; exact a4
  · rw [hk]
    split
    · exact Or.inl ht.2
    · split
      · exact Or.inl hu
      · exact a5 b h3 (by omega)
  · rw [hm, hn]
    split
    · rename_i hb
      rw [hk, if_pos hb]
      have e : zst t i = 5 := by unfold zst; rw [if_neg (by omega), if_pos (by omega)]
      show zfit _ (zst t i) _
      rw [e]
      show 0 ≤ _ ∧ _ < _
      split <;> omega
    · rename_i hb
      split
      · exact zfit0 _ _ (by omega)
      · rename_i hb2
        rw [hk, if_neg hb, if_neg hb2]; exact (a6 b i).up (by omega)
  · rw [hk]
    split
    · exact ⟨by omega, by omega⟩
    · split
      · exact ⟨by omega, by omega⟩
      · exact a7 b
theorem ztv_congr {A A' : Int → Nat} {t : Nat} {z : Int} (h : t = 5 → A' z = A z) : ztv A' t z = ztv A t z := by
  unfold ztv
  split
  · rfl
  · unfold zad; rw [h rfl]
  · rfl
theorem zst_ref {t : Nat} {j : Int} (h1 : ¬ t < 5) (h2 : t < 20) : zst t j = 5 := by unfold zst; rw [if_neg h1, if_pos h2]
theorem zst_obj {t : Nat} {j : Int} (h1 : 20 ≤ t) (h2 : t < 33) : zst t j = zcode (zfT (t - 20) j.toNat) := by unfold zst; rw [if_neg (by omega), if_neg (by omega), if_pos h2]
theorem zst_prim {t : Nat} {j : Int} (h1 : t < 5) : zst t j = t := by unfold zst; rw [if_pos h1]
theorem zent_congr {DA : Nat → ClassId} {A A' : Int → Nat} {S S' : zS} {a : Int} (hk : zk S' a = zk S a) (hm : ∀ j, zm S' a j = zm S a j) (ht : (zk S a).1 < 13 ∨ (20 ≤ (zk S a).1 ∧ (zk S a).1 < 33))
    (hA : ∀ j, zst (zk S a).1 j = 5 → A' (zm S a j) = A (zm S a j)) : zent DA A' S' a = zent DA A S a := by
  have hm' : zm S' a = zm S a := funext hm
  unfold zent
  rw [hk, hm']
  split
  · rfl
  · split
    · rfl
    · split
      · rename_i h1 h2 h3
        have : (fun j : Nat => zad A' (zm S a j)) = fun j : Nat => zad A (zm S a j) := by
          funext j
          unfold zad
          rw [hA j (zst_ref h2 h3)]
        rw [this]
      · rename_i h1 h2 h3
        congr 2
        apply List.map_congr_left
        intro j _
        exact ztv_congr fun e => hA j (by rw [zst_obj (by omega) (by omega), Int.toNat_natCast]; exact e)
theorem zws_get {DA : Nat → ClassId} {A : Int → Nat} {S : zS} {a : Int} (h3 : 3 ≤ a) (hn : a < zn S) : (zws DA A S)[(a - 3).toNat]? = some (A a, zent DA A S a) := by
  unfold zws
  have e : (((a - 3).toNat + 3 : Nat) : Int) = a := by omega
  rw [List.getElem?_map, List.getElem?_range (by omega)]
  simp only [Option.map_some, e]
theorem zws_len {DA : Nat → ClassId} {A : Int → Nat} {S : zS} : (zws DA A S).length = zn S - 3 := by unfold zws; simp
theorem zws_put {L : Nat} {DA : Nat → ClassId} {A : Int → Nat} {S : zS} {a j v : Int} (hok : zok L S) (h3 : 3 ≤ a) (hn : a < zn S) : zws DA A (zput S a j v) = (zws DA A S).set (a - 3).toNat (A a, zent DA A (zput S a j v) a) := by
  apply List.ext_getElem?
  intro i
  by_cases hi : i < zn S - 3
  · have g1 : (zws DA A (zput S a j v))[i]? = some (A ((i + 3 : Nat) : Int), zent DA A (zput S a j v) ((i + 3 : Nat) : Int)) := by
      have := zws_get (DA := DA) (A := A) (S := zput S a j v) (a := ((i + 3 : Nat) : Int)) (by omega) (show _ < ((zn S : Nat) : Int) by omega)
      rw [show ((((i + 3 : Nat) : Int)) - 3).toNat = i by omega] at this
      exact this
    rw [g1]
    by_cases he : i = (a - 3).toNat
    · rw [← he, List.getElem?_set_self (by rw [zws_len]; exact hi)]
      have e : ((i + 3 : Nat) : Int) = a := by omega
      rw [e]
    · rw [List.getElem?_set_ne (Ne.symm he)]
      have := zws_get (DA := DA) (A := A) (S := S) (a := ((i + 3 : Nat) : Int)) (by omega) (by omega)
      rw [show ((((i + 3 : Nat) : Int)) - 3).toNat = i by omega] at this
      rw [this, zent_congr (S := S) (S' := zput S a j v) (A := A) (A' := A) rfl (fun k => ?_) (hok.2.2.2.2.1 _ (by omega) (by omega)) (fun _ _ => rfl)]
      show (if ((i + 3 : Nat) : Int) = a then _ else zm S ((i + 3 : Nat) : Int) k) = _
      rw [if_neg (by omega)]
  · rw [List.getElem?_eq_none (by rw [zws_len]; show zn S - 3 ≤ i; omega), List.getElem?_eq_none (by rw [List.length_set, zws_len]; omega)]
/-- a longer memory: the old cells, then the new ones -/
theorem zws_ext {L : Nat} {DA : Nat → ClassId} {A A' : Int → Nat} {S S' : zS} (hok : zok L S) (hn : zn S ≤ zn S') (hA : ∀ a : Int, a < zn S → A' a = A a) (hk : ∀ a : Int, a < zn S → zk S' a = zk S a) (hm : ∀ a j : Int, a < zn S → zm S' a j = zm S a j) :
    zws DA A' S' = zws DA A S ++ (List.range (zn S' - zn S)).map fun i => (A' ((zn S + i : Nat) : Int), zent DA A' S' ((zn S + i : Nat) : Int)) := by
  have h3 := hok.1
  apply List.ext_getElem?
  intro i
  by_cases hi : i < zn S - 3
  · rw [List.getElem?_append_left (by rw [zws_len]; exact hi)]
    have g1 := zws_get (DA := DA) (A := A') (S := S') (a := ((i + 3 : Nat) : Int)) (by omega) (by omega)
    have g2 := zws_get (DA := DA) (A := A) (S := S) (a := ((i + 3 : Nat) : Int)) (by omega) (by omega)
    rw [show ((((i + 3 : Nat) : Int)) - 3).toNat = i by omega] at g1 g2
    rw [g1, g2, hA _ (by omega), zent_congr (S := S) (S' := S') (A := A) (A' := A') (hk _ (by omega)) (fun k => hm _ _ (by omega)) (hok.2.2.2.2.1 _ (by omega) (by omega))]
    intro j hj
    have := hok.2.2.2.2.2.1 ((i + 3 : Nat) : Int) j
    rw [hj] at this
    exact hA _ this.2
  · rw [List.getElem?_append_right (by rw [zws_len]; omega), zws_len]
    by_cases hj : i < zn S' - 3
    · have g1 := zws_get (DA := DA) (A := A') (S := S') (a := ((i + 3 : Nat) : Int)) (by omega) (by omega)
      rw [show ((((i + 3 : Nat) : Int)) - 3).toNat = i by omega] at g1
      rw [g1, List.getElem?_map, List.getElem?_range (by omega), Option.map_some]
      have e : zn S + (i - (zn S - 3)) = i + 3 := by omega
      rw [e]
    · rw [List.getElem?_eq_none (by rw [zws_len]; omega), List.getElem?_eq_none (by rw [List.length_map, List.length_range]; omega)]
