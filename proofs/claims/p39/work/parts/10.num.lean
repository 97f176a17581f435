/-! Narrow types; entries of the heap's list by kind; one cell changed. -/
theorem u32_char (u : UInt32) : u.toUInt16.toUInt32 = u % 65536 := by
  apply UInt32.toNat_inj.mp
  simp
theorem i32_char (x : Int32) : (x.toUInt32 % 65536).toInt32.toInt = x.toInt % 65536 := by
  rw [pk_char]
  rw [nI_toInt (by omega)]
  have h : x.toInt = x.toBitVec.toInt := rfl
  rw [h, BitVec.toInt_eq_toNat_cond]
  have := x.toBitVec.isLt
  split <;> omega
theorem nar_char (x : Int32) : x.toUInt32.toUInt16.toUInt32.toInt32.toInt = x.toInt % 65536 := by rw [u32_char]; exact i32_char x
theorem nar_byte (x : Int32) : x.toInt8.toInt32.toInt = (x.toInt + 128) % 256 - 128 := by
  rw [Int8.toInt_toInt32, Int32.toInt_toInt8]
  unfold Int.bmod
  dsimp only
  split <;> omega
theorem i32_01 {x : Int32} (h0 : 0 ≤ x.toInt) (h1 : x.toInt ≤ 1) : x = 0 ∨ x = 1 := by
  rcases (show x.toInt = 0 ∨ x.toInt = 1 by omega) with h | h
  · exact Or.inl (Int32.toInt_inj.mp h)
  · exact Or.inr (Int32.toInt_inj.mp h)
theorem znar {n t : Nat} {ty : FieldType} {x : Int32} (ht : zcode ty = t) (h : (t = 0 ∨ t = 2 ∨ t = 3 ∨ t = 4) ∧ zfit n t x.toInt) : narrow ty (.int x) = .int x ∧ fits ty (.int x) = true := by
  obtain ⟨h1, h2⟩ := h
  subst ht
  cases ty <;> simp only [zcode] at h1 h2 <;> try omega
  · -- byte
    have h2 : -128 ≤ x.toInt ∧ x.toInt < 128 := h2
    refine ⟨congrArg Value.int (Int32.toInt_inj.mp ?_), ?_⟩
    · rw [nar_byte]; omega
    · show (decide (-128 ≤ x) && decide (x ≤ 127)) = true
      rw [Bool.and_eq_true, decide_eq_true_eq, decide_eq_true_eq, Int32.le_iff_toInt_le, Int32.le_iff_toInt_le]
      exact ⟨h2.1, by have := h2.2; show x.toInt ≤ 127; omega⟩
  · -- char
    have h2 : 0 ≤ x.toInt ∧ x.toInt < 65536 := h2
    refine ⟨congrArg Value.int (Int32.toInt_inj.mp ?_), ?_⟩
    · rw [nar_char]; omega
    · show (decide (0 ≤ x) && decide (x ≤ 65535)) = true
      rw [Bool.and_eq_true, decide_eq_true_eq, decide_eq_true_eq, Int32.le_iff_toInt_le, Int32.le_iff_toInt_le]
      exact ⟨h2.1, by have := h2.2; show x.toInt ≤ 65535; omega⟩
  · exact ⟨rfl, rfl⟩
  · -- boolean
    have h2 : 0 ≤ x.toInt ∧ x.toInt ≤ 1 := h2
    rcases i32_01 h2.1 h2.2 with rfl | rfl
    · exact ⟨by decide, by decide⟩
    · exact ⟨by decide, by decide⟩
theorem ztys_get {DA : Nat → ClassId} {t : Nat} (h : t < 13) : (ztys DA)[t]? = some (DA t, zaT t) := by
  unfold ztys
  rw [List.getElem?_map, List.getElem?_range h, Option.map_some]
theorem zent_l {DA : Nat → ClassId} {A : Int → Nat} {S : zS} {a : Int} (h : (zk S a).1 = 1) : zent DA A S a = .inl (DA 1, (zk S a).2.toNat, .inr (.inl fun j => Int64.ofInt (zm S a j))) := by unfold zent; rw [if_pos h]
theorem zent_i {DA : Nat → ClassId} {A : Int → Nat} {S : zS} {a : Int} {t : Nat} (h : (zk S a).1 = t) (h1 : t ≠ 1) (h5 : t < 5) : zent DA A S a = .inl (DA t, (zk S a).2.toNat, .inl fun j => Int32.ofInt (zm S a j)) := by
  unfold zent; rw [h, if_neg h1, if_pos h5]
theorem zent_q {DA : Nat → ClassId} {A : Int → Nat} {S : zS} {a : Int} {t : Nat} (h : (zk S a).1 = t) (h5 : 5 ≤ t) (h20 : t < 20) : zent DA A S a = .inl (DA t, (zk S a).2.toNat, .inr (.inr (.inr (.inr fun j => zad A (zm S a j))))) := by
  unfold zent; rw [h, if_neg (by omega), if_neg (by omega), if_pos h20]
theorem zent_o {DA : Nat → ClassId} {A : Int → Nat} {S : zS} {a : Int} {ci : Nat} (h : (zk S a).1 = 20 + ci) : zent DA A S a = .inr (ci, (List.range (zN ci)).map fun j => ztv A (zcode (zfT ci j)) (zm S a j)) := by
  unfold zent; rw [h, if_neg (by omega), if_neg (by omega), if_neg (by omega), Nat.add_sub_cancel_left]
theorem zin {x : Int32} {j len : Int} (hx : x.toInt = j) (h0 : 0 ≤ j) (h1 : j < len) : vp_in x len.toNat := by
  rw [vp_in_iff, hx]; omega
theorem zcl_nat {x : Int32} {j : Int} (hx : x.toInt = j) (h0 : 0 ≤ j) : ((x.toNatClampNeg : Nat) : Int) = j := by
  show ((x.toInt.toNat : Nat) : Int) = j
  rw [hx]; omega
theorem ztv_rel {A : Int → Nat} {n t : Nat} {z : Int} (ht : t ≤ 5) (h : zfit n t z) : zR1 A n (ztag t z) (ztv A t z) := by
  rcases (show t = 0 ∨ t = 1 ∨ t = 2 ∨ t = 3 ∨ t = 4 ∨ t = 5 by omega) with rfl | rfl | rfl | rfl | rfl | rfl
  · exact ⟨_, rfl, i32_of h.1 h.2⟩
  · exact ⟨_, rfl, i64_of h.1 h.2⟩
  · exact ⟨_, rfl, i32_of (by have := h.1; omega) (by have := h.2; omega)⟩
  · exact ⟨_, rfl, i32_of (by have := h.1; omega) (by have := h.2; omega)⟩
  · exact ⟨_, rfl, i32_of (by have := h.1; omega) (by have := h.2; omega)⟩
  · exact ⟨rfl, h.1, h.2⟩
theorem zH.put {fr b0 L : Nat} {xs : Nat → Int32} {b2 : Nat} {ys : Nat → Int32} {D : va_G} {DA : Nat → ClassId} {A : Int → Nat} {S : zS} {H H1 : Heap} {a j v : Int} {E : va_E} (h : zH fr b0 L xs b2 ys D DA A S H) (h3 : 3 ≤ a) (hn : a < zn S) (hf : zfit (zn S) (zst (zk S a).1 j) v)
    (hE : zent DA A (zput S a j v) a = E) (hP : va_P D zcl ((zws DA A S).set (a - 3).toNat (A a, E)) H1) (hD : va_D (fun q => fr ≤ q) ((zws DA A S).set (a - 3).toNat (A a, E))) : zH fr b0 L xs b2 ys D DA A (zput S a j v) H1 := by
  subst hE
  have e := zws_put (DA := DA) (A := A) (j := j) (v := v) h.1 h3 hn
  rw [← e] at hP hD
  refine ⟨h.1.put hf, hP, hD, h.2.2.2.1, h.2.2.2.2.1, fun i hi => ?_, fun i hi => ?_⟩
  · show (if (1 : Int) = a then _ else zm S 1 i) = _
    rw [if_neg (by omega)]; exact h.2.2.2.2.2.1 i hi
  · show (if (2 : Int) = a then _ else zm S 2 i) = _
    rw [if_neg (by omega)]; exact h.2.2.2.2.2.2 i hi
theorem zm_put (S : zS) (a j v b i : Int) : zm (zput S a j v) b i = if b = a then (if i = j then v else zm S b i) else zm S b i := rfl
theorem zk_put (S : zS) (a j v b : Int) : zk (zput S a j v) b = zk S b := rfl
theorem zn_put (S : zS) (a j v : Int) : zn (zput S a j v) = zn S := rfl
