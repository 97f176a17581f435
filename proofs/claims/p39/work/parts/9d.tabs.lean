/-! The tables keep the types of places; which methods of the class make nothing, which write nothing. -/
def zrefs : Nat → List Int
  | 0 => [1, 6, 8]
  | 1 => [0, 1]
  | 2 => [0, 2, 3]
  | 3 => [0]
  | 4 => [1, 2, 3]
  | 5 => [0, 2]
  | 6 => [0, 4, 5, 6, 7, 10]
  | 7 => [1]
  | 8 => [0]
  | 9 => [0]
  | 10 => [0, 1]
  | 11 => [0, 4]
  | 12 => [0, 1, 3, 5, 7, 8, 10, 12, 14, 15, 16, 17]
  | 13 => [1, 5, 6, 7, 8, 9, 10, 11, 13, 14, 15, 17, 18, 19, 20, 21, 22, 23, 24, 25, 26, 27, 28, 29, 30, 31, 35, 39, 41, 44, 47, 48, 49, 52, 54, 55, 56, 57, 58, 59, 60, 61, 62, 64, 66, 67, 68, 69, 70, 71, 72, 74, 77, 78, 79, 81, 82, 84, 85, 86, 87, 89, 91, 93]
  | _ => []
def zrefk (t : Nat) (j : Int) : Option Bool := some (bif Nat.blt t 20 then Nat.ble 5 t else bif Nat.beq t 40 then false else (zrefs (t - 20)).any fun x => decide (x = j))
theorem zrefk_ty : zTy zrefk := by
  refine ⟨fun u j h => ?_, fun u j h1 h2 => ?_⟩
  · rcases h with h | h
    · have : u = 0 ∨ u = 1 ∨ u = 2 ∨ u = 3 ∨ u = 4 := by omega
      rcases this with rfl | rfl | rfl | rfl | rfl <;> rfl
    · subst h
      rfl
  · unfold zrefk
    rw [Nat.blt_eq.mpr (show u < 20 by omega), show Nat.ble 5 u = true from Nat.ble_eq_true_of_le h1]
    rfl
def zC1 (y : Nat) : Bool := Nat.blt y 180 || (Nat.ble 306 y && Nat.blt y 310)
def zC2 (y : Nat) : Bool := Nat.ble 180 y && Nat.blt y 310
def zinl (l : List Nat) (y : Nat) : Bool := l.any fun x => Nat.beq x y
theorem zinl_mem {l : List Nat} {y : Nat} (h : zinl l y = true) : y ∈ l := by
  obtain ⟨x, h1, h2⟩ := List.any_eq_true.mp h
  rw [← Nat.eq_of_beq_eq_true h2]
  exact h1
def zalb (P : zE → Bool) (N : Nat) (T : Nat → zE) : Bool := (List.range N).all fun pc => P (T pc)
theorem zalb_ok {P : zE → Bool} {N : Nat} {T : Nat → zE} (h : zalb P N T = true) (h0 : ∀ pc, N ≤ pc → T pc = zNop) (hn : P zNop = true) (pc : Nat) : P (T pc) = true := by
  by_cases c : pc < N
  · exact List.all_eq_true.mp h pc (List.mem_range.mpr c)
  · rw [h0 pc (by omega)]
    exact hn
def zP1 (e : zE) : Bool := zsok zrefk zC1 e.1 e.2.2.2.1 e.2.2.2.2.1 e.2.2.2.2.2
def zP2 (e : zE) : Bool := zsok zrefk zC2 e.1 e.2.2.2.1 e.2.2.2.2.1 e.2.2.2.2.2
def zAFl : List Nat := [1, 2, 3, 4, 5, 6, 7, 8, 9, 10, 11, 12, 13, 14, 17, 18, 19, 20, 21, 22, 23, 24, 25, 26, 27, 28, 29, 30, 31, 33, 34, 35, 36, 37, 38, 40, 41, 42, 43, 44, 45, 46, 47, 49, 50, 51, 53, 54, 55, 56, 57, 58, 59, 60, 61, 62, 63, 64, 65, 66, 67, 68, 69, 70, 71, 72, 73, 74, 75, 76, 77, 78, 79, 82, 83, 84, 85, 86, 88, 89, 90, 91, 92, 93, 94, 95, 96, 97, 98, 99, 100, 101, 103, 104, 105, 106, 108, 109, 110, 111, 112, 113, 115, 116, 117, 121, 122, 123, 124, 125, 126, 127, 128, 129, 130, 133, 134, 135, 136, 138, 139, 140, 142, 143, 144, 145, 146, 147, 148, 149, 150, 151, 152, 153, 154, 155, 156, 157, 158, 159, 160, 161, 162, 163, 164, 165, 166, 167, 168, 169, 170, 171, 172, 173, 174, 175, 176, 177, 178, 179, 306, 307, 308, 309]
def zPUl : List Nat := [1, 2, 3, 4, 5, 8, 10, 18, 24, 25, 34, 36, 37, 38, 41, 43, 44, 51, 53, 56, 57, 60, 69, 70, 71, 77, 78, 79, 85, 86, 88, 89, 90, 91, 92, 94, 95, 96, 98, 99, 101, 103, 104, 112, 113, 117, 127, 133, 134, 135, 138, 140, 143, 147, 149, 150, 151, 152, 153, 154, 155, 156, 157, 158, 163, 164, 165, 166, 167, 168, 171, 172, 173, 174, 175, 176, 177, 178, 179, 306, 307, 308, 309]
def zP3 (e : zE) : Bool := zsaf true (zinl zAFl) e.1 e.2.2.2.1 e.2.2.2.2.2
def zP4 (e : zE) : Bool := zsaf false (zinl zPUl) e.1 e.2.2.2.1 e.2.2.2.2.2
