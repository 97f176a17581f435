/-! The law's start: out of lw_At the interpreter's start, and whole_start out of a run of the interpreter. -/
def zlet (j : Nat) : Nat := ([1, 3, 9, 25, 17, 11, 27, 19, 10, 26, 5, 7, 13, 29, 21, 15, 31, 23, 14, 30, 37, 39, 58, 45, 61, 53] : List Nat).getD j 0
def zletI : Nat → Int32 := fun j => Int32.ofNat (zlet j)
abbrev zST : Term := .static "Touchpress" "LETTER_CELLS" "[I"
/-- the memory at the law's start: the script sc of L ints at 1, the table of letters at 2 -/
def zS0 (L : Nat) (sc : Int → Int) : zS := ((3, 0, 0), (fun a => if a = 1 then (40, (L : Int)) else if a = 2 then (40, 26) else (99, 0)), fun a j => if a = 1 then (if 0 ≤ j ∧ j < L then sc j else 0) else if a = 2 then (zlet j.toNat : Int) else 0)
def zlawM : zMi := (yL_law, code, 8, ret, [])
theorem zinst0 : Cond.instantiable RX0 18 ∈ lw_tbl := List.mem_of_getElem? (i := 1050) (by decide +kernel)
theorem zinst1 : Cond.instantiable RX1 7 ∈ lw_tbl := List.mem_of_getElem? (i := 1144) (by decide +kernel)
theorem zinst2 : Cond.instantiable RX2 4 ∈ lw_tbl := List.mem_of_getElem? (i := 524) (by decide +kernel)
theorem zinst3 : Cond.instantiable RX3 6 ∈ lw_tbl := List.mem_of_getElem? (i := 598) (by decide +kernel)
theorem zinst4 : Cond.instantiable RX4 9 ∈ lw_tbl := List.mem_of_getElem? (i := 1296) (by decide +kernel)
theorem zinst5 : Cond.instantiable RX5 4 ∈ lw_tbl := List.mem_of_getElem? (i := 650) (by decide +kernel)
theorem zinst6 : Cond.instantiable RX6 12 ∈ lw_tbl := List.mem_of_getElem? (i := 266) (by decide +kernel)
theorem zinst7 : Cond.instantiable RX7 4 ∈ lw_tbl := List.mem_of_getElem? (i := 1414) (by decide +kernel)
theorem zinst8 : Cond.instantiable RX8 6 ∈ lw_tbl := List.mem_of_getElem? (i := 192) (by decide +kernel)
theorem zinst9 : Cond.instantiable RX9 2 ∈ lw_tbl := List.mem_of_getElem? (i := 142) (by decide +kernel)
theorem zinst10 : Cond.instantiable RX10 3 ∈ lw_tbl := List.mem_of_getElem? (i := 172) (by decide +kernel)
theorem zinst11 : Cond.instantiable RX11 6 ∈ lw_tbl := List.mem_of_getElem? (i := 232) (by decide +kernel)
theorem zinst12 : Cond.instantiable RX12 18 ∈ lw_tbl := List.mem_of_getElem? (i := 134) (by decide +kernel)
theorem zinst13 : Cond.instantiable RX13 95 ∈ lw_tbl := List.mem_of_getElem? (i := 1555) (by decide +kernel)
theorem zinst (ci : Nat) (h : ci < 14) : Cond.instantiable (zRX ci) (zN ci) ∈ lw_tbl := by
  rcases ci with _ | _ | _ | _ | _ | _ | _ | _ | _ | _ | _ | _ | _ | _ | ci
  · exact zinst0
  · exact zinst1
  · exact zinst2
  · exact zinst3
  · exact zinst4
  · exact zinst5
  · exact zinst6
  · exact zinst7
  · exact zinst8
  · exact zinst9
  · exact zinst10
  · exact zinst11
  · exact zinst12
  · exact zinst13
  · omega
theorem zarr_int : Cond.arrayClass .int ∈ lw_tbl := List.mem_of_getElem? (i := 190) (by decide +kernel)
theorem zarr_long : Cond.arrayClass .long ∈ lw_tbl := List.mem_of_getElem? (i := 547) (by decide +kernel)
theorem zarr_char : Cond.arrayClass .char ∈ lw_tbl := List.mem_of_getElem? (i := 158) (by decide +kernel)
theorem zarr_byte : Cond.arrayClass .byte ∈ lw_tbl := List.mem_of_getElem? (i := 487) (by decide +kernel)
theorem zarr_boolean : Cond.arrayClass .boolean ∈ lw_tbl := List.mem_of_getElem? (i := 1343) (by decide +kernel)
theorem zover5 : Cond.arrayOver (.object RX2) ∈ lw_tbl := List.mem_of_getElem? (i := 160) (by decide +kernel)
theorem zover6 : Cond.arrayOver (.object RX5) ∈ lw_tbl := List.mem_of_getElem? (i := 162) (by decide +kernel)
theorem zover7 : Cond.arrayOver (.object RX0) ∈ lw_tbl := List.mem_of_getElem? (i := 164) (by decide +kernel)
theorem zover9 : Cond.arrayOver (.object RX4) ∈ lw_tbl := List.mem_of_getElem? (i := 168) (by decide +kernel)
theorem zover10 : Cond.arrayOver (.object RX7) ∈ lw_tbl := List.mem_of_getElem? (i := 170) (by decide +kernel)
theorem zover11 : Cond.arrayOver (.object RX1) ∈ lw_tbl := List.mem_of_getElem? (i := 1056) (by decide +kernel)
theorem zover12 : Cond.arrayOver (.object RX3) ∈ lw_tbl := List.mem_of_getElem? (i := 530) (by decide +kernel)
theorem zover8 : Cond.arrayOver (.array .int) ∈ lw_tbl := List.mem_of_getElem? (i := 166) (by decide +kernel)
theorem zlay0 : Cond.laysStatic "Touchpress" "LETTER_CELLS" "[I" ∈ lw_tbl := List.mem_of_getElem? (i := 759) (by decide +kernel)
theorem zlay1 : Cond.laysStatic Bundle.tN "UNASSIGNED_STACK" Bundle.steD ∈ lw_tbl := List.mem_of_getElem? (i := 447) (by decide +kernel)
theorem zlay2 : Cond.laysStatic Bundle.tN "SUPPRESSED_SENTINEL" Bundle.listD ∈ lw_tbl := List.mem_of_getElem? (i := 449) (by decide +kernel)
theorem zini0 : Cond.initialized "Touchpress" ∈ lw_tbl := List.mem_of_getElem? (i := 111) (by decide +kernel)
theorem zini1 : Cond.initialized Bundle.tN ∈ lw_tbl := List.mem_of_getElem? (i := 118) (by decide +kernel)
theorem znarr : (∀ j : Nat, j < 26 → Cond.eq (.elem zST (.int (Int32.ofNat j))) (.int (zletI j)) ∈ flatC (Jvm.Cond.and given_1 narrow_1)) ∧ Cond.eq (.length zST) (.int (Int32.ofNat 26)) ∈ flatC (Jvm.Cond.and given_1 narrow_1) ∧ Cond.arrayOf zST .int ∈ flatC (Jvm.Cond.and given_1 narrow_1) ∧
    Cond.isRef (.static Bundle.tN "UNASSIGNED_STACK" Bundle.steD) ∈ flatC (Jvm.Cond.and given_1 narrow_1) ∧ Cond.isRef (.static Bundle.tN "SUPPRESSED_SENTINEL" Bundle.listD) ∈ flatC (Jvm.Cond.and given_1 narrow_1) := by decide +kernel
theorem znc_in : ∀ x : Nat, x < 3 → ∀ z : Nat, z < 3 → x ≠ z → Cond.not (.castable (zX x) (zX z)) ∈ flatC (Jvm.Cond.and given_1 narrow_1) := by decide +kernel
theorem zarrP {s : State} {args : Array Value} {ty : FieldType} (h : (Cond.arrayClass ty).before args s = true) : ∃ cA, ArrOfT s cA ty ∧ s.vm.findClass ("[" ++ ty.toString) = some cA := by
  obtain ⟨c, k, comp, h1, h2, h3⟩ := Cond.arrayClass_spec h
  exact ⟨c, fun n z => ⟨fun k h => (by cases h), k, h2, comp, h3⟩, h1⟩
theorem zarrO {s : State} {args : Array Value} {C : String} (h : (Cond.arrayOver (.object C)).before args s = true) : ∃ cA, ArrOfT s cA (.object C) ∧ va_RA s cA (.object C) := by
  obtain ⟨comp, c, k, h1, -, h3, h4, h5⟩ := Cond.arrayOver_spec h
  exact ⟨c, fun n z => ⟨fun k h => (by cases h), k, h3, comp, h4⟩, k, comp, h3, h4, h1, h5⟩
theorem zarrA {s : State} {args : Array Value} {t : FieldType} (h : (Cond.arrayOver (.array t)).before args s = true) : ∃ cA, ArrOfT s cA (.array t) ∧ va_RA s cA (.array t) := by
  obtain ⟨comp, c, k, h1, h3, h4, h5⟩ := Cond.arrayOver_specA h
  exact ⟨c, fun n z => ⟨fun k h => (by cases h), k, h3, comp, h4⟩, h5⟩
theorem zstart_arr {s : State} {args : Array Value} (hts : ∀ w ∈ lw_tbl, w.before args s = true) (t : Nat) (h : t < 13) : ∃ cA, ArrOfT s cA (zaT t) ∧ va_RA s cA (zaT t) := by
  rcases t with _ | _ | _ | _ | _ | _ | _ | _ | _ | _ | _ | _ | _ | t
  · exact zarrP (hts _ zarr_int)
  · exact zarrP (hts _ zarr_long)
  · exact zarrP (hts _ zarr_char)
  · exact zarrP (hts _ zarr_byte)
  · exact zarrP (hts _ zarr_boolean)
  · exact zarrO (hts _ zover5)
  · exact zarrO (hts _ zover6)
  · exact zarrO (hts _ zover7)
  · exact zarrA (hts _ zover8)
  · exact zarrO (hts _ zover9)
  · exact zarrO (hts _ zover10)
  · exact zarrO (hts _ zover11)
  · exact zarrO (hts _ zover12)
  · omega
theorem zok0 (L : Nat) (sc : Int → Int) (hL : L < 2147483648) (hsc : ∀ j, -2147483648 ≤ sc j ∧ sc j < 2147483648) : zok L (zS0 L sc) := by
  have hk : ∀ a : Int, zk (zS0 L sc) a = if a = 1 then (40, (L : Int)) else if a = 2 then (40, 26) else (99, 0) := fun a => rfl
  have hm : ∀ a j : Int, zm (zS0 L sc) a j = if a = 1 then (if 0 ≤ j ∧ j < L then sc j else 0) else if a = 2 then (zlet j.toNat : Int) else 0 := fun a j => rfl
  have hn : zn (zS0 L sc) = 3 := rfl
  refine ⟨Nat.le_refl _, fun a ha => ?_, rfl, rfl, fun a h3 h4 => ?_, fun a j => ?_, fun a => ?_⟩
  · rw [hn] at ha
    rw [hk, if_neg (by omega), if_neg (by omega)]
  · rw [hn] at h4
    omega
  · rw [hk, hm]
    by_cases h1 : a = 1
    · rw [if_pos h1, if_pos h1]
      show zfit _ 0 _
      split
      · exact hsc j
      · exact ⟨by omega, by omega⟩
    · rw [if_neg h1, if_neg h1]
      by_cases h2 : a = 2
      · rw [if_pos h2, if_pos h2]
        show _ ∧ _
        have hz : ∀ q : Nat, zlet q < 64 := by
          intro q
          by_cases hq : q < 26
          · revert q; decide
          · have : zlet q = 0 := by unfold zlet; rw [List.getD_eq_getElem?_getD, List.getElem?_eq_none (by show 26 ≤ q; omega)]; rfl
            omega
        have := hz j.toNat
        exact ⟨by omega, by omega⟩
      · rw [if_neg h2, if_neg h2]
        exact trivial
  · rw [hk]
    split
    · exact ⟨by omega, by omega⟩
    · split
      · exact ⟨by omega, by omega⟩
      · exact ⟨by omega, by omega⟩
/-- WHAT IS LEFT: a run of the interpreter over every script -/
theorem z_start {T : Nat → Nat → zE} {M : Nat → zMi} (hok : ∀ y, zyok T M y) {yl : Nat} (hyl : M yl = zlawM) {p : Program} {e : Env} {s : State} {m : MethodId} {below : List Frame} {meth : Method} {c : Code} (l : Launch) (hflags : l.flags = flags0) {b L : Nat} {xs : Nat → Int32} (hL : L ≤ 3072) (C0 : lw_At p s m meth c b L xs)
    {d : Nat} (hd : d ≤ 800) {S1 : zS} (hrun : zcallE T M d yl [vr 1] (zS0 L fun j => (xs j.toNat).toInt) = some (.inl (some (vi 1)), S1)) (hc1 : zc S1 ≤ 300000) (hw1 : zw S1 ≤ 3000000) :
    W p l e room_1 s m #[Value.ref b] below meth c s.heap [] 0 0 (lw_Z below #[Value.ref b] s) (entryFrame m ([Value.ref b] : List Value).toArray 8) := by
  obtain ⟨hx, hcode, hret, hml, hown, hts, hX, hbl, hlocks, hgv⟩ := C0
  have hfl := flat_of_before _ hgv
  obtain ⟨f1, f2, f3, f4, f5⟩ := znarr
  have hA : ∀ a : Nat, a < s.heap.size → ¬ zfr s a := fun a ha h => Nat.not_le.mpr ha h
  obtain ⟨b2, hv2, hT2⟩ := va_Tof (tm := zST) (ty := .int) (N := 26) (f := fun j => .int (zletI j)) (A := zfr s) (by decide) (hfl _ f3) (va_eqt (hfl _ f2)) (fun j hj => va_eqt (hfl _ (f1 j hj))) hA
  have hcl : ∀ ci : Nat, ∃ q : ClassId × (Nat → Nat), ci < 14 → u_Kn s (zRX ci) (zTX ci) (zN ci) q.1 q.2 := by
    intro ci
    by_cases h : ci < 14
    · obtain ⟨cC, iS, hK⟩ := u_known (ws := lw_tbl) hts (fun w hw => (zcw ci h w hw).1) (hts _ (zinst ci h))
      exact ⟨(cC, iS), fun _ => hK⟩
    · exact ⟨(0, fun _ => 0), fun w => absurd w h⟩
  have har : ∀ t : Nat, ∃ cA : ClassId, t < 13 → ArrOfT s cA (zaT t) ∧ va_RA s cA (zaT t) := by
    intro t
    by_cases h : t < 13
    · obtain ⟨cA, hq⟩ := zstart_arr hts t h
      exact ⟨cA, fun _ => hq⟩
    · exact ⟨0, fun w => absurd w h⟩
  let D : va_G := (fun ci => (Classical.choose (hcl ci)).1, fun ci => (Classical.choose (hcl ci)).2)
  let DA : Nat → ClassId := fun t => Classical.choose (har t)
  have hK : va_K D zcl (ztys DA) s := by
    refine ⟨fun ci q hq => ?_, fun t q hq => ?_⟩
    · have hlt : ci < 14 := (List.getElem?_eq_some_iff.mp hq).1
      rw [zcl_get ci hlt] at hq
      cases hq
      exact Classical.choose_spec (hcl ci) hlt
    · have hlt : t < 13 := by
        have := (List.getElem?_eq_some_iff.mp hq).1
        unfold ztys at this
        rw [List.length_map, List.length_range] at this
        exact this
      rw [ztys_get hlt] at hq
      cases hq
      exact Classical.choose_spec (har t) hlt
  have w0' : zW0 l s #[Value.ref b] D DA b L xs b2 zletI := by
    refine ⟨?_, hts, hK, hX, hT2, hbl, ?_, va_Zref (hts _ zlay0) (hts _ zini0) hv2 hA, vx_Zqof (hts _ zlay1) (hts _ zini1) (hfl _ f4) hA, vx_Zqof (hts _ zlay2) (hts _ zini1) (hfl _ f5) hA, by omega⟩
    · unfold Launch.stackTraces
      rw [hflags]
      decide
    · obtain ⟨cell, q1, -⟩ := hT2
      exact (Array.getElem?_eq_some_iff.mp q1).1
  have hnc : zNc s := fun x z h1 h2 h3 => va_Nc.of (hfl _ (znc_in x h1 z h2 h3))
  have hws : zWs s s := ⟨State.WarmedH.refl s, Nat.le_refl _, fun _ _ => rfl⟩
  cases d with
  | zero => cases hrun
  | succ d =>
    simp only [zcallE] at hrun
    rw [hyl] at hrun
    obtain ⟨-, hrun⟩ := bif_inv hrun
    have hKm := zgood_call T M d
    obtain ⟨f, hf⟩ := (zE0_iff hKm).mp hrun
    obtain ⟨o1, o2, o3⟩ := hok yl
    rw [hyl] at o2 o3
    have hsc : ∀ j : Int, -2147483648 ≤ (xs j.toNat).toInt ∧ (xs j.toNat).toInt < 2147483648 := fun j => i32_in _
    have hH : zH s.heap.size b L xs b2 zletI D DA (fun a => if a = 1 then b else b2) (zS0 L fun j => (xs j.toNat).toInt) s.heap := by
      refine ⟨zok0 L _ (by omega) hsc, ?_, ?_, rfl, rfl, fun j hj => ?_, fun j hj => ?_⟩
      · intro k q hq
        cases hq
      · exact ⟨fun i j p q hi => (by cases hi), fun k q hq => (by cases hq)⟩
      · show (if (0 : Int) ≤ (j : Int) ∧ (j : Int) < (L : Int) then (xs ((j : Int)).toNat).toInt else 0) = _
        rw [if_pos (by omega), Int.toNat_natCast]
      · show ((zlet ((j : Int)).toNat : Nat) : Int) = _
        rw [Int.toNat_natCast]
        have hz : zlet j < 64 := by revert j; decide
        exact (Int32.toInt_ofNat_of_lt (by omega)).symm
    have hS := zrun_snd (e := e) (R := room_1) (below := below) (args := #[Value.ref b]) (A0 := fun a => if a = 1 then b else b2) (n0 := 3) (c0 := 0) (w0 := 0) (d := d) (y := zlawM) (T := T yl) hx hcode w0' hnc hws hown hml hret hlocks (fun w => absurd w (by decide)) o2 (by show d + 8 ≤ 2048; omega) (by show 100 * d + 300 ≤ 84000; omega) hKm (zcall_snd w0' hnc hok d) o3 f 0 _ _ _ _ hf (Or.inr ⟨rfl, _, rfl⟩) (by show zc S1 - 0 ≤ room_1.cells; exact Nat.le_trans (by omega) (show 300000 ≤ room_1.cells by decide)) (by show zw S1 - 0 ≤ room_1.slots; exact Nat.le_trans (by omega) (show 3000000 ≤ room_1.slots by decide))
    rw [lg_entry_eq]
    have hvs : zRs (fun a : Int => if a = 1 then b else b2) (zn (zS0 L fun j => (xs j.toNat).toInt)) [vr 1] [Value.ref b] := ⟨⟨rfl, by omega, by show (1 : Int) < 3; omega⟩, trivial⟩
    have hW := hS (fun a => if a = 1 then b else b2) s.heap _ [] [] (zentry hvs (nL := 8) (by decide)) trivial hH va_S.rf (fun _ _ => rfl) (Nat.le_refl _) (Nat.zero_le _) (Nat.zero_le _)
    intro U hU X
    obtain ⟨t, a1, o, b1, b3, b4⟩ := hW U hU X
    refine ⟨t, a1, o, b1, b3, ?_⟩
    rcases b4 with ⟨⟨A', ov, eo, -, hq, -, -⟩, L9, ⟨g1, g2, g3⟩, g4⟩ | ⟨q, -, E, ce, L9, ⟨A', x, eo, -⟩, -⟩
    · cases eo
      obtain ⟨V, hV, x, rfl, hx1⟩ := hq
      have hx2 : x = 1 := Int32.toInt_inj.mp hx1
      subst hx2
      refine ⟨hV, g1, g2, g3.weaken (fun y hy hlt => absurd hlt (Nat.not_lt.mpr (g4 y hy))) ?_ ?_⟩
      · show zc S1 - 0 ≤ room_1.cells
        exact Nat.le_trans (by omega) (show 300000 ≤ room_1.cells by decide)
      · show zw S1 - 0 ≤ room_1.slots
        exact Nat.le_trans (by omega) (show 3000000 ≤ room_1.slots by decide)
    · cases eo
