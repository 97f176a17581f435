/-! An instruction, a row: arrays, fields, new cells. -/
theorem zne0 {L : Nat} {S : zS} (h : zok L S) {a : Int} {t : Nat} (hk : (zk S a).1 = t) (ht : t ≠ 99) : a ≠ 0 := by
  have := (h.lt hk ht).1
  omega
theorem zrf {A : Int → Nat} {a : Int} (h : a ≠ 0) : va_rf (zad A a) = .ref (A a) := by unfold zad; rw [if_neg h]; rfl
theorem zok.ro {L : Nat} {S : zS} (h : zok L S) {a : Int} (hk : (zk S a).1 = 40) : a = 1 ∨ a = 2 := by
  have h1 := h.lt hk (by decide)
  by_cases q : 3 ≤ a
  · have := h.2.2.2.2.1 a q h1.2
    omega
  · omega
theorem zE_put {DA : Nat → ClassId} {A : Int → Nat} {S : zS} {a j z : Int} {t : Nat} {u x : Int32} (hk : (zk S a).1 = t) (h1 : t ≠ 1) (h5 : t < 5) (hu : u.toInt = j) (h0 : 0 ≤ j) (hz : Int32.ofInt z = x) :
    zent DA A (zput S a j z) a = .inl (DA t, (zk S a).2.toNat, .inl (upd (fun i : Nat => Int32.ofInt (zm S a (i : Int))) u.toNatClampNeg x)) := by
  rw [zent_i (S := zput S a j z) hk h1 h5]
  have e : (fun i : Nat => Int32.ofInt (zm (zput S a j z) a (i : Int))) = upd (fun i : Nat => Int32.ofInt (zm S a (i : Int))) u.toNatClampNeg x := by
    funext i
    have hc := zcl_nat hu h0
    rw [zm_put, if_pos rfl]
    unfold upd
    by_cases hi : i = u.toNatClampNeg
    · rw [if_pos hi, if_pos (by rw [hi]; exact hc), hz]
    · rw [if_neg hi, if_neg (fun w => hi (by omega))]
  rw [e]
  rfl
theorem zE_putl {DA : Nat → ClassId} {A : Int → Nat} {S : zS} {a j z : Int} {u : Int32} {x : Int64} (hk : (zk S a).1 = 1) (hu : u.toInt = j) (h0 : 0 ≤ j) (hz : Int64.ofInt z = x) :
    zent DA A (zput S a j z) a = .inl (DA 1, (zk S a).2.toNat, .inr (.inl (vp_updL (fun i : Nat => Int64.ofInt (zm S a (i : Int))) u.toNatClampNeg x))) := by
  rw [zent_l (S := zput S a j z) hk]
  have e : (fun i : Nat => Int64.ofInt (zm (zput S a j z) a (i : Int))) = vp_updL (fun i : Nat => Int64.ofInt (zm S a (i : Int))) u.toNatClampNeg x := by
    funext i
    have hc := zcl_nat hu h0
    rw [zm_put, if_pos rfl]
    unfold vp_updL
    by_cases hi : i = u.toNatClampNeg
    · rw [if_pos hi, if_pos (by rw [hi]; exact hc), hz]
    · rw [if_neg hi, if_neg (fun w => hi (by omega))]
  rw [e]
  rfl
theorem zE_putq {DA : Nat → ClassId} {A : Int → Nat} {S : zS} {a j z : Int} {t : Nat} {u : Int32} (hk : (zk S a).1 = t) (h5 : 5 ≤ t) (h20 : t < 20) (hu : u.toInt = j) (h0 : 0 ≤ j) (hz : z ≠ 0) :
    zent DA A (zput S a j z) a = .inl (DA t, (zk S a).2.toNat, .inr (.inr (.inr (.inr (va_up (fun i : Nat => zad A (zm S a (i : Int))) u.toNatClampNeg (some (A z))))))) := by
  rw [zent_q (S := zput S a j z) hk h5 h20]
  have e : (fun i : Nat => zad A (zm (zput S a j z) a (i : Int))) = va_up (fun i : Nat => zad A (zm S a (i : Int))) u.toNatClampNeg (some (A z)) := by
    funext i
    have hc := zcl_nat hu h0
    rw [zm_put, if_pos rfl]
    unfold va_up
    by_cases hi : i = u.toNatClampNeg
    · rw [if_pos hi, if_pos (by rw [hi]; exact hc)]; unfold zad; rw [if_neg hz]
    · rw [if_neg hi, if_neg (fun w => hi (by omega))]
  rw [e]
  rfl
theorem zE_obj {DA : Nat → ClassId} {A : Int → Nat} {S : zS} {a z : Int} {ci f : Nat} (hk : (zk S a).1 = 20 + ci) (hf : f < zN ci) :
    zent DA A (zput S a (f : Int) z) a = .inr (ci, ((List.range (zN ci)).map fun j : Nat => ztv A (zcode (zfT ci j)) (zm S a (j : Int))).set f (ztv A (zcode (zfT ci f)) z)) := by
  rw [zent_o (S := zput S a (f : Int) z) hk]
  congr 2
  apply List.ext_getElem?
  intro i
  by_cases hi : i < zN ci
  · rw [List.getElem?_map, List.getElem?_range hi, Option.map_some, zm_put, if_pos rfl]
    by_cases he : i = f
    · subst he
      rw [List.getElem?_set_self (by rw [List.length_map, List.length_range]; exact hi), if_pos rfl]
    · rw [List.getElem?_set_ne (Ne.symm he), List.getElem?_map, List.getElem?_range hi, Option.map_some, if_neg (by omega)]
  · rw [List.getElem?_eq_none (by rw [List.length_map, List.length_range]; omega), List.getElem?_eq_none (by rw [List.length_set, List.length_map, List.length_range]; omega)]
theorem nar_vchar {x : Int32} {z : Int} (h : x.toInt = z) : Int32.ofInt (z % 65536) = vp_nar .char x := by
  apply Int32.toInt_inj.mp
  rw [vp_nar_char, nar_char, h]
  exact i32_of (by omega) (by omega)
theorem nar_vbyte {x : Int32} {z : Int} (h : x.toInt = z) : Int32.ofInt ((z + 128) % 256 - 128) = vp_nar .byte x := by
  apply Int32.toInt_inj.mp
  rw [vp_nar_byte, nar_byte, h]
  exact i32_of (by omega) (by omega)
theorem nar_vbool {x : Int32} {z : Int} (h : x.toInt = z) (h0 : 0 ≤ z) (h1 : z ≤ 1) : Int32.ofInt z = vp_nar .boolean x := by
  subst h
  rw [Int32.ofInt_toInt]
  rcases i32_01 h0 h1 with rfl | rfl
  · decide
  · decide
theorem zdfv (ty : FieldType) (A : Int → Nat) (h : zcode ty ≤ 5) : defaultValue ty = ztv A (zcode ty) 0 := by
  cases ty <;> first | rfl | (exact absurd h (by simp [zcode]))
section
variable {p : Program} {l : Launch} {e : Env} {R : Room} {s s0 : State} {m : MethodId} {args args0 : Array Value} {below : List Frame} {meth : Method} {c : Code} {Q : State → Prop} {cc : ByteArray}
variable {b0 L b2 : Nat} {xs ys : Nat → Int32} {D : va_G} {DA : Nat → ClassId} {nL : Nat} {A0 : Int → Nat} {n0 c0 w0 : Nat} {pc : Nat} {als ast : List zV} {S : zS} {own : String}

theorem zs_iaload0 {j a : Int} {t : List zV} (hx : p.tables.exec = Jvm.exec) (hb : c.code = cc) (w0' : zW0 l s0 args0 D DA b0 L xs b2 ys) (ws : zWs s0 s) (hown : s.vm.findClass own = some m.cls) (hdg : decode cc pc = .ok (.iaload, 1)) (hk : (zk S a).1 = 0) (h0 : 0 ≤ j) (hj : j < (zk S a).2) (k : zSnd p l e R s m args below meth c Q s0.heap.size b0 L xs b2 ys D DA nL A0 n0 c0 w0 (pc + 1) als (vi (zm S a j) :: t) S) : zSnd p l e R s m args below meth c Q s0.heap.size b0 L xs b2 ys D DA nL A0 n0 c0 w0 pc als (vi j :: vr a :: t) S := by
  intro A H ls st locs h1 h2 h3 h4 h5 h6 h7 h8
  obtain ⟨_, st, rfl, ⟨u, rfl, hu⟩, ho⟩ := zRs_cons h2
  obtain ⟨_, st, rfl, ⟨rfl, g3, g4⟩, hp⟩ := zRs_cons ho
  rw [zrf (zne0 h3.1 hk (by decide))]
  obtain ⟨q3, qn⟩ := h3.1.lt3 hk (by decide) (by decide)
  have hw := zws_get (DA := DA) (A := A) q3 qn
  rw [zent_i hk (by decide) (by decide)] at hw
  have hf := h3.1.2.2.2.2.2.1 a j
  rw [hk, zst_prim (by decide)] at hf
  refine va_iald hx hb (w0'.K ws) h3.2.1 _ 0 hw (ztys_get (by decide)) (zin hu h0 hj) hdg ?_
  exact k A H ls _ locs h1 ⟨⟨_, rfl, by rw [zcl_nat hu h0]; exact i32_of (by first | exact hf.1 | (have := hf.1; omega)) (by first | exact hf.2 | (have := hf.2; omega))⟩, hp⟩ h3 h4 h5 h6 h7 h8
theorem zs_laload {j a : Int} {t : List zV} (hx : p.tables.exec = Jvm.exec) (hb : c.code = cc) (w0' : zW0 l s0 args0 D DA b0 L xs b2 ys) (ws : zWs s0 s) (hown : s.vm.findClass own = some m.cls) (hdg : decode cc pc = .ok (.laload, 1)) (hk : (zk S a).1 = 1) (h0 : 0 ≤ j) (hj : j < (zk S a).2) (k : zSnd p l e R s m args below meth c Q s0.heap.size b0 L xs b2 ys D DA nL A0 n0 c0 w0 (pc + 1) als (vl (zm S a j) :: t) S) : zSnd p l e R s m args below meth c Q s0.heap.size b0 L xs b2 ys D DA nL A0 n0 c0 w0 pc als (vi j :: vr a :: t) S := by
  intro A H ls st locs h1 h2 h3 h4 h5 h6 h7 h8
  obtain ⟨_, st, rfl, ⟨u, rfl, hu⟩, ho⟩ := zRs_cons h2
  obtain ⟨_, st, rfl, ⟨rfl, g3, g4⟩, hp⟩ := zRs_cons ho
  rw [zrf (zne0 h3.1 hk (by decide))]
  obtain ⟨q3, qn⟩ := h3.1.lt3 hk (by decide) (by decide)
  have hw := zws_get (DA := DA) (A := A) q3 qn
  rw [zent_l hk] at hw
  have hf := h3.1.2.2.2.2.2.1 a j
  rw [hk, zst_prim (by decide)] at hf
  refine va_lald hx hb (w0'.K ws) h3.2.1 _ 1 hw (ztys_get (by decide)) (zin hu h0 hj) hdg ?_
  exact k A H ls _ locs h1 ⟨⟨_, rfl, by rw [zcl_nat hu h0]; exact i64_of hf.1 hf.2⟩, hp⟩ h3 h4 h5 h6 h7 h8
theorem zs_caload {j a : Int} {t : List zV} (hx : p.tables.exec = Jvm.exec) (hb : c.code = cc) (w0' : zW0 l s0 args0 D DA b0 L xs b2 ys) (ws : zWs s0 s) (hown : s.vm.findClass own = some m.cls) (hdg : decode cc pc = .ok (.caload, 1)) (hk : (zk S a).1 = 2) (h0 : 0 ≤ j) (hj : j < (zk S a).2) (k : zSnd p l e R s m args below meth c Q s0.heap.size b0 L xs b2 ys D DA nL A0 n0 c0 w0 (pc + 1) als (vi (zm S a j) :: t) S) : zSnd p l e R s m args below meth c Q s0.heap.size b0 L xs b2 ys D DA nL A0 n0 c0 w0 pc als (vi j :: vr a :: t) S := by
  intro A H ls st locs h1 h2 h3 h4 h5 h6 h7 h8
  obtain ⟨_, st, rfl, ⟨u, rfl, hu⟩, ho⟩ := zRs_cons h2
  obtain ⟨_, st, rfl, ⟨rfl, g3, g4⟩, hp⟩ := zRs_cons ho
  rw [zrf (zne0 h3.1 hk (by decide))]
  obtain ⟨q3, qn⟩ := h3.1.lt3 hk (by decide) (by decide)
  have hw := zws_get (DA := DA) (A := A) q3 qn
  rw [zent_i hk (by decide) (by decide)] at hw
  have hf := h3.1.2.2.2.2.2.1 a j
  rw [hk, zst_prim (by decide)] at hf
  refine va_cald hx hb (w0'.K ws) h3.2.1 _ 2 hw (ztys_get (by decide)) (zin hu h0 hj) hdg ?_
  exact k A H ls _ locs h1 ⟨⟨_, rfl, by rw [zcl_nat hu h0]; exact i32_of (by first | exact hf.1 | (have := hf.1; omega)) (by first | exact hf.2 | (have := hf.2; omega))⟩, hp⟩ h3 h4 h5 h6 h7 h8
theorem zs_baload3 {j a : Int} {t : List zV} (hx : p.tables.exec = Jvm.exec) (hb : c.code = cc) (w0' : zW0 l s0 args0 D DA b0 L xs b2 ys) (ws : zWs s0 s) (hown : s.vm.findClass own = some m.cls) (hdg : decode cc pc = .ok (.baload, 1)) (hk : (zk S a).1 = 3) (h0 : 0 ≤ j) (hj : j < (zk S a).2) (k : zSnd p l e R s m args below meth c Q s0.heap.size b0 L xs b2 ys D DA nL A0 n0 c0 w0 (pc + 1) als (vi (zm S a j) :: t) S) : zSnd p l e R s m args below meth c Q s0.heap.size b0 L xs b2 ys D DA nL A0 n0 c0 w0 pc als (vi j :: vr a :: t) S := by
  intro A H ls st locs h1 h2 h3 h4 h5 h6 h7 h8
  obtain ⟨_, st, rfl, ⟨u, rfl, hu⟩, ho⟩ := zRs_cons h2
  obtain ⟨_, st, rfl, ⟨rfl, g3, g4⟩, hp⟩ := zRs_cons ho
  rw [zrf (zne0 h3.1 hk (by decide))]
  obtain ⟨q3, qn⟩ := h3.1.lt3 hk (by decide) (by decide)
  have hw := zws_get (DA := DA) (A := A) q3 qn
  rw [zent_i hk (by decide) (by decide)] at hw
  have hf := h3.1.2.2.2.2.2.1 a j
  rw [hk, zst_prim (by decide)] at hf
  refine va_bald hx hb (w0'.K ws) h3.2.1 _ 3 hw (ztys_get (by decide)) (zin hu h0 hj) hdg ?_
  exact k A H ls _ locs h1 ⟨⟨_, rfl, by rw [zcl_nat hu h0]; exact i32_of (by first | exact hf.1 | (have := hf.1; omega)) (by first | exact hf.2 | (have := hf.2; omega))⟩, hp⟩ h3 h4 h5 h6 h7 h8
theorem zs_baload4 {j a : Int} {t : List zV} (hx : p.tables.exec = Jvm.exec) (hb : c.code = cc) (w0' : zW0 l s0 args0 D DA b0 L xs b2 ys) (ws : zWs s0 s) (hown : s.vm.findClass own = some m.cls) (hdg : decode cc pc = .ok (.baload, 1)) (hk : (zk S a).1 = 4) (h0 : 0 ≤ j) (hj : j < (zk S a).2) (k : zSnd p l e R s m args below meth c Q s0.heap.size b0 L xs b2 ys D DA nL A0 n0 c0 w0 (pc + 1) als (vi (zm S a j) :: t) S) : zSnd p l e R s m args below meth c Q s0.heap.size b0 L xs b2 ys D DA nL A0 n0 c0 w0 pc als (vi j :: vr a :: t) S := by
  intro A H ls st locs h1 h2 h3 h4 h5 h6 h7 h8
  obtain ⟨_, st, rfl, ⟨u, rfl, hu⟩, ho⟩ := zRs_cons h2
  obtain ⟨_, st, rfl, ⟨rfl, g3, g4⟩, hp⟩ := zRs_cons ho
  rw [zrf (zne0 h3.1 hk (by decide))]
  obtain ⟨q3, qn⟩ := h3.1.lt3 hk (by decide) (by decide)
  have hw := zws_get (DA := DA) (A := A) q3 qn
  rw [zent_i hk (by decide) (by decide)] at hw
  have hf := h3.1.2.2.2.2.2.1 a j
  rw [hk, zst_prim (by decide)] at hf
  refine va_zald hx hb (w0'.K ws) h3.2.1 _ 4 hw (ztys_get (by decide)) (zin hu h0 hj) hdg ?_
  exact k A H ls _ locs h1 ⟨⟨_, rfl, by rw [zcl_nat hu h0]; exact i32_of (by first | exact hf.1 | (have := hf.1; omega)) (by first | exact hf.2 | (have := hf.2; omega))⟩, hp⟩ h3 h4 h5 h6 h7 h8
theorem zs_iaload40 {j a : Int} {t : List zV} (hx : p.tables.exec = Jvm.exec) (hb : c.code = cc) (w0' : zW0 l s0 args0 D DA b0 L xs b2 ys) (ws : zWs s0 s) (hown : s.vm.findClass own = some m.cls) (hdg : decode cc pc = .ok (.iaload, 1)) (hk : (zk S a).1 = 40) (h0 : 0 ≤ j) (hj : j < (zk S a).2) (k : zSnd p l e R s m args below meth c Q s0.heap.size b0 L xs b2 ys D DA nL A0 n0 c0 w0 (pc + 1) als (vi (zm S a j) :: t) S) : zSnd p l e R s m args below meth c Q s0.heap.size b0 L xs b2 ys D DA nL A0 n0 c0 w0 pc als (vi j :: vr a :: t) S := by
  intro A H ls st locs h1 h2 h3 h4 h5 h6 h7 h8
  obtain ⟨_, st, rfl, ⟨u, rfl, hu⟩, ho⟩ := zRs_cons h2
  obtain ⟨_, st, rfl, ⟨rfl, g3, g4⟩, hp⟩ := zRs_cons ho
  rw [zrf (zne0 h3.1 hk (by decide))]
  have hc := zcl_nat hu h0
  rcases h3.1.ro hk with rfl | rfl
  · rw [h3.1.2.2.1] at hj
    rw [h3.2.2.2.1]
    have hin := zin hu h0 hj
    rw [Int.toNat_natCast] at hin
    refine va_sld hx hb (w0'.X ws) (Nat.lt_of_lt_of_le w0'.2.2.2.2.2.1 ws.2.1) (Nat.not_le.mpr w0'.2.2.2.2.2.1) h4 hin hdg ?_
    exact k A H ls _ locs h1 ⟨⟨_, rfl, by rw [← h3.2.2.2.2.2.1 _ (by omega), hc]⟩, hp⟩ h3 h4 h5 h6 h7 h8
  · rw [h3.1.2.2.2.1] at hj
    rw [h3.2.2.2.2.1]
    have hin := zin hu h0 hj
    refine va_ti hx hb (w0'.X2 ws) h4 hin rfl hdg ?_
    exact k A H ls _ locs h1 ⟨⟨_, rfl, by rw [← h3.2.2.2.2.2.2 _ (by omega), hc]⟩, hp⟩ h3 h4 h5 h6 h7 h8
theorem zs_iaload {j a : Int} {t : List zV} (hx : p.tables.exec = Jvm.exec) (hb : c.code = cc) (w0' : zW0 l s0 args0 D DA b0 L xs b2 ys) (ws : zWs s0 s) (hown : s.vm.findClass own = some m.cls) (hdg : decode cc pc = .ok (.iaload, 1)) (hk : (zk S a).1 = 0 ∨ (zk S a).1 = 40) (h0 : 0 ≤ j) (hj : j < (zk S a).2) (k : zSnd p l e R s m args below meth c Q s0.heap.size b0 L xs b2 ys D DA nL A0 n0 c0 w0 (pc + 1) als (vi (zm S a j) :: t) S) : zSnd p l e R s m args below meth c Q s0.heap.size b0 L xs b2 ys D DA nL A0 n0 c0 w0 pc als (vi j :: vr a :: t) S := by
  rcases hk with hk | hk
  · exact zs_iaload0 hx hb w0' ws hown hdg hk h0 hj k
  · exact zs_iaload40 hx hb w0' ws hown hdg hk h0 hj k
theorem zs_baload {j a : Int} {t : List zV} (hx : p.tables.exec = Jvm.exec) (hb : c.code = cc) (w0' : zW0 l s0 args0 D DA b0 L xs b2 ys) (ws : zWs s0 s) (hown : s.vm.findClass own = some m.cls) (hdg : decode cc pc = .ok (.baload, 1)) (hk : (zk S a).1 = 3 ∨ (zk S a).1 = 4) (h0 : 0 ≤ j) (hj : j < (zk S a).2) (k : zSnd p l e R s m args below meth c Q s0.heap.size b0 L xs b2 ys D DA nL A0 n0 c0 w0 (pc + 1) als (vi (zm S a j) :: t) S) : zSnd p l e R s m args below meth c Q s0.heap.size b0 L xs b2 ys D DA nL A0 n0 c0 w0 pc als (vi j :: vr a :: t) S := by
  rcases hk with hk | hk
  · exact zs_baload3 hx hb w0' ws hown hdg hk h0 hj k
  · exact zs_baload4 hx hb w0' ws hown hdg hk h0 hj k
theorem zs_aaload {j a : Int} {t : List zV} {q : Nat} (hx : p.tables.exec = Jvm.exec) (hb : c.code = cc) (w0' : zW0 l s0 args0 D DA b0 L xs b2 ys) (ws : zWs s0 s) (hown : s.vm.findClass own = some m.cls) (hdg : decode cc pc = .ok (.aaload, 1)) (hq : 5 ≤ q ∧ q < 13) (hk : (zk S a).1 = q) (h0 : 0 ≤ j) (hj : j < (zk S a).2) (k : zSnd p l e R s m args below meth c Q s0.heap.size b0 L xs b2 ys D DA nL A0 n0 c0 w0 (pc + 1) als (vr (zm S a j) :: t) S) : zSnd p l e R s m args below meth c Q s0.heap.size b0 L xs b2 ys D DA nL A0 n0 c0 w0 pc als (vi j :: vr a :: t) S := by
  intro A H ls st locs h1 h2 h3 h4 h5 h6 h7 h8
  obtain ⟨_, st, rfl, ⟨u, rfl, hu⟩, ho⟩ := zRs_cons h2
  obtain ⟨_, st, rfl, ⟨rfl, g3, g4⟩, hp⟩ := zRs_cons ho
  rw [zrf (zne0 h3.1 hk (by omega))]
  obtain ⟨q3, qn⟩ := h3.1.lt3 hk (by omega) (by omega)
  have hw := zws_get (DA := DA) (A := A) q3 qn
  rw [zent_q hk hq.1 (by omega)] at hw
  have hf := h3.1.2.2.2.2.2.1 a j
  rw [hk, zst_ref (by omega) (by omega)] at hf
  have hin := zin hu h0 hj
  have hlt : u.toNatClampNeg < (zk S a).2.toNat := Nat.not_le.mp fun q => hin (Or.inr q)
  have hK := w0'.K ws
  have hcell := h3.2.1 _ _ hw
  have hr : (zaT q).isReference = true := by
    rcases (show q = 5 ∨ q = 6 ∨ q = 7 ∨ q = 8 ∨ q = 9 ∨ q = 10 ∨ q = 11 ∨ q = 12 by omega) with rfl | rfl | rfl | rfl | rfl | rfl | rfl | rfl <;> rfl
  refine W.aald (v := va_rf (zad A (zm S a (u.toNatClampNeg : Int)))) (ty := zaT q) hx hb hcell ((hK.2 q _ (ztys_get hq.2)).1 _ (fun i => va_rf (zad A (zm S a (i : Int))))) hr (fun z => by cases z) (by show ¬ (u < 0 ∨ (arrV _ _ _).slots.size ≤ _); rw [arrV_size]; exact hin) (by show (arrV _ _ _).slots[_]? = _; rw [arrV_read _ _ hlt]) rfl rfl hdg ?_
  rw [zcl_nat hu h0]
  exact k A H ls _ locs h1 ⟨⟨rfl, hf.1, hf.2⟩, hp⟩ h3 h4 h5 h6 h7 h8
theorem zs_iastore {v j a : Int} {t : List zV} (hx : p.tables.exec = Jvm.exec) (hb : c.code = cc) (w0' : zW0 l s0 args0 D DA b0 L xs b2 ys) (ws : zWs s0 s) (hown : s.vm.findClass own = some m.cls) (hdg : decode cc pc = .ok (.iastore, 1)) (hk : (zk S a).1 = 0) (h0 : 0 ≤ j) (hj : j < (zk S a).2)  (k : zSnd p l e R s m args below meth c Q s0.heap.size b0 L xs b2 ys D DA nL A0 n0 c0 w0 (pc + 1) als t (zput S a j v)) : zSnd p l e R s m args below meth c Q s0.heap.size b0 L xs b2 ys D DA nL A0 n0 c0 w0 pc als (vi v :: vi j :: vr a :: t) S := by
  intro A H ls st locs h1 h2 h3 h4 h5 h6 h7 h8
  obtain ⟨_, st, rfl, ⟨w, rfl, hv⟩, hq⟩ := zRs_cons h2
  obtain ⟨_, st, rfl, ⟨u, rfl, hu⟩, ho⟩ := zRs_cons hq
  obtain ⟨_, st, rfl, ⟨rfl, g3, g4⟩, hp⟩ := zRs_cons ho
  rw [zrf (zne0 h3.1 hk (by decide))]
  obtain ⟨q3, qn⟩ := h3.1.lt3 hk (by decide) (by decide)
  have hw := zws_get (DA := DA) (A := A) q3 qn
  rw [zent_i hk (by decide) (by decide)] at hw
  refine va_iast hx hb (w0'.K ws) h3.2.1 h3.2.2.1 h4 _ 0 hw (ztys_get (by decide)) (zin hu h0 hj) hdg fun H1 locs1 hP hD hS => ?_
  exact k A H1 ls _ locs1 h1 hp (h3.put q3 qn (by rw [hk, zst_prim (by decide)]; exact by rw [← hv]; exact i32_in w) (zE_put hk (by decide) (by decide) hu h0 (by rw [← hv]; exact Int32.ofInt_toInt w)) hP hD) hS h5 h6 h7 h8
theorem zs_lastore {v j a : Int} {t : List zV} (hx : p.tables.exec = Jvm.exec) (hb : c.code = cc) (w0' : zW0 l s0 args0 D DA b0 L xs b2 ys) (ws : zWs s0 s) (hown : s.vm.findClass own = some m.cls) (hdg : decode cc pc = .ok (.lastore, 1)) (hk : (zk S a).1 = 1) (h0 : 0 ≤ j) (hj : j < (zk S a).2)  (k : zSnd p l e R s m args below meth c Q s0.heap.size b0 L xs b2 ys D DA nL A0 n0 c0 w0 (pc + 1) als t (zput S a j v)) : zSnd p l e R s m args below meth c Q s0.heap.size b0 L xs b2 ys D DA nL A0 n0 c0 w0 pc als (vl v :: vi j :: vr a :: t) S := by
  intro A H ls st locs h1 h2 h3 h4 h5 h6 h7 h8
  obtain ⟨_, st, rfl, ⟨w, rfl, hv⟩, hq⟩ := zRs_cons h2
  obtain ⟨_, st, rfl, ⟨u, rfl, hu⟩, ho⟩ := zRs_cons hq
  obtain ⟨_, st, rfl, ⟨rfl, g3, g4⟩, hp⟩ := zRs_cons ho
  rw [zrf (zne0 h3.1 hk (by decide))]
  obtain ⟨q3, qn⟩ := h3.1.lt3 hk (by decide) (by decide)
  have hw := zws_get (DA := DA) (A := A) q3 qn
  rw [zent_l hk] at hw
  refine va_last hx hb (w0'.K ws) h3.2.1 h3.2.2.1 h4 _ 1 hw (ztys_get (by decide)) (zin hu h0 hj) hdg fun H1 locs1 hP hD hS => ?_
  exact k A H1 ls _ locs1 h1 hp (h3.put q3 qn (by rw [hk, zst_prim (by decide)]; exact by rw [← hv]; exact i64_in w) (zE_putl hk hu h0 (by rw [← hv]; exact Int64.ofInt_toInt w)) hP hD) hS h5 h6 h7 h8
theorem zs_castore {v j a : Int} {t : List zV} (hx : p.tables.exec = Jvm.exec) (hb : c.code = cc) (w0' : zW0 l s0 args0 D DA b0 L xs b2 ys) (ws : zWs s0 s) (hown : s.vm.findClass own = some m.cls) (hdg : decode cc pc = .ok (.castore, 1)) (hk : (zk S a).1 = 2) (h0 : 0 ≤ j) (hj : j < (zk S a).2)  (k : zSnd p l e R s m args below meth c Q s0.heap.size b0 L xs b2 ys D DA nL A0 n0 c0 w0 (pc + 1) als t (zput S a j (v % 65536))) : zSnd p l e R s m args below meth c Q s0.heap.size b0 L xs b2 ys D DA nL A0 n0 c0 w0 pc als (vi v :: vi j :: vr a :: t) S := by
  intro A H ls st locs h1 h2 h3 h4 h5 h6 h7 h8
  obtain ⟨_, st, rfl, ⟨w, rfl, hv⟩, hq⟩ := zRs_cons h2
  obtain ⟨_, st, rfl, ⟨u, rfl, hu⟩, ho⟩ := zRs_cons hq
  obtain ⟨_, st, rfl, ⟨rfl, g3, g4⟩, hp⟩ := zRs_cons ho
  rw [zrf (zne0 h3.1 hk (by decide))]
  obtain ⟨q3, qn⟩ := h3.1.lt3 hk (by decide) (by decide)
  have hw := zws_get (DA := DA) (A := A) q3 qn
  rw [zent_i hk (by decide) (by decide)] at hw
  refine va_cast hx hb (w0'.K ws) h3.2.1 h3.2.2.1 h4 _ 2 hw (ztys_get (by decide)) (zin hu h0 hj) hdg fun H1 locs1 hP hD hS => ?_
  exact k A H1 ls _ locs1 h1 hp (h3.put q3 qn (by rw [hk, zst_prim (by decide)]; exact ⟨by omega, by omega⟩) (zE_put hk (by decide) (by decide) hu h0 (nar_vchar hv)) hP hD) hS h5 h6 h7 h8
theorem zs_bastore3 {v j a : Int} {t : List zV} (hx : p.tables.exec = Jvm.exec) (hb : c.code = cc) (w0' : zW0 l s0 args0 D DA b0 L xs b2 ys) (ws : zWs s0 s) (hown : s.vm.findClass own = some m.cls) (hdg : decode cc pc = .ok (.bastore, 1)) (hk : (zk S a).1 = 3) (h0 : 0 ≤ j) (hj : j < (zk S a).2)  (k : zSnd p l e R s m args below meth c Q s0.heap.size b0 L xs b2 ys D DA nL A0 n0 c0 w0 (pc + 1) als t (zput S a j ((v + 128) % 256 - 128))) : zSnd p l e R s m args below meth c Q s0.heap.size b0 L xs b2 ys D DA nL A0 n0 c0 w0 pc als (vi v :: vi j :: vr a :: t) S := by
  intro A H ls st locs h1 h2 h3 h4 h5 h6 h7 h8
  obtain ⟨_, st, rfl, ⟨w, rfl, hv⟩, hq⟩ := zRs_cons h2
  obtain ⟨_, st, rfl, ⟨u, rfl, hu⟩, ho⟩ := zRs_cons hq
  obtain ⟨_, st, rfl, ⟨rfl, g3, g4⟩, hp⟩ := zRs_cons ho
  rw [zrf (zne0 h3.1 hk (by decide))]
  obtain ⟨q3, qn⟩ := h3.1.lt3 hk (by decide) (by decide)
  have hw := zws_get (DA := DA) (A := A) q3 qn
  rw [zent_i hk (by decide) (by decide)] at hw
  refine va_bast hx hb (w0'.K ws) h3.2.1 h3.2.2.1 h4 _ 3 hw (ztys_get (by decide)) (zin hu h0 hj) hdg fun H1 locs1 hP hD hS => ?_
  exact k A H1 ls _ locs1 h1 hp (h3.put q3 qn (by rw [hk, zst_prim (by decide)]; exact ⟨by omega, by omega⟩) (zE_put hk (by decide) (by decide) hu h0 (nar_vbyte hv)) hP hD) hS h5 h6 h7 h8
theorem zs_bastore4 {v j a : Int} {t : List zV} (hx : p.tables.exec = Jvm.exec) (hb : c.code = cc) (w0' : zW0 l s0 args0 D DA b0 L xs b2 ys) (ws : zWs s0 s) (hown : s.vm.findClass own = some m.cls) (hdg : decode cc pc = .ok (.bastore, 1)) (hk : (zk S a).1 = 4) (h0 : 0 ≤ j) (hj : j < (zk S a).2) (hv0 : 0 ≤ v) (hv1 : v ≤ 1) (k : zSnd p l e R s m args below meth c Q s0.heap.size b0 L xs b2 ys D DA nL A0 n0 c0 w0 (pc + 1) als t (zput S a j v)) : zSnd p l e R s m args below meth c Q s0.heap.size b0 L xs b2 ys D DA nL A0 n0 c0 w0 pc als (vi v :: vi j :: vr a :: t) S := by
  intro A H ls st locs h1 h2 h3 h4 h5 h6 h7 h8
  obtain ⟨_, st, rfl, ⟨w, rfl, hv⟩, hq⟩ := zRs_cons h2
  obtain ⟨_, st, rfl, ⟨u, rfl, hu⟩, ho⟩ := zRs_cons hq
  obtain ⟨_, st, rfl, ⟨rfl, g3, g4⟩, hp⟩ := zRs_cons ho
  rw [zrf (zne0 h3.1 hk (by decide))]
  obtain ⟨q3, qn⟩ := h3.1.lt3 hk (by decide) (by decide)
  have hw := zws_get (DA := DA) (A := A) q3 qn
  rw [zent_i hk (by decide) (by decide)] at hw
  refine va_zast hx hb (w0'.K ws) h3.2.1 h3.2.2.1 h4 _ 4 hw (ztys_get (by decide)) (zin hu h0 hj) hdg fun H1 locs1 hP hD hS => ?_
  exact k A H1 ls _ locs1 h1 hp (h3.put q3 qn (by rw [hk, zst_prim (by decide)]; exact ⟨hv0, hv1⟩) (zE_put hk (by decide) (by decide) hu h0 (nar_vbool hv hv0 hv1)) hP hD) hS h5 h6 h7 h8
theorem zs_aastore {v j a : Int} {t : List zV} {q ci : Nat} (hx : p.tables.exec = Jvm.exec) (hb : c.code = cc) (w0' : zW0 l s0 args0 D DA b0 L xs b2 ys) (ws : zWs s0 s) (hown : s.vm.findClass own = some m.cls) (hdg : decode cc pc = .ok (.aastore, 1)) (hq : 5 ≤ q ∧ q < 13) (hci : ci < 13) (hty : zaT q = .object (zRX ci)) (hk : (zk S a).1 = q) (h0 : 0 ≤ j) (hj : j < (zk S a).2) (hkv : (zk S v).1 = 20 + ci) (k : zSnd p l e R s m args below meth c Q s0.heap.size b0 L xs b2 ys D DA nL A0 n0 c0 w0 (pc + 1) als t (zput S a j v)) : zSnd p l e R s m args below meth c Q s0.heap.size b0 L xs b2 ys D DA nL A0 n0 c0 w0 pc als (vr v :: vi j :: vr a :: t) S := by
  intro A H ls st locs h1 h2 h3 h4 h5 h6 h7 h8
  obtain ⟨_, st, rfl, ⟨rfl, y3, y4⟩, hq'⟩ := zRs_cons h2
  obtain ⟨_, st, rfl, ⟨u, rfl, hu⟩, ho⟩ := zRs_cons hq'
  obtain ⟨_, st, rfl, ⟨rfl, g3, g4⟩, hp⟩ := zRs_cons ho
  have hv0 := zne0 h3.1 hkv (by omega)
  rw [zrf (zne0 h3.1 hk (by omega)), zrf hv0]
  obtain ⟨q3, qn⟩ := h3.1.lt3 hk (by omega) (by omega)
  obtain ⟨v3, vn⟩ := h3.1.lt3 hkv (by omega) (by omega)
  have hw := zws_get (DA := DA) (A := A) q3 qn
  rw [zent_q hk hq.1 (by omega)] at hw
  have hwv := zws_get (DA := DA) (A := A) v3 vn
  rw [zent_o hkv] at hwv
  refine va_astq (r := (zRX ci, zTX ci, zN ci)) hx hb (w0'.K ws) h3.2.1 h3.2.2.1 h4 _ q _ ci hw (by rw [ztys_get hq.2, hty]) hwv (zcl_get ci hci) (zin hu h0 hj) hdg fun H1 locs1 hP hD hS => ?_
  exact k A H1 ls _ locs1 h1 hp (h3.put q3 qn (by rw [hk, zst_ref (by omega) (by omega)]; exact ⟨y3, y4⟩) (zE_putq hk hq.1 (by omega) hu h0 hv0) hP hD) hS h5 h6 h7 h8
theorem zs_arraylength {a : Int} {t : List zV} (hx : p.tables.exec = Jvm.exec) (hb : c.code = cc) (w0' : zW0 l s0 args0 D DA b0 L xs b2 ys) (ws : zWs s0 s) (hown : s.vm.findClass own = some m.cls) (hdg : decode cc pc = .ok (.arraylength, 1)) (hk : (zk S a).1 ≤ 19 ∨ (zk S a).1 = 40) (k : zSnd p l e R s m args below meth c Q s0.heap.size b0 L xs b2 ys D DA nL A0 n0 c0 w0 (pc + 1) als (vi (zk S a).2 :: t) S) : zSnd p l e R s m args below meth c Q s0.heap.size b0 L xs b2 ys D DA nL A0 n0 c0 w0 pc als (vr a :: t) S := by
  intro A H ls st locs h1 h2 h3 h4 h5 h6 h7 h8
  obtain ⟨_, st, rfl, ⟨rfl, g3, g4⟩, hp⟩ := zRs_cons h2
  have hln := h3.1.2.2.2.2.2.2 a
  have hv : (Int32.ofNat (zk S a).2.toNat).toInt = (zk S a).2 := by rw [Int32.toInt_ofNat_of_lt (by omega)]; omega
  rcases hk with hk | hk
  · have k99 : (zk S a).1 ≠ 99 := by omega
    rw [zrf (zne0 h3.1 rfl k99)]
    obtain ⟨q3, qn⟩ := h3.1.lt3 rfl k99 (by omega)
    have k13 : (zk S a).1 < 13 := by have := h3.1.2.2.2.2.1 a q3 qn; omega
    have hw := zws_get (DA := DA) (A := A) q3 qn
    have ht := ztys_get (DA := DA) k13
    by_cases k1 : (zk S a).1 = 1
    · rw [zent_l k1] at hw
      rw [k1] at ht
      refine va_alen hx hb (w0'.K ws) h3.2.1 _ 1 hw ht rfl hdg ?_
      exact k A H ls _ locs h1 ⟨⟨_, rfl, hv⟩, hp⟩ h3 h4 h5 h6 h7 h8
    · by_cases k5 : (zk S a).1 < 5
      · rw [zent_i rfl k1 k5] at hw
        refine va_alen hx hb (w0'.K ws) h3.2.1 _ _ hw ht rfl hdg ?_
        exact k A H ls _ locs h1 ⟨⟨_, rfl, hv⟩, hp⟩ h3 h4 h5 h6 h7 h8
      · rw [zent_q rfl (by omega) (by omega)] at hw
        refine va_alen hx hb (w0'.K ws) h3.2.1 _ _ hw ht rfl hdg ?_
        exact k A H ls _ locs h1 ⟨⟨_, rfl, hv⟩, hp⟩ h3 h4 h5 h6 h7 h8
  · rw [zrf (zne0 h3.1 hk (by decide))]
    rcases h3.1.ro hk with rfl | rfl
    · rw [h3.2.2.2.1]
      refine va_slen hx hb (w0'.X ws) (Nat.lt_of_lt_of_le w0'.2.2.2.2.2.1 ws.2.1) (Nat.not_le.mpr w0'.2.2.2.2.2.1) h4 hdg ?_
      exact k A H ls _ locs h1 ⟨⟨_, rfl, by rw [h3.1.2.2.1]; exact Int32.toInt_ofNat_of_lt w0'.2.2.2.2.2.2.2.2.2.2⟩, hp⟩ h3 h4 h5 h6 h7 h8
    · rw [h3.2.2.2.2.1]
      refine va_tlen hx hb (w0'.X2 ws) h4 rfl hdg ?_
      exact k A H ls _ locs h1 ⟨⟨_, rfl, by rw [h3.1.2.2.2.1]; rfl⟩, hp⟩ h3 h4 h5 h6 h7 h8
theorem zs_getfield {a : Int} {i f ci g : Nat} {t : List zV} (hx : p.tables.exec = Jvm.exec) (hb : c.code = cc) (w0' : zW0 l s0 args0 D DA b0 L xs b2 ys) (ws : zWs s0 s) (hown : s.vm.findClass own = some m.cls) (hdg : decode cc pc = .ok (.getfield i, 3)) (hci : ci < 13) (hf : f < zN ci) (hg : g = zcode (zfT ci f)) (hw : Cond.fieldLink own i (zRX ci) (zTX ci f).2.1 (zTX ci f).2.2.1 ∈ lw_tbl) (hk : (zk S a).1 = 20 + ci) (k : zSnd p l e R s m args below meth c Q s0.heap.size b0 L xs b2 ys D DA nL A0 n0 c0 w0 (pc + 3) als (ztag g (zm S a (f : Int)) :: t) S) : zSnd p l e R s m args below meth c Q s0.heap.size b0 L xs b2 ys D DA nL A0 n0 c0 w0 pc als (vr a :: t) S := by
  intro A H ls st locs h1 h2 h3 h4 h5 h6 h7 h8
  obtain ⟨_, st, rfl, ⟨rfl, g3, g4⟩, hp⟩ := zRs_cons h2
  rw [zrf (zne0 h3.1 hk (by omega))]
  obtain ⟨q3, qn⟩ := h3.1.lt3 hk (by omega) (by omega)
  have hwg := zws_get (DA := DA) (A := A) q3 qn
  rw [zent_o hk] at hwg
  have hfit := h3.1.2.2.2.2.2.1 a (f : Int)
  rw [hk, zst_obj (by omega) (by omega), Nat.add_sub_cancel_left, Int.toNat_natCast] at hfit
  have hz := zdf ci hci f hf
  refine va_get (ref := zRX ci) (Ts := u_ws (zRX ci) (zTX ci) (zN ci)) hx hb (fun w hw => w0'.wd ws (zcw ci hci w hw).1 (zcw ci hci w hw).2 _) (fun _ h => h) hown (w0'.K ws) h3.2.1 _ hwg (zcl_get ci hci) f hf (w0'.wd ws hw rfl _) (by rw [hz.2]; exact fun _ h => h)
    (v := ztv A (zcode (zfT ci f)) (zm S a (f : Int))) (by rw [List.getElem?_map, List.getElem?_range hf]; rfl) hdg ?_
  subst hg
  exact k A H ls _ locs h1 ⟨ztv_rel hz.1 hfit, hp⟩ h3 h4 h5 h6 h7 h8
theorem zs_putfield {a z : Int} {v : zV} {i f ci g : Nat} {t : List zV} (hx : p.tables.exec = Jvm.exec) (hb : c.code = cc) (w0' : zW0 l s0 args0 D DA b0 L xs b2 ys) (ws : zWs s0 s) (hown : s.vm.findClass own = some m.cls) (hdg : decode cc pc = .ok (.putfield i, 3)) (hci : ci < 13) (hf : f < zN ci) (hg : g = zcode (zfT ci f)) (hw : Cond.fieldLink own i (zRX ci) (zTX ci f).2.1 (zTX ci f).2.2.1 ∈ lw_tbl) (hk : (zk S a).1 = 20 + ci) (hfin : (zTX ci f).2.2.2 = false ∨ (meth.name = "<init>" ∧ zRX ci = own)) (hv : zpv g v z) (k : zSnd p l e R s m args below meth c Q s0.heap.size b0 L xs b2 ys D DA nL A0 n0 c0 w0 (pc + 3) als t (zput S a (f : Int) z)) : zSnd p l e R s m args below meth c Q s0.heap.size b0 L xs b2 ys D DA nL A0 n0 c0 w0 pc als (v :: vr a :: t) S := by
  intro A H ls st locs h1 h2 h3 h4 h5 h6 h7 h8
  obtain ⟨V, st, rfl, hV, ho⟩ := zRs_cons h2
  obtain ⟨_, st, rfl, ⟨rfl, g3, g4⟩, hp⟩ := zRs_cons ho
  rw [zrf (zne0 h3.1 hk (by omega))]
  obtain ⟨q3, qn⟩ := h3.1.lt3 hk (by omega) (by omega)
  have hwg := zws_get (DA := DA) (A := A) q3 qn
  rw [zent_o hk] at hwg
  have hz := zdf ci hci f hf
  have key : V = ztv A (zcode (zfT ci f)) z ∧ zfit (zn S) (zcode (zfT ci f)) z ∧ narrow (zfT ci f) V = V ∧ fits (zfT ci f) V = true := by
    rw [← hg]
    rcases hv with ⟨rfl, hr⟩ | ⟨rfl, rfl⟩ | ⟨rfl, rfl⟩
    · obtain ⟨x, rfl, rfl⟩ := hV
      have h9 := i32_in x
      have hft : (g = 0 ∨ g = 2 ∨ g = 3 ∨ g = 4) ∧ zfit (zn S) g x.toInt := by
        rcases hr with rfl | ⟨rfl, hr⟩ | ⟨rfl, hr⟩ | ⟨rfl, hr⟩
        · exact ⟨Or.inl rfl, h9⟩
        · exact ⟨Or.inr (Or.inl rfl), hr⟩
        · exact ⟨Or.inr (Or.inr (Or.inl rfl)), hr⟩
        · exact ⟨Or.inr (Or.inr (Or.inr rfl)), hr⟩
      have hn := znar hg.symm hft
      refine ⟨?_, hft.2, hn.1, hn.2⟩
      rcases hft.1 with rfl | rfl | rfl | rfl <;> (show _ = Value.int (Int32.ofInt x.toInt); rw [Int32.ofInt_toInt])
    · obtain ⟨x, rfl, rfl⟩ := hV
      refine ⟨by show _ = Value.long (Int64.ofInt x.toInt); rw [Int64.ofInt_toInt], i64_in x, ?_, ?_⟩
      · cases hq : zfT ci f <;> rw [hq] at hg <;> first | rfl | cases hg
      · cases hq : zfT ci f <;> rw [hq] at hg <;> first | rfl | cases hg
    · obtain ⟨rfl, r1, r2⟩ := hV
      refine ⟨rfl, ⟨r1, r2⟩, ?_, ?_⟩
      · cases hq : zfT ci f <;> rw [hq] at hg <;> first | rfl | cases hg
      · unfold zad
        cases hq : zfT ci f <;> rw [hq] at hg <;> first | (split <;> rfl) | cases hg
  obtain ⟨hV2, hfit, hn, hft⟩ := key
  have hzs : zfit (zn S) (zst (zk S a).1 (f : Int)) z := by rw [hk, zst_obj (by omega) (by omega), Nat.add_sub_cancel_left, Int.toNat_natCast]; exact hfit
  have hE := zE_obj (DA := DA) (A := A) (z := z) hk hf
  rw [← hV2] at hE
  have hts : ∀ w ∈ u_ws (zRX ci) (zTX ci) (zN ci), w.before args s = true := fun w hw => w0'.wd ws (zcw ci hci w hw).1 (zcw ci hci w hw).2 _
  have hsame : ∀ x, s.fieldFound? (zTX ci f).1 (zTX ci f).2.1 (zTX ci f).2.2.1 = some x → s.fieldFound? (zRX ci) (zTX ci f).2.1 (zTX ci f).2.2.1 = some x := by rw [hz.2]; exact fun _ h => h
  have hl : f < ((List.range (zN ci)).map fun j : Nat => ztv A (zcode (zfT ci j)) (zm S a (j : Int))).length := by rw [List.length_map, List.length_range]; exact hf
  by_cases hfi : (zTX ci f).2.2.2 = false
  · refine va_put (ref := zRX ci) hx hb hts (fun _ h => h) (zfT ci) (zty ci hci) (znm ci hci) hown (w0'.K ws) h3.2.1 h3.2.2.1 h4 _ hwg (zcl_get ci hci) f hf (w0'.wd ws hw rfl _) hsame hfi (zty ci hci f hf) hn hft hl hdg fun H1 locs1 hP hD hS => ?_
    exact k A H1 ls _ locs1 h1 hp (h3.put q3 qn hzs hE hP hD) hS h5 h6 h7 h8
  · have hfin2 := hfin.resolve_left hfi
    refine va_putF (ref := zRX ci) hx hb hts (fun _ h => h) (zfT ci) (zty ci hci) (znm ci hci) hown (w0'.K ws) h3.2.1 h3.2.2.1 h4 _ hwg (zcl_get ci hci) f hf (w0'.wd ws hw rfl _) hsame (by cases hq : (zTX ci f).2.2.2; exact absurd hq hfi; rfl) hfin2.1 (hz.2.trans hfin2.2) (zty ci hci f hf) hn hft hl hdg fun H1 locs1 hP hD hS => ?_
    exact k A H1 ls _ locs1 h1 hp (h3.put q3 qn hzs hE hP hD) hS h5 h6 h7 h8
end
