/-! An instruction, a row: locals, stack, numbers, jumps. -/
section
variable {p : Program} {l : Launch} {e : Env} {R : Room} {s s0 : State} {m : MethodId} {args args0 : Array Value} {below : List Frame} {meth : Method} {c : Code} {Q : State → Prop} {cc : ByteArray}
variable {b0 L b2 : Nat} {xs ys : Nat → Int32} {D : va_G} {DA : Nat → ClassId} {nL : Nat} {A0 : Int → Nat} {n0 c0 w0 : Nat} {pc : Nat} {als ast : List zV} {S : zS} {own : String}
theorem zs_iconst {i : Int} (hx : p.tables.exec = Jvm.exec) (hb : c.code = cc) (hdg : decode cc pc = .ok (.iconst i, 1)) (hi : -2147483648 ≤ i ∧ i < 2147483648) (k : zSnd p l e R s m args below meth c Q s0.heap.size b0 L xs b2 ys D DA nL A0 n0 c0 w0 (pc + 1) als (vi i :: ast) S) : zSnd p l e R s m args below meth c Q s0.heap.size b0 L xs b2 ys D DA nL A0 n0 c0 w0 pc als ast S := by
  intro A H ls st locs h1 h2 h3 h4 h5 h6 h7 h8
  exact lv_iconst hx hb hdg rfl (k A H ls _ locs h1 ⟨⟨_, rfl, i32_of hi.1 hi.2⟩, h2⟩ h3 h4 h5 h6 h7 h8)
theorem zs_bipush {i : Int} (hx : p.tables.exec = Jvm.exec) (hb : c.code = cc) (hdg : decode cc pc = .ok (.bipush i, 2)) (hi : -128 ≤ i ∧ i < 128) (k : zSnd p l e R s m args below meth c Q s0.heap.size b0 L xs b2 ys D DA nL A0 n0 c0 w0 (pc + 2) als (vi i :: ast) S) : zSnd p l e R s m args below meth c Q s0.heap.size b0 L xs b2 ys D DA nL A0 n0 c0 w0 pc als ast S := by
  intro A H ls st locs h1 h2 h3 h4 h5 h6 h7 h8
  exact lv_bipush hx hb hdg rfl (k A H ls _ locs h1 ⟨⟨_, rfl, by rw [Int8.toInt_toInt32]; exact Int8.toInt_ofInt_of_le hi.1 hi.2⟩, h2⟩ h3 h4 h5 h6 h7 h8)
theorem zs_sipush {i : Int} (hx : p.tables.exec = Jvm.exec) (hb : c.code = cc) (hdg : decode cc pc = .ok (.sipush i, 3)) (hi : -32768 ≤ i ∧ i < 32768) (k : zSnd p l e R s m args below meth c Q s0.heap.size b0 L xs b2 ys D DA nL A0 n0 c0 w0 (pc + 3) als (vi i :: ast) S) : zSnd p l e R s m args below meth c Q s0.heap.size b0 L xs b2 ys D DA nL A0 n0 c0 w0 pc als ast S := by
  intro A H ls st locs h1 h2 h3 h4 h5 h6 h7 h8
  exact lv_sipush hx hb hdg rfl (k A H ls _ locs h1 ⟨⟨_, rfl, by rw [Int16.toInt_toInt32]; exact Int16.toInt_ofInt_of_le hi.1 hi.2⟩, h2⟩ h3 h4 h5 h6 h7 h8)
theorem zs_lconst {f : Fin 2} {a : Nat} (hx : p.tables.exec = Jvm.exec) (hb : c.code = cc) (hdg : decode cc pc = .ok (.lconst f, 1)) (hi : (f : Nat) = a) (k : zSnd p l e R s m args below meth c Q s0.heap.size b0 L xs b2 ys D DA nL A0 n0 c0 w0 (pc + 1) als (vl (a : Int) :: ast) S) : zSnd p l e R s m args below meth c Q s0.heap.size b0 L xs b2 ys D DA nL A0 n0 c0 w0 pc als ast S := by
  intro A H ls st locs h1 h2 h3 h4 h5 h6 h7 h8
  exact lv_lconst hx hb hdg rfl (k A H ls _ locs h1 ⟨⟨_, rfl, by rw [hi]; exact Int64.toInt_ofNat_of_lt (by have := f.isLt; omega)⟩, h2⟩ h3 h4 h5 h6 h7 h8)
theorem zs_ldc {i a b : Nat} (hx : p.tables.exec = Jvm.exec) (hb : c.code = cc) (w0' : zW0 l s0 args0 D DA b0 L xs b2 ys) (ws : zWs s0 s) (hown : s.vm.findClass own = some m.cls) (hdg : decode cc pc = .ok (.ldc i, 2)) (ha : a < 2147483648) (hw : Cond.constant own i (Int32.ofInt (zsg a b)) ∈ lw_tbl) (k : zSnd p l e R s m args below meth c Q s0.heap.size b0 L xs b2 ys D DA nL A0 n0 c0 w0 (pc + 2) als (vi (zsg a b) :: ast) S) : zSnd p l e R s m args below meth c Q s0.heap.size b0 L xs b2 ys D DA nL A0 n0 c0 w0 pc als ast S := by
  intro A H ls st locs h1 h2 h3 h4 h5 h6 h7 h8
  exact lv_ldc hx hb hown (w0'.wd ws hw rfl _) hdg (k A H ls _ locs h1 ⟨⟨_, rfl, i32_of (zsg_r (Int.ofNat_lt.mpr ha)).1 (zsg_r (Int.ofNat_lt.mpr ha)).2⟩, h2⟩ h3 h4 h5 h6 h7 h8)
theorem zs_ldc_w {i a b : Nat} (hx : p.tables.exec = Jvm.exec) (hb : c.code = cc) (w0' : zW0 l s0 args0 D DA b0 L xs b2 ys) (ws : zWs s0 s) (hown : s.vm.findClass own = some m.cls) (hdg : decode cc pc = .ok (.ldc_w i, 3)) (ha : a < 2147483648) (hw : Cond.constant own i (Int32.ofInt (zsg a b)) ∈ lw_tbl) (k : zSnd p l e R s m args below meth c Q s0.heap.size b0 L xs b2 ys D DA nL A0 n0 c0 w0 (pc + 3) als (vi (zsg a b) :: ast) S) : zSnd p l e R s m args below meth c Q s0.heap.size b0 L xs b2 ys D DA nL A0 n0 c0 w0 pc als ast S := by
  intro A H ls st locs h1 h2 h3 h4 h5 h6 h7 h8
  exact lv_ldcw hx hb hown (w0'.wd ws hw rfl _) hdg (k A H ls _ locs h1 ⟨⟨_, rfl, i32_of (zsg_r (Int.ofNat_lt.mpr ha)).1 (zsg_r (Int.ofNat_lt.mpr ha)).2⟩, h2⟩ h3 h4 h5 h6 h7 h8)
theorem zs_ldc2_w {i a b : Nat} (hx : p.tables.exec = Jvm.exec) (hb : c.code = cc) (w0' : zW0 l s0 args0 D DA b0 L xs b2 ys) (ws : zWs s0 s) (hown : s.vm.findClass own = some m.cls) (hdg : decode cc pc = .ok (.ldc2_w i, 3)) (ha : a < 9223372036854775808) (hw : Cond.constantLong own i (Int64.ofInt (zsg a b)) ∈ lw_tbl) (k : zSnd p l e R s m args below meth c Q s0.heap.size b0 L xs b2 ys D DA nL A0 n0 c0 w0 (pc + 3) als (vl (zsg a b) :: ast) S) : zSnd p l e R s m args below meth c Q s0.heap.size b0 L xs b2 ys D DA nL A0 n0 c0 w0 pc als ast S := by
  intro A H ls st locs h1 h2 h3 h4 h5 h6 h7 h8
  exact lv_ldc2 hx hb hown (w0'.wd ws hw rfl _) hdg (k A H ls _ locs h1 ⟨⟨_, rfl, i64_of (zsg_r (Int.ofNat_lt.mpr ha)).1 (zsg_r (Int.ofNat_lt.mpr ha)).2⟩, h2⟩ h3 h4 h5 h6 h7 h8)
theorem zs_aconst_null  (hx : p.tables.exec = Jvm.exec) (hb : c.code = cc) (hdg : decode cc pc = .ok (.aconst_null, 1)) (k : zSnd p l e R s m args below meth c Q s0.heap.size b0 L xs b2 ys D DA nL A0 n0 c0 w0 (pc + 1) als (vr 0 :: ast) S) : zSnd p l e R s m args below meth c Q s0.heap.size b0 L xs b2 ys D DA nL A0 n0 c0 w0 pc als ast S := by
  intro A H ls st locs h1 h2 h3 h4 h5 h6 h7 h8
  exact lv_null hx hb hdg (k A H ls _ locs h1 ⟨⟨rfl, by omega, by have := h3.1.1; omega⟩, h2⟩ h3 h4 h5 h6 h7 h8)
theorem zs_getstatic {i : Nat} (hx : p.tables.exec = Jvm.exec) (hb : c.code = cc) (w0' : zW0 l s0 args0 D DA b0 L xs b2 ys) (ws : zWs s0 s) (hown : s.vm.findClass own = some m.cls) (hdg : decode cc pc = .ok (.getstatic i, 3)) (hw : Cond.fieldLink own i RX12 "LETTER_CELLS" "[I" ∈ lw_tbl) (k : zSnd p l e R s m args below meth c Q s0.heap.size b0 L xs b2 ys D DA nL A0 n0 c0 w0 (pc + 3) als (vr 2 :: ast) S) : zSnd p l e R s m args below meth c Q s0.heap.size b0 L xs b2 ys D DA nL A0 n0 c0 w0 pc als ast S := by
  intro A H ls st locs h1 h2 h3 h4 h5 h6 h7 h8
  exact va_gets hx hb (w0'.Z ws) h4 hown (w0'.wd ws hw rfl _) (fun _ h => h) hdg (k A H ls _ locs h1 ⟨⟨by unfold zad; rw [if_neg (by omega), h3.2.2.2.2.1]; rfl, by omega, by have := h3.1.1; omega⟩, h2⟩ h3 h4 h5 h6 h7 h8)
theorem zs_iload_n {q : Fin 4} {i : Nat} {v : Int} (hx : p.tables.exec = Jvm.exec) (hb : c.code = cc) (hdg : decode cc pc = .ok (.iload_n q, 1)) (hq : (q : Nat) = i) (hl : als[i]? = some (vi v)) (k : zSnd p l e R s m args below meth c Q s0.heap.size b0 L xs b2 ys D DA nL A0 n0 c0 w0 (pc + 1) als (vi v :: ast) S) : zSnd p l e R s m args below meth c Q s0.heap.size b0 L xs b2 ys D DA nL A0 n0 c0 w0 pc als ast S := by
  intro A H ls st locs h1 h2 h3 h4 h5 h6 h7 h8
  obtain ⟨_, g1, x, rfl, rfl⟩ := h1.2.2.2 i _ hl (fun z => by cases z)
  exact lv_iload_n hx hb hdg hq g1 (k A H ls _ locs h1 ⟨⟨x, rfl, rfl⟩, h2⟩ h3 h4 h5 h6 h7 h8)
theorem zs_iload {q : Nat} {i : Nat} {v : Int} (hx : p.tables.exec = Jvm.exec) (hb : c.code = cc) (hdg : decode cc pc = .ok (.iload q, 2)) (hq : q = i) (hl : als[i]? = some (vi v)) (k : zSnd p l e R s m args below meth c Q s0.heap.size b0 L xs b2 ys D DA nL A0 n0 c0 w0 (pc + 2) als (vi v :: ast) S) : zSnd p l e R s m args below meth c Q s0.heap.size b0 L xs b2 ys D DA nL A0 n0 c0 w0 pc als ast S := by
  intro A H ls st locs h1 h2 h3 h4 h5 h6 h7 h8
  obtain ⟨_, g1, x, rfl, rfl⟩ := h1.2.2.2 i _ hl (fun z => by cases z)
  subst hq
  exact lv_iload hx hb hdg g1 (k A H ls _ locs h1 ⟨⟨x, rfl, rfl⟩, h2⟩ h3 h4 h5 h6 h7 h8)
theorem zs_lload_n {q : Fin 4} {i : Nat} {v : Int} (hx : p.tables.exec = Jvm.exec) (hb : c.code = cc) (hdg : decode cc pc = .ok (.lload_n q, 1)) (hq : (q : Nat) = i) (hl : als[i]? = some (vl v)) (k : zSnd p l e R s m args below meth c Q s0.heap.size b0 L xs b2 ys D DA nL A0 n0 c0 w0 (pc + 1) als (vl v :: ast) S) : zSnd p l e R s m args below meth c Q s0.heap.size b0 L xs b2 ys D DA nL A0 n0 c0 w0 pc als ast S := by
  intro A H ls st locs h1 h2 h3 h4 h5 h6 h7 h8
  obtain ⟨_, g1, x, rfl, rfl⟩ := h1.2.2.2 i _ hl (fun z => by cases z)
  exact lv_lload_n hx hb hdg hq g1 (k A H ls _ locs h1 ⟨⟨x, rfl, rfl⟩, h2⟩ h3 h4 h5 h6 h7 h8)
theorem zs_lload {q : Nat} {i : Nat} {v : Int} (hx : p.tables.exec = Jvm.exec) (hb : c.code = cc) (hdg : decode cc pc = .ok (.lload q, 2)) (hq : q = i) (hl : als[i]? = some (vl v)) (k : zSnd p l e R s m args below meth c Q s0.heap.size b0 L xs b2 ys D DA nL A0 n0 c0 w0 (pc + 2) als (vl v :: ast) S) : zSnd p l e R s m args below meth c Q s0.heap.size b0 L xs b2 ys D DA nL A0 n0 c0 w0 pc als ast S := by
  intro A H ls st locs h1 h2 h3 h4 h5 h6 h7 h8
  obtain ⟨_, g1, x, rfl, rfl⟩ := h1.2.2.2 i _ hl (fun z => by cases z)
  subst hq
  exact lv_lload hx hb hdg g1 (k A H ls _ locs h1 ⟨⟨x, rfl, rfl⟩, h2⟩ h3 h4 h5 h6 h7 h8)
theorem zs_aload_n {q : Fin 4} {i : Nat} {v : Int} (hx : p.tables.exec = Jvm.exec) (hb : c.code = cc) (hdg : decode cc pc = .ok (.aload_n q, 1)) (hq : (q : Nat) = i) (hl : als[i]? = some (vr v)) (k : zSnd p l e R s m args below meth c Q s0.heap.size b0 L xs b2 ys D DA nL A0 n0 c0 w0 (pc + 1) als (vr v :: ast) S) : zSnd p l e R s m args below meth c Q s0.heap.size b0 L xs b2 ys D DA nL A0 n0 c0 w0 pc als ast S := by
  intro A H ls st locs h1 h2 h3 h4 h5 h6 h7 h8
  obtain ⟨V, g1, g2⟩ := h1.2.2.2 i _ hl (fun z => by cases z)
  have k' := k A H ls (V :: st) locs h1 ⟨g2, h2⟩ h3 h4 h5 h6 h7 h8
  obtain ⟨rfl, -, -⟩ := g2
  unfold zad at g1 k'
  split at g1
  · rename_i hz
    rw [if_pos hz] at k'
    exact lv_aload_nN hx hb hdg hq g1 k'
  · rename_i hz
    rw [if_neg hz] at k'
    exact lv_aload_n hx hb hdg hq g1 k'
theorem zs_aload {q : Nat} {i : Nat} {v : Int} (hx : p.tables.exec = Jvm.exec) (hb : c.code = cc) (hdg : decode cc pc = .ok (.aload q, 2)) (hq : q = i) (hl : als[i]? = some (vr v)) (k : zSnd p l e R s m args below meth c Q s0.heap.size b0 L xs b2 ys D DA nL A0 n0 c0 w0 (pc + 2) als (vr v :: ast) S) : zSnd p l e R s m args below meth c Q s0.heap.size b0 L xs b2 ys D DA nL A0 n0 c0 w0 pc als ast S := by
  intro A H ls st locs h1 h2 h3 h4 h5 h6 h7 h8
  obtain ⟨V, g1, g2⟩ := h1.2.2.2 i _ hl (fun z => by cases z)
  have k' := k A H ls (V :: st) locs h1 ⟨g2, h2⟩ h3 h4 h5 h6 h7 h8
  obtain ⟨rfl, -, -⟩ := g2
  subst hq
  unfold zad at g1 k'
  split at g1
  · rename_i hz
    rw [if_pos hz] at k'
    exact lv_aloadN hx hb hdg g1 k'
  · rename_i hz
    rw [if_neg hz] at k'
    exact lv_aload hx hb hdg g1 k'
theorem zs_istore_n {q : Fin 4} {i : Nat} {v : Int} {t : List zV} (hx : p.tables.exec = Jvm.exec) (hb : c.code = cc) (hdg : decode cc pc = .ok (.istore_n q, 1)) (hq : (q : Nat) = i) (hi : i < nL) (k : zSnd p l e R s m args below meth c Q s0.heap.size b0 L xs b2 ys D DA nL A0 n0 c0 w0 (pc + 1) (zst1 i (vi v) als) t S) : zSnd p l e R s m args below meth c Q s0.heap.size b0 L xs b2 ys D DA nL A0 n0 c0 w0 pc als (vi v :: t) S := by
  intro A H ls st locs h1 h2 h3 h4 h5 h6 h7 h8
  obtain ⟨_, st, rfl, ⟨x, rfl, rfl⟩, hp⟩ := zRs_cons h2
  exact lv_istore_n hx hb hdg hq (zall_has h1.2.1 h1.2.2.1) hi rfl fun ls' g => k A H ls' st locs (h1.st1 ⟨x, rfl, rfl⟩ g) hp h3 h4 h5 h6 h7 h8
theorem zs_istore {q : Nat} {i : Nat} {v : Int} {t : List zV} (hx : p.tables.exec = Jvm.exec) (hb : c.code = cc) (hdg : decode cc pc = .ok (.istore q, 2)) (hq : q = i) (hi : i < nL) (k : zSnd p l e R s m args below meth c Q s0.heap.size b0 L xs b2 ys D DA nL A0 n0 c0 w0 (pc + 2) (zst1 i (vi v) als) t S) : zSnd p l e R s m args below meth c Q s0.heap.size b0 L xs b2 ys D DA nL A0 n0 c0 w0 pc als (vi v :: t) S := by
  intro A H ls st locs h1 h2 h3 h4 h5 h6 h7 h8
  obtain ⟨_, st, rfl, ⟨x, rfl, rfl⟩, hp⟩ := zRs_cons h2
  subst hq
  exact lv_istore hx hb hdg (zall_has h1.2.1 h1.2.2.1) hi rfl fun ls' g => k A H ls' st locs (h1.st1 ⟨x, rfl, rfl⟩ g) hp h3 h4 h5 h6 h7 h8
theorem zs_lstore_n {q : Fin 4} {i : Nat} {v : Int} {t : List zV} (hx : p.tables.exec = Jvm.exec) (hb : c.code = cc) (hdg : decode cc pc = .ok (.lstore_n q, 1)) (hq : (q : Nat) = i) (hi : i + 1 < nL) (k : zSnd p l e R s m args below meth c Q s0.heap.size b0 L xs b2 ys D DA nL A0 n0 c0 w0 (pc + 1) (zst2 i (vl v) als) t S) : zSnd p l e R s m args below meth c Q s0.heap.size b0 L xs b2 ys D DA nL A0 n0 c0 w0 pc als (vl v :: t) S := by
  intro A H ls st locs h1 h2 h3 h4 h5 h6 h7 h8
  obtain ⟨_, st, rfl, ⟨x, rfl, rfl⟩, hp⟩ := zRs_cons h2
  exact lv_lstore_n hx hb hdg hq (zall_has h1.2.1 h1.2.2.1) hi rfl fun ls' g => k A H ls' st locs (h1.st2 ⟨x, rfl, rfl⟩ g) hp h3 h4 h5 h6 h7 h8
theorem zs_lstore {q : Nat} {i : Nat} {v : Int} {t : List zV} (hx : p.tables.exec = Jvm.exec) (hb : c.code = cc) (hdg : decode cc pc = .ok (.lstore q, 2)) (hq : q = i) (hi : i + 1 < nL) (k : zSnd p l e R s m args below meth c Q s0.heap.size b0 L xs b2 ys D DA nL A0 n0 c0 w0 (pc + 2) (zst2 i (vl v) als) t S) : zSnd p l e R s m args below meth c Q s0.heap.size b0 L xs b2 ys D DA nL A0 n0 c0 w0 pc als (vl v :: t) S := by
  intro A H ls st locs h1 h2 h3 h4 h5 h6 h7 h8
  obtain ⟨_, st, rfl, ⟨x, rfl, rfl⟩, hp⟩ := zRs_cons h2
  subst hq
  exact lv_lstore hx hb hdg (zall_has h1.2.1 h1.2.2.1) hi rfl fun ls' g => k A H ls' st locs (h1.st2 ⟨x, rfl, rfl⟩ g) hp h3 h4 h5 h6 h7 h8
theorem zs_astore_n {q : Fin 4} {i : Nat} {v : Int ⊕ Unit} {t : List zV} (hx : p.tables.exec = Jvm.exec) (hb : c.code = cc) (hdg : decode cc pc = .ok (.astore_n q, 1)) (hq : (q : Nat) = i) (hi : i < nL) (k : zSnd p l e R s m args below meth c Q s0.heap.size b0 L xs b2 ys D DA nL A0 n0 c0 w0 (pc + 1) (zst1 i (.inr (.inr v)) als) t S) : zSnd p l e R s m args below meth c Q s0.heap.size b0 L xs b2 ys D DA nL A0 n0 c0 w0 pc als (.inr (.inr v) :: t) S := by
  intro A H ls st locs h1 h2 h3 h4 h5 h6 h7 h8
  obtain ⟨V, st, rfl, g2, hp⟩ := zRs_cons h2
  rcases v with z | z
  · obtain ⟨rfl, g3, g4⟩ := g2
    by_cases hz : z = 0
    · subst hz
      exact lv_astore_nN hx hb hdg hq (zall_has h1.2.1 h1.2.2.1) hi rfl fun ls' g => k A H ls' st locs (h1.st1 (V := .null) ⟨rfl, g3, g4⟩ g) hp h3 h4 h5 h6 h7 h8
    · have e : va_rf (zad A z) = .ref (A z) := by unfold zad; rw [if_neg hz]; rfl
      rw [e]
      exact lv_astore_n hx hb hdg hq (zall_has h1.2.1 h1.2.2.1) hi rfl fun ls' g => k A H ls' st locs (h1.st1 (V := .ref (A z)) ⟨e.symm, g3, g4⟩ g) hp h3 h4 h5 h6 h7 h8
  · obtain ⟨q9, rfl⟩ := g2
    exact lv_astore_n hx hb hdg hq (zall_has h1.2.1 h1.2.2.1) hi rfl fun ls' g => k A H ls' st locs (h1.st1 ⟨q9, rfl⟩ g) hp h3 h4 h5 h6 h7 h8
theorem zs_astore {q : Nat} {i : Nat} {v : Int ⊕ Unit} {t : List zV} (hx : p.tables.exec = Jvm.exec) (hb : c.code = cc) (hdg : decode cc pc = .ok (.astore q, 2)) (hq : q = i) (hi : i < nL) (k : zSnd p l e R s m args below meth c Q s0.heap.size b0 L xs b2 ys D DA nL A0 n0 c0 w0 (pc + 2) (zst1 i (.inr (.inr v)) als) t S) : zSnd p l e R s m args below meth c Q s0.heap.size b0 L xs b2 ys D DA nL A0 n0 c0 w0 pc als (.inr (.inr v) :: t) S := by
  intro A H ls st locs h1 h2 h3 h4 h5 h6 h7 h8
  obtain ⟨V, st, rfl, g2, hp⟩ := zRs_cons h2
  subst hq
  rcases v with z | z
  · obtain ⟨rfl, g3, g4⟩ := g2
    by_cases hz : z = 0
    · subst hz
      exact lv_astoreN hx hb hdg (zall_has h1.2.1 h1.2.2.1) hi rfl fun ls' g => k A H ls' st locs (h1.st1 (V := .null) ⟨rfl, g3, g4⟩ g) hp h3 h4 h5 h6 h7 h8
    · have e : va_rf (zad A z) = .ref (A z) := by unfold zad; rw [if_neg hz]; rfl
      rw [e]
      exact lv_astore hx hb hdg (zall_has h1.2.1 h1.2.2.1) hi rfl fun ls' g => k A H ls' st locs (h1.st1 (V := .ref (A z)) ⟨e.symm, g3, g4⟩ g) hp h3 h4 h5 h6 h7 h8
  · obtain ⟨q9, rfl⟩ := g2
    exact lv_astore hx hb hdg (zall_has h1.2.1 h1.2.2.1) hi rfl fun ls' g => k A H ls' st locs (h1.st1 ⟨q9, rfl⟩ g) hp h3 h4 h5 h6 h7 h8
theorem zs_iinc {q i : Nat} {d v : Int} (hx : p.tables.exec = Jvm.exec) (hb : c.code = cc) (hdg : decode cc pc = .ok (.iinc q d, 3)) (hq : q = i) (hi : i < nL) (hd : -2147483648 ≤ d ∧ d < 2147483648) (hl : als[i]? = some (vi v)) (k : zSnd p l e R s m args below meth c Q s0.heap.size b0 L xs b2 ys D DA nL A0 n0 c0 w0 (pc + 3) (zst1 i (vi (z32 (v + d))) als) ast S) : zSnd p l e R s m args below meth c Q s0.heap.size b0 L xs b2 ys D DA nL A0 n0 c0 w0 pc als ast S := by
  intro A H ls st locs h1 h2 h3 h4 h5 h6 h7 h8
  obtain ⟨_, g1, x, rfl, rfl⟩ := h1.2.2.2 i _ hl (fun z => by cases z)
  subst hq
  obtain ⟨j, g2⟩ := List.getElem?_of_mem (zall_mem.mpr g1)
  exact lv_iinc hx hb hdg (zall_has h1.2.1 h1.2.2.1) g2 rfl hi rfl fun ls' g => k A H ls' st locs (h1.st1 ⟨_, rfl, by rw [i32_add, i32_of hd.1 hd.2]⟩ g) h2 h3 h4 h5 h6 h7 h8
theorem zs_iadd {x y : Int} {t : List zV} (hx : p.tables.exec = Jvm.exec) (hb : c.code = cc) (hdg : decode cc pc = .ok (.iadd, 1)) (k : zSnd p l e R s m args below meth c Q s0.heap.size b0 L xs b2 ys D DA nL A0 n0 c0 w0 (pc + 1) als (vi (z32 (x + y)) :: t) S) : zSnd p l e R s m args below meth c Q s0.heap.size b0 L xs b2 ys D DA nL A0 n0 c0 w0 pc als (vi y :: vi x :: t) S := by
  intro A H ls st locs h1 h2 h3 h4 h5 h6 h7 h8
  obtain ⟨_, st, rfl, ⟨u, rfl, rfl⟩, ho⟩ := zRs_cons h2
  obtain ⟨_, st, rfl, ⟨v, rfl, rfl⟩, hp⟩ := zRs_cons ho
  exact lv_iadd hx hb hdg (k A H ls _ locs h1 ⟨⟨_, rfl, i32_add _ _⟩, hp⟩ h3 h4 h5 h6 h7 h8)
theorem zs_isub {x y : Int} {t : List zV} (hx : p.tables.exec = Jvm.exec) (hb : c.code = cc) (hdg : decode cc pc = .ok (.isub, 1)) (k : zSnd p l e R s m args below meth c Q s0.heap.size b0 L xs b2 ys D DA nL A0 n0 c0 w0 (pc + 1) als (vi (z32 (x - y)) :: t) S) : zSnd p l e R s m args below meth c Q s0.heap.size b0 L xs b2 ys D DA nL A0 n0 c0 w0 pc als (vi y :: vi x :: t) S := by
  intro A H ls st locs h1 h2 h3 h4 h5 h6 h7 h8
  obtain ⟨_, st, rfl, ⟨u, rfl, rfl⟩, ho⟩ := zRs_cons h2
  obtain ⟨_, st, rfl, ⟨v, rfl, rfl⟩, hp⟩ := zRs_cons ho
  exact lv_isub hx hb hdg (k A H ls _ locs h1 ⟨⟨_, rfl, i32_sub _ _⟩, hp⟩ h3 h4 h5 h6 h7 h8)
theorem zs_imul {x y : Int} {t : List zV} (hx : p.tables.exec = Jvm.exec) (hb : c.code = cc) (hdg : decode cc pc = .ok (.imul, 1)) (k : zSnd p l e R s m args below meth c Q s0.heap.size b0 L xs b2 ys D DA nL A0 n0 c0 w0 (pc + 1) als (vi (z32 (x * y)) :: t) S) : zSnd p l e R s m args below meth c Q s0.heap.size b0 L xs b2 ys D DA nL A0 n0 c0 w0 pc als (vi y :: vi x :: t) S := by
  intro A H ls st locs h1 h2 h3 h4 h5 h6 h7 h8
  obtain ⟨_, st, rfl, ⟨u, rfl, rfl⟩, ho⟩ := zRs_cons h2
  obtain ⟨_, st, rfl, ⟨v, rfl, rfl⟩, hp⟩ := zRs_cons ho
  exact lv_imul hx hb hdg (k A H ls _ locs h1 ⟨⟨_, rfl, i32_mul _ _⟩, hp⟩ h3 h4 h5 h6 h7 h8)
theorem zs_iand {x y : Int} {t : List zV} (hx : p.tables.exec = Jvm.exec) (hb : c.code = cc) (hdg : decode cc pc = .ok (.iand, 1)) (k : zSnd p l e R s m args below meth c Q s0.heap.size b0 L xs b2 ys D DA nL A0 n0 c0 w0 (pc + 1) als (vi (zand x y) :: t) S) : zSnd p l e R s m args below meth c Q s0.heap.size b0 L xs b2 ys D DA nL A0 n0 c0 w0 pc als (vi y :: vi x :: t) S := by
  intro A H ls st locs h1 h2 h3 h4 h5 h6 h7 h8
  obtain ⟨_, st, rfl, ⟨u, rfl, rfl⟩, ho⟩ := zRs_cons h2
  obtain ⟨_, st, rfl, ⟨v, rfl, rfl⟩, hp⟩ := zRs_cons ho
  exact lv_iand hx hb hdg (k A H ls _ locs h1 ⟨⟨_, rfl, by unfold zand; rw [Int32.ofInt_toInt, Int32.ofInt_toInt]⟩, hp⟩ h3 h4 h5 h6 h7 h8)
theorem zs_ior {x y : Int} {t : List zV} (hx : p.tables.exec = Jvm.exec) (hb : c.code = cc) (hdg : decode cc pc = .ok (.ior, 1)) (k : zSnd p l e R s m args below meth c Q s0.heap.size b0 L xs b2 ys D DA nL A0 n0 c0 w0 (pc + 1) als (vi (zor x y) :: t) S) : zSnd p l e R s m args below meth c Q s0.heap.size b0 L xs b2 ys D DA nL A0 n0 c0 w0 pc als (vi y :: vi x :: t) S := by
  intro A H ls st locs h1 h2 h3 h4 h5 h6 h7 h8
  obtain ⟨_, st, rfl, ⟨u, rfl, rfl⟩, ho⟩ := zRs_cons h2
  obtain ⟨_, st, rfl, ⟨v, rfl, rfl⟩, hp⟩ := zRs_cons ho
  exact lv_ior hx hb hdg (k A H ls _ locs h1 ⟨⟨_, rfl, by unfold zor; rw [Int32.ofInt_toInt, Int32.ofInt_toInt]⟩, hp⟩ h3 h4 h5 h6 h7 h8)
theorem zs_ixor {x y : Int} {t : List zV} (hx : p.tables.exec = Jvm.exec) (hb : c.code = cc) (hdg : decode cc pc = .ok (.ixor, 1)) (k : zSnd p l e R s m args below meth c Q s0.heap.size b0 L xs b2 ys D DA nL A0 n0 c0 w0 (pc + 1) als (vi (zxor x y) :: t) S) : zSnd p l e R s m args below meth c Q s0.heap.size b0 L xs b2 ys D DA nL A0 n0 c0 w0 pc als (vi y :: vi x :: t) S := by
  intro A H ls st locs h1 h2 h3 h4 h5 h6 h7 h8
  obtain ⟨_, st, rfl, ⟨u, rfl, rfl⟩, ho⟩ := zRs_cons h2
  obtain ⟨_, st, rfl, ⟨v, rfl, rfl⟩, hp⟩ := zRs_cons ho
  exact lv_ixor hx hb hdg (k A H ls _ locs h1 ⟨⟨_, rfl, by unfold zxor; rw [Int32.ofInt_toInt, Int32.ofInt_toInt]⟩, hp⟩ h3 h4 h5 h6 h7 h8)
theorem zs_ishl {x y : Int} {t : List zV} (hx : p.tables.exec = Jvm.exec) (hb : c.code = cc) (hdg : decode cc pc = .ok (.ishl, 1)) (k : zSnd p l e R s m args below meth c Q s0.heap.size b0 L xs b2 ys D DA nL A0 n0 c0 w0 (pc + 1) als (vi (zshl x y) :: t) S) : zSnd p l e R s m args below meth c Q s0.heap.size b0 L xs b2 ys D DA nL A0 n0 c0 w0 pc als (vi y :: vi x :: t) S := by
  intro A H ls st locs h1 h2 h3 h4 h5 h6 h7 h8
  obtain ⟨_, st, rfl, ⟨u, rfl, rfl⟩, ho⟩ := zRs_cons h2
  obtain ⟨_, st, rfl, ⟨v, rfl, rfl⟩, hp⟩ := zRs_cons ho
  exact lv_ishl hx hb hdg (k A H ls _ locs h1 ⟨⟨_, rfl, by unfold zshl; rw [Int32.ofInt_toInt, Int32.ofInt_toInt]⟩, hp⟩ h3 h4 h5 h6 h7 h8)
theorem zs_ishr {x y : Int} {t : List zV} (hx : p.tables.exec = Jvm.exec) (hb : c.code = cc) (hdg : decode cc pc = .ok (.ishr, 1)) (k : zSnd p l e R s m args below meth c Q s0.heap.size b0 L xs b2 ys D DA nL A0 n0 c0 w0 (pc + 1) als (vi (zshr x y) :: t) S) : zSnd p l e R s m args below meth c Q s0.heap.size b0 L xs b2 ys D DA nL A0 n0 c0 w0 pc als (vi y :: vi x :: t) S := by
  intro A H ls st locs h1 h2 h3 h4 h5 h6 h7 h8
  obtain ⟨_, st, rfl, ⟨u, rfl, rfl⟩, ho⟩ := zRs_cons h2
  obtain ⟨_, st, rfl, ⟨v, rfl, rfl⟩, hp⟩ := zRs_cons ho
  exact lv_ishr hx hb hdg (k A H ls _ locs h1 ⟨⟨_, rfl, by unfold zshr; rw [Int32.ofInt_toInt, Int32.ofInt_toInt]⟩, hp⟩ h3 h4 h5 h6 h7 h8)
theorem zs_iushr {x y : Int} {t : List zV} (hx : p.tables.exec = Jvm.exec) (hb : c.code = cc) (hdg : decode cc pc = .ok (.iushr, 1)) (k : zSnd p l e R s m args below meth c Q s0.heap.size b0 L xs b2 ys D DA nL A0 n0 c0 w0 (pc + 1) als (vi (zushr x y) :: t) S) : zSnd p l e R s m args below meth c Q s0.heap.size b0 L xs b2 ys D DA nL A0 n0 c0 w0 pc als (vi y :: vi x :: t) S := by
  intro A H ls st locs h1 h2 h3 h4 h5 h6 h7 h8
  obtain ⟨_, st, rfl, ⟨u, rfl, rfl⟩, ho⟩ := zRs_cons h2
  obtain ⟨_, st, rfl, ⟨v, rfl, rfl⟩, hp⟩ := zRs_cons ho
  exact lv_iushr hx hb hdg rfl (k A H ls _ locs h1 ⟨⟨_, rfl, by unfold zushr; rw [Int32.ofInt_toInt, Int32.ofInt_toInt]⟩, hp⟩ h3 h4 h5 h6 h7 h8)
theorem zs_idiv {x y : Int} {t : List zV} (hx : p.tables.exec = Jvm.exec) (hb : c.code = cc) (hdg : decode cc pc = .ok (.idiv, 1)) (hy : y ≠ 0) (k : zSnd p l e R s m args below meth c Q s0.heap.size b0 L xs b2 ys D DA nL A0 n0 c0 w0 (pc + 1) als (vi (z32 (x.tdiv y)) :: t) S) : zSnd p l e R s m args below meth c Q s0.heap.size b0 L xs b2 ys D DA nL A0 n0 c0 w0 pc als (vi y :: vi x :: t) S := by
  intro A H ls st locs h1 h2 h3 h4 h5 h6 h7 h8
  obtain ⟨_, st, rfl, ⟨u, rfl, rfl⟩, ho⟩ := zRs_cons h2
  obtain ⟨_, st, rfl, ⟨v, rfl, rfl⟩, hp⟩ := zRs_cons ho
  exact lv_idiv hx hb hdg (fun z => hy ((i32_eq0 u).mp z)) (k A H ls _ locs h1 ⟨⟨_, rfl, i32_div _ _⟩, hp⟩ h3 h4 h5 h6 h7 h8)
theorem zs_irem {x y : Int} {t : List zV} (hx : p.tables.exec = Jvm.exec) (hb : c.code = cc) (hdg : decode cc pc = .ok (.irem, 1)) (hy : y ≠ 0) (k : zSnd p l e R s m args below meth c Q s0.heap.size b0 L xs b2 ys D DA nL A0 n0 c0 w0 (pc + 1) als (vi (x.tmod y) :: t) S) : zSnd p l e R s m args below meth c Q s0.heap.size b0 L xs b2 ys D DA nL A0 n0 c0 w0 pc als (vi y :: vi x :: t) S := by
  intro A H ls st locs h1 h2 h3 h4 h5 h6 h7 h8
  obtain ⟨_, st, rfl, ⟨u, rfl, rfl⟩, ho⟩ := zRs_cons h2
  obtain ⟨_, st, rfl, ⟨v, rfl, rfl⟩, hp⟩ := zRs_cons ho
  exact lv_irem hx hb hdg (fun z => hy ((i32_eq0 u).mp z)) (k A H ls _ locs h1 ⟨⟨_, rfl, i32_rem _ _ hy⟩, hp⟩ h3 h4 h5 h6 h7 h8)
theorem zs_ladd {x y : Int} {t : List zV} (hx : p.tables.exec = Jvm.exec) (hb : c.code = cc) (hdg : decode cc pc = .ok (.ladd, 1)) (k : zSnd p l e R s m args below meth c Q s0.heap.size b0 L xs b2 ys D DA nL A0 n0 c0 w0 (pc + 1) als (vl (z64 (x + y)) :: t) S) : zSnd p l e R s m args below meth c Q s0.heap.size b0 L xs b2 ys D DA nL A0 n0 c0 w0 pc als (vl y :: vl x :: t) S := by
  intro A H ls st locs h1 h2 h3 h4 h5 h6 h7 h8
  obtain ⟨_, st, rfl, ⟨u, rfl, rfl⟩, ho⟩ := zRs_cons h2
  obtain ⟨_, st, rfl, ⟨v, rfl, rfl⟩, hp⟩ := zRs_cons ho
  exact lv_ladd hx hb hdg (k A H ls _ locs h1 ⟨⟨_, rfl, i64_add _ _⟩, hp⟩ h3 h4 h5 h6 h7 h8)
theorem zs_lsub {x y : Int} {t : List zV} (hx : p.tables.exec = Jvm.exec) (hb : c.code = cc) (hdg : decode cc pc = .ok (.lsub, 1)) (k : zSnd p l e R s m args below meth c Q s0.heap.size b0 L xs b2 ys D DA nL A0 n0 c0 w0 (pc + 1) als (vl (z64 (x - y)) :: t) S) : zSnd p l e R s m args below meth c Q s0.heap.size b0 L xs b2 ys D DA nL A0 n0 c0 w0 pc als (vl y :: vl x :: t) S := by
  intro A H ls st locs h1 h2 h3 h4 h5 h6 h7 h8
  obtain ⟨_, st, rfl, ⟨u, rfl, rfl⟩, ho⟩ := zRs_cons h2
  obtain ⟨_, st, rfl, ⟨v, rfl, rfl⟩, hp⟩ := zRs_cons ho
  exact lv_lsub hx hb hdg (k A H ls _ locs h1 ⟨⟨_, rfl, i64_sub _ _⟩, hp⟩ h3 h4 h5 h6 h7 h8)
theorem zs_lmul {x y : Int} {t : List zV} (hx : p.tables.exec = Jvm.exec) (hb : c.code = cc) (hdg : decode cc pc = .ok (.lmul, 1)) (k : zSnd p l e R s m args below meth c Q s0.heap.size b0 L xs b2 ys D DA nL A0 n0 c0 w0 (pc + 1) als (vl (z64 (x * y)) :: t) S) : zSnd p l e R s m args below meth c Q s0.heap.size b0 L xs b2 ys D DA nL A0 n0 c0 w0 pc als (vl y :: vl x :: t) S := by
  intro A H ls st locs h1 h2 h3 h4 h5 h6 h7 h8
  obtain ⟨_, st, rfl, ⟨u, rfl, rfl⟩, ho⟩ := zRs_cons h2
  obtain ⟨_, st, rfl, ⟨v, rfl, rfl⟩, hp⟩ := zRs_cons ho
  exact lv_lmul hx hb hdg (k A H ls _ locs h1 ⟨⟨_, rfl, i64_mul _ _⟩, hp⟩ h3 h4 h5 h6 h7 h8)
theorem zs_land {x y : Int} {t : List zV} (hx : p.tables.exec = Jvm.exec) (hb : c.code = cc) (hdg : decode cc pc = .ok (.land, 1)) (k : zSnd p l e R s m args below meth c Q s0.heap.size b0 L xs b2 ys D DA nL A0 n0 c0 w0 (pc + 1) als (vl (zlnd x y) :: t) S) : zSnd p l e R s m args below meth c Q s0.heap.size b0 L xs b2 ys D DA nL A0 n0 c0 w0 pc als (vl y :: vl x :: t) S := by
  intro A H ls st locs h1 h2 h3 h4 h5 h6 h7 h8
  obtain ⟨_, st, rfl, ⟨u, rfl, rfl⟩, ho⟩ := zRs_cons h2
  obtain ⟨_, st, rfl, ⟨v, rfl, rfl⟩, hp⟩ := zRs_cons ho
  exact lv_land hx hb hdg (k A H ls _ locs h1 ⟨⟨_, rfl, by unfold zlnd; rw [Int64.ofInt_toInt, Int64.ofInt_toInt]⟩, hp⟩ h3 h4 h5 h6 h7 h8)
theorem zs_lor {x y : Int} {t : List zV} (hx : p.tables.exec = Jvm.exec) (hb : c.code = cc) (hdg : decode cc pc = .ok (.lor, 1)) (k : zSnd p l e R s m args below meth c Q s0.heap.size b0 L xs b2 ys D DA nL A0 n0 c0 w0 (pc + 1) als (vl (zlor x y) :: t) S) : zSnd p l e R s m args below meth c Q s0.heap.size b0 L xs b2 ys D DA nL A0 n0 c0 w0 pc als (vl y :: vl x :: t) S := by
  intro A H ls st locs h1 h2 h3 h4 h5 h6 h7 h8
  obtain ⟨_, st, rfl, ⟨u, rfl, rfl⟩, ho⟩ := zRs_cons h2
  obtain ⟨_, st, rfl, ⟨v, rfl, rfl⟩, hp⟩ := zRs_cons ho
  exact lv_lor hx hb hdg (k A H ls _ locs h1 ⟨⟨_, rfl, by unfold zlor; rw [Int64.ofInt_toInt, Int64.ofInt_toInt]⟩, hp⟩ h3 h4 h5 h6 h7 h8)
theorem zs_lxor {x y : Int} {t : List zV} (hx : p.tables.exec = Jvm.exec) (hb : c.code = cc) (hdg : decode cc pc = .ok (.lxor, 1)) (k : zSnd p l e R s m args below meth c Q s0.heap.size b0 L xs b2 ys D DA nL A0 n0 c0 w0 (pc + 1) als (vl (zlxor x y) :: t) S) : zSnd p l e R s m args below meth c Q s0.heap.size b0 L xs b2 ys D DA nL A0 n0 c0 w0 pc als (vl y :: vl x :: t) S := by
  intro A H ls st locs h1 h2 h3 h4 h5 h6 h7 h8
  obtain ⟨_, st, rfl, ⟨u, rfl, rfl⟩, ho⟩ := zRs_cons h2
  obtain ⟨_, st, rfl, ⟨v, rfl, rfl⟩, hp⟩ := zRs_cons ho
  exact lv_lxor hx hb hdg (k A H ls _ locs h1 ⟨⟨_, rfl, by unfold zlxor; rw [Int64.ofInt_toInt, Int64.ofInt_toInt]⟩, hp⟩ h3 h4 h5 h6 h7 h8)
theorem zs_lshl {x y : Int} {t : List zV} (hx : p.tables.exec = Jvm.exec) (hb : c.code = cc) (hdg : decode cc pc = .ok (.lshl, 1)) (k : zSnd p l e R s m args below meth c Q s0.heap.size b0 L xs b2 ys D DA nL A0 n0 c0 w0 (pc + 1) als (vl (zlshl x y) :: t) S) : zSnd p l e R s m args below meth c Q s0.heap.size b0 L xs b2 ys D DA nL A0 n0 c0 w0 pc als (vi y :: vl x :: t) S := by
  intro A H ls st locs h1 h2 h3 h4 h5 h6 h7 h8
  obtain ⟨_, st, rfl, ⟨u, rfl, rfl⟩, ho⟩ := zRs_cons h2
  obtain ⟨_, st, rfl, ⟨v, rfl, rfl⟩, hp⟩ := zRs_cons ho
  exact lv_lshl hx hb hdg rfl (k A H ls _ locs h1 ⟨⟨_, rfl, by unfold zlshl; rw [Int32.ofInt_toInt, Int64.ofInt_toInt]⟩, hp⟩ h3 h4 h5 h6 h7 h8)
theorem zs_lshr {x y : Int} {t : List zV} (hx : p.tables.exec = Jvm.exec) (hb : c.code = cc) (hdg : decode cc pc = .ok (.lshr, 1)) (k : zSnd p l e R s m args below meth c Q s0.heap.size b0 L xs b2 ys D DA nL A0 n0 c0 w0 (pc + 1) als (vl (zlshr x y) :: t) S) : zSnd p l e R s m args below meth c Q s0.heap.size b0 L xs b2 ys D DA nL A0 n0 c0 w0 pc als (vi y :: vl x :: t) S := by
  intro A H ls st locs h1 h2 h3 h4 h5 h6 h7 h8
  obtain ⟨_, st, rfl, ⟨u, rfl, rfl⟩, ho⟩ := zRs_cons h2
  obtain ⟨_, st, rfl, ⟨v, rfl, rfl⟩, hp⟩ := zRs_cons ho
  exact lv_lshr hx hb hdg rfl (k A H ls _ locs h1 ⟨⟨_, rfl, by unfold zlshr; rw [Int32.ofInt_toInt, Int64.ofInt_toInt]⟩, hp⟩ h3 h4 h5 h6 h7 h8)
theorem zs_lushr {x y : Int} {t : List zV} (hx : p.tables.exec = Jvm.exec) (hb : c.code = cc) (hdg : decode cc pc = .ok (.lushr, 1)) (k : zSnd p l e R s m args below meth c Q s0.heap.size b0 L xs b2 ys D DA nL A0 n0 c0 w0 (pc + 1) als (vl (zlushr x y) :: t) S) : zSnd p l e R s m args below meth c Q s0.heap.size b0 L xs b2 ys D DA nL A0 n0 c0 w0 pc als (vi y :: vl x :: t) S := by
  intro A H ls st locs h1 h2 h3 h4 h5 h6 h7 h8
  obtain ⟨_, st, rfl, ⟨u, rfl, rfl⟩, ho⟩ := zRs_cons h2
  obtain ⟨_, st, rfl, ⟨v, rfl, rfl⟩, hp⟩ := zRs_cons ho
  exact lv_lushr hx hb hdg rfl (k A H ls _ locs h1 ⟨⟨_, rfl, by unfold zlushr; rw [Int32.ofInt_toInt, Int64.ofInt_toInt]⟩, hp⟩ h3 h4 h5 h6 h7 h8)
theorem zs_lcmp {x y : Int} {t : List zV} (hx : p.tables.exec = Jvm.exec) (hb : c.code = cc) (hdg : decode cc pc = .ok (.lcmp, 1)) (k : zSnd p l e R s m args below meth c Q s0.heap.size b0 L xs b2 ys D DA nL A0 n0 c0 w0 (pc + 1) als (vi (zcmp x y) :: t) S) : zSnd p l e R s m args below meth c Q s0.heap.size b0 L xs b2 ys D DA nL A0 n0 c0 w0 pc als (vl y :: vl x :: t) S := by
  intro A H ls st locs h1 h2 h3 h4 h5 h6 h7 h8
  obtain ⟨_, st, rfl, ⟨u, rfl, rfl⟩, ho⟩ := zRs_cons h2
  obtain ⟨_, st, rfl, ⟨v, rfl, rfl⟩, hp⟩ := zRs_cons ho
  exact W.lcmp hx hb hdg (k A H ls _ locs h1 ⟨⟨_, rfl, zcmp_l _ _⟩, hp⟩ h3 h4 h5 h6 h7 h8)
theorem zs_i2l {x : Int} {t : List zV} (hx : p.tables.exec = Jvm.exec) (hb : c.code = cc) (hdg : decode cc pc = .ok (.i2l, 1)) (k : zSnd p l e R s m args below meth c Q s0.heap.size b0 L xs b2 ys D DA nL A0 n0 c0 w0 (pc + 1) als (vl x :: t) S) : zSnd p l e R s m args below meth c Q s0.heap.size b0 L xs b2 ys D DA nL A0 n0 c0 w0 pc als (vi x :: t) S := by
  intro A H ls st locs h1 h2 h3 h4 h5 h6 h7 h8
  obtain ⟨_, st, rfl, ⟨u, rfl, rfl⟩, hp⟩ := zRs_cons h2
  exact lv_i2l hx hb hdg rfl (k A H ls _ locs h1 ⟨⟨_, rfl, Int32.toInt_toInt64 _⟩, hp⟩ h3 h4 h5 h6 h7 h8)
theorem zs_i2c {x : Int} {t : List zV} (hx : p.tables.exec = Jvm.exec) (hb : c.code = cc) (hdg : decode cc pc = .ok (.i2c, 1)) (k : zSnd p l e R s m args below meth c Q s0.heap.size b0 L xs b2 ys D DA nL A0 n0 c0 w0 (pc + 1) als (vi (x % 65536) :: t) S) : zSnd p l e R s m args below meth c Q s0.heap.size b0 L xs b2 ys D DA nL A0 n0 c0 w0 pc als (vi x :: t) S := by
  intro A H ls st locs h1 h2 h3 h4 h5 h6 h7 h8
  obtain ⟨_, st, rfl, ⟨u, rfl, rfl⟩, hp⟩ := zRs_cons h2
  exact lv_i2c hx hb hdg rfl (k A H ls _ locs h1 ⟨⟨_, rfl, i32_char _⟩, hp⟩ h3 h4 h5 h6 h7 h8)
theorem zs_i2b {x : Int} {t : List zV} (hx : p.tables.exec = Jvm.exec) (hb : c.code = cc) (hdg : decode cc pc = .ok (.i2b, 1)) (k : zSnd p l e R s m args below meth c Q s0.heap.size b0 L xs b2 ys D DA nL A0 n0 c0 w0 (pc + 1) als (vi ((x + 128) % 256 - 128) :: t) S) : zSnd p l e R s m args below meth c Q s0.heap.size b0 L xs b2 ys D DA nL A0 n0 c0 w0 pc als (vi x :: t) S := by
  intro A H ls st locs h1 h2 h3 h4 h5 h6 h7 h8
  obtain ⟨_, st, rfl, ⟨u, rfl, rfl⟩, hp⟩ := zRs_cons h2
  exact lv_i2b hx hb hdg rfl (k A H ls _ locs h1 ⟨⟨_, rfl, nar_byte _⟩, hp⟩ h3 h4 h5 h6 h7 h8)
theorem zs_l2i {x : Int} {t : List zV} (hx : p.tables.exec = Jvm.exec) (hb : c.code = cc) (hdg : decode cc pc = .ok (.l2i, 1)) (k : zSnd p l e R s m args below meth c Q s0.heap.size b0 L xs b2 ys D DA nL A0 n0 c0 w0 (pc + 1) als (vi (z32 x) :: t) S) : zSnd p l e R s m args below meth c Q s0.heap.size b0 L xs b2 ys D DA nL A0 n0 c0 w0 pc als (vl x :: t) S := by
  intro A H ls st locs h1 h2 h3 h4 h5 h6 h7 h8
  obtain ⟨_, st, rfl, ⟨u, rfl, rfl⟩, hp⟩ := zRs_cons h2
  exact lv_l2i hx hb hdg rfl (k A H ls _ locs h1 ⟨⟨_, rfl, (Int64.toInt_toInt32 _).trans (z32_bmod _)⟩, hp⟩ h3 h4 h5 h6 h7 h8)
theorem zs_dup_vi {x : Int} {t : List zV} (hx : p.tables.exec = Jvm.exec) (hb : c.code = cc) (hdg : decode cc pc = .ok (.dup, 1)) (k : zSnd p l e R s m args below meth c Q s0.heap.size b0 L xs b2 ys D DA nL A0 n0 c0 w0 (pc + 1) als (vi x :: vi x :: t) S) : zSnd p l e R s m args below meth c Q s0.heap.size b0 L xs b2 ys D DA nL A0 n0 c0 w0 pc als (vi x :: t) S := by
  intro A H ls st locs h1 h2 h3 h4 h5 h6 h7 h8
  obtain ⟨V, st, rfl, g2, hp⟩ := zRs_cons h2
  exact lv_dup hx hb hdg (show V.category = 1 from by rcases (zR1_cat g2).2 with q | q; exact q; obtain ⟨w, hw⟩ := (zR1_cat g2).1.mp q; cases hw) (k A H ls _ locs h1 ⟨g2, g2, hp⟩ h3 h4 h5 h6 h7 h8)
theorem zs_dup_vr {x : Int} {t : List zV} (hx : p.tables.exec = Jvm.exec) (hb : c.code = cc) (hdg : decode cc pc = .ok (.dup, 1)) (k : zSnd p l e R s m args below meth c Q s0.heap.size b0 L xs b2 ys D DA nL A0 n0 c0 w0 (pc + 1) als (vr x :: vr x :: t) S) : zSnd p l e R s m args below meth c Q s0.heap.size b0 L xs b2 ys D DA nL A0 n0 c0 w0 pc als (vr x :: t) S := by
  intro A H ls st locs h1 h2 h3 h4 h5 h6 h7 h8
  obtain ⟨V, st, rfl, g2, hp⟩ := zRs_cons h2
  exact lv_dup hx hb hdg (show V.category = 1 from by rcases (zR1_cat g2).2 with q | q; exact q; obtain ⟨w, hw⟩ := (zR1_cat g2).1.mp q; cases hw) (k A H ls _ locs h1 ⟨g2, g2, hp⟩ h3 h4 h5 h6 h7 h8)
theorem zs_dup2_l {x : Int} {t : List zV} (hx : p.tables.exec = Jvm.exec) (hb : c.code = cc) (hdg : decode cc pc = .ok (.dup2, 1)) (k : zSnd p l e R s m args below meth c Q s0.heap.size b0 L xs b2 ys D DA nL A0 n0 c0 w0 (pc + 1) als (vl x :: vl x :: t) S) : zSnd p l e R s m args below meth c Q s0.heap.size b0 L xs b2 ys D DA nL A0 n0 c0 w0 pc als (vl x :: t) S := by
  intro A H ls st locs h1 h2 h3 h4 h5 h6 h7 h8
  obtain ⟨V, st, rfl, g2, hp⟩ := zRs_cons h2
  exact lv_dup2_2 hx hb hdg ((zR1_cat g2).1.mpr ⟨x, rfl⟩) (k A H ls _ locs h1 ⟨g2, g2, hp⟩ h3 h4 h5 h6 h7 h8)
theorem zs_dup2_ir {x y : Int} {t : List zV} (hx : p.tables.exec = Jvm.exec) (hb : c.code = cc) (hdg : decode cc pc = .ok (.dup2, 1)) (k : zSnd p l e R s m args below meth c Q s0.heap.size b0 L xs b2 ys D DA nL A0 n0 c0 w0 (pc + 1) als (vi x :: vr y :: vi x :: vr y :: t) S) : zSnd p l e R s m args below meth c Q s0.heap.size b0 L xs b2 ys D DA nL A0 n0 c0 w0 pc als (vi x :: vr y :: t) S := by
  intro A H ls st locs h1 h2 h3 h4 h5 h6 h7 h8
  obtain ⟨V1, st, rfl, g1, ho⟩ := zRs_cons h2
  obtain ⟨V, st, rfl, g2, hp⟩ := zRs_cons ho
  exact lv_dup2_11 hx hb hdg (show V1.category = 1 from by rcases (zR1_cat g1).2 with q | q; exact q; obtain ⟨w, hw⟩ := (zR1_cat g1).1.mp q; cases hw) (show V.category = 1 from by rcases (zR1_cat g2).2 with q | q; exact q; obtain ⟨w, hw⟩ := (zR1_cat g2).1.mp q; cases hw) (k A H ls _ locs h1 ⟨g1, g2, g1, g2, hp⟩ h3 h4 h5 h6 h7 h8)
theorem zs_pop_i {x : Int} {t : List zV} (hx : p.tables.exec = Jvm.exec) (hb : c.code = cc) (hdg : decode cc pc = .ok (.pop, 1)) (k : zSnd p l e R s m args below meth c Q s0.heap.size b0 L xs b2 ys D DA nL A0 n0 c0 w0 (pc + 1) als t S) : zSnd p l e R s m args below meth c Q s0.heap.size b0 L xs b2 ys D DA nL A0 n0 c0 w0 pc als (vi x :: t) S := by
  intro A H ls st locs h1 h2 h3 h4 h5 h6 h7 h8
  obtain ⟨V, st, rfl, g2, hp⟩ := zRs_cons h2
  exact lv_pop hx hb hdg (show V.category = 1 from by rcases (zR1_cat g2).2 with q | q; exact q; obtain ⟨w, hw⟩ := (zR1_cat g2).1.mp q; cases hw) (k A H ls _ locs h1 hp h3 h4 h5 h6 h7 h8)
theorem zs_pop_r {x : Int ⊕ Unit} {t : List zV} (hx : p.tables.exec = Jvm.exec) (hb : c.code = cc) (hdg : decode cc pc = .ok (.pop, 1)) (k : zSnd p l e R s m args below meth c Q s0.heap.size b0 L xs b2 ys D DA nL A0 n0 c0 w0 (pc + 1) als t S) : zSnd p l e R s m args below meth c Q s0.heap.size b0 L xs b2 ys D DA nL A0 n0 c0 w0 pc als (.inr (.inr x) :: t) S := by
  intro A H ls st locs h1 h2 h3 h4 h5 h6 h7 h8
  obtain ⟨V, st, rfl, g2, hp⟩ := zRs_cons h2
  exact lv_pop hx hb hdg (show V.category = 1 from by rcases (zR1_cat g2).2 with q | q; exact q; obtain ⟨w, hw⟩ := (zR1_cat g2).1.mp q; cases hw) (k A H ls _ locs h1 hp h3 h4 h5 h6 h7 h8)
theorem zs_goto {o : Int} {a : Nat} (hx : p.tables.exec = Jvm.exec) (hb : c.code = cc) (hdg : decode cc pc = .ok (.goto o, 3)) (ht : (pc : Int) + o = (a : Int)) (k : zSnd p l e R s m args below meth c Q s0.heap.size b0 L xs b2 ys D DA nL A0 n0 c0 w0 a als ast S) : zSnd p l e R s m args below meth c Q s0.heap.size b0 L xs b2 ys D DA nL A0 n0 c0 w0 pc als ast S := by
  intro A H ls st locs h1 h2 h3 h4 h5 h6 h7 h8
  exact lv_goto hx hb hdg ht (k A H ls st locs h1 h2 h3 h4 h5 h6 h7 h8)
theorem zs_if_eq {x : Int} {t : List zV} {o : Int} {a : Nat} (hx : p.tables.exec = Jvm.exec) (hb : c.code = cc) (hdg : decode cc pc = .ok (.ifCond .eq o, 3)) (ht : (pc : Int) + o = (a : Int)) (kt : x = 0 → zSnd p l e R s m args below meth c Q s0.heap.size b0 L xs b2 ys D DA nL A0 n0 c0 w0 a als t S) (kf : ¬ x = 0 → zSnd p l e R s m args below meth c Q s0.heap.size b0 L xs b2 ys D DA nL A0 n0 c0 w0 (pc + 3) als t S) : zSnd p l e R s m args below meth c Q s0.heap.size b0 L xs b2 ys D DA nL A0 n0 c0 w0 pc als (vi x :: t) S := by
  intro A H ls st locs h1 h2 h3 h4 h5 h6 h7 h8
  obtain ⟨_, st, rfl, ⟨u, rfl, rfl⟩, hp⟩ := zRs_cons h2
  have E : u = 0 ↔ u.toInt = (0 : Int32).toInt := Int32.toInt_inj.symm
  rw [show ((0 : Int32).toInt) = 0 from rfl] at E
  exact lv_if_eq hx hb hdg ht (fun q => kt (by first | exact E.mp q | exact fun w => q (E.mpr w) | (have := E.mp q; omega)) A H ls _ locs h1 hp h3 h4 h5 h6 h7 h8) (fun q => kf (by first | exact E.mp q | exact fun w => q (E.mpr w) | (have : ¬ _ := fun w => q (E.mpr w); omega)) A H ls _ locs h1 hp h3 h4 h5 h6 h7 h8)
theorem zs_icmp_eq {x y : Int} {t : List zV} {o : Int} {a : Nat} (hx : p.tables.exec = Jvm.exec) (hb : c.code = cc) (hdg : decode cc pc = .ok (.if_icmp .eq o, 3)) (ht : (pc : Int) + o = (a : Int)) (kt : x = y → zSnd p l e R s m args below meth c Q s0.heap.size b0 L xs b2 ys D DA nL A0 n0 c0 w0 a als t S) (kf : ¬ x = y → zSnd p l e R s m args below meth c Q s0.heap.size b0 L xs b2 ys D DA nL A0 n0 c0 w0 (pc + 3) als t S) : zSnd p l e R s m args below meth c Q s0.heap.size b0 L xs b2 ys D DA nL A0 n0 c0 w0 pc als (vi y :: vi x :: t) S := by
  intro A H ls st locs h1 h2 h3 h4 h5 h6 h7 h8
  obtain ⟨_, st, rfl, ⟨v, rfl, rfl⟩, ho⟩ := zRs_cons h2
  obtain ⟨_, st, rfl, ⟨u, rfl, rfl⟩, hp⟩ := zRs_cons ho
  have E : u = v ↔ u.toInt = (v : Int32).toInt := Int32.toInt_inj.symm
  exact lv_icmp_eq hx hb hdg ht (fun q => kt (by first | exact E.mp q | exact fun w => q (E.mpr w) | (have := E.mp q; omega)) A H ls _ locs h1 hp h3 h4 h5 h6 h7 h8) (fun q => kf (by first | exact E.mp q | exact fun w => q (E.mpr w) | (have : ¬ _ := fun w => q (E.mpr w); omega)) A H ls _ locs h1 hp h3 h4 h5 h6 h7 h8)
theorem zs_if_ne {x : Int} {t : List zV} {o : Int} {a : Nat} (hx : p.tables.exec = Jvm.exec) (hb : c.code = cc) (hdg : decode cc pc = .ok (.ifCond .ne o, 3)) (ht : (pc : Int) + o = (a : Int)) (kt : ¬ x = 0 → zSnd p l e R s m args below meth c Q s0.heap.size b0 L xs b2 ys D DA nL A0 n0 c0 w0 a als t S) (kf : x = 0 → zSnd p l e R s m args below meth c Q s0.heap.size b0 L xs b2 ys D DA nL A0 n0 c0 w0 (pc + 3) als t S) : zSnd p l e R s m args below meth c Q s0.heap.size b0 L xs b2 ys D DA nL A0 n0 c0 w0 pc als (vi x :: t) S := by
  intro A H ls st locs h1 h2 h3 h4 h5 h6 h7 h8
  obtain ⟨_, st, rfl, ⟨u, rfl, rfl⟩, hp⟩ := zRs_cons h2
  have E : u = 0 ↔ u.toInt = (0 : Int32).toInt := Int32.toInt_inj.symm
  rw [show ((0 : Int32).toInt) = 0 from rfl] at E
  exact lv_if_ne hx hb hdg ht (fun q => kt (by first | exact E.mp q | exact fun w => q (E.mpr w) | (have := E.mp q; omega)) A H ls _ locs h1 hp h3 h4 h5 h6 h7 h8) (fun q => kf (by first | exact E.mp q | exact fun w => q (E.mpr w) | (have : ¬ _ := fun w => q (E.mpr w); omega)) A H ls _ locs h1 hp h3 h4 h5 h6 h7 h8)
theorem zs_icmp_ne {x y : Int} {t : List zV} {o : Int} {a : Nat} (hx : p.tables.exec = Jvm.exec) (hb : c.code = cc) (hdg : decode cc pc = .ok (.if_icmp .ne o, 3)) (ht : (pc : Int) + o = (a : Int)) (kt : ¬ x = y → zSnd p l e R s m args below meth c Q s0.heap.size b0 L xs b2 ys D DA nL A0 n0 c0 w0 a als t S) (kf : x = y → zSnd p l e R s m args below meth c Q s0.heap.size b0 L xs b2 ys D DA nL A0 n0 c0 w0 (pc + 3) als t S) : zSnd p l e R s m args below meth c Q s0.heap.size b0 L xs b2 ys D DA nL A0 n0 c0 w0 pc als (vi y :: vi x :: t) S := by
  intro A H ls st locs h1 h2 h3 h4 h5 h6 h7 h8
  obtain ⟨_, st, rfl, ⟨v, rfl, rfl⟩, ho⟩ := zRs_cons h2
  obtain ⟨_, st, rfl, ⟨u, rfl, rfl⟩, hp⟩ := zRs_cons ho
  have E : u = v ↔ u.toInt = (v : Int32).toInt := Int32.toInt_inj.symm
  exact lv_icmp_ne hx hb hdg ht (fun q => kt (by first | exact E.mp q | exact fun w => q (E.mpr w) | (have := E.mp q; omega)) A H ls _ locs h1 hp h3 h4 h5 h6 h7 h8) (fun q => kf (by first | exact E.mp q | exact fun w => q (E.mpr w) | (have : ¬ _ := fun w => q (E.mpr w); omega)) A H ls _ locs h1 hp h3 h4 h5 h6 h7 h8)
theorem zs_if_lt {x : Int} {t : List zV} {o : Int} {a : Nat} (hx : p.tables.exec = Jvm.exec) (hb : c.code = cc) (hdg : decode cc pc = .ok (.ifCond .lt o, 3)) (ht : (pc : Int) + o = (a : Int)) (kt : x < 0 → zSnd p l e R s m args below meth c Q s0.heap.size b0 L xs b2 ys D DA nL A0 n0 c0 w0 a als t S) (kf : ¬ x < 0 → zSnd p l e R s m args below meth c Q s0.heap.size b0 L xs b2 ys D DA nL A0 n0 c0 w0 (pc + 3) als t S) : zSnd p l e R s m args below meth c Q s0.heap.size b0 L xs b2 ys D DA nL A0 n0 c0 w0 pc als (vi x :: t) S := by
  intro A H ls st locs h1 h2 h3 h4 h5 h6 h7 h8
  obtain ⟨_, st, rfl, ⟨u, rfl, rfl⟩, hp⟩ := zRs_cons h2
  have E : u < 0 ↔ u.toInt < (0 : Int32).toInt := Int32.lt_iff_toInt_lt
  rw [show ((0 : Int32).toInt) = 0 from rfl] at E
  exact lv_if_lt hx hb hdg ht (fun q => kt (by first | exact E.mp q | exact fun w => q (E.mpr w) | (have := E.mp q; omega)) A H ls _ locs h1 hp h3 h4 h5 h6 h7 h8) (fun q => kf (by first | exact E.mp q | exact fun w => q (E.mpr w) | (have : ¬ _ := fun w => q (E.mpr w); omega)) A H ls _ locs h1 hp h3 h4 h5 h6 h7 h8)
theorem zs_icmp_lt {x y : Int} {t : List zV} {o : Int} {a : Nat} (hx : p.tables.exec = Jvm.exec) (hb : c.code = cc) (hdg : decode cc pc = .ok (.if_icmp .lt o, 3)) (ht : (pc : Int) + o = (a : Int)) (kt : x < y → zSnd p l e R s m args below meth c Q s0.heap.size b0 L xs b2 ys D DA nL A0 n0 c0 w0 a als t S) (kf : ¬ x < y → zSnd p l e R s m args below meth c Q s0.heap.size b0 L xs b2 ys D DA nL A0 n0 c0 w0 (pc + 3) als t S) : zSnd p l e R s m args below meth c Q s0.heap.size b0 L xs b2 ys D DA nL A0 n0 c0 w0 pc als (vi y :: vi x :: t) S := by
  intro A H ls st locs h1 h2 h3 h4 h5 h6 h7 h8
  obtain ⟨_, st, rfl, ⟨v, rfl, rfl⟩, ho⟩ := zRs_cons h2
  obtain ⟨_, st, rfl, ⟨u, rfl, rfl⟩, hp⟩ := zRs_cons ho
  have E : u < v ↔ u.toInt < (v : Int32).toInt := Int32.lt_iff_toInt_lt
  exact lv_icmp_lt hx hb hdg ht (fun q => kt (by first | exact E.mp q | exact fun w => q (E.mpr w) | (have := E.mp q; omega)) A H ls _ locs h1 hp h3 h4 h5 h6 h7 h8) (fun q => kf (by first | exact E.mp q | exact fun w => q (E.mpr w) | (have : ¬ _ := fun w => q (E.mpr w); omega)) A H ls _ locs h1 hp h3 h4 h5 h6 h7 h8)
theorem zs_if_ge {x : Int} {t : List zV} {o : Int} {a : Nat} (hx : p.tables.exec = Jvm.exec) (hb : c.code = cc) (hdg : decode cc pc = .ok (.ifCond .ge o, 3)) (ht : (pc : Int) + o = (a : Int)) (kt : ¬ x < 0 → zSnd p l e R s m args below meth c Q s0.heap.size b0 L xs b2 ys D DA nL A0 n0 c0 w0 a als t S) (kf : x < 0 → zSnd p l e R s m args below meth c Q s0.heap.size b0 L xs b2 ys D DA nL A0 n0 c0 w0 (pc + 3) als t S) : zSnd p l e R s m args below meth c Q s0.heap.size b0 L xs b2 ys D DA nL A0 n0 c0 w0 pc als (vi x :: t) S := by
  intro A H ls st locs h1 h2 h3 h4 h5 h6 h7 h8
  obtain ⟨_, st, rfl, ⟨u, rfl, rfl⟩, hp⟩ := zRs_cons h2
  have E : 0 ≤ u ↔ (0 : Int32).toInt ≤ u.toInt := Int32.le_iff_toInt_le
  rw [show ((0 : Int32).toInt) = 0 from rfl] at E
  exact lv_if_ge hx hb hdg ht (fun q => kt (by first | exact E.mp q | exact fun w => q (E.mpr w) | (have := E.mp q; omega)) A H ls _ locs h1 hp h3 h4 h5 h6 h7 h8) (fun q => kf (by first | exact E.mp q | exact fun w => q (E.mpr w) | (have : ¬ _ := fun w => q (E.mpr w); omega)) A H ls _ locs h1 hp h3 h4 h5 h6 h7 h8)
theorem zs_icmp_ge {x y : Int} {t : List zV} {o : Int} {a : Nat} (hx : p.tables.exec = Jvm.exec) (hb : c.code = cc) (hdg : decode cc pc = .ok (.if_icmp .ge o, 3)) (ht : (pc : Int) + o = (a : Int)) (kt : ¬ x < y → zSnd p l e R s m args below meth c Q s0.heap.size b0 L xs b2 ys D DA nL A0 n0 c0 w0 a als t S) (kf : x < y → zSnd p l e R s m args below meth c Q s0.heap.size b0 L xs b2 ys D DA nL A0 n0 c0 w0 (pc + 3) als t S) : zSnd p l e R s m args below meth c Q s0.heap.size b0 L xs b2 ys D DA nL A0 n0 c0 w0 pc als (vi y :: vi x :: t) S := by
  intro A H ls st locs h1 h2 h3 h4 h5 h6 h7 h8
  obtain ⟨_, st, rfl, ⟨v, rfl, rfl⟩, ho⟩ := zRs_cons h2
  obtain ⟨_, st, rfl, ⟨u, rfl, rfl⟩, hp⟩ := zRs_cons ho
  have E : v ≤ u ↔ (v : Int32).toInt ≤ u.toInt := Int32.le_iff_toInt_le
  exact lv_icmp_ge hx hb hdg ht (fun q => kt (by first | exact E.mp q | exact fun w => q (E.mpr w) | (have := E.mp q; omega)) A H ls _ locs h1 hp h3 h4 h5 h6 h7 h8) (fun q => kf (by first | exact E.mp q | exact fun w => q (E.mpr w) | (have : ¬ _ := fun w => q (E.mpr w); omega)) A H ls _ locs h1 hp h3 h4 h5 h6 h7 h8)
theorem zs_if_gt {x : Int} {t : List zV} {o : Int} {a : Nat} (hx : p.tables.exec = Jvm.exec) (hb : c.code = cc) (hdg : decode cc pc = .ok (.ifCond .gt o, 3)) (ht : (pc : Int) + o = (a : Int)) (kt : 0 < x → zSnd p l e R s m args below meth c Q s0.heap.size b0 L xs b2 ys D DA nL A0 n0 c0 w0 a als t S) (kf : ¬ 0 < x → zSnd p l e R s m args below meth c Q s0.heap.size b0 L xs b2 ys D DA nL A0 n0 c0 w0 (pc + 3) als t S) : zSnd p l e R s m args below meth c Q s0.heap.size b0 L xs b2 ys D DA nL A0 n0 c0 w0 pc als (vi x :: t) S := by
  intro A H ls st locs h1 h2 h3 h4 h5 h6 h7 h8
  obtain ⟨_, st, rfl, ⟨u, rfl, rfl⟩, hp⟩ := zRs_cons h2
  have E : 0 < u ↔ (0 : Int32).toInt < u.toInt := Int32.lt_iff_toInt_lt
  rw [show ((0 : Int32).toInt) = 0 from rfl] at E
  exact lv_if_gt hx hb hdg ht (fun q => kt (by first | exact E.mp q | exact fun w => q (E.mpr w) | (have := E.mp q; omega)) A H ls _ locs h1 hp h3 h4 h5 h6 h7 h8) (fun q => kf (by first | exact E.mp q | exact fun w => q (E.mpr w) | (have : ¬ _ := fun w => q (E.mpr w); omega)) A H ls _ locs h1 hp h3 h4 h5 h6 h7 h8)
theorem zs_icmp_gt {x y : Int} {t : List zV} {o : Int} {a : Nat} (hx : p.tables.exec = Jvm.exec) (hb : c.code = cc) (hdg : decode cc pc = .ok (.if_icmp .gt o, 3)) (ht : (pc : Int) + o = (a : Int)) (kt : y < x → zSnd p l e R s m args below meth c Q s0.heap.size b0 L xs b2 ys D DA nL A0 n0 c0 w0 a als t S) (kf : ¬ y < x → zSnd p l e R s m args below meth c Q s0.heap.size b0 L xs b2 ys D DA nL A0 n0 c0 w0 (pc + 3) als t S) : zSnd p l e R s m args below meth c Q s0.heap.size b0 L xs b2 ys D DA nL A0 n0 c0 w0 pc als (vi y :: vi x :: t) S := by
  intro A H ls st locs h1 h2 h3 h4 h5 h6 h7 h8
  obtain ⟨_, st, rfl, ⟨v, rfl, rfl⟩, ho⟩ := zRs_cons h2
  obtain ⟨_, st, rfl, ⟨u, rfl, rfl⟩, hp⟩ := zRs_cons ho
  have E : v < u ↔ (v : Int32).toInt < u.toInt := Int32.lt_iff_toInt_lt
  exact lv_icmp_gt hx hb hdg ht (fun q => kt (by first | exact E.mp q | exact fun w => q (E.mpr w) | (have := E.mp q; omega)) A H ls _ locs h1 hp h3 h4 h5 h6 h7 h8) (fun q => kf (by first | exact E.mp q | exact fun w => q (E.mpr w) | (have : ¬ _ := fun w => q (E.mpr w); omega)) A H ls _ locs h1 hp h3 h4 h5 h6 h7 h8)
theorem zs_if_le {x : Int} {t : List zV} {o : Int} {a : Nat} (hx : p.tables.exec = Jvm.exec) (hb : c.code = cc) (hdg : decode cc pc = .ok (.ifCond .le o, 3)) (ht : (pc : Int) + o = (a : Int)) (kt : ¬ 0 < x → zSnd p l e R s m args below meth c Q s0.heap.size b0 L xs b2 ys D DA nL A0 n0 c0 w0 a als t S) (kf : 0 < x → zSnd p l e R s m args below meth c Q s0.heap.size b0 L xs b2 ys D DA nL A0 n0 c0 w0 (pc + 3) als t S) : zSnd p l e R s m args below meth c Q s0.heap.size b0 L xs b2 ys D DA nL A0 n0 c0 w0 pc als (vi x :: t) S := by
  intro A H ls st locs h1 h2 h3 h4 h5 h6 h7 h8
  obtain ⟨_, st, rfl, ⟨u, rfl, rfl⟩, hp⟩ := zRs_cons h2
  have E : u ≤ 0 ↔ u.toInt ≤ (0 : Int32).toInt := Int32.le_iff_toInt_le
  rw [show ((0 : Int32).toInt) = 0 from rfl] at E
  exact lv_if_le hx hb hdg ht (fun q => kt (by first | exact E.mp q | exact fun w => q (E.mpr w) | (have := E.mp q; omega)) A H ls _ locs h1 hp h3 h4 h5 h6 h7 h8) (fun q => kf (by first | exact E.mp q | exact fun w => q (E.mpr w) | (have : ¬ _ := fun w => q (E.mpr w); omega)) A H ls _ locs h1 hp h3 h4 h5 h6 h7 h8)
theorem zs_icmp_le {x y : Int} {t : List zV} {o : Int} {a : Nat} (hx : p.tables.exec = Jvm.exec) (hb : c.code = cc) (hdg : decode cc pc = .ok (.if_icmp .le o, 3)) (ht : (pc : Int) + o = (a : Int)) (kt : ¬ y < x → zSnd p l e R s m args below meth c Q s0.heap.size b0 L xs b2 ys D DA nL A0 n0 c0 w0 a als t S) (kf : y < x → zSnd p l e R s m args below meth c Q s0.heap.size b0 L xs b2 ys D DA nL A0 n0 c0 w0 (pc + 3) als t S) : zSnd p l e R s m args below meth c Q s0.heap.size b0 L xs b2 ys D DA nL A0 n0 c0 w0 pc als (vi y :: vi x :: t) S := by
  intro A H ls st locs h1 h2 h3 h4 h5 h6 h7 h8
  obtain ⟨_, st, rfl, ⟨v, rfl, rfl⟩, ho⟩ := zRs_cons h2
  obtain ⟨_, st, rfl, ⟨u, rfl, rfl⟩, hp⟩ := zRs_cons ho
  have E : u ≤ v ↔ u.toInt ≤ (v : Int32).toInt := Int32.le_iff_toInt_le
  exact lv_icmp_le hx hb hdg ht (fun q => kt (by first | exact E.mp q | exact fun w => q (E.mpr w) | (have := E.mp q; omega)) A H ls _ locs h1 hp h3 h4 h5 h6 h7 h8) (fun q => kf (by first | exact E.mp q | exact fun w => q (E.mpr w) | (have : ¬ _ := fun w => q (E.mpr w); omega)) A H ls _ locs h1 hp h3 h4 h5 h6 h7 h8)
theorem zs_ifnonnull {x : Int} {t : List zV} {o : Int} {a : Nat} (hx : p.tables.exec = Jvm.exec) (hb : c.code = cc) (hdg : decode cc pc = .ok (.ifnonnull o, 3)) (ht : (pc : Int) + o = (a : Int)) (kt : ¬ x = 0 → zSnd p l e R s m args below meth c Q s0.heap.size b0 L xs b2 ys D DA nL A0 n0 c0 w0 a als t S) (kf : x = 0 → zSnd p l e R s m args below meth c Q s0.heap.size b0 L xs b2 ys D DA nL A0 n0 c0 w0 (pc + 3) als t S) : zSnd p l e R s m args below meth c Q s0.heap.size b0 L xs b2 ys D DA nL A0 n0 c0 w0 pc als (vr x :: t) S := by
  intro A H ls st locs h1 h2 h3 h4 h5 h6 h7 h8
  obtain ⟨_, st, rfl, ⟨rfl, g3, g4⟩, hp⟩ := zRs_cons h2
  by_cases hz : x = 0
  · have e : va_rf (zad A x) = .null := by unfold zad; rw [if_pos hz]; rfl
    rw [e]
    exact lv_ifnonnullN hx hb hdg (kf hz A H ls _ locs h1 hp h3 h4 h5 h6 h7 h8)
  · have e : va_rf (zad A x) = .ref (A x) := by unfold zad; rw [if_neg hz]; rfl
    rw [e]
    exact lv_ifnonnull hx hb hdg ht (kt hz A H ls _ locs h1 hp h3 h4 h5 h6 h7 h8)
end
