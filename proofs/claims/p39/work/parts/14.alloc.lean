/-! An instruction, a row: new cells. -/
theorem zc_alloc (S : zS) (t : Nat) (len : Int) (w : Nat) : zc (zalloc S t len w) = zc S + 1 := rfl
theorem zw_alloc (S : zS) (t : Nat) (len : Int) (w : Nat) : zw (zalloc S t len w) = zw S + w := rfl
theorem zn_alloc (S : zS) (t : Nat) (len : Int) (w : Nat) : zn (zalloc S t len w) = zn S + 1 := rfl
theorem zk_alloc (S : zS) (t : Nat) (len : Int) (w : Nat) (b : Int) : zk (zalloc S t len w) b = if b = (zn S : Int) then (t, len) else zk S b := rfl
theorem zm_alloc (S : zS) (t : Nat) (len : Int) (w : Nat) (b i : Int) : zm (zalloc S t len w) b i = if b = (zn S : Int) then 0 else zm S b i := rfl
theorem zc_multi (S : zS) (t u n k : Nat) : zc (zmulti S t u n k) = zc S + 1 + n := rfl
theorem zw_multi (S : zS) (t u n k : Nat) : zw (zmulti S t u n k) = zw S + n + n * k := rfl
theorem zn_multi (S : zS) (t u n k : Nat) : zn (zmulti S t u n k) = zn S + 1 + n := rfl
theorem zk_multi (S : zS) (t u n k : Nat) (b : Int) : zk (zmulti S t u n k) b = if b = (zn S : Int) then (t, (n : Int)) else if (zn S : Int) < b ∧ b ≤ (zn S : Int) + n then (u, (k : Int)) else zk S b := rfl
theorem zm_multi (S : zS) (t u n k : Nat) (b i : Int) : zm (zmulti S t u n k) b i = if b = (zn S : Int) then (if 0 ≤ i ∧ i < n then (zn S : Int) + 1 + i else 0) else if (zn S : Int) < b ∧ b ≤ (zn S : Int) + n then 0 else zm S b i := rfl
def zup (A : Int → Nat) (n : Nat) (q : Nat) : Int → Nat := fun b => if b = (n : Int) then q else A b
theorem zup_lt {A : Int → Nat} {n q : Nat} {a : Int} (h : a < n) : zup A n q a = A a := if_neg (by omega)
theorem zup_at {A : Int → Nat} {n q : Nat} : zup A n q (n : Int) = q := if_pos rfl
theorem ztv0 (A B : Int → Nat) (t : Nat) : ztv A t 0 = ztv B t 0 := by
  unfold ztv
  split <;> rfl
theorem zH.alloc {fr b0 L : Nat} {xs : Nat → Int32} {b2 : Nat} {ys : Nat → Int32} {D : va_G} {DA : Nat → ClassId} {A : Int → Nat} {S : zS} {H H1 : Heap} {t w q : Nat} {len : Int} {E : va_E} (h : zH fr b0 L xs b2 ys D DA A S H) (ht : t < 13 ∨ (20 ≤ t ∧ t < 33)) (h0 : 0 ≤ len) (h1 : len < 2147483648)
    (hE : zent DA (zup A (zn S) q) (zalloc S t len w) (zn S : Int) = E) (hP : va_P D zcl (zws DA A S ++ [(q, E)]) H1) (hD : va_D (fun q => fr ≤ q) (zws DA A S ++ [(q, E)])) : zH fr b0 L xs b2 ys D DA (zup A (zn S) q) (zalloc S t len w) H1 := by
  subst hE
  have h3 := h.1.1
  have e := zws_ext (DA := DA) (A := A) (A' := zup A (zn S) q) (S' := zalloc S t len w) h.1 (by rw [zn_alloc]; omega) (fun a ha => zup_lt ha) (fun a ha => by rw [zk_alloc, if_neg (by omega)]) (fun a j ha => by rw [zm_alloc, if_neg (by omega)])
  rw [zn_alloc, Nat.add_sub_cancel_left] at e
  have e2 : zws DA (zup A (zn S) q) (zalloc S t len w) = zws DA A S ++ [(q, zent DA (zup A (zn S) q) (zalloc S t len w) (zn S : Int))] := by
    rw [e]
    show _ ++ [(zup A (zn S) q (((zn S + 0 : Nat)) : Int), _)] = _
    rw [Nat.add_zero, zup_at]
  refine ⟨h.1.alloc ht h0 h1, by rw [e2]; exact hP, by rw [e2]; exact hD, ?_, ?_, fun i hi => ?_, fun i hi => ?_⟩
  · rw [zup_lt (by omega)]; exact h.2.2.2.1
  · rw [zup_lt (by omega)]; exact h.2.2.2.2.1
  · rw [zm_alloc, if_neg (by omega)]; exact h.2.2.2.2.2.1 i hi
  · rw [zm_alloc, if_neg (by omega)]; exact h.2.2.2.2.2.2 i hi
def zupm (A : Int → Nat) (n : Nat) (q : Nat) (r : Nat → Nat) (N : Nat) : Int → Nat := fun b => if b = (n : Int) then q else if (n : Int) < b ∧ b ≤ (n : Int) + N then r (b - n - 1).toNat else A b
theorem zupm_lt {A : Int → Nat} {n q N : Nat} {r : Nat → Nat} {a : Int} (h : a < n) : zupm A n q r N a = A a := by unfold zupm; rw [if_neg (by omega), if_neg (by omega)]
theorem zH.multi {fr b0 L : Nat} {xs : Nat → Int32} {b2 : Nat} {ys : Nat → Int32} {D : va_G} {DA : Nat → ClassId} {A : Int → Nat} {S : zS} {H H1 : Heap} {q N K : Nat} {r : Nat → Nat} {f : Nat → va_E} (h : zH fr b0 L xs b2 ys D DA A S H) (h0 : N < 2147483648) (h1 : K < 2147483648)
    (hP : va_P D zcl ((zws DA A S ++ [(q, .inl (DA 8, N, .inr (.inr (.inr (.inr (fun i => if i < N then some (r i) else none))))))]) ++ va_pl ([] ++ (List.range N).map r) (vr_up f ((List.range N).map r) (.inl (DA 0, (K, .inl fun _ => 0))))) H1)
    (hD : va_D (fun q => fr ≤ q) ((zws DA A S ++ [(q, .inl (DA 8, N, .inr (.inr (.inr (.inr (fun i => if i < N then some (r i) else none))))))]) ++ va_pl ([] ++ (List.range N).map r) (vr_up f ((List.range N).map r) (.inl (DA 0, (K, .inl fun _ => 0)))))) :
    zH fr b0 L xs b2 ys D DA (zupm A (zn S) q r N) (zmulti S 8 0 N K) H1 := by
  have h3 := h.1.1
  have e := zws_ext (DA := DA) (A := A) (A' := zupm A (zn S) q r N) (S' := zmulti S 8 0 N K) h.1 (by rw [zn_multi]; omega) (fun a ha => zupm_lt ha) (fun a ha => by rw [zk_multi, if_neg (by omega), if_neg (by omega)]) (fun a j ha => by rw [zm_multi, if_neg (by omega), if_neg (by omega)])
  have e2 : zws DA (zupm A (zn S) q r N) (zmulti S 8 0 N K) = (zws DA A S ++ [(q, .inl (DA 8, N, .inr (.inr (.inr (.inr (fun i => if i < N then some (r i) else none))))))]) ++ va_pl ([] ++ (List.range N).map r) (vr_up f ((List.range N).map r) (.inl (DA 0, (K, .inl fun _ => 0)))) := by
    rw [e, List.append_assoc, zn_multi]
    congr 1
    rw [show zn S + 1 + N - zn S = N + 1 by omega, List.range_succ_eq_map, List.map_cons, List.map_map, List.singleton_append, Nat.add_zero]
    congr 1
    · refine Prod.ext ?_ ?_
      · show zupm A (zn S) q r N (zn S : Int) = q
        unfold zupm; rw [if_pos rfl]
      · show zent DA _ _ (zn S : Int) = _
        have hk : (zk (zmulti S 8 0 N K) (zn S : Int)) = (8, (N : Int)) := by rw [zk_multi, if_pos rfl]
        rw [zent_q (t := 8) (by rw [hk]) (by omega) (by omega), hk]
        congr 4
        have ef : (fun j : Nat => zad (zupm A (zn S) q r N) (zm (zmulti S 8 0 N K) (zn S : Int) (j : Int))) = fun i => if i < N then some (r i) else none := by
          funext i
          rw [zm_multi, if_pos rfl]
          unfold zad zupm
          by_cases hi : i < N
          · rw [if_pos (show (0 : Int) ≤ (i : Int) ∧ (i : Int) < (N : Int) by omega), if_pos hi, if_neg (by omega), if_neg (by omega), if_pos (by omega)]
            congr 2
            omega
          · rw [if_neg (show ¬ ((0 : Int) ≤ (i : Int) ∧ (i : Int) < (N : Int)) by omega), if_neg hi, if_pos rfl]
        rw [ef]
    · unfold va_pl
      rw [List.nil_append, List.map_map]
      apply List.map_congr_left
      intro i hi
      have hi := List.mem_range.mp hi
      refine Prod.ext ?_ ?_
      · show zupm A (zn S) q r N ((zn S + (i + 1) : Nat) : Int) = r i
        unfold zupm
        rw [if_neg (by omega), if_pos (by omega)]
        congr 1
        omega
      · show zent DA _ _ ((zn S + (i + 1) : Nat) : Int) = vr_up f ((List.range N).map r) _ (r i)
        rw [vr_up_in (List.mem_map.mpr ⟨i, List.mem_range.mpr hi, rfl⟩)]
        have hk : (zk (zmulti S 8 0 N K) ((zn S + (i + 1) : Nat) : Int)) = (0, (K : Int)) := by rw [zk_multi, if_neg (by omega), if_pos (by omega)]
        rw [zent_i (t := 0) (by rw [hk]) (by decide) (by decide), hk]
        have ef : (fun j : Nat => Int32.ofInt (zm (zmulti S 8 0 N K) ((zn S + (i + 1) : Nat) : Int) (j : Int))) = fun _ => 0 := by
          funext j
          rw [zm_multi, if_neg (by omega), if_pos (by omega)]
          rfl
        rw [ef]
        rfl
  refine ⟨h.1.multi ⟨by decide, by decide⟩ (by decide) h0 h1, by rw [e2]; exact hP, by rw [e2]; exact hD, ?_, ?_, fun i hi => ?_, fun i hi => ?_⟩
  · rw [zupm_lt (by omega)]; exact h.2.2.2.1
  · rw [zupm_lt (by omega)]; exact h.2.2.2.2.1
  · rw [zm_multi, if_neg (by omega), if_neg (by omega)]; exact h.2.2.2.2.2.1 i hi
  · rw [zm_multi, if_neg (by omega), if_neg (by omega)]; exact h.2.2.2.2.2.2 i hi
section
variable {p : Program} {l : Launch} {e : Env} {R : Room} {s s0 : State} {m : MethodId} {args args0 : Array Value} {below : List Frame} {meth : Method} {c : Code} {Q : State → Prop} {cc : ByteArray}
variable {b0 L b2 : Nat} {xs ys : Nat → Int32} {D : va_G} {DA : Nat → ClassId} {nL : Nat} {A0 : Int → Nat} {n0 c0 w0 : Nat} {pc : Nat} {als ast : List zV} {S : zS} {own : String}

theorem zs_new {i ci : Nat} (hx : p.tables.exec = Jvm.exec) (hb : c.code = cc) (w0' : zW0 l s0 args0 D DA b0 L xs b2 ys) (ws : zWs s0 s) (hown : s.vm.findClass own = some m.cls) (hdg : decode cc pc = .ok (.new i, 3)) (hci : ci < 13) (hcl : Cond.classLink own i (zRX ci) ∈ lw_tbl) (hin : Cond.instantiable (zRX ci) (zN ci) ∈ lw_tbl) (hini : Cond.initialized (zRX ci) ∈ lw_tbl) (hRc : zc S + 1 - c0 ≤ R.cells) (hRs : zw S + zN ci - w0 ≤ R.slots) (k : zSnd p l e R s m args below meth c Q s0.heap.size b0 L xs b2 ys D DA nL A0 n0 c0 w0 (pc + 3) als (vr (zn S : Int) :: ast) (zalloc S (20 + ci) 0 (zN ci))) : zSnd p l e R s m args below meth c Q s0.heap.size b0 L xs b2 ys D DA nL A0 n0 c0 w0 pc als ast S := by
  intro A H ls st locs h1 h2 h3 h4 h5 h6 h7 h8
  refine va_new (c0 := c) (fs := (List.range (zN ci)).map fun j => ztv (fun _ => 0) (zcode (zfT ci j)) 0) hx hb (fun w hw => w0'.wd ws (zcw ci hci w hw).1 (zcw ci hci w hw).2 _) (fun _ h => h) (zfT ci) (zty ci hci) hown (w0'.wd ws hcl rfl _) (w0'.wd ws hin rfl _) (w0'.wd ws hini rfl _) (w0'.K ws) h3.2.1 h3.2.2.1 h4 (fun q hq => Nat.le_trans ws.2.1 hq) (zcl_get ci hci) (fun j hj => ?_) (by omega) (by omega) hdg fun q H1 hP hD hS => ?_
  · unfold vp_V
    rw [List.getD_eq_getElem?_getD, List.getElem?_map, List.getElem?_range hj]
    exact zdfv _ _ (zdf ci hci j hj).1
  have h9 := h3.1.1
  refine W.cs (by rw [zc_alloc]; omega) (by rw [zw_alloc]; omega) (k (zup A (zn S) q) H1 ls _ locs (h1.up (by rw [zn_alloc]; omega) fun a ha => zup_lt ha) ⟨⟨?_, by omega, by rw [zn_alloc]; omega⟩, h2.up (by rw [zn_alloc]; omega) fun a ha => zup_lt ha⟩ ?_ hS (fun a ha => by rw [zup_lt (by omega)]; exact h5 a ha) (by rw [zn_alloc]; omega) (by rw [zc_alloc]; omega) (by rw [zw_alloc]; omega))
  · unfold zad; rw [if_neg (by omega), zup_at]; rfl
  · refine h3.alloc (Or.inr ⟨by omega, by omega⟩) (by omega) (by omega) ?_ hP hD
    rw [zent_o (ci := ci) (by rw [zk_alloc, if_pos rfl])]
    congr 2
    apply List.map_congr_left
    intro j _
    rw [zm_alloc, if_pos rfl]
    exact ztv0 _ _ _
theorem zs_newarray_int {x : Int} {t : List zV} (hx : p.tables.exec = Jvm.exec) (hb : c.code = cc) (w0' : zW0 l s0 args0 D DA b0 L xs b2 ys) (ws : zWs s0 s) (hown : s.vm.findClass own = some m.cls) (hdg : decode cc pc = .ok (.newarray .int, 2)) (harr : Cond.arrayClass .int ∈ lw_tbl) (h0 : 0 ≤ x) (h1' : x ≤ 1000000) (hRc : zc S + 1 - c0 ≤ R.cells) (hRs : zw S + x.toNat - w0 ≤ R.slots) (k : zSnd p l e R s m args below meth c Q s0.heap.size b0 L xs b2 ys D DA nL A0 n0 c0 w0 (pc + 2) als (vr (zn S : Int) :: t) (zalloc S 0 x x.toNat)) : zSnd p l e R s m args below meth c Q s0.heap.size b0 L xs b2 ys D DA nL A0 n0 c0 w0 pc als (vi x :: t) S := by
  intro A H ls st locs h1 h2 h3 h4 h5 h6 h7 h8
  obtain ⟨_, st, rfl, ⟨u, rfl, hu⟩, hp⟩ := zRs_cons h2
  have hcl : u.toNatClampNeg = x.toNat := by show u.toInt.toNat = _; rw [hu]
  have e8 : componentBytes (FieldType.int) ≤ 8 := by decide
  have hby : x.toNat * componentBytes (FieldType.int) ≤ 536870912 := by
    have := Nat.mul_le_mul_left x.toNat e8
    omega
  refine va_newa (atype := .int) (a0 := (x.toNat, .inl fun _ => 0)) hx hb (w0'.wd ws harr rfl _) rfl (w0'.K ws) h3.2.1 h3.2.2.1 h4 (fun q hq => Nat.le_trans ws.2.1 hq) (fun _ => rfl) (fun z => by have := Int32.lt_iff_toInt_lt.mp z; rw [hu] at this; have e0 : (0 : Int32).toInt = 0 := rfl; omega) hcl hby (by omega) (by omega) hdg fun q cA H1 hK1 hP hD hS => ?_
  have e1 : s.vm.findClass ("[" ++ FieldType.int.toString) = some cA := (hK1.2 13 (cA, .int) rfl).2
  have e2 : s.vm.findClass ("[" ++ FieldType.int.toString) = some (DA 0) := ((w0'.K ws).2 0 _ (ztys_get (by decide))).2
  cases Option.some.inj (e1.symm.trans e2)
  have h9 := h3.1.1
  refine W.cs (by rw [zc_alloc]; omega) (by rw [zw_alloc]; omega) (k (zup A (zn S) q) H1 ls _ locs (h1.up (by rw [zn_alloc]; omega) fun a ha => zup_lt ha) ⟨⟨?_, by omega, by rw [zn_alloc]; omega⟩, hp.up (by rw [zn_alloc]; omega) fun a ha => zup_lt ha⟩ ?_ hS (fun a ha => by rw [zup_lt (by omega)]; exact h5 a ha) (by rw [zn_alloc]; omega) (by rw [zc_alloc]; omega) (by rw [zw_alloc]; omega))
  · unfold zad; rw [if_neg (by omega), zup_at]; rfl
  · refine h3.alloc (Or.inl (by decide)) h0 (by omega) ?_ hP hD
    rw [zent_i (t := 0) (by rw [zk_alloc, if_pos rfl]) (by decide) (by decide)]
    have ef : (fun j : Nat => Int32.ofInt (zm (zalloc S 0 x x.toNat) (zn S : Int) (j : Int))) = fun _ => 0 := by
      funext j
      rw [zm_alloc, if_pos rfl]
      rfl
    rw [ef, zk_alloc, if_pos rfl]
theorem zs_newarray_long {x : Int} {t : List zV} (hx : p.tables.exec = Jvm.exec) (hb : c.code = cc) (w0' : zW0 l s0 args0 D DA b0 L xs b2 ys) (ws : zWs s0 s) (hown : s.vm.findClass own = some m.cls) (hdg : decode cc pc = .ok (.newarray .long, 2)) (harr : Cond.arrayClass .long ∈ lw_tbl) (h0 : 0 ≤ x) (h1' : x ≤ 1000000) (hRc : zc S + 1 - c0 ≤ R.cells) (hRs : zw S + x.toNat - w0 ≤ R.slots) (k : zSnd p l e R s m args below meth c Q s0.heap.size b0 L xs b2 ys D DA nL A0 n0 c0 w0 (pc + 2) als (vr (zn S : Int) :: t) (zalloc S 1 x x.toNat)) : zSnd p l e R s m args below meth c Q s0.heap.size b0 L xs b2 ys D DA nL A0 n0 c0 w0 pc als (vi x :: t) S := by
  intro A H ls st locs h1 h2 h3 h4 h5 h6 h7 h8
  obtain ⟨_, st, rfl, ⟨u, rfl, hu⟩, hp⟩ := zRs_cons h2
  have hcl : u.toNatClampNeg = x.toNat := by show u.toInt.toNat = _; rw [hu]
  have e8 : componentBytes (FieldType.long) ≤ 8 := by decide
  have hby : x.toNat * componentBytes (FieldType.long) ≤ 536870912 := by
    have := Nat.mul_le_mul_left x.toNat e8
    omega
  refine va_newa (atype := .long) (a0 := (x.toNat, .inr (.inl fun _ => 0))) hx hb (w0'.wd ws harr rfl _) rfl (w0'.K ws) h3.2.1 h3.2.2.1 h4 (fun q hq => Nat.le_trans ws.2.1 hq) (fun _ => rfl) (fun z => by have := Int32.lt_iff_toInt_lt.mp z; rw [hu] at this; have e0 : (0 : Int32).toInt = 0 := rfl; omega) hcl hby (by omega) (by omega) hdg fun q cA H1 hK1 hP hD hS => ?_
  have e1 : s.vm.findClass ("[" ++ FieldType.long.toString) = some cA := (hK1.2 13 (cA, .long) rfl).2
  have e2 : s.vm.findClass ("[" ++ FieldType.long.toString) = some (DA 1) := ((w0'.K ws).2 1 _ (ztys_get (by decide))).2
  cases Option.some.inj (e1.symm.trans e2)
  have h9 := h3.1.1
  refine W.cs (by rw [zc_alloc]; omega) (by rw [zw_alloc]; omega) (k (zup A (zn S) q) H1 ls _ locs (h1.up (by rw [zn_alloc]; omega) fun a ha => zup_lt ha) ⟨⟨?_, by omega, by rw [zn_alloc]; omega⟩, hp.up (by rw [zn_alloc]; omega) fun a ha => zup_lt ha⟩ ?_ hS (fun a ha => by rw [zup_lt (by omega)]; exact h5 a ha) (by rw [zn_alloc]; omega) (by rw [zc_alloc]; omega) (by rw [zw_alloc]; omega))
  · unfold zad; rw [if_neg (by omega), zup_at]; rfl
  · refine h3.alloc (Or.inl (by decide)) h0 (by omega) ?_ hP hD
    rw [zent_l (by rw [zk_alloc, if_pos rfl])]
    have ef : (fun j : Nat => Int64.ofInt (zm (zalloc S 1 x x.toNat) (zn S : Int) (j : Int))) = fun _ => 0 := by
      funext j
      rw [zm_alloc, if_pos rfl]
      rfl
    rw [ef, zk_alloc, if_pos rfl]
theorem zs_newarray_char {x : Int} {t : List zV} (hx : p.tables.exec = Jvm.exec) (hb : c.code = cc) (w0' : zW0 l s0 args0 D DA b0 L xs b2 ys) (ws : zWs s0 s) (hown : s.vm.findClass own = some m.cls) (hdg : decode cc pc = .ok (.newarray .char, 2)) (harr : Cond.arrayClass .char ∈ lw_tbl) (h0 : 0 ≤ x) (h1' : x ≤ 1000000) (hRc : zc S + 1 - c0 ≤ R.cells) (hRs : zw S + x.toNat - w0 ≤ R.slots) (k : zSnd p l e R s m args below meth c Q s0.heap.size b0 L xs b2 ys D DA nL A0 n0 c0 w0 (pc + 2) als (vr (zn S : Int) :: t) (zalloc S 2 x x.toNat)) : zSnd p l e R s m args below meth c Q s0.heap.size b0 L xs b2 ys D DA nL A0 n0 c0 w0 pc als (vi x :: t) S := by
  intro A H ls st locs h1 h2 h3 h4 h5 h6 h7 h8
  obtain ⟨_, st, rfl, ⟨u, rfl, hu⟩, hp⟩ := zRs_cons h2
  have hcl : u.toNatClampNeg = x.toNat := by show u.toInt.toNat = _; rw [hu]
  have e8 : componentBytes (FieldType.char) ≤ 8 := by decide
  have hby : x.toNat * componentBytes (FieldType.char) ≤ 536870912 := by
    have := Nat.mul_le_mul_left x.toNat e8
    omega
  refine va_newa (atype := .char) (a0 := (x.toNat, .inl fun _ => 0)) hx hb (w0'.wd ws harr rfl _) rfl (w0'.K ws) h3.2.1 h3.2.2.1 h4 (fun q hq => Nat.le_trans ws.2.1 hq) (fun _ => rfl) (fun z => by have := Int32.lt_iff_toInt_lt.mp z; rw [hu] at this; have e0 : (0 : Int32).toInt = 0 := rfl; omega) hcl hby (by omega) (by omega) hdg fun q cA H1 hK1 hP hD hS => ?_
  have e1 : s.vm.findClass ("[" ++ FieldType.char.toString) = some cA := (hK1.2 13 (cA, .char) rfl).2
  have e2 : s.vm.findClass ("[" ++ FieldType.char.toString) = some (DA 2) := ((w0'.K ws).2 2 _ (ztys_get (by decide))).2
  cases Option.some.inj (e1.symm.trans e2)
  have h9 := h3.1.1
  refine W.cs (by rw [zc_alloc]; omega) (by rw [zw_alloc]; omega) (k (zup A (zn S) q) H1 ls _ locs (h1.up (by rw [zn_alloc]; omega) fun a ha => zup_lt ha) ⟨⟨?_, by omega, by rw [zn_alloc]; omega⟩, hp.up (by rw [zn_alloc]; omega) fun a ha => zup_lt ha⟩ ?_ hS (fun a ha => by rw [zup_lt (by omega)]; exact h5 a ha) (by rw [zn_alloc]; omega) (by rw [zc_alloc]; omega) (by rw [zw_alloc]; omega))
  · unfold zad; rw [if_neg (by omega), zup_at]; rfl
  · refine h3.alloc (Or.inl (by decide)) h0 (by omega) ?_ hP hD
    rw [zent_i (t := 2) (by rw [zk_alloc, if_pos rfl]) (by decide) (by decide)]
    have ef : (fun j : Nat => Int32.ofInt (zm (zalloc S 2 x x.toNat) (zn S : Int) (j : Int))) = fun _ => 0 := by
      funext j
      rw [zm_alloc, if_pos rfl]
      rfl
    rw [ef, zk_alloc, if_pos rfl]
theorem zs_newarray_byte {x : Int} {t : List zV} (hx : p.tables.exec = Jvm.exec) (hb : c.code = cc) (w0' : zW0 l s0 args0 D DA b0 L xs b2 ys) (ws : zWs s0 s) (hown : s.vm.findClass own = some m.cls) (hdg : decode cc pc = .ok (.newarray .byte, 2)) (harr : Cond.arrayClass .byte ∈ lw_tbl) (h0 : 0 ≤ x) (h1' : x ≤ 1000000) (hRc : zc S + 1 - c0 ≤ R.cells) (hRs : zw S + x.toNat - w0 ≤ R.slots) (k : zSnd p l e R s m args below meth c Q s0.heap.size b0 L xs b2 ys D DA nL A0 n0 c0 w0 (pc + 2) als (vr (zn S : Int) :: t) (zalloc S 3 x x.toNat)) : zSnd p l e R s m args below meth c Q s0.heap.size b0 L xs b2 ys D DA nL A0 n0 c0 w0 pc als (vi x :: t) S := by
  intro A H ls st locs h1 h2 h3 h4 h5 h6 h7 h8
  obtain ⟨_, st, rfl, ⟨u, rfl, hu⟩, hp⟩ := zRs_cons h2
  have hcl : u.toNatClampNeg = x.toNat := by show u.toInt.toNat = _; rw [hu]
  have e8 : componentBytes (FieldType.byte) ≤ 8 := by decide
  have hby : x.toNat * componentBytes (FieldType.byte) ≤ 536870912 := by
    have := Nat.mul_le_mul_left x.toNat e8
    omega
  refine va_newa (atype := .byte) (a0 := (x.toNat, .inl fun _ => 0)) hx hb (w0'.wd ws harr rfl _) rfl (w0'.K ws) h3.2.1 h3.2.2.1 h4 (fun q hq => Nat.le_trans ws.2.1 hq) (fun _ => rfl) (fun z => by have := Int32.lt_iff_toInt_lt.mp z; rw [hu] at this; have e0 : (0 : Int32).toInt = 0 := rfl; omega) hcl hby (by omega) (by omega) hdg fun q cA H1 hK1 hP hD hS => ?_
  have e1 : s.vm.findClass ("[" ++ FieldType.byte.toString) = some cA := (hK1.2 13 (cA, .byte) rfl).2
  have e2 : s.vm.findClass ("[" ++ FieldType.byte.toString) = some (DA 3) := ((w0'.K ws).2 3 _ (ztys_get (by decide))).2
  cases Option.some.inj (e1.symm.trans e2)
  have h9 := h3.1.1
  refine W.cs (by rw [zc_alloc]; omega) (by rw [zw_alloc]; omega) (k (zup A (zn S) q) H1 ls _ locs (h1.up (by rw [zn_alloc]; omega) fun a ha => zup_lt ha) ⟨⟨?_, by omega, by rw [zn_alloc]; omega⟩, hp.up (by rw [zn_alloc]; omega) fun a ha => zup_lt ha⟩ ?_ hS (fun a ha => by rw [zup_lt (by omega)]; exact h5 a ha) (by rw [zn_alloc]; omega) (by rw [zc_alloc]; omega) (by rw [zw_alloc]; omega))
  · unfold zad; rw [if_neg (by omega), zup_at]; rfl
  · refine h3.alloc (Or.inl (by decide)) h0 (by omega) ?_ hP hD
    rw [zent_i (t := 3) (by rw [zk_alloc, if_pos rfl]) (by decide) (by decide)]
    have ef : (fun j : Nat => Int32.ofInt (zm (zalloc S 3 x x.toNat) (zn S : Int) (j : Int))) = fun _ => 0 := by
      funext j
      rw [zm_alloc, if_pos rfl]
      rfl
    rw [ef, zk_alloc, if_pos rfl]
theorem zs_newarray_boolean {x : Int} {t : List zV} (hx : p.tables.exec = Jvm.exec) (hb : c.code = cc) (w0' : zW0 l s0 args0 D DA b0 L xs b2 ys) (ws : zWs s0 s) (hown : s.vm.findClass own = some m.cls) (hdg : decode cc pc = .ok (.newarray .boolean, 2)) (harr : Cond.arrayClass .boolean ∈ lw_tbl) (h0 : 0 ≤ x) (h1' : x ≤ 1000000) (hRc : zc S + 1 - c0 ≤ R.cells) (hRs : zw S + x.toNat - w0 ≤ R.slots) (k : zSnd p l e R s m args below meth c Q s0.heap.size b0 L xs b2 ys D DA nL A0 n0 c0 w0 (pc + 2) als (vr (zn S : Int) :: t) (zalloc S 4 x x.toNat)) : zSnd p l e R s m args below meth c Q s0.heap.size b0 L xs b2 ys D DA nL A0 n0 c0 w0 pc als (vi x :: t) S := by
  intro A H ls st locs h1 h2 h3 h4 h5 h6 h7 h8
  obtain ⟨_, st, rfl, ⟨u, rfl, hu⟩, hp⟩ := zRs_cons h2
  have hcl : u.toNatClampNeg = x.toNat := by show u.toInt.toNat = _; rw [hu]
  have e8 : componentBytes (FieldType.boolean) ≤ 8 := by decide
  have hby : x.toNat * componentBytes (FieldType.boolean) ≤ 536870912 := by
    have := Nat.mul_le_mul_left x.toNat e8
    omega
  refine va_newa (atype := .boolean) (a0 := (x.toNat, .inl fun _ => 0)) hx hb (w0'.wd ws harr rfl _) rfl (w0'.K ws) h3.2.1 h3.2.2.1 h4 (fun q hq => Nat.le_trans ws.2.1 hq) (fun _ => rfl) (fun z => by have := Int32.lt_iff_toInt_lt.mp z; rw [hu] at this; have e0 : (0 : Int32).toInt = 0 := rfl; omega) hcl hby (by omega) (by omega) hdg fun q cA H1 hK1 hP hD hS => ?_
  have e1 : s.vm.findClass ("[" ++ FieldType.boolean.toString) = some cA := (hK1.2 13 (cA, .boolean) rfl).2
  have e2 : s.vm.findClass ("[" ++ FieldType.boolean.toString) = some (DA 4) := ((w0'.K ws).2 4 _ (ztys_get (by decide))).2
  cases Option.some.inj (e1.symm.trans e2)
  have h9 := h3.1.1
  refine W.cs (by rw [zc_alloc]; omega) (by rw [zw_alloc]; omega) (k (zup A (zn S) q) H1 ls _ locs (h1.up (by rw [zn_alloc]; omega) fun a ha => zup_lt ha) ⟨⟨?_, by omega, by rw [zn_alloc]; omega⟩, hp.up (by rw [zn_alloc]; omega) fun a ha => zup_lt ha⟩ ?_ hS (fun a ha => by rw [zup_lt (by omega)]; exact h5 a ha) (by rw [zn_alloc]; omega) (by rw [zc_alloc]; omega) (by rw [zw_alloc]; omega))
  · unfold zad; rw [if_neg (by omega), zup_at]; rfl
  · refine h3.alloc (Or.inl (by decide)) h0 (by omega) ?_ hP hD
    rw [zent_i (t := 4) (by rw [zk_alloc, if_pos rfl]) (by decide) (by decide)]
    have ef : (fun j : Nat => Int32.ofInt (zm (zalloc S 4 x x.toNat) (zn S : Int) (j : Int))) = fun _ => 0 := by
      funext j
      rw [zm_alloc, if_pos rfl]
      rfl
    rw [ef, zk_alloc, if_pos rfl]
theorem zs_anewarray {x : Int} {t : List zV} {i q0 : Nat} {C : String} (hx : p.tables.exec = Jvm.exec) (hb : c.code = cc) (w0' : zW0 l s0 args0 D DA b0 L xs b2 ys) (ws : zWs s0 s) (hown : s.vm.findClass own = some m.cls) (hdg : decode cc pc = .ok (.anewarray i, 3)) (hq : 5 ≤ q0 ∧ q0 < 13) (hty : zaT q0 = .object C) (hcl : Cond.classLink own i C ∈ lw_tbl) (hov : Cond.arrayOver (.object C) ∈ lw_tbl) (h0 : 0 ≤ x) (h1' : x ≤ 1000000) (hRc : zc S + 1 - c0 ≤ R.cells) (hRs : zw S + x.toNat - w0 ≤ R.slots) (k : zSnd p l e R s m args below meth c Q s0.heap.size b0 L xs b2 ys D DA nL A0 n0 c0 w0 (pc + 3) als (vr (zn S : Int) :: t) (zalloc S q0 x x.toNat)) : zSnd p l e R s m args below meth c Q s0.heap.size b0 L xs b2 ys D DA nL A0 n0 c0 w0 pc als (vi x :: t) S := by
  intro A H ls st locs h1 h2 h3 h4 h5 h6 h7 h8
  obtain ⟨_, st, rfl, ⟨u, rfl, hu⟩, hp⟩ := zRs_cons h2
  have hcl' : u.toNatClampNeg = x.toNat := by show u.toInt.toNat = _; rw [hu]
  have hover : va_AO C s := va_AO.moved ws.1.alike (va_AO.of (w0'.2.1 _ hov))
  refine va_newq hx hb hown (w0'.wd ws hcl rfl _) hover (w0'.K ws) h3.2.1 h3.2.2.1 h4 (fun q hq => Nat.le_trans ws.2.1 hq) (fun z => by have := Int32.lt_iff_toInt_lt.mp z; rw [hu] at this; have e0 : (0 : Int32).toInt = 0 := rfl; omega) hcl' (by omega) (by omega) (by omega) hdg fun q cA H1 hK1 hP hD hS => ?_
  have e1 := (hK1.2 13 (cA, .object C) rfl).2
  have e2 := ((w0'.K ws).2 q0 _ (ztys_get hq.2)).2
  rw [hty] at e2
  obtain ⟨-, -, -, -, -, e1⟩ := e1
  obtain ⟨-, -, -, -, -, e2⟩ := e2
  cases Option.some.inj (e1.symm.trans e2)
  have h9 := h3.1.1
  refine W.cs (by rw [zc_alloc]; omega) (by rw [zw_alloc]; omega) (k (zup A (zn S) q) H1 ls _ locs (h1.up (by rw [zn_alloc]; omega) fun a ha => zup_lt ha) ⟨⟨?_, by omega, by rw [zn_alloc]; omega⟩, hp.up (by rw [zn_alloc]; omega) fun a ha => zup_lt ha⟩ ?_ hS (fun a ha => by rw [zup_lt (by omega)]; exact h5 a ha) (by rw [zn_alloc]; omega) (by rw [zc_alloc]; omega) (by rw [zw_alloc]; omega))
  · unfold zad; rw [if_neg (by omega), zup_at]; rfl
  · refine h3.alloc (Or.inl hq.2) h0 (by omega) ?_ hP hD
    rw [zent_q (t := q0) (by rw [zk_alloc, if_pos rfl]) hq.1 (by omega)]
    have ef : (fun j : Nat => zad (zup A (zn S) q) (zm (zalloc S q0 x x.toNat) (zn S : Int) (j : Int))) = fun _ => none := by
      funext j
      rw [zm_alloc, if_pos rfl]
      rfl
    rw [ef, zk_alloc, if_pos rfl]
theorem zs_multianewarray {x y : Int} {t : List zV} {i : Nat} (hx : p.tables.exec = Jvm.exec) (hb : c.code = cc) (w0' : zW0 l s0 args0 D DA b0 L xs b2 ys) (ws : zWs s0 s) (hown : s.vm.findClass own = some m.cls) (hdg : decode cc pc = .ok (.multianewarray i 2, 4)) (hcl : Cond.classLink own i ("[" ++ (FieldType.array .int).toString) ∈ lw_tbl) (hov : Cond.arrayOver (.array .int) ∈ lw_tbl) (hov2 : va_AOA .int s) (harr : Cond.arrayClass .int ∈ lw_tbl) (h0 : 0 ≤ x ∧ x ≤ 1000 ∧ 0 ≤ y ∧ y ≤ 1000) (hRc : zc S + 1 + x.toNat - c0 ≤ R.cells) (hRs : zw S + x.toNat + x.toNat * y.toNat - w0 ≤ R.slots) (k : zSnd p l e R s m args below meth c Q s0.heap.size b0 L xs b2 ys D DA nL A0 n0 c0 w0 (pc + 4) als (vr (zn S : Int) :: t) (zmulti S 8 0 x.toNat y.toNat)) : zSnd p l e R s m args below meth c Q s0.heap.size b0 L xs b2 ys D DA nL A0 n0 c0 w0 pc als (vi y :: vi x :: t) S := by
  intro A H ls st locs h1 h2 h3 h4 h5 h6 h7 h8
  obtain ⟨_, st, rfl, ⟨v, rfl, hv⟩, ho⟩ := zRs_cons h2
  obtain ⟨_, st, rfl, ⟨u, rfl, hu⟩, hp⟩ := zRs_cons ho
  have hcu : u.toNatClampNeg = x.toNat := by show u.toInt.toNat = _; rw [hu]
  have hcv : v.toNatClampNeg = y.toNat := by show v.toInt.toNat = _; rw [hv]
  have e2 : s.vm.findClass ("[" ++ FieldType.int.toString) = some (DA 0) := ((w0'.K ws).2 0 _ (ztys_get (by decide))).2
  have e0 : (0 : Int32).toInt = 0 := rfl
  have hmul : x.toNat * y.toNat ≤ 1000 * 1000 := Nat.mul_le_mul (by omega) (by omega)
  refine va_mna (X := zws DA A S) (L := []) (f := fun _ => .inr (0, [])) (ty := .int) (cy := DA 0) (z := (y.toNat, .inl fun _ => 0)) hx hb hown (w0'.wd ws hcl rfl _) hov2 (w0'.wd ws harr rfl _) e2 (w0'.K ws) (by show va_P D zcl (zws DA A S ++ []) H; rw [List.append_nil]; exact h3.2.1) (by show va_D _ (zws DA A S ++ []); rw [List.append_nil]; exact h3.2.2.1) h4 (fun q hq => Nat.le_trans ws.2.1 hq)
    (fun z => by have := Int32.lt_iff_toInt_lt.mp z; rw [hu] at this; omega) (fun z => by have := Int32.lt_iff_toInt_lt.mp z; rw [hv] at this; omega) hcu hcv (by omega) (by show y.toNat * 4 ≤ _; omega) (by omega) rfl rfl (by omega) (by omega) (fun c => arrV_new c y.toNat _) hdg fun q r cA H1 hr1 hr2 hK1 hP hD hS => ?_
  have e1 : s.vm.findClass ("[" ++ (FieldType.array .int).toString) = some cA := (hK1.2 13 (cA, .array .int) rfl).2
  have e3 : s.vm.findClass ("[" ++ (FieldType.array .int).toString) = some (DA 8) := ((w0'.K ws).2 8 _ (ztys_get (by decide))).2
  cases Option.some.inj (e1.symm.trans e3)
  have h9 := h3.1.1
  refine W.cs (by rw [zc_multi]; omega) (by rw [zw_multi]; omega) (k (zupm A (zn S) q r x.toNat) H1 ls _ locs (h1.up (by rw [zn_multi]; omega) fun a ha => zupm_lt ha) ⟨⟨?_, by omega, by rw [zn_multi]; omega⟩, hp.up (by rw [zn_multi]; omega) fun a ha => zupm_lt ha⟩ (h3.multi (by omega) (by omega) hP hD) hS (fun a ha => by rw [zupm_lt (by omega)]; exact h5 a ha) (by rw [zn_multi]; omega) (by rw [zc_multi]; omega) (by rw [zw_multi]; omega))
  unfold zad zupm
  rw [if_neg (by omega), if_pos rfl]
  rfl
end
