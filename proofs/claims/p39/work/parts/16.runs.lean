/-! Each kind of call runs; a throw of one's own. -/
theorem zWs.step {s0 s U : State} {H : Heap} {locs : List Loc} (ws : zWs s0 s) (h4 : va_S (fun q => s0.heap.size ≤ q) s.heap H locs) (hU : U.heap = H) (hW : s.WarmedH U.vm) : zWs s0 U :=
  ⟨State.WarmedH.trans ws.1 hW, by rw [hU]; exact Nat.le_trans ws.2.1 h4.1, fun q hq => by rw [hU, h4.2.1 q (Nat.lt_of_lt_of_le hq ws.2.1) (Nat.not_le.mpr hq)]; exact ws.2.2 q hq⟩
theorem z_met {l : Launch} {y : MethodName} {ws : List Cond} {rm : Room} {Pc : Array Value → State → Prop} {Qc : Array Value → State → Outcome → State → Prop} {XC : String → State → State → Prop} {mc ms : Nat} {free : Addr → Prop} (h : vx_Met l y ws rm Pc Qc XC mc ms free) (hX : ∀ E st t, ¬ XC E st t) : Met l y ws rm Pc Qc mc ms free := by
  intro p e a1 a2 a3 s m args below a4 a5 a6 a7
  obtain ⟨n, o, b1, b2, b3, b4⟩ := h p e a1 a2 a3 s m args below a4 a5 a6 a7
  refine ⟨n, o, b1, b2, b3, ?_⟩
  rcases b4 with b4 | ⟨q, -, E, ce, L, hx, -⟩
  · exact b4
  · exact (hX _ _ _ hx).elim
theorem z_run {p : Program} {l : Launch} {e : Env} {R : Room} {s : State} {m : MethodId} {args : Array Value} {below : List Frame} {meth : Method} {c : Code} {H : Heap} {locs : List Loc} {cells slots mc ms : Nat} {g : JFrame} {rest : List Value} {Qa : State → Outcome → State → Prop} {XC : String → State → State → Prop} {free : Addr → Prop}
    (h : va_Run p l e R s m args below meth c H locs cells slots mc ms g rest Qa free) : vx_Run p l e R s m args below meth c H locs cells slots mc ms g rest Qa XC free := fun T hT X => Or.inl (h T hT X)
/-- what every call wants of its callee y with n parameters, at depth d, in the room R -/
def zcok (y : zMi) (n d : Nat) (R : Room) : Prop := (y.1.cls ≠ "java/lang/invoke/MethodHandle" ∧ y.1.cls ≠ "java/lang/invoke/VarHandle") ∧ (parseMethodDescriptor y.1.desc).map (fun d => d.parameters.length) = some n ∧ y.2.2.1 ≤ 70 ∧ zcodeW y ∈ lw_tbl ∧ d + 8 ≤ R.frames ∧ 100 * d + 300 ≤ R.locals
theorem zdrop1 {α : Type} {st R : List α} {V : α} {n : Nat} (h : st.drop n = V :: R) : st.drop (n + 1) = R := by
  have : st.drop (n + 1) = (st.drop n).drop 1 := by rw [List.drop_drop]
  rw [this, h]
  rfl
theorem zsplit {α : Type} {st R : List α} {V : α} {n : Nat} (h : st.drop n = V :: R) : st = (st.take n).reverse.reverse ++ V :: R := by rw [List.reverse_reverse, ← h, List.take_append_drop]
theorem zgood_code (y : zMi) : goodWord (zcodeW y) = true := by
  unfold zcodeW
  split <;> rfl
section
variable {p : Program} {l : Launch} {e : Env} {R : Room} {s s0 : State} {m : MethodId} {args args0 : Array Value} {below : List Frame} {meth : Method} {c : Code} {Q : State → Prop} {cc : ByteArray}
variable {b0 L b2 : Nat} {xs ys : Nat → Int32} {D : va_G} {DA : Nat → ClassId} {nL : Nat} {A0 : Int → Nat} {n0 c0 w0 : Nat} {pc : Nat} {als ast : List zV} {S : zS} {own : String}
variable {y : zMi} {bn i d : Nat} {r : zO × zS}
theorem z_ws (w0' : zW0 l s0 args0 D DA b0 L xs b2 ys) (ws : zWs s0 s) (hc : zcodeW y ∈ lw_tbl) : ∀ w ∈ [zcodeW y], ∀ (a' : Array Value) (U : State), s.WarmedH U.vm → w.before a' U = true := fun w hw a' U hW => by
  rw [List.mem_singleton.mp hw]
  exact word_at (State.WarmedH.trans ws.1 hW) (good_of_word (zgood_code y)) (w0'.2.1 _ hc)
theorem z_len (hn : (parseMethodDescriptor y.1.desc).map (fun d => d.parameters.length) = some bn) : ∀ sig, parseMethodDescriptor y.1.desc = some sig → bn = sig.parameters.length := fun sig h => by
  rw [h] at hn
  exact (Option.some.inj hn).symm
theorem z_pc {A : Int → Nat} {as : List zV} {vs : List Value} {H : Heap} {locs : List Loc} (ws : zWs s0 s) (h4 : va_S (fun q => s0.heap.size ≤ q) s.heap H locs) (h3 : zH s0.heap.size b0 L xs b2 ys D DA A S H) (h : zRs A (zn S) as vs) : PreS s H (zPc s0 b0 L xs b2 ys D DA A as S) vs :=
  ⟨fun a U g mk h => h, fun U hU hW => ⟨vs, rfl, h, by rw [hU]; exact h3, ws.step h4 hU hW⟩⟩
theorem zr_callS (hx : p.tables.exec = Jvm.exec) (hb : c.code = cc) (w0' : zW0 l s0 args0 D DA b0 L xs b2 ys) (ws : zWs s0 s) (hown : s.vm.findClass own = some m.cls) (hml : c.maxLocals = nL) (hdg : decode cc pc = .ok (.invokestatic i, 3)) (hok : zcok y bn d R)
    (hM : zMet l s0 b0 L xs b2 ys D DA y (ast.take bn).reverse S r d) (hlink : Cond.methodLink own i y.1 ∈ lw_tbl) (hst : Cond.static y.1 ∈ lw_tbl) (hini : Cond.initialized y.1.cls ∈ lw_tbl) (hcat : zcat (ast.drop bn) ≤ 8) (hlen : bn ≤ ast.length) (hRc : zc r.2 - c0 ≤ R.cells) (hRs : zw r.2 - w0 ≤ R.slots) (hm : zmono S r.2) :
    zRunOk p l e R s m args below meth c s0 b0 L xs b2 ys D DA nL c0 w0 pc als ast S bn r := by
  intro A H ls st locs h1 h2 h3 h4 h7 h8
  obtain ⟨hy, hn, hmx, hc, hRf, hRl⟩ := hok
  have hl := zRs_len h2
  have hcs := zRs_cat (zRs_drop bn h2)
  have hMA := hM A
  have hw := z_ws w0' ws hc
  have hmc := hm.2.1
  have hmw := hm.2.2.1
  have hAs : (st.take bn).reverse.length = bn := by rw [List.length_reverse, List.length_take]; omega
  have hstk : (F0 m pc ls st).stack = (st.take bn).reverse.reverse ++ st.drop bn := by show st = _; rw [List.reverse_reverse, List.take_append_drop]
  have hcm := w0'.wd ws hc (zgood_code y) args
  cases hh : y.2.2.2.2 with
  | nil =>
    have e1 : zcodeW y = Cond.code y.1 y.2.1 y.2.2.1 y.2.2.2.1 := by unfold zcodeW; rw [hh]
    rw [e1] at hMA hw hcm
    exact vx_runS (As := (st.take bn).reverse) (Ts := []) ⟨hx, hb, hml, hown, fun w hw => nomatch hw⟩ hMA ⟨⟨rfl, rfl, by show d + 7 + 1 ≤ _; omega, by show 8 + (y.2.2.1 + 11) + (100 * d + 200) ≤ _; omega, hw, List.mem_singleton.mpr rfl, hcm, w0'.wd ws hini rfl _, hy, z_len hn, w0'.wd ws hlink rfl _⟩, w0'.wd ws hst rfl _⟩
      (z_pc ws h4 h3 (zRs_rev (zRs_take bn h2))) rfl hAs h1.2.1 hstk (lv_room (by rw [hcs]; exact hcat)) hdg ⟨by omega, by omega⟩
  | cons q qs =>
    have e1 : zcodeW y = Cond.codeWith y.1 y.2.1 y.2.2.1 y.2.2.2.1 (zhh (q :: qs)) := by unfold zcodeW; rw [hh]
    rw [e1] at hMA hw hcm
    exact vx_runSX (As := (st.take bn).reverse) (Ts := []) ⟨hx, hb, hml, hown, fun w hw => nomatch hw⟩ hMA ⟨⟨rfl, rfl, by show d + 7 + 1 ≤ _; omega, by show 8 + (y.2.2.1 + 11) + (100 * d + 200) ≤ _; omega, hw, List.mem_singleton.mpr rfl⟩, hcm, w0'.wd ws hini rfl _, hy, z_len hn, w0'.wd ws hlink rfl _, w0'.wd ws hst rfl _⟩
      (z_pc ws h4 h3 (zRs_rev (zRs_take bn h2))) rfl hAs h1.2.1 hstk (lv_room (by rw [hcs]; exact hcat)) hdg ⟨by omega, by omega⟩
theorem zr_callSN {host : String} {ov : Option zV} {S1 : zS} (hx : p.tables.exec = Jvm.exec) (hb : c.code = cc) (w0' : zW0 l s0 args0 D DA b0 L xs b2 ys) (ws : zWs s0 s) (hown : s.vm.findClass own = some m.cls) (hml : c.maxLocals = nL) (hdg : decode cc pc = .ok (.invokestatic i, 3)) (hok : zcok y bn d R) (hh : y.2.2.2.2 = [])
    (hM : zMet l s0 b0 L xs b2 ys D DA y (ast.take bn).reverse S (.inl ov, S1) d) (hlink : Cond.methodLinkNest own i y.1 host ∈ lw_tbl) (hst : Cond.static y.1 ∈ lw_tbl) (hini : Cond.initialized y.1.cls ∈ lw_tbl) (hcat : zcat (ast.drop bn) ≤ 8) (hlen : bn ≤ ast.length) (hRc : zc S1 - c0 ≤ R.cells) (hRs : zw S1 - w0 ≤ R.slots) (hm : zmono S S1) :
    zRunOk p l e R s m args below meth c s0 b0 L xs b2 ys D DA nL c0 w0 pc als ast S bn (.inl ov, S1) := by
  intro A H ls st locs h1 h2 h3 h4 h7 h8
  obtain ⟨hy, hn, hmx, hc, hRf, hRl⟩ := hok
  have hl := zRs_len h2
  have hcs := zRs_cat (zRs_drop bn h2)
  have hMA := z_met (hM A) (fun E st t h => by obtain ⟨A', x, eo, -⟩ := h; cases eo)
  have hw := z_ws w0' ws hc
  have hmc := hm.2.1
  have hmw := hm.2.2.1
  have hAs : (st.take bn).reverse.length = bn := by rw [List.length_reverse, List.length_take]; omega
  have hstk : (F0 m pc ls st).stack = (st.take bn).reverse.reverse ++ st.drop bn := by show st = _; rw [List.reverse_reverse, List.take_append_drop]
  have hcm := w0'.wd ws hc (zgood_code y) args
  have e1 : zcodeW y = Cond.code y.1 y.2.1 y.2.2.1 y.2.2.2.1 := by unfold zcodeW; rw [hh]
  rw [e1] at hMA hw hcm
  dsimp only at hMA ⊢
  exact z_run (va_runSN (As := (st.take bn).reverse) (host := host) (Ts := []) ⟨hx, hb, hml, hown, fun w hw => nomatch hw⟩ hMA ⟨⟨⟨rfl, rfl, by show d + 7 + 1 ≤ _; omega, by show 8 + (y.2.2.1 + 11) + (100 * d + 200) ≤ _; omega, hw, List.mem_singleton.mpr rfl⟩, hcm, w0'.wd ws hini rfl _, hy, z_len hn, (va_Nw.warmM ws.1 (w0'.nw hlink rfl)).use rfl⟩, w0'.wd ws hst rfl _, trivial⟩
      (z_pc ws h4 h3 (zRs_rev (zRs_take bn h2))) rfl hAs h1.2.1 hstk (lv_room (by rw [hcs]; exact hcat)) hdg ⟨by omega, by omega⟩)
theorem zr_callV {x : Int} {t : List zV} {ci : Nat} (hx : p.tables.exec = Jvm.exec) (hb : c.code = cc) (w0' : zW0 l s0 args0 D DA b0 L xs b2 ys) (ws : zWs s0 s) (hown : s.vm.findClass own = some m.cls) (hml : c.maxLocals = nL) (hdg : decode cc pc = .ok (.invokevirtual i, 3)) (hok : zcok y bn d R) (hh : y.2.2.2.2 = []) (hci : ci < 13) (hkx : (zk S x).1 = 20 + ci) (hdrop : ast.drop bn = vr x :: t)
    (hM : zMet l s0 b0 L xs b2 ys D DA y (vr x :: (ast.take bn).reverse) S r d) (hlink : Cond.methodLink own i y.1 ∈ lw_tbl) (hin : Cond.instanceMethod y.1 ∈ lw_tbl) (hse : Cond.selects (zRX ci) y.1 y.1 ∈ lw_tbl) (hini : Cond.initialized y.1.cls ∈ lw_tbl) (hcat : zcat t ≤ 8) (hlen : bn ≤ ast.length) (hRc : zc r.2 - c0 ≤ R.cells) (hRs : zw r.2 - w0 ≤ R.slots) (hm : zmono S r.2) :
    zRunOk p l e R s m args below meth c s0 b0 L xs b2 ys D DA nL c0 w0 pc als ast S (bn + 1) r := by
  intro A H ls st locs h1 h2 h3 h4 h7 h8
  obtain ⟨hy, hn, hmx, hc, hRf, hRl⟩ := hok
  have hl := zRs_len h2
  have hd2 := zRs_drop bn h2
  rw [hdrop] at hd2
  obtain ⟨V, rest, hst, ⟨hV, hx0, hxn⟩, hrest⟩ := zRs_cons hd2
  have hcs := zRs_cat hrest
  have hx1 := zne0 h3.1 hkx (by omega)
  rw [zrf hx1] at hV
  subst hV
  have hMA := hM A
  have hw := z_ws w0' ws hc
  have hmc := hm.2.1
  have hmw := hm.2.2.1
  have hAs : (st.take bn).reverse.length = bn := by rw [List.length_reverse, List.length_take]; omega
  have hcm := w0'.wd ws hc (zgood_code y) args
  have e1 : zcodeW y = Cond.code y.1 y.2.1 y.2.2.1 y.2.2.2.1 := by unfold zcodeW; rw [hh]
  rw [e1] at hMA hw hcm
  rw [zdrop1 hst]
  obtain ⟨q3, qn⟩ := h3.1.lt3 hkx (by omega) (by omega)
  have hwg := zws_get (DA := DA) (A := A) q3 qn
  rw [zent_o hkx] at hwg
  have hrc := va_recv (w0'.K ws) h3.2.1 (zcl_get ci hci) hwg
  have hp := z_pc (as := vr x :: (ast.take bn).reverse) (vs := .ref (A x) :: (st.take bn).reverse) ws h4 h3 ⟨⟨(zrf hx1).symm, hx0, hxn⟩, zRs_rev (zRs_take bn h2)⟩
  exact vx_runV (Ts := []) (C := zRX ci) (b := A x) ⟨hx, hb, hml, hown, fun w hw => nomatch hw⟩ hMA ⟨⟨rfl, rfl, by show d + 7 + 1 ≤ _; omega, by show 8 + (y.2.2.1 + 11) + (100 * d + 200) ≤ _; omega, hw, List.mem_singleton.mpr rfl, hcm, w0'.wd ws hini rfl _, hy, z_len hn, w0'.wd ws hlink rfl _⟩, w0'.wd ws hin rfl _, w0'.wd ws hse rfl _⟩
      ⟨hp.1, hrc, hp.2⟩ rfl hAs h1.2.1 (zsplit hst) (lv_room (by rw [hcs]; exact hcat)) hdg ⟨by omega, by omega⟩
theorem zr_callI {x : Int} {t : List zV} {S1 : zS} (hx : p.tables.exec = Jvm.exec) (hb : c.code = cc) (w0' : zW0 l s0 args0 D DA b0 L xs b2 ys) (ws : zWs s0 s) (hown : s.vm.findClass own = some m.cls) (hml : c.maxLocals = nL) (hdg : decode cc pc = .ok (.invokespecial i, 3)) (hok : zcok y bn d R) (hh : y.2.2.2.2 = []) (hrt : y.2.2.2.1 = none) (hnm : y.1.name = "<init>") (hx1 : x ≠ 0) (hdrop : ast.drop bn = vr x :: t)
    (hM : zMet l s0 b0 L xs b2 ys D DA y (vr x :: (ast.take bn).reverse) S (.inl none, S1) d) (hlink : Cond.methodLink own i y.1 ∈ lw_tbl ∨ ∃ host, Cond.methodLinkNest own i y.1 host ∈ lw_tbl) (hin : Cond.instanceMethod y.1 ∈ lw_tbl) (hini : Cond.initialized y.1.cls ∈ lw_tbl) (hcat : zcat t ≤ 8) (hlen : bn ≤ ast.length) (hRc : zc S1 - c0 ≤ R.cells) (hRs : zw S1 - w0 ≤ R.slots) (hm : zmono S S1) :
    zRunOk p l e R s m args below meth c s0 b0 L xs b2 ys D DA nL c0 w0 pc als ast S (bn + 1) (.inl none, S1) := by
  intro A H ls st locs h1 h2 h3 h4 h7 h8
  obtain ⟨hy, hn, hmx, hc, hRf, hRl⟩ := hok
  have hl := zRs_len h2
  have hd2 := zRs_drop bn h2
  rw [hdrop] at hd2
  obtain ⟨V, rest, hst, ⟨hV, hx0, hxn⟩, hrest⟩ := zRs_cons hd2
  have hcs := zRs_cat hrest
  rw [zrf hx1] at hV
  subst hV
  have hMA := z_met (hM A) (fun E st t h => by obtain ⟨A', x, eo, -⟩ := h; cases eo)
  have hw := z_ws w0' ws hc
  have hmc := hm.2.1
  have hmw := hm.2.2.1
  have hAs : (st.take bn).reverse.length = bn := by rw [List.length_reverse, List.length_take]; omega
  have hcm := w0'.wd ws hc (zgood_code y) args
  have e1 : zcodeW y = Cond.code y.1 y.2.1 y.2.2.1 none := by unfold zcodeW; rw [hh, hrt]
  rw [e1] at hMA hw hcm
  dsimp only at hMA ⊢
  rw [zdrop1 hst]
  have hp := z_pc (as := vr x :: (ast.take bn).reverse) (vs := .ref (A x) :: (st.take bn).reverse) ws h4 h3 ⟨⟨(zrf hx1).symm, hx0, hxn⟩, zRs_rev (zRs_take bn h2)⟩
  rcases hlink with hlink | ⟨host, hlink⟩
  · exact z_run (va_runI (Ts := []) (b := A x) ⟨hx, hb, hml, hown, fun w hw => nomatch hw⟩ hMA ⟨⟨rfl, rfl, by show d + 7 + 1 ≤ _; omega, by show 8 + (y.2.2.1 + 11) + (100 * d + 200) ≤ _; omega, hw, List.mem_singleton.mpr rfl, hcm, w0'.wd ws hini rfl _, hy, z_len hn, w0'.wd ws hlink rfl _⟩, hnm, w0'.wd ws hin rfl _⟩
      hp rfl hAs h1.2.1 (zsplit hst) (lv_room (by rw [hcs]; exact hcat)) hdg ⟨by omega, by omega⟩)
  · exact z_run (va_runIN (host := host) (Ts := []) (b := A x) ⟨hx, hb, hml, hown, fun w hw => nomatch hw⟩ hMA ⟨⟨⟨rfl, rfl, by show d + 7 + 1 ≤ _; omega, by show 8 + (y.2.2.1 + 11) + (100 * d + 200) ≤ _; omega, hw, List.mem_singleton.mpr rfl⟩, hcm, w0'.wd ws hini rfl _, hy, z_len hn, (va_Nw.warmM ws.1 (w0'.nw hlink rfl)).use rfl⟩, hnm, w0'.wd ws hin rfl _⟩
      hp rfl hAs h1.2.1 (zsplit hst) (lv_room (by rw [hcs]; exact hcat)) hdg ⟨by omega, by omega⟩)
end
