/-! What the tables must say of an instruction, as a check that computes. -/
theorem zYc0 : ∀ q ∈ zpY0, zcodeW (zMt q.1) ∈ lw_tbl := List.forall_mem_cons.mpr ⟨zcd_0, List.forall_mem_cons.mpr ⟨zcd_1, List.forall_mem_cons.mpr ⟨zcd_2, List.forall_mem_cons.mpr ⟨zcd_3, List.forall_mem_cons.mpr ⟨zcd_4, List.forall_mem_cons.mpr ⟨zcd_5, List.forall_mem_cons.mpr ⟨zcd_6, List.forall_mem_cons.mpr ⟨zcd_7, List.forall_mem_cons.mpr ⟨zcd_8, List.forall_mem_cons.mpr ⟨zcd_9, List.forall_mem_cons.mpr ⟨zcd_10, List.forall_mem_cons.mpr ⟨zcd_11, List.forall_mem_cons.mpr ⟨zcd_12, List.forall_mem_cons.mpr ⟨zcd_13, List.forall_mem_cons.mpr ⟨zcd_14, List.forall_mem_cons.mpr ⟨zcd_15, List.forall_mem_cons.mpr ⟨zcd_16, List.forall_mem_cons.mpr ⟨zcd_17, List.forall_mem_cons.mpr ⟨zcd_18, List.forall_mem_cons.mpr ⟨zcd_19, List.forall_mem_cons.mpr ⟨zcd_20, List.forall_mem_cons.mpr ⟨zcd_21, List.forall_mem_cons.mpr ⟨zcd_22, List.forall_mem_cons.mpr ⟨zcd_23, List.forall_mem_cons.mpr ⟨zcd_24, List.forall_mem_cons.mpr ⟨zcd_25, List.forall_mem_cons.mpr ⟨zcd_26, List.forall_mem_cons.mpr ⟨zcd_27, List.forall_mem_cons.mpr ⟨zcd_28, List.forall_mem_cons.mpr ⟨zcd_29, List.forall_mem_cons.mpr ⟨zcd_30, List.forall_mem_cons.mpr ⟨zcd_31, List.forall_mem_cons.mpr ⟨zcd_32, List.forall_mem_cons.mpr ⟨zcd_33, List.forall_mem_cons.mpr ⟨zcd_34, List.forall_mem_cons.mpr ⟨zcd_35, List.forall_mem_cons.mpr ⟨zcd_36, List.forall_mem_cons.mpr ⟨zcd_37, List.forall_mem_cons.mpr ⟨zcd_38, List.forall_mem_cons.mpr ⟨zcd_39, List.forall_mem_cons.mpr ⟨zcd_40, List.forall_mem_cons.mpr ⟨zcd_41, List.forall_mem_cons.mpr ⟨zcd_42, List.forall_mem_cons.mpr ⟨zcd_43, List.forall_mem_cons.mpr ⟨zcd_44, List.forall_mem_cons.mpr ⟨zcd_45, List.forall_mem_cons.mpr ⟨zcd_46, List.forall_mem_cons.mpr ⟨zcd_47, List.forall_mem_cons.mpr ⟨zcd_48, List.forall_mem_cons.mpr ⟨zcd_49, List.forall_mem_cons.mpr ⟨zcd_50, List.forall_mem_cons.mpr ⟨zcd_51, List.forall_mem_cons.mpr ⟨zcd_52, List.forall_mem_cons.mpr ⟨zcd_53, List.forall_mem_cons.mpr ⟨zcd_54, List.forall_mem_cons.mpr ⟨zcd_55, List.forall_mem_cons.mpr ⟨zcd_56, List.forall_mem_cons.mpr ⟨zcd_57, List.forall_mem_cons.mpr ⟨zcd_58, List.forall_mem_cons.mpr ⟨zcd_59, fun _ h => absurd h List.not_mem_nil⟩⟩⟩⟩⟩⟩⟩⟩⟩⟩⟩⟩⟩⟩⟩⟩⟩⟩⟩⟩⟩⟩⟩⟩⟩⟩⟩⟩⟩⟩⟩⟩⟩⟩⟩⟩⟩⟩⟩⟩⟩⟩⟩⟩⟩⟩⟩⟩⟩⟩⟩⟩⟩⟩⟩⟩⟩⟩⟩⟩
theorem zYc60 : ∀ q ∈ zpY60, zcodeW (zMt q.1) ∈ lw_tbl := List.forall_mem_cons.mpr ⟨zcd_60, List.forall_mem_cons.mpr ⟨zcd_61, List.forall_mem_cons.mpr ⟨zcd_62, List.forall_mem_cons.mpr ⟨zcd_63, List.forall_mem_cons.mpr ⟨zcd_64, List.forall_mem_cons.mpr ⟨zcd_65, List.forall_mem_cons.mpr ⟨zcd_66, List.forall_mem_cons.mpr ⟨zcd_67, List.forall_mem_cons.mpr ⟨zcd_68, List.forall_mem_cons.mpr ⟨zcd_69, List.forall_mem_cons.mpr ⟨zcd_70, List.forall_mem_cons.mpr ⟨zcd_71, List.forall_mem_cons.mpr ⟨zcd_72, List.forall_mem_cons.mpr ⟨zcd_73, List.forall_mem_cons.mpr ⟨zcd_74, List.forall_mem_cons.mpr ⟨zcd_75, List.forall_mem_cons.mpr ⟨zcd_76, List.forall_mem_cons.mpr ⟨zcd_77, List.forall_mem_cons.mpr ⟨zcd_78, List.forall_mem_cons.mpr ⟨zcd_79, List.forall_mem_cons.mpr ⟨zcd_80, List.forall_mem_cons.mpr ⟨zcd_81, List.forall_mem_cons.mpr ⟨zcd_82, List.forall_mem_cons.mpr ⟨zcd_83, List.forall_mem_cons.mpr ⟨zcd_84, List.forall_mem_cons.mpr ⟨zcd_85, List.forall_mem_cons.mpr ⟨zcd_86, List.forall_mem_cons.mpr ⟨zcd_87, List.forall_mem_cons.mpr ⟨zcd_88, List.forall_mem_cons.mpr ⟨zcd_89, List.forall_mem_cons.mpr ⟨zcd_90, List.forall_mem_cons.mpr ⟨zcd_91, List.forall_mem_cons.mpr ⟨zcd_92, List.forall_mem_cons.mpr ⟨zcd_93, List.forall_mem_cons.mpr ⟨zcd_94, List.forall_mem_cons.mpr ⟨zcd_95, List.forall_mem_cons.mpr ⟨zcd_96, List.forall_mem_cons.mpr ⟨zcd_97, List.forall_mem_cons.mpr ⟨zcd_98, List.forall_mem_cons.mpr ⟨zcd_99, List.forall_mem_cons.mpr ⟨zcd_100, List.forall_mem_cons.mpr ⟨zcd_101, List.forall_mem_cons.mpr ⟨zcd_102, List.forall_mem_cons.mpr ⟨zcd_103, List.forall_mem_cons.mpr ⟨zcd_104, List.forall_mem_cons.mpr ⟨zcd_105, List.forall_mem_cons.mpr ⟨zcd_106, List.forall_mem_cons.mpr ⟨zcd_107, List.forall_mem_cons.mpr ⟨zcd_108, List.forall_mem_cons.mpr ⟨zcd_109, List.forall_mem_cons.mpr ⟨zcd_110, List.forall_mem_cons.mpr ⟨zcd_111, List.forall_mem_cons.mpr ⟨zcd_112, List.forall_mem_cons.mpr ⟨zcd_113, List.forall_mem_cons.mpr ⟨zcd_114, List.forall_mem_cons.mpr ⟨zcd_115, List.forall_mem_cons.mpr ⟨zcd_116, List.forall_mem_cons.mpr ⟨zcd_117, List.forall_mem_cons.mpr ⟨zcd_118, List.forall_mem_cons.mpr ⟨zcd_119, fun _ h => absurd h List.not_mem_nil⟩⟩⟩⟩⟩⟩⟩⟩⟩⟩⟩⟩⟩⟩⟩⟩⟩⟩⟩⟩⟩⟩⟩⟩⟩⟩⟩⟩⟩⟩⟩⟩⟩⟩⟩⟩⟩⟩⟩⟩⟩⟩⟩⟩⟩⟩⟩⟩⟩⟩⟩⟩⟩⟩⟩⟩⟩⟩⟩⟩
theorem zYc120 : ∀ q ∈ zpY120, zcodeW (zMt q.1) ∈ lw_tbl := List.forall_mem_cons.mpr ⟨zcd_120, List.forall_mem_cons.mpr ⟨zcd_121, List.forall_mem_cons.mpr ⟨zcd_122, List.forall_mem_cons.mpr ⟨zcd_123, List.forall_mem_cons.mpr ⟨zcd_124, List.forall_mem_cons.mpr ⟨zcd_125, List.forall_mem_cons.mpr ⟨zcd_126, List.forall_mem_cons.mpr ⟨zcd_127, List.forall_mem_cons.mpr ⟨zcd_128, List.forall_mem_cons.mpr ⟨zcd_129, List.forall_mem_cons.mpr ⟨zcd_130, List.forall_mem_cons.mpr ⟨zcd_131, List.forall_mem_cons.mpr ⟨zcd_132, List.forall_mem_cons.mpr ⟨zcd_133, List.forall_mem_cons.mpr ⟨zcd_134, List.forall_mem_cons.mpr ⟨zcd_135, List.forall_mem_cons.mpr ⟨zcd_136, List.forall_mem_cons.mpr ⟨zcd_137, List.forall_mem_cons.mpr ⟨zcd_138, List.forall_mem_cons.mpr ⟨zcd_139, List.forall_mem_cons.mpr ⟨zcd_140, List.forall_mem_cons.mpr ⟨zcd_141, List.forall_mem_cons.mpr ⟨zcd_142, List.forall_mem_cons.mpr ⟨zcd_143, List.forall_mem_cons.mpr ⟨zcd_144, List.forall_mem_cons.mpr ⟨zcd_145, List.forall_mem_cons.mpr ⟨zcd_146, List.forall_mem_cons.mpr ⟨zcd_147, List.forall_mem_cons.mpr ⟨zcd_148, List.forall_mem_cons.mpr ⟨zcd_149, List.forall_mem_cons.mpr ⟨zcd_150, List.forall_mem_cons.mpr ⟨zcd_151, List.forall_mem_cons.mpr ⟨zcd_152, List.forall_mem_cons.mpr ⟨zcd_153, List.forall_mem_cons.mpr ⟨zcd_154, List.forall_mem_cons.mpr ⟨zcd_155, List.forall_mem_cons.mpr ⟨zcd_156, List.forall_mem_cons.mpr ⟨zcd_157, List.forall_mem_cons.mpr ⟨zcd_158, List.forall_mem_cons.mpr ⟨zcd_159, List.forall_mem_cons.mpr ⟨zcd_160, List.forall_mem_cons.mpr ⟨zcd_161, List.forall_mem_cons.mpr ⟨zcd_162, List.forall_mem_cons.mpr ⟨zcd_163, List.forall_mem_cons.mpr ⟨zcd_164, List.forall_mem_cons.mpr ⟨zcd_165, List.forall_mem_cons.mpr ⟨zcd_166, List.forall_mem_cons.mpr ⟨zcd_167, List.forall_mem_cons.mpr ⟨zcd_168, List.forall_mem_cons.mpr ⟨zcd_169, List.forall_mem_cons.mpr ⟨zcd_170, List.forall_mem_cons.mpr ⟨zcd_171, List.forall_mem_cons.mpr ⟨zcd_172, List.forall_mem_cons.mpr ⟨zcd_173, List.forall_mem_cons.mpr ⟨zcd_174, List.forall_mem_cons.mpr ⟨zcd_175, List.forall_mem_cons.mpr ⟨zcd_176, List.forall_mem_cons.mpr ⟨zcd_177, List.forall_mem_cons.mpr ⟨zcd_178, List.forall_mem_cons.mpr ⟨zcd_179, fun _ h => absurd h List.not_mem_nil⟩⟩⟩⟩⟩⟩⟩⟩⟩⟩⟩⟩⟩⟩⟩⟩⟩⟩⟩⟩⟩⟩⟩⟩⟩⟩⟩⟩⟩⟩⟩⟩⟩⟩⟩⟩⟩⟩⟩⟩⟩⟩⟩⟩⟩⟩⟩⟩⟩⟩⟩⟩⟩⟩⟩⟩⟩⟩⟩⟩
theorem zYc180 : ∀ q ∈ zpY180, zcodeW (zMt q.1) ∈ lw_tbl := List.forall_mem_cons.mpr ⟨zcd_306, List.forall_mem_cons.mpr ⟨zcd_342, List.forall_mem_cons.mpr ⟨zcd_343, List.forall_mem_cons.mpr ⟨zcd_344, List.forall_mem_cons.mpr ⟨zcd_345, List.forall_mem_cons.mpr ⟨zcd_346, List.forall_mem_cons.mpr ⟨zcd_347, List.forall_mem_cons.mpr ⟨zcd_348, List.forall_mem_cons.mpr ⟨zcd_349, List.forall_mem_cons.mpr ⟨zcd_350, List.forall_mem_cons.mpr ⟨zcd_351, List.forall_mem_cons.mpr ⟨zcd_352, List.forall_mem_cons.mpr ⟨zcd_353, List.forall_mem_cons.mpr ⟨zcd_354, fun _ h => absurd h List.not_mem_nil⟩⟩⟩⟩⟩⟩⟩⟩⟩⟩⟩⟩⟩⟩
theorem zYc : ∀ q ∈ zpY, zcodeW (zMt q.1) ∈ lw_tbl := List.forall_mem_append.mpr ⟨zYc0, List.forall_mem_append.mpr ⟨zYc60, List.forall_mem_append.mpr ⟨zYc120, zYc180⟩⟩⟩
theorem zpF_in {o : Nat} (ho : o < 17) {q : Nat × Nat × Nat × Nat} (h : q ∈ zpF o) : Cond.fieldLink (zown o) q.1 (zRX q.2.1) (zTX q.2.1 q.2.2.1).2.1 (zTX q.2.1 q.2.2.1).2.2.1 ∈ lw_tbl :=
  zpt (List.all_eq_true.mp (List.all_eq_true.mp zpF_ok o (List.mem_range.mpr ho)) q h)
theorem zpM_in {o : Nat} (ho : o < 17) {q : Nat × Nat × Nat} (h : q ∈ zpM o) : Cond.methodLink (zown o) q.1 (zMt q.2.1).1 ∈ lw_tbl :=
  zpt (List.all_eq_true.mp (List.all_eq_true.mp zpM_ok o (List.mem_range.mpr ho)) q h)
theorem zpN_in {o : Nat} (ho : o < 17) {q : Nat × Nat × Nat} (h : q ∈ zpN o) : Cond.methodLinkNest (zown o) q.1 (zMt q.2.1).1 "Touchpress" ∈ lw_tbl :=
  zpt (List.all_eq_true.mp (List.all_eq_true.mp zpN_ok o (List.mem_range.mpr ho)) q h)
theorem zpO_in {o : Nat} (ho : o < 17) {q : Nat × Nat} (h : q ∈ zpO o) : Cond.methodLink (zown o) q.1 Lib.objectInit ∈ lw_tbl :=
  zpt (List.all_eq_true.mp (List.all_eq_true.mp zpO_ok o (List.mem_range.mpr ho)) q h)
theorem zpC_in {o : Nat} (ho : o < 17) {q : Nat × Nat × Nat} (h : q ∈ zpC o) : Cond.classLink (zown o) q.1 (zRX q.2.1) ∈ lw_tbl :=
  zpt (List.all_eq_true.mp (List.all_eq_true.mp zpC_ok o (List.mem_range.mpr ho)) q h)
theorem zpI_in {o : Nat} (ho : o < 17) {q : Nat × Nat × Nat} (h : q ∈ zpI o) : Cond.constant (zown o) q.1 (Int32.ofInt (zsg (q.2.1 / 2) (q.2.1 % 2))) ∈ lw_tbl :=
  zpt (List.all_eq_true.mp (List.all_eq_true.mp zpI_ok o (List.mem_range.mpr ho)) q h)
theorem zpL_in {o : Nat} (ho : o < 17) {q : Nat × Nat × Nat} (h : q ∈ zpL o) : Cond.constantLong (zown o) q.1 (Int64.ofInt (zsg (q.2.1 / 2) (q.2.1 % 2))) ∈ lw_tbl :=
  zpt (List.all_eq_true.mp (List.all_eq_true.mp zpL_ok o (List.mem_range.mpr ho)) q h)
theorem zpQ2_in {o : Nat} (ho : o < 17) {q : Nat × Nat} (h : q ∈ zpQ2 o) : Cond.methodLink (zown o) q.1 Lib.Math.max.name ∈ lw_tbl :=
  zpt (List.all_eq_true.mp (List.all_eq_true.mp zpQ2_ok o (List.mem_range.mpr ho)) q h)
theorem zpQ3_in {o : Nat} (ho : o < 17) {q : Nat × Nat} (h : q ∈ zpQ3 o) : Cond.methodLink (zown o) q.1 Lib.Math.min.name ∈ lw_tbl :=
  zpt (List.all_eq_true.mp (List.all_eq_true.mp zpQ3_ok o (List.mem_range.mpr ho)) q h)
theorem zpQ4_in {o : Nat} (ho : o < 17) {q : Nat × Nat} (h : q ∈ zpQ4 o) : Cond.methodLink (zown o) q.1 Lib.MathLoose.min_long.x ∈ lw_tbl :=
  zpt (List.all_eq_true.mp (List.all_eq_true.mp zpQ4_ok o (List.mem_range.mpr ho)) q h)
theorem zpX_in {q : Nat × Nat × Nat} (h : q ∈ zpX) : Cond.classLink RX12 q.1 (zX q.2.1) ∈ lw_tbl := zpt (List.all_eq_true.mp zpX_ok q h)
theorem zpS_in {q : Nat × String × Nat} (h : q ∈ zpS) : Cond.stringRef RX12 q.1 q.2.1 ∈ lw_tbl := zpt (List.all_eq_true.mp zpS_ok q h)
theorem zpG_in {q : Nat × Nat} (h : q ∈ zpG) : Cond.fieldLink RX12 q.1 RX12 "LETTER_CELLS" "[I" ∈ lw_tbl := zpt (List.all_eq_true.mp zpG_ok q h)
theorem zpA_in {q : Nat × Nat} (h : q ∈ zpA) : Cond.classLink RX12 q.1 ("[" ++ (FieldType.array .int).toString) ∈ lw_tbl := zpt (List.all_eq_true.mp zpA_ok q h)
theorem zpY_in {q : Nat × Nat × Nat × Nat × Nat × Nat × Nat} (h : q ∈ zpY) : zcallee (zMt q.1) q.2.1 ∧ Cond.initialized (zMt q.1).1.cls ∈ lw_tbl ∧
    (q.2.2.1 = 0 → Cond.static (zMt q.1).1 ∈ lw_tbl) ∧ (q.2.2.1 = 1 → Cond.instanceMethod (zMt q.1).1 ∈ lw_tbl ∧ Cond.selects (zRX q.2.2.2.1) (zMt q.1).1 (zMt q.1).1 ∈ lw_tbl ∧ q.2.2.2.1 < 13 ∧ (zMt q.1).2.2.2.2 = []) ∧
    (q.2.2.1 = 2 → Cond.instanceMethod (zMt q.1).1 ∈ lw_tbl ∧ (zMt q.1).1.name = "<init>" ∧ (zMt q.1).2.2.2.1 = none ∧ (zMt q.1).2.2.2.2 = []) := by
  have h1 := List.all_eq_true.mp zpY_ok q h
  have hc := zYc q h
  obtain ⟨y, np, kd, ci, ic, ik, is⟩ := q
  simp only [Bool.and_eq_true] at h1
  obtain ⟨h1, h2⟩ := h1
  have hini : Cond.initialized (zMt y).1.cls ∈ lw_tbl := by
    unfold zOc at h2
    obtain ⟨u, hu, hd⟩ := List.any_eq_true.mp h2
    have := zpt (List.all_eq_true.mp zpU_ok u hu)
    rw [of_decide_eq_true hd] at this
    exact this
  simp only [zYok, Bool.and_eq_true, decide_eq_true_eq, Nat.ble_eq] at h1
  obtain ⟨a1, a2, a3, a4, a5⟩ := h1
  refine ⟨⟨⟨a1, a2⟩, a3, a4, hc⟩, hini, fun e => ?_, fun e => ?_, fun e => ?_⟩
  · dsimp only at e
    subst e
    exact List.mem_of_getElem? (of_decide_eq_true a5)
  · dsimp only at e
    subst e
    simp only [Bool.and_eq_true, decide_eq_true_eq, Nat.blt_eq, List.isEmpty_iff] at a5
    exact ⟨List.mem_of_getElem? a5.1, List.mem_of_getElem? a5.2.1, a5.2.2.1, a5.2.2.2⟩
  · dsimp only at e
    subst e
    simp only [Bool.and_eq_true, decide_eq_true_eq, List.isEmpty_iff] at a5
    exact ⟨List.mem_of_getElem? a5.1, a5.2.1, a5.2.2.1, a5.2.2.2⟩
def zanyY (a b kd ci : Nat) : Bool := zpY.any fun q => Nat.beq q.1 a && (Nat.beq q.2.1 b && (Nat.beq q.2.2.1 kd && Nat.beq q.2.2.2.1 ci))
def zany3 (l : List (Nat × Nat × Nat)) (i a : Nat) : Bool := l.any fun q => Nat.beq q.1 i && Nat.beq q.2.1 a
def zany2 (l : List (Nat × Nat)) (i : Nat) : Bool := l.any fun q => Nat.beq q.1 i
def zany4 (l : List (Nat × Nat × Nat × Nat)) (i a b : Nat) : Bool := l.any fun q => Nat.beq q.1 i && (Nat.beq q.2.1 a && Nat.beq q.2.2.1 b)
theorem zany3_ex {l : List (Nat × Nat × Nat)} {i a : Nat} (h : zany3 l i a = true) : ∃ x, (i, a, x) ∈ l := by
  obtain ⟨⟨p, q, r⟩, hq, hd⟩ := List.any_eq_true.mp h
  simp only [Bool.and_eq_true, Nat.beq_eq] at hd
  obtain ⟨rfl, rfl⟩ := hd
  exact ⟨_, hq⟩
theorem zany2_ex {l : List (Nat × Nat)} {i : Nat} (h : zany2 l i = true) : ∃ x, (i, x) ∈ l := by
  obtain ⟨⟨p, q⟩, hq, hd⟩ := List.any_eq_true.mp h
  simp only [Nat.beq_eq] at hd
  obtain rfl := hd
  exact ⟨_, hq⟩
theorem zany4_ex {l : List (Nat × Nat × Nat × Nat)} {i a b : Nat} (h : zany4 l i a b = true) : ∃ x, (i, a, b, x) ∈ l := by
  obtain ⟨⟨p, q, r, s⟩, hq, hd⟩ := List.any_eq_true.mp h
  simp only [Bool.and_eq_true, Nat.beq_eq] at hd
  obtain ⟨rfl, rfl, rfl⟩ := hd
  exact ⟨_, hq⟩
theorem zanyY_ex {a b kd ci : Nat} (h : zanyY a b kd ci = true) : ∃ x y z, (a, b, kd, ci, x, y, z) ∈ zpY := by
  obtain ⟨⟨p, q, r, s, t, u, v⟩, hq, hd⟩ := List.any_eq_true.mp h
  simp only [Bool.and_eq_true, Nat.beq_eq] at hd
  obtain ⟨rfl, rfl, rfl, rfl⟩ := hd
  exact ⟨_, _, _, hq⟩
def zdc (cc : ByteArray) (pc : Nat) (ins : Instr) (n : Nat) : Bool := decide (decode cc pc = .ok (ins, n))
def zthrB (cc : ByteArray) (pc i x : Nat) : Bool := zany3 zpX i x && (zdc cc pc (.new i) 3 && (zdc cc (pc + 3) .dup 1 && zpS.any fun q =>
  (zdc cc (pc + 4) (.ldc q.1) 2 && (zdc cc (pc + 6) (.invokespecial (zXc x)) 3 && zdc cc (pc + 9) .athrow 1)) || (zdc cc (pc + 4) (.ldc_w q.1) 3 && (zdc cc (pc + 7) (.invokespecial (zXc x)) 3 && zdc cc (pc + 10) .athrow 1))))
theorem zthrB_ok {cc : ByteArray} {pc i x : Nat} (hx : x < 3) (h : zthrB cc pc i x = true) : zthrows cc pc x := by
  unfold zthrB at h
  simp only [Bool.and_eq_true] at h
  obtain ⟨h1, h2, h3, h4⟩ := h
  obtain ⟨u, hu⟩ := zany3_ex h1
  obtain ⟨⟨is, tx, w⟩, hs, h5⟩ := List.any_eq_true.mp h4
  simp only [Bool.or_eq_true, Bool.and_eq_true, zdc, decide_eq_true_eq] at h5 h2 h3
  exact ⟨i, is, tx, zpX_in hu, zpS_in hs, zexi x hx, h2, h3, h5⟩
def zccB (y : zMi) : Bool := match y.2.2.2.1 with
  | some t => Nat.beq (zcode t) 0 || (Nat.beq (zcode t) 2 || (Nat.beq (zcode t) 3 || Nat.beq (zcode t) 4))
  | none => false
def zarB (y : zMi) : Bool := match y.2.2.2.1 with
  | some (.object _) => true
  | some (.array _) => true
  | _ => false
def zacB (a b : Nat) : Bool := match a, b with
  | 5, 22 => true
  | 6, 25 => true
  | 7, 20 => true
  | 9, 24 => true
  | 10, 27 => true
  | 11, 21 => true
  | 12, 23 => true
  | _, _ => false
def zanB (a : Nat) : Nat := match a with
  | 5 => 2
  | 6 => 5
  | 7 => 0
  | 9 => 4
  | 10 => 7
  | 11 => 1
  | 12 => 3
  | _ => 99
def zauxB (o : Nat) (y : zMi) (pc : Nat) (ins : Instr) (n a b c : Nat) : Bool := match ins with
  | .iconst i => Nat.beq n 1 && decide (-2147483648 ≤ i ∧ i < 2147483648)
  | .bipush i => Nat.beq n 2 && decide (-128 ≤ i ∧ i < 128)
  | .sipush i => Nat.beq n 3 && decide (-32768 ≤ i ∧ i < 32768)
  | .lconst f => Nat.beq n 1 && Nat.beq f.val a
  | .ldc i => Nat.beq n 2 && (Nat.blt a 2147483648 && (Nat.blt b 2 && zany3 (zpI o) i (2 * a + b)))
  | .ldc_w i => Nat.beq n 3 && (Nat.blt a 2147483648 && (Nat.blt b 2 && zany3 (zpI o) i (2 * a + b)))
  | .ldc2_w i => Nat.beq n 3 && (Nat.blt a 9223372036854775808 && (Nat.blt b 2 && zany3 (zpL o) i (2 * a + b)))
  | .getstatic i => Nat.beq n 3 && (Nat.beq a 2 && (Nat.beq o 12 && zany2 zpG i))
  | .iload_n q => Nat.beq n 1 && Nat.beq q.val a
  | .lload_n q => Nat.beq n 1 && Nat.beq q.val a
  | .aload_n q => Nat.beq n 1 && Nat.beq q.val a
  | .iload q => Nat.beq n 2 && Nat.beq q a
  | .lload q => Nat.beq n 2 && Nat.beq q a
  | .aload q => Nat.beq n 2 && Nat.beq q a
  | .istore_n q => Nat.beq n 1 && (Nat.beq q.val a && Nat.blt a y.2.2.1)
  | .astore_n q => Nat.beq n 1 && (Nat.beq q.val a && Nat.blt a y.2.2.1)
  | .lstore_n q => Nat.beq n 1 && (Nat.beq q.val a && Nat.blt (a + 1) y.2.2.1)
  | .istore q => Nat.beq n 2 && (Nat.beq q a && Nat.blt a y.2.2.1)
  | .astore q => Nat.beq n 2 && (Nat.beq q a && Nat.blt a y.2.2.1)
  | .lstore q => Nat.beq n 2 && (Nat.beq q a && Nat.blt (a + 1) y.2.2.1)
  | .iinc q d => Nat.beq n 3 && (Nat.beq q a && (Nat.blt a y.2.2.1 && decide (-2147483648 ≤ d ∧ d < 2147483648)))
  | .goto t => Nat.beq n 3 && decide ((pc : Int) + t = (a : Int))
  | .ifCond _ t => Nat.beq n 3 && decide ((pc : Int) + t = (a : Int))
  | .if_icmp _ t => Nat.beq n 3 && decide ((pc : Int) + t = (a : Int))
  | .ifnonnull t => Nat.beq n 3 && decide ((pc : Int) + t = (a : Int))
  | .if_acmp _ t => Nat.beq n 3 && decide ((pc : Int) + t = (a : Int))
  | .tableswitch d lo hi offs => decide (0 ≤ (pc : Int) + d) && (offs.toList.all (fun t => decide (0 ≤ (pc : Int) + t)) && decide ((offs.size : Int) = hi - lo + 1))
  | .lookupswitch d ps => decide (0 ≤ (pc : Int) + d) && (ps.toList.all (fun q => decide (0 ≤ (pc : Int) + q.2)) && (ps.toList.zip (ps.toList.drop 1)).all (fun (a, next) => a.1 < next.1))
  | .aaload => Nat.beq n 1 && (Nat.ble 5 a && Nat.blt a 13)
  | .aastore => Nat.beq n 1 && zacB a b
  | .getfield i => Nat.beq n 3 && (Nat.blt a 13 && (Nat.blt b (zN a) && (Nat.beq c (zcode (zfT a b)) && zany4 (zpF o) i a b)))
  | .putfield i => Nat.beq n 3 && (Nat.blt a 13 && (Nat.blt b (zN a) && (Nat.beq c (zcode (zfT a b)) && (zany4 (zpF o) i a b && (!(zTX a b).2.2.2 || (decide (y.1.name = "<init>") && decide (zRX a = zown o)))))))
  | .new i => Nat.beq n 3 && (match c with
    | 0 => Nat.blt a 13 && (Nat.beq b (zN a) && zany3 (zpC o) i a)
    | _ => Nat.blt a 3 && (Nat.beq o 12 && (y.2.2.2.2.isEmpty && zthrB y.2.1 pc i a)))
  | .newarray t => Nat.beq n 2 && Nat.blt (zaty t) 5
  | .anewarray i => Nat.beq n 3 && (Nat.blt (zanB a) 13 && zany3 (zpC o) i (zanB a))
  | .multianewarray i k => Nat.beq n 4 && (Nat.beq k 2 && (Nat.beq a 8 && (Nat.beq b 0 && (Nat.beq o 12 && zany2 zpA i))))
  | .invokestatic i => Nat.beq n 3 && (match c with
    | 0 => zanyY a b 0 0 && zany3 (zpM o) i a
    | 1 => zanyY a b 0 0 && ((zMt a).2.2.2.2.isEmpty && zany3 (zpN o) i a)
    | 2 => zany2 (zpQ2 o) i
    | 3 => zany2 (zpQ3 o) i
    | _ => zany2 (zpQ4 o) i)
  | .invokevirtual i => Nat.beq n 3 && (zanyY a b 1 c && zany3 (zpM o) i a)
  | .invokespecial i => Nat.beq n 3 && (match c with
    | 0 => zany2 (zpO o) i
    | q + 1 => (zpY.any fun q => Nat.beq q.1 a && (Nat.beq q.2.1 b && Nat.beq q.2.2.1 2)) && (zany3 (zpM o) i a || zany3 (zpN o) i a))
  | .ireturn => Nat.beq n 1 && zccB y
  | .lreturn => Nat.beq n 1 && decide (y.2.2.2.1 = some .long)
  | .areturn => Nat.beq n 1 && zarB y
  | .return_ => Nat.beq n 1 && y.2.2.2.1.isNone
  | _ => Nat.beq n 1
theorem zini (ci : Nat) (h : ci < 13) : Cond.initialized (zRX ci) ∈ lw_tbl := by
  have hd : (List.range 13).all (fun ci => zpU.any fun u => decide (zown u.1 = zRX ci)) = true := by decide +kernel
  obtain ⟨u, hu, hq⟩ := List.any_eq_true.mp (List.all_eq_true.mp hd ci (List.mem_range.mpr h))
  have := zpt (List.all_eq_true.mp zpU_ok u hu)
  rw [of_decide_eq_true hq] at this
  exact this
theorem zauxB_ok {o : Nat} {y : zMi} {pc : Nat} {ins : Instr} {n a b c : Nat} (ho : o < 17) (hcls : y.1.cls = zown o) (h : zauxB o y pc ins n a b c = true) : zaux zMt y pc ins n a b c := by
  cases ins with
  | iconst i =>
    simp only [zauxB, Bool.and_eq_true, Nat.beq_eq, Nat.blt_eq, Nat.ble_eq, decide_eq_true_eq] at h
    exact h
  | bipush i =>
    simp only [zauxB, Bool.and_eq_true, Nat.beq_eq, Nat.blt_eq, Nat.ble_eq, decide_eq_true_eq] at h
    exact h
  | sipush i =>
    simp only [zauxB, Bool.and_eq_true, Nat.beq_eq, Nat.blt_eq, Nat.ble_eq, decide_eq_true_eq] at h
    exact h
  | lconst f =>
    simp only [zauxB, Bool.and_eq_true, Nat.beq_eq, Nat.blt_eq, Nat.ble_eq, decide_eq_true_eq] at h
    exact h
  | iload_n q =>
    simp only [zauxB, Bool.and_eq_true, Nat.beq_eq, Nat.blt_eq, Nat.ble_eq, decide_eq_true_eq] at h
    exact h
  | lload_n q =>
    simp only [zauxB, Bool.and_eq_true, Nat.beq_eq, Nat.blt_eq, Nat.ble_eq, decide_eq_true_eq] at h
    exact h
  | aload_n q =>
    simp only [zauxB, Bool.and_eq_true, Nat.beq_eq, Nat.blt_eq, Nat.ble_eq, decide_eq_true_eq] at h
    exact h
  | iload q =>
    simp only [zauxB, Bool.and_eq_true, Nat.beq_eq, Nat.blt_eq, Nat.ble_eq, decide_eq_true_eq] at h
    exact h
  | lload q =>
    simp only [zauxB, Bool.and_eq_true, Nat.beq_eq, Nat.blt_eq, Nat.ble_eq, decide_eq_true_eq] at h
    exact h
  | aload q =>
    simp only [zauxB, Bool.and_eq_true, Nat.beq_eq, Nat.blt_eq, Nat.ble_eq, decide_eq_true_eq] at h
    exact h
  | istore_n q =>
    simp only [zauxB, Bool.and_eq_true, Nat.beq_eq, Nat.blt_eq, Nat.ble_eq, decide_eq_true_eq] at h
    exact h
  | astore_n q =>
    simp only [zauxB, Bool.and_eq_true, Nat.beq_eq, Nat.blt_eq, Nat.ble_eq, decide_eq_true_eq] at h
    exact h
  | lstore_n q =>
    simp only [zauxB, Bool.and_eq_true, Nat.beq_eq, Nat.blt_eq, Nat.ble_eq, decide_eq_true_eq] at h
    exact h
  | istore q =>
    simp only [zauxB, Bool.and_eq_true, Nat.beq_eq, Nat.blt_eq, Nat.ble_eq, decide_eq_true_eq] at h
    exact h
  | astore q =>
    simp only [zauxB, Bool.and_eq_true, Nat.beq_eq, Nat.blt_eq, Nat.ble_eq, decide_eq_true_eq] at h
    exact h
  | lstore q =>
    simp only [zauxB, Bool.and_eq_true, Nat.beq_eq, Nat.blt_eq, Nat.ble_eq, decide_eq_true_eq] at h
    exact h
  | iinc q d =>
    simp only [zauxB, Bool.and_eq_true, Nat.beq_eq, Nat.blt_eq, Nat.ble_eq, decide_eq_true_eq] at h
    exact h
  | goto t =>
    simp only [zauxB, Bool.and_eq_true, Nat.beq_eq, Nat.blt_eq, Nat.ble_eq, decide_eq_true_eq] at h
    exact h
  | ifCond cd t =>
    simp only [zauxB, Bool.and_eq_true, Nat.beq_eq, Nat.blt_eq, Nat.ble_eq, decide_eq_true_eq] at h
    exact h
  | if_icmp cd t =>
    simp only [zauxB, Bool.and_eq_true, Nat.beq_eq, Nat.blt_eq, Nat.ble_eq, decide_eq_true_eq] at h
    exact h
  | ifnonnull t =>
    simp only [zauxB, Bool.and_eq_true, Nat.beq_eq, Nat.blt_eq, Nat.ble_eq, decide_eq_true_eq] at h
    exact h
  | if_acmp cd t =>
    simp only [zauxB, Bool.and_eq_true, Nat.beq_eq, Nat.blt_eq, Nat.ble_eq, decide_eq_true_eq] at h
    exact h
  | aaload =>
    simp only [zauxB, Bool.and_eq_true, Nat.beq_eq, Nat.blt_eq, Nat.ble_eq, decide_eq_true_eq] at h
    exact h
  | ldc i =>
    simp only [zauxB, Bool.and_eq_true, Nat.beq_eq, Nat.blt_eq, Nat.ble_eq, decide_eq_true_eq] at h
    obtain ⟨h1, h2, hb, h3⟩ := h
    obtain ⟨x, hx⟩ := zany3_ex h3
    have := zpI_in ho hx
    rw [← hcls] at this
    rw [show (2 * a + b) / 2 = a by omega, show (2 * a + b) % 2 = b by omega] at this
    exact ⟨h1, h2, this⟩
  | ldc_w i =>
    simp only [zauxB, Bool.and_eq_true, Nat.beq_eq, Nat.blt_eq, Nat.ble_eq, decide_eq_true_eq] at h
    obtain ⟨h1, h2, hb, h3⟩ := h
    obtain ⟨x, hx⟩ := zany3_ex h3
    have := zpI_in ho hx
    rw [← hcls] at this
    rw [show (2 * a + b) / 2 = a by omega, show (2 * a + b) % 2 = b by omega] at this
    exact ⟨h1, h2, this⟩
  | ldc2_w i =>
    simp only [zauxB, Bool.and_eq_true, Nat.beq_eq, Nat.blt_eq, Nat.ble_eq, decide_eq_true_eq] at h
    obtain ⟨h1, h2, hb, h3⟩ := h
    obtain ⟨x, hx⟩ := zany3_ex h3
    have := zpL_in ho hx
    rw [← hcls] at this
    rw [show (2 * a + b) / 2 = a by omega, show (2 * a + b) % 2 = b by omega] at this
    exact ⟨h1, h2, this⟩
  | getstatic i =>
    simp only [zauxB, Bool.and_eq_true, Nat.beq_eq, Nat.blt_eq, Nat.ble_eq, decide_eq_true_eq] at h
    obtain ⟨h1, h2, rfl, h3⟩ := h
    obtain ⟨x, hx⟩ := zany2_ex h3
    have := zpG_in hx
    rw [show RX12 = zown 12 from rfl, ← hcls] at this
    refine ⟨h1, h2, ?_⟩
    rw [hcls] at this ⊢
    exact this
  | tableswitch d lo hi offs =>
    simp only [zauxB, Bool.and_eq_true, Nat.beq_eq, Nat.blt_eq, Nat.ble_eq, decide_eq_true_eq] at h
    exact ⟨h.1, fun t ht => of_decide_eq_true (List.all_eq_true.mp h.2.1 t ht), h.2.2⟩
  | lookupswitch d ps =>
    simp only [zauxB, Bool.and_eq_true, Nat.beq_eq, Nat.blt_eq, Nat.ble_eq, decide_eq_true_eq] at h
    exact ⟨h.1, fun t ht => of_decide_eq_true (List.all_eq_true.mp h.2.1 t ht), h.2.2⟩
  | aastore =>
    simp only [zauxB, Bool.and_eq_true, Nat.beq_eq, Nat.blt_eq, Nat.ble_eq, decide_eq_true_eq] at h
    obtain ⟨h1, h2⟩ := h
    refine ⟨h1, ?_⟩
    unfold zacB at h2
    split at h2
    all_goals first
      | exact ⟨by decide, by decide, 2, by decide, rfl, rfl⟩
      | exact ⟨by decide, by decide, 5, by decide, rfl, rfl⟩
      | exact ⟨by decide, by decide, 0, by decide, rfl, rfl⟩
      | exact ⟨by decide, by decide, 4, by decide, rfl, rfl⟩
      | exact ⟨by decide, by decide, 7, by decide, rfl, rfl⟩
      | exact ⟨by decide, by decide, 1, by decide, rfl, rfl⟩
      | exact ⟨by decide, by decide, 3, by decide, rfl, rfl⟩
      | cases h2
  | getfield i =>
    simp only [zauxB, Bool.and_eq_true, Nat.beq_eq, Nat.blt_eq, Nat.ble_eq, decide_eq_true_eq] at h
    obtain ⟨h1, h2, h3, h4, h5⟩ := h
    obtain ⟨x, hx⟩ := zany4_ex h5
    have := zpF_in ho hx
    rw [← hcls] at this
    exact ⟨h1, h2, h3, h4, this⟩
  | putfield i =>
    simp only [zauxB, Bool.and_eq_true, Nat.beq_eq, Nat.blt_eq, Nat.ble_eq, decide_eq_true_eq] at h
    obtain ⟨h1, h2, h3, h4, h5, h6⟩ := h
    obtain ⟨x, hx⟩ := zany4_ex h5
    have := zpF_in ho hx
    rw [← hcls] at this
    refine ⟨h1, h2, h3, h4, this, ?_⟩
    rw [hcls]
    simp only [Bool.or_eq_true, Bool.not_eq_true', Bool.and_eq_true, decide_eq_true_eq] at h6
    exact h6
  | new i =>
    simp only [zauxB, Bool.and_eq_true, Nat.beq_eq, Nat.blt_eq, Nat.ble_eq, decide_eq_true_eq] at h
    obtain ⟨h1, h⟩ := h
    refine ⟨h1, ?_⟩
    split at h
    · simp only [Bool.and_eq_true, Nat.beq_eq, Nat.blt_eq] at h
      obtain ⟨h2, h3, h4⟩ := h
      obtain ⟨x, hx⟩ := zany3_ex h4
      have := zpC_in ho hx
      rw [← hcls] at this
      exact ⟨h2, h3, this, zinst a h2, zini a h2⟩
    · rename_i hq
      simp only [Bool.and_eq_true, Nat.beq_eq, Nat.blt_eq, List.isEmpty_iff] at h
      obtain ⟨h2, rfl, h3, h4⟩ := h
      cases c with
      | zero => exact absurd rfl hq
      | succ c => exact ⟨h2, hcls, h3, zthrB_ok h2 h4⟩
  | newarray t =>
    simp only [zauxB, Bool.and_eq_true, Nat.beq_eq, Nat.blt_eq, Nat.ble_eq, decide_eq_true_eq] at h
    obtain ⟨h1, h2⟩ := h
    refine ⟨h1, h2, ?_⟩
    cases t with
    | int => exact zarr_int
    | long => exact zarr_long
    | char => exact zarr_char
    | byte => exact zarr_byte
    | boolean => exact zarr_boolean
    | _ => exact absurd h2 (by decide)
  | anewarray i =>
    simp only [zauxB, Bool.and_eq_true, Nat.beq_eq, Nat.blt_eq, Nat.ble_eq, decide_eq_true_eq] at h
    obtain ⟨h1, h2, h3⟩ := h
    obtain ⟨x, hx⟩ := zany3_ex h3
    have hw := zpC_in ho hx
    rw [← hcls] at hw
    refine ⟨h1, ?_⟩
    unfold zanB at h2 hw
    split at h2
    all_goals first
      | exact ⟨by decide, by decide, _, rfl, hw, by first | exact zover5 | exact zover6 | exact zover7 | exact zover9 | exact zover10 | exact zover11 | exact zover12⟩
      | omega
  | multianewarray i k =>
    simp only [zauxB, Bool.and_eq_true, Nat.beq_eq, Nat.blt_eq, Nat.ble_eq, decide_eq_true_eq] at h
    obtain ⟨h1, h2, h3, h4, rfl, h5⟩ := h
    obtain ⟨x, hx⟩ := zany2_ex h5
    have hw := zpA_in hx
    refine ⟨h1, h2, h3, h4, ?_, zover8, zarr_int⟩
    rw [hcls]
    exact hw
  | invokestatic i =>
    simp only [zauxB, Bool.and_eq_true, Nat.beq_eq, Nat.blt_eq, Nat.ble_eq, decide_eq_true_eq] at h
    obtain ⟨h1, h3⟩ := h
    refine ⟨h1, ?_⟩
    split at h3
    · simp only [Bool.and_eq_true] at h3
      obtain ⟨h2, h3⟩ := h3
      obtain ⟨x, w, z, hq⟩ := zanyY_ex h2
      obtain ⟨q1, q2, q3, -, -⟩ := zpY_in hq
      obtain ⟨x, hx⟩ := zany3_ex h3
      have hw := zpM_in ho hx
      rw [← hcls] at hw
      exact ⟨q3 rfl, q2, q1, hw⟩
    · simp only [Bool.and_eq_true, List.isEmpty_iff] at h3
      obtain ⟨h2, h4, h5⟩ := h3
      obtain ⟨x, w, z, hq⟩ := zanyY_ex h2
      obtain ⟨q1, q2, q3, -, -⟩ := zpY_in hq
      obtain ⟨x, hx⟩ := zany3_ex h5
      have hw := zpN_in ho hx
      rw [← hcls] at hw
      exact ⟨q3 rfl, q2, q1, h4, _, hw⟩
    · obtain ⟨x, hx⟩ := zany2_ex h3
      have hw := zpQ2_in ho hx
      rw [← hcls] at hw
      exact ⟨hw, zmth_s2, zmth_i, zmth_c2⟩
    · obtain ⟨x, hx⟩ := zany2_ex h3
      have hw := zpQ3_in ho hx
      rw [← hcls] at hw
      exact ⟨hw, zmth_s3, zmth_i, zmth_c3⟩
    · rename_i q0 q1 q2 q3
      obtain ⟨x, hx⟩ := zany2_ex h3
      have hw := zpQ4_in ho hx
      rw [← hcls] at hw
      rcases c with _ | _ | _ | _ | c
      · exact absurd rfl q0
      · exact absurd rfl q1
      · exact absurd rfl q2
      · exact absurd rfl q3
      · exact ⟨hw, zmth_s4, zmth_i, zmth_c4⟩
  | invokevirtual i =>
    simp only [zauxB, Bool.and_eq_true, Nat.beq_eq, Nat.blt_eq, Nat.ble_eq, decide_eq_true_eq] at h
    obtain ⟨h1, h2, h3⟩ := h
    obtain ⟨x, w, z, hq⟩ := zanyY_ex h2
    obtain ⟨q1, q2, -, q4, -⟩ := zpY_in hq
    obtain ⟨x, hx⟩ := zany3_ex h3
    have hw := zpM_in ho hx
    rw [← hcls] at hw
    obtain ⟨g1, g2, g3, g4⟩ := q4 rfl
    exact ⟨h1, g3, g4, hw, g1, g2, q2, q1⟩
  | invokespecial i =>
    simp only [zauxB, Bool.and_eq_true, Nat.beq_eq, Nat.blt_eq, Nat.ble_eq, decide_eq_true_eq] at h
    obtain ⟨h1, h⟩ := h
    refine ⟨h1, ?_⟩
    split at h
    · obtain ⟨x, hx⟩ := zany2_ex h
      have hw := zpO_in ho hx
      rw [← hcls] at hw
      exact ⟨hw, zobj1, zobj2⟩
    · simp only [Bool.and_eq_true, Bool.or_eq_true] at h
      obtain ⟨h2, h3⟩ := h
      obtain ⟨⟨p, q, r, s, t, u, v⟩, hq, hd⟩ := List.any_eq_true.mp h2
      simp only [Bool.and_eq_true, Nat.beq_eq] at hd
      obtain ⟨rfl, rfl, rfl⟩ := hd
      obtain ⟨q1, q2, -, -, q5⟩ := zpY_in hq
      obtain ⟨g1, g2, g3, g4⟩ := q5 rfl
      refine ⟨g4, g3, g2, ?_, g1, q2, q1⟩
      rcases h3 with h3 | h3
      · obtain ⟨x, hx⟩ := zany3_ex h3
        have hw := zpM_in ho hx
        rw [← hcls] at hw
        exact Or.inl hw
      · obtain ⟨x, hx⟩ := zany3_ex h3
        have hw := zpN_in ho hx
        rw [← hcls] at hw
        exact Or.inr ⟨_, hw⟩
  | ireturn =>
    simp only [zauxB, Bool.and_eq_true, Nat.beq_eq, Nat.blt_eq, Nat.ble_eq, decide_eq_true_eq] at h
    obtain ⟨h1, h2⟩ := h
    refine ⟨h1, ?_⟩
    unfold zccB at h2
    split at h2
    · rename_i ty hty
      simp only [Bool.or_eq_true, Nat.beq_eq] at h2
      exact ⟨ty, hty, h2⟩
    · cases h2
  | lreturn =>
    simp only [zauxB, Bool.and_eq_true, Nat.beq_eq, Nat.blt_eq, Nat.ble_eq, decide_eq_true_eq] at h
    exact h
  | areturn =>
    simp only [zauxB, Bool.and_eq_true, Nat.beq_eq, Nat.blt_eq, Nat.ble_eq, decide_eq_true_eq] at h
    obtain ⟨h1, h2⟩ := h
    refine ⟨h1, ?_⟩
    unfold zarB at h2
    split at h2
    · rename_i t hty
      exact ⟨_, hty, Or.inl ⟨_, rfl⟩⟩
    · rename_i t hty
      exact ⟨_, hty, Or.inr ⟨_, rfl⟩⟩
    · cases h2
  | return_ =>
    simp only [zauxB, Bool.and_eq_true, Nat.beq_eq, Nat.blt_eq, Nat.ble_eq, decide_eq_true_eq] at h
    exact ⟨h.1, Option.isNone_iff_eq_none.mp h.2⟩
  | _ => exact Nat.eq_of_beq_eq_true h
def zNop : zE := (.nop, 1, [], 0, 0, 0)
def zpcB (o : Nat) (y : zMi) (pc : Nat) (e : zE) : Bool := (match e.1 with
  | .nop => true
  | _ => false) || (zdc y.2.1 pc e.1 e.2.1 && zauxB o y pc e.1 e.2.1 e.2.2.2.1 e.2.2.2.2.1 e.2.2.2.2.2)
def zyB (o N : Nat) (y : zMi) (t : Nat → zE) : Bool := Nat.blt o 17 && (decide (y.1.cls = zown o) && (plainName y.1.cls && ((y.2.2.2.2.isEmpty || (Nat.beq o 14 && y.2.2.2.2.all fun z => Nat.blt z.2.2.2 3)) && (List.range N).all fun pc => zpcB o y pc (t pc))))
def zyB2 (o : Nat) (y : zMi) : Bool := Nat.blt o 17 && (decide (y.1.cls = zown o) && (plainName y.1.cls && (y.2.2.2.2.isEmpty || (Nat.beq o 14 && y.2.2.2.2.all fun z => Nat.blt z.2.2.2 3))))
def zyBr (o i n : Nat) (y : zMi) (t : Nat → zE) : Bool := (List.range n).all fun k => zpcB o y (i + k) (t (i + k))
/-- the check in pieces -/
theorem zyB_of {o N : Nat} {y : zMi} {t : Nat → zE} (h : zyB2 o y = true) (hr : ∀ pc, pc < N → zpcB o y pc (t pc) = true) : zyB o N y t = true := by
  unfold zyB2 at h
  unfold zyB
  simp only [Bool.and_eq_true] at h ⊢
  exact ⟨h.1, h.2.1, h.2.2.1, h.2.2.2, List.all_eq_true.mpr fun pc hp => hr pc (List.mem_range.mp hp)⟩
theorem zyBr_at {o i n pc : Nat} {y : zMi} {t : Nat → zE} (h : zyBr o i n y t = true) (h1 : i ≤ pc) (h2 : pc < i + n) : zpcB o y pc (t pc) = true := by
  have := List.all_eq_true.mp h (pc - i) (List.mem_range.mpr (by omega))
  rw [show i + (pc - i) = pc by omega] at this
  exact this
theorem zyB_ok {T : Nat → Nat → zE} {o N y : Nat} (h : zyB o N (zMt y) (T y) = true) (hN : ∀ pc, N ≤ pc → T y pc = zNop) : zyok T zMt y := by
  unfold zyB at h
  simp only [Bool.and_eq_true, Nat.blt_eq, decide_eq_true_eq, Bool.or_eq_true] at h
  obtain ⟨h1, h2, h3, h4, h5⟩ := h
  refine ⟨h3, ?_, fun pc => ?_⟩
  · rcases h4 with h4 | ⟨h4, h6⟩
    · exact Or.inl (List.isEmpty_iff.mp h4)
    · have h4 := Nat.eq_of_beq_eq_true h4
      subst h4
      refine Or.inr ⟨fun x hx => ?_, zhc, fun z hz => ?_⟩
      · rw [h2]; exact zhl x hx
      · exact Nat.blt_eq.mp (List.all_eq_true.mp h6 z hz)
  · by_cases hp : pc < N
    · have := List.all_eq_true.mp h5 pc (List.mem_range.mpr hp)
      unfold zpcB at this
      simp only [Bool.or_eq_true, Bool.and_eq_true] at this
      rcases this with h | ⟨h6, h7⟩
      · left
        split at h
        · assumption
        · cases h
      · exact Or.inr ⟨of_decide_eq_true h6, zauxB_ok h1 h2 h7⟩
    · left
      rw [hN pc (by omega)]
      rfl
