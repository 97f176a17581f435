/-! One call: from what is known of each question to the law's case. -/
theorem qUn_a {g : Int → zV} {w : Int → Int} {ps : Nat → Int} {S : zS} {R : zR} {F : zS → zR} {Q : zS → Prop} (hC : qRC S) (h : qAsk g S R F ps) (hQ : ∀ m2, qFq S m2 → Q (qW S m2)) (hQx : ∀ m2, qFq S m2 → Q (zbump (qW S m2))) : qUn g w Q S R F ps := by
  rcases h with ⟨v, m1, r, e1, hF⟩ | ⟨x, v, m1, m2, r, e1, f, h0, hx, q⟩
  · obtain ⟨m2, f, h0, h2, q⟩ := hF (w v)
    exact Or.inl ⟨v, qW S m1, r, ⟨e1, fun _ _ => rfl⟩, qW S m2, f, ⟨qFq_1 hC q, fun _ _ => rfl⟩, h0, h2, hQ m2 q⟩
  · exact Or.inr ⟨x, v, zbump (qW S m1), zbump (qW S m2), r, ⟨e1, fun _ _ => rfl⟩, f, ⟨qFq_1 hC q, fun _ _ => rfl⟩, h0, hx, hQx m2 q⟩
theorem qUn_a0 {S : zS} {R : zR} {F : zS → zR} {Q : zS → Prop} (hC : qRC S) (h : qAsk0 S R F) (hQ : ∀ m2, qFq S m2 → Q (qW S m2)) : qUn0 Q S R F := by
  obtain ⟨v, m1, m2, r, e1, f, -, q⟩ := h
  exact ⟨v, qW S m1, qW S m2, r, ⟨e1, fun _ _ => rfl⟩, f, ⟨qFq_1 hC q, fun _ _ => rfl⟩, hQ m2 q⟩
theorem qUn_w {ps : Nat → Int} {S : zS} {R : zR} {F : zS → zR} {Q : zS → Prop} {Q0 : (Int → Int → Int) → Prop} (hC : qRC S) (h : qAskW Q0 S R F ps) (h1 : ∀ m2, Q0 m2 → m2 1 = zm S 1) (hQ : ∀ m2, Q0 m2 → Q (qW S m2)) (hQx : ∀ m2, qFq S m2 → Q (zbump (qW S m2))) : qUn vi qid Q S R F ps := by
  rcases h with ⟨v, m1, r, e1, hF⟩ | ⟨x, v, m1, m2, r, e1, f, h0, hx, q⟩
  · obtain ⟨m2, f, h0, h2, q⟩ := hF (qid v)
    exact Or.inl ⟨v, qW S m1, r, ⟨e1, fun _ _ => rfl⟩, qW S m2, f, ⟨h1 m2 q, fun _ _ => rfl⟩, h0, h2, hQ m2 q⟩
  · exact Or.inr ⟨x, v, zbump (qW S m1), zbump (qW S m2), r, ⟨e1, fun _ _ => rfl⟩, f, ⟨qFq_1 hC q, fun _ _ => rfl⟩, h0, hx, hQx m2 q⟩
theorem qUn_w0 {S : zS} {R : zR} {F : zS → zR} {Q : zS → Prop} {Q0 : (Int → Int → Int) → Prop} (h : qAskW0 Q0 S R F) (h1 : ∀ m2, Q0 m2 → m2 1 = zm S 1) (hQ : ∀ m2, Q0 m2 → Q (qW S m2)) : qUn0 Q S R F := by
  obtain ⟨v, m1, m2, r, e1, f, -, q⟩ := h
  exact ⟨v, qW S m1, qW S m2, r, ⟨e1, fun _ _ => rfl⟩, f, ⟨h1 m2 q, fun _ _ => rfl⟩, hQ m2 q⟩
theorem qUn_n {ps : Nat → Int} {S : zS} {R : zR} {F : zS → zR} {Q Q0 Q0x : zS → Prop} (h : qAskN Q0 Q0x S R F ps) (hk : ∀ S2, Q0 S2 → qKs S S2) (hkx : ∀ S2, Q0x S2 → qKs S S2) (hQ : ∀ S2, Q0 S2 → Q S2) (hQx : ∀ S2, Q0x S2 → Q S2) : qUn vi qid Q S R F ps := by
  rcases h with ⟨v, S1, r, k1, hF⟩ | ⟨x, v, S1, S2, r, k1, f, h0, hx, q⟩
  · obtain ⟨S2, f, h0, h2, q⟩ := hF (qid v)
    exact Or.inl ⟨v, S1, r, k1, S2, f, hk S2 q, h0, h2, hQ S2 q⟩
  · exact Or.inr ⟨x, v, S1, S2, r, k1, f, hkx S2 q, h0, hx, hQx S2 q⟩
theorem qFtp_1 {S : zS} {m2 : Int → Int → Int} (h : qFtp S m2) : m2 1 = zm S 1 := funext fun j => h 1 j (by omega)
theorem qGw_k {S S2 : zS} {n c w : Nat} {E : Int → Int → Prop} (h : qGw S S2 n c w E) (hn : 103 ≤ (zn S : Int)) (h1 : ∀ j, ¬ E 1 j) : qKs S S2 := ⟨funext fun j => h.2.2.2.2 1 j (by omega) (h1 j), fun x hx => h.2.2.2.1 x (by omega)⟩
/-- what a call costs -/
def qBu (S S2 : zS) : Prop := zc S2 ≤ zc S + 500 ∧ zw S2 ≤ zw S + 2000
theorem qBu_w (S : zS) (m : Int → Int → Int) : qBu S (qW S m) := ⟨by rw [qcW]; omega, by rw [qwW]; omega⟩
theorem qBu_x (S : zS) (m : Int → Int → Int) : qBu S (zbump (qW S m)) := ⟨by show zc S + 1 ≤ _; omega, by show zw S + 6 ≤ _; omega⟩
theorem qBu_g {S S2 : zS} {n c w : Nat} {E : Int → Int → Prop} (h : qGw S S2 n c w E) (hc : c ≤ 100) (hw : w ≤ 100) : qBu S S2 := ⟨by have := h.2.1; omega, by have := h.2.2.1; omega⟩
theorem q_divx {S S2 : zS} (hn : 103 ≤ (zn S : Int)) (hC : qRC S) (q : ∃ T m2, S2 = zbump (qW T m2) ∧ (T = S ∨ qGw S T 3 3 18 fun _ _ => False) ∧ qFq T m2) : qKs S S2 := by
  obtain ⟨T, m2, rfl, h, f⟩ := q
  rcases h with rfl | h
  · exact ⟨qFq_1 hC f, fun _ _ => rfl⟩
  · have e1 : zm T 1 = zm S 1 := funext fun j => h.2.2.2.2 1 j (by omega) fun z => z
    have e4 : zm T 37 4 = zm S 37 4 := h.2.2.2.2 37 4 (by omega) fun z => z
    have e6 : ∀ c, zm T 6 c = zm S 6 c := fun c => h.2.2.2.2 6 c (by omega) fun z => z
    refine ⟨?_, fun x hx => h.2.2.2.1 x (by omega)⟩
    show m2 1 = zm S 1
    rw [← e1]
    funext j
    refine f 1 j fun z => ?_
    rcases z with z | ⟨c, c1, c2, z⟩
    · unfold qscf at z; omega
    · rw [e4] at c2
      rw [e6] at z
      have := (hC.2.2.1 c c1 c2).1.2.2.2.2.2.2.2.2.2.1
      omega
theorem q_divb {S S2 : zS} (q : ∃ T m2, S2 = zbump (qW T m2) ∧ (T = S ∨ qGw S T 3 3 18 fun _ _ => False) ∧ qFq T m2) : qBu S S2 := by
  obtain ⟨T, m2, rfl, h, -⟩ := q
  rcases h with rfl | h
  · exact qBu_x T m2
  · have a := h.2.1
    have b := h.2.2.1
    exact ⟨by show zc T + 1 ≤ _; omega, by show zw T + 6 ≤ _; omega⟩
/-- a house that is new -/
def qNew (S : zS) : Prop := (qK S ∧ qP (zm S) ∧ qLt (zm S) ∧ qRT S ∧ qRC S ∧ qRD S ∧ qBh S ∧ qYn S) ∧ (zm S 37 4 = 0 ∧ qNb S ∧ qNc S ∧ qNr S ∧ zm S 37 16 = 0 ∧ zm S 37 65 = 0 ∧ zm S 37 76 = 0) ∧ (zm S 3 13 = 0 ∧ zm S 37 3 = 0 ∧ zm S 37 73 = 0) ∧ 103 ≤ (zn S : Int)
theorem q_one (e : Nat) (S : zS) (L i : Int) (x5 x6 x7 : zV) (he : 300 ≤ e) (hi : 0 ≤ i ∧ i + 6 ≤ L ∧ L ≤ 3072) (h1 : zk S 1 = (40, L)) (h102 : zk S 102 = (1, 1)) (hN : qNew S) :
    ∃ S2, zF_341 (e + 1) 33 [vr 1, vr 3, vr 37, vr 102, vi i, x5, x6, x7] [] S = zF_341 (e + 1) 2493 [vr 1, vr 3, vr 37, vr 102, vi i, vu, vu, vu] [] S2 ∧ qKs S S2 ∧ qBu S S2 := by
  obtain ⟨⟨hK, hP, hL, hT, hC, hR, hB, hYn⟩, ⟨c4, hNb, hNc, hNr, c16, c65, c76⟩, ⟨d13, d3, d73⟩, hn⟩ := hN
  have hLs : qLs S L := ⟨h1, K_3 hK, K_37 hK, h102⟩
  have noc : ∀ c, ¬ (0 ≤ c ∧ c < zm S 37 4) := fun c => by omega
  have nob : ∀ c, ¬ (0 ≤ c ∧ c < zm S 37 16) := fun c => by omega
  have noy : ∀ c, ¬ (0 ≤ c ∧ c < zm S 37 65) := fun c => by omega
  have nor : ∀ c, ¬ (0 ≤ c ∧ c < zm S 37 76) := fun c => by omega
  have bw := qBu_w S
  have bx := qBu_x S
  have g33 : zF_341 (e + 1) 33 [vr 1, vr 3, vr 37, vr 102, vi i, x5, x6, x7] [] S = zF_341 (e + 1) (zsw 40 (.tableswitch 2453 0 35 #[160, 260, 273, 286, 330, 434, 478, 546, 626, 701, 769, 836, 903, 916, 972, 1040, 1103, 1223, 1279, 1359, 1427, 1519, 1599, 1667, 1759, 1827, 1840, 1896, 1976, 2044, 2112, 2192, 2248, 2261, 2329, 2397]) (zand (zm S 1 i) 63)) [vr 1, vr 3, vr 37, vr 102, vi i, vu, vu, vu] [] S := by
    rw [b341_33, zchk_pos]
    rw [h1]
    exact ⟨Or.inr rfl, hi.1, by show i < L; omega⟩
  rw [g33, w341_40]
  generalize zand (zm S 1 i) 63 = k
  by_cases k0 : k = 0
  · rw [if_pos k0]
    exact qlc0 e S L i _ _ _ (qBu S) hi hLs (qUn_w hC (q_type e S _ _ (by omega) hK hP hT) (fun m q => qFtp_1 q.1) (fun m _ => bw m) (fun m _ => bx m))
  rw [if_neg k0]
  by_cases k1 : k = 1
  · rw [if_pos k1]
    exact qlc1 e S L i _ _ _ (qBu S) hLs (qUn_w0 (q_wipe (e + 1) S (by omega) hK hP hT) (fun m q => qFtp_1 q.1) (fun m _ => bw m))
  rw [if_neg k1]
  by_cases k2 : k = 2
  · rw [if_pos k2]
    exact qlc2 e S L i _ _ _ (qBu S) hLs (qUn_a0 hC (q_fault (e + 1) S (by omega) hK hP hT hC) (fun m _ => bw m))
  rw [if_neg k2]
  by_cases k3 : k = 3
  · rw [if_pos k3]
    exact qlc3 e S L i _ _ _ (qBu S) hi hLs (qUn_n (q_code e S (by omega) hK hP hC hn) (fun S2 q => qGw_k q.2 hn fun j => by omega) (fun S2 q => by obtain ⟨m2, rfl, f⟩ := q; exact ⟨qFq_1 hC f, fun _ _ => rfl⟩) (fun S2 q => qBu_g q.2 (by decide) (by decide)) (fun S2 q => by obtain ⟨m2, rfl, -⟩ := q; exact bx m2))
  rw [if_neg k3]
  by_cases k4 : k = 4
  · rw [if_pos k4]
    exact qlc4 e S L i _ _ _ (qBu S) hi hLs (qUn_n (q_contraction e S _ _ _ _ _ (by omega) hK hP hT hC hB hn) (fun S2 q => qGw_k q.2.2 hn fun j => by omega) (fun S2 q => by obtain ⟨m2, rfl, f⟩ := q; exact ⟨qFq_1 hC f, fun _ _ => rfl⟩) (fun S2 q => qBu_g q.2.2 (by decide) (by decide)) (fun S2 q => by obtain ⟨m2, rfl, -⟩ := q; exact bx m2))
  rw [if_neg k4]
  by_cases k5 : k = 5
  · rw [if_pos k5]
    exact qlc5 e S L i _ _ _ (qBu S) hi hLs (qUn_n (q_division e S (by omega) hK hP hT hC hR hB hn) (fun S2 q => qGw_k q.2 hn fun j => by omega) (fun S2 q => q_divx hn hC q) (fun S2 q => qBu_g q.2 (by decide) (by decide)) (fun S2 q => q_divb q))
  rw [if_neg k5]
  by_cases k6 : k = 6
  · rw [if_pos k6]
    exact qlc6 e S L i _ _ _ (qBu S) hi hLs (qUn_a hC (q_size e S _ _ (by omega) hK hP hL hT hC hR) (fun m _ => bw m) (fun m _ => bx m))
  rw [if_neg k6]
  by_cases k7 : k = 7
  · rw [if_pos k7]
    exact qlc7 e S L i _ _ _ (qBu S) hi hLs (qUn_a hC (q_cell e S _ _ _ (by omega) hK hP hL hT hC hR) (fun m _ => bw m) (fun m _ => bx m))
  rw [if_neg k7]
  by_cases k8 : k = 8
  · rw [if_pos k8]
    exact qlc8 e S L i _ _ _ (qBu S) hi hLs (qUn_a hC (q_isMarked e S _ _ (by omega) hK hP hL hT hC hR) (fun m _ => bw m) (fun m _ => bx m))
  rw [if_neg k8]
  by_cases k9 : k = 9
  · rw [if_pos k9]
    exact qlc9 e S L i _ _ _ (qBu S) hi hLs (qUn_a hC (q_least e S _ _ (by omega) hK hP hL hT hC hR) (fun m _ => bw m) (fun m _ => bx m))
  rw [if_neg k9]
  by_cases k10 : k = 10
  · rw [if_pos k10]
    exact qlc10 e S L i _ _ _ (qBu S) hi hLs (qUn_a hC (q_ways e S _ _ (by omega) hK hP hL hT hC hR) (fun m _ => bw m) (fun m _ => bx m))
  rw [if_neg k10]
  by_cases k11 : k = 11
  · rw [if_pos k11]
    exact qlc11 e S L i _ _ _ (qBu S) hi hLs (qUn_a hC (q_readings e S _ _ (by omega) hK hP hL hT hC hR) (fun m _ => bw m) (fun m _ => bx m))
  rw [if_neg k11]
  by_cases k12 : k = 12
  · rw [if_pos k12]
    exact qlc12 e S L i _ _ _ (qBu S) hLs (qUn_a0 hC (q_formulaFault (e + 1) S (by omega) hK hP hT hC) (fun m _ => bw m))
  rw [if_neg k12]
  by_cases k13 : k = 13
  · rw [if_pos k13]
    exact qlc13 e S L i _ _ _ (qBu S) hi hLs (qUn_a hC (q_formulaCells e S _ (by omega) hK hP hL hT hC) (fun m _ => bw m) (fun m _ => bx m))
  rw [if_neg k13]
  by_cases k14 : k = 14
  · rw [if_pos k14]
    exact qlc14 e S L i _ _ _ (qBu S) hi hLs (qUn_a hC (q_formulaCell e S _ _ (by omega) hK hP hL hT hC) (fun m _ => bw m) (fun m _ => bx m))
  rw [if_neg k14]
  by_cases k15 : k = 15
  · rw [if_pos k15]
    exact qlc15 e S L i _ _ _ (qBu S) hi hLs (qUn_a hC (q_isReadBack e S _ (by omega) hK hP hL hT hC) (fun m _ => bw m) (fun m _ => bx m))
  rw [if_neg k15]
  by_cases k16 : k = 16
  · rw [if_pos k16]
    exact qlc16 e S L i _ _ _ (qBu S) _ rfl hi hLs (qUn_no (q_book_n e S _ _ _ _ _ (by omega) hK hC (noc _)) (fun p => bx _))
  rw [if_neg k16]
  by_cases k17 : k = 17
  · rw [if_pos k17]
    exact qlc17 e S L i _ _ _ (qBu S) hi hLs (qUn_no (q_add_n e S _ (by omega) hK hP hT hNb (nob _)) (fun p => bx _))
  rw [if_neg k17]
  by_cases k18 : k = 18
  · rw [if_pos k18]
    exact qlc18 e S L i _ _ _ (qBu S) hi hLs (qUn_no (q_word_n e S _ _ _ (by omega) hK hNb (nob _)) (fun p => bx _))
  rw [if_neg k18]
  by_cases k19 : k = 19
  · rw [if_pos k19]
    exact qlc19 e S L i _ _ _ (qBu S) hi hLs (qUn_no (q_ofBook_n e S _ _ (by omega) hK hNb (nob _)) (fun p => bx _))
  rw [if_neg k19]
  by_cases k20 : k = 20
  · rw [if_pos k20]
    exact qlc20 e S L i _ _ _ (qBu S) hi hLs (qUn_no (q_at_n e S _ _ _ _ (by omega) hK hNb (nob _)) (fun p => bx _))
  rw [if_neg k20]
  by_cases k21 : k = 21
  · rw [if_pos k21]
    exact qlc21 e S L i _ _ _ (qBu S) hi hLs (q_renew e S _ _ _ (qBu S) (by omega) hK hP hYn (fun v => bx _) (fun o _ _ _ _ _ _ => bw _))
  rw [if_neg k21]
  by_cases k22 : k = 22
  · rw [if_pos k22]
    exact qlc22 e S L i _ _ _ (qBu S) hi hLs (qUn_no (q_emboss_n e S _ _ (by omega) hK hNb (Or.inr (nob _))) (fun p => bx _))
  rw [if_neg k22]
  by_cases k23 : k = 23
  · rw [if_pos k23]
    exact qlc23 e S L i _ _ _ (qBu S) hi hLs (qUn_no (q_felt_n e S _ _ _ _ (by omega) hK hNc (noy _)) (fun p => bx _))
  rw [if_neg k23]
  by_cases k24 : k = 24
  · rw [if_pos k24]
    exact qlc24 e S L i _ _ _ (qBu S) hi hLs (qUn_no (q_ofCopy_n e S _ _ (by omega) hK hNc (noy _)) (fun p => bx _))
  rw [if_neg k24]
  by_cases k25 : k = 25
  · rw [if_pos k25]
    exact qlc25 e S L i _ _ _ (qBu S) hLs (q_sheets0 (e + 1) S (qBu S) (by omega) hK (by rw [hNc.1]; exact c65) d73 (bw _))
  rw [if_neg k25]
  by_cases k26 : k = 26
  · rw [if_pos k26]
    exact qlc26 e S L i _ _ _ (qBu S) hi hLs (q_reader e S _ (qBu S) (by omega) hK hP hNr hn (fun v => bx _) (fun S2 _ _ _ _ z w _ _ _ _ _ _ _ _ _ _ => ⟨by omega, by omega⟩))
  rw [if_neg k26]
  by_cases k27 : k = 27
  · rw [if_pos k27]
    exact qlc27 e S L i _ _ _ (qBu S) hi hLs (qUn_no (q_teach_n e S _ _ _ (by omega) hK hNr (nor _)) (fun p => bx _))
  rw [if_neg k27]
  by_cases k28 : k = 28
  · rw [if_pos k28]
    exact qlc28 e S L i _ _ _ (qBu S) hi hLs (qUn_no (q_unknown_n e S _ _ (by omega) hK hNr (nor _)) (fun p => bx _))
  rw [if_neg k28]
  by_cases k29 : k = 29
  · rw [if_pos k29]
    exact qlc29 e S L i _ _ _ (qBu S) hi hLs (qUn_no (q_wish_n e S _ _ (by omega) hK hNr (nor _)) (fun p => bx _))
  rw [if_neg k29]
  by_cases k30 : k = 30
  · rw [if_pos k30]
    exact qlc30 e S L i _ _ _ (qBu S) hi hLs (qUn_no (q_secret_n e S _ _ _ (by omega) hK hNb (nob _)) (fun p => bx _))
  rw [if_neg k30]
  by_cases k31 : k = 31
  · rw [if_pos k31]
    exact qlc31 e S L i _ _ _ (qBu S) hi hLs (q_pass0 e S _ (qBu S) (by omega) hK d13 d3 (by rw [hNc.1]; exact c65) c65 (fun v => bx _) (fun m => bw m))
  rw [if_neg k31]
  by_cases k32 : k = 32
  · rw [if_pos k32]
    exact qlc32 e S L i _ _ _ (qBu S) hLs (q_day (e + 1) S (qBu S) (by omega) hK (by rw [d13, d3]) (bw _))
  rw [if_neg k32]
  by_cases k33 : k = 33
  · rw [if_pos k33]
    exact qlc33 e S L i _ _ _ (qBu S) hi hLs (qUn_no (q_giveBack_n e S _ _ (by omega) hK hNc (noy _)) (fun p => bx _))
  rw [if_neg k33]
  by_cases k34 : k = 34
  · rw [if_pos k34]
    exact qlc34 e S L i _ _ _ (qBu S) hi hLs (qUn_no (q_ahead_n e S _ _ (by omega) hK hNr (nor _)) (fun p => bx _))
  rw [if_neg k34]
  by_cases k35 : k = 35
  · rw [if_pos k35]
    exact qlc35 e S L i _ _ _ (qBu S) hi hLs (qUn_no (q_late_n e S _ (by omega) hK hNr (nor _)) (fun p => bx _))
  rw [if_neg k35]
  exact ⟨S, rfl, qKs_r S, by unfold qBu; omega⟩
