/-! One call of a house: the law's case, and the house behind it. -/
theorem q_oneH (e : Nat) (S : zS) (L i : Int) (x5 x6 x7 : zV) (he : 300 ≤ e) (hi : 0 ≤ i ∧ i + 6 ≤ L ∧ L ≤ 3072) (h1 : zk S 1 = (40, L)) (h102 : zk S 102 = (1, 1)) (hH : qHC S) (h50 : zm S 37 50 < zm S 37 16) :
    ∃ S2, zF_341 (e + 1) 33 [vr 1, vr 3, vr 37, vr 102, vi i, x5, x6, x7] [] S = zF_341 (e + 1) 2493 [vr 1, vr 3, vr 37, vr 102, vi i, vu, vu, vu] [] S2 ∧ qKs S S2 ∧ qG5 S S2 := by
  obtain ⟨⟨⟨⟨hK, hP, hL, hn⟩, ⟨hT, hC, hR, hk⟩, hPo, hY⟩, hBB⟩, hYC, hFc⟩ := id hH
  have hYn := hPo.1
  have hYd := hPo.2.1
  have hNr := hPo.2.2.2.2.1.1
  have hB := qYb_h hY
  have hLs : qLs S L := ⟨h1, K_3 hK, K_37 hK, h102⟩
  have ff : ∀ m2, qFq S m2 → qG5 S (qW S m2) := fun m2 f => q5_ff hH f
  have fx : ∀ m2, qFq S m2 → qG5 S (zbump (qW S m2)) := fun m2 f => q5_fx hH f
  have f0 := q5_0 hH
  have g33 : zF_341 (e + 1) 33 [vr 1, vr 3, vr 37, vr 102, vi i, x5, x6, x7] [] S = zF_341 (e + 1) (zsw 40 (.tableswitch 2453 0 35 #[160, 260, 273, 286, 330, 434, 478, 546, 626, 701, 769, 836, 903, 916, 972, 1040, 1103, 1223, 1279, 1359, 1427, 1519, 1599, 1667, 1759, 1827, 1840, 1896, 1976, 2044, 2112, 2192, 2248, 2261, 2329, 2397]) (zand (zm S 1 i) 63)) [vr 1, vr 3, vr 37, vr 102, vi i, vu, vu, vu] [] S := by
    rw [b341_33, zchk_pos]
    rw [h1]
    exact ⟨Or.inr rfl, hi.1, by show i < L; omega⟩
  rw [g33, w341_40]
  generalize zand (zm S 1 i) 63 = k
  by_cases k0 : k = 0
  · rw [if_pos k0]
    exact qlc0 e S L i _ _ _ (qG5 S) hi hLs (qUn_w hC (q_type e S _ _ (by omega) hK hP hT) (fun m q => qFtp_1 q.1) (fun m q => q5_type hH q) fx)
  rw [if_neg k0]
  by_cases k1 : k = 1
  · rw [if_pos k1]
    exact qlc1 e S L i _ _ _ (qG5 S) hLs (qUn_w0 (q_wipe (e + 1) S (by omega) hK hP hT) (fun m q => qFtp_1 q.1) (fun m q => q5_type hH q))
  rw [if_neg k1]
  by_cases k2 : k = 2
  · rw [if_pos k2]
    exact qlc2 e S L i _ _ _ (qG5 S) hLs (qUn_a0 hC (q_fault (e + 1) S (by omega) hK hP hT hC) ff)
  rw [if_neg k2]
  by_cases k3 : k = 3
  · rw [if_pos k3]
    exact qlc3 e S L i _ _ _ (qG5 S) hi hLs (qUn_n (q_codeH e S (by omega) hK hP hC hn) (fun S2 q => qGw_k q.2.2 hn fun j => by omega) (fun S2 q => by obtain ⟨m2, rfl, f⟩ := q; exact ⟨qFq_1 hC f, fun _ _ => rfl⟩) (fun S2 q => q5_code hH q.1 q.2.1 q.2.2) (fun S2 q => by obtain ⟨m2, rfl, f⟩ := q; exact fx m2 f))
  rw [if_neg k3]
  by_cases k4 : k = 4
  · rw [if_pos k4]
    exact qlc4 e S L i _ _ _ (qG5 S) hi hLs (qUn_n (q_contrH e S _ _ _ _ _ (by omega) hK hP hT hC hB hn) (fun S2 q => qGw_k q.2.2.2 hn fun j => by omega) (fun S2 q => by obtain ⟨m2, rfl, f⟩ := q; exact ⟨qFq_1 hC f, fun _ _ => rfl⟩) (fun S2 q => q5_contr hH q.1 q.2.1 q.2.2.1 q.2.2.2) (fun S2 q => by obtain ⟨m2, rfl, f⟩ := q; exact fx m2 f))
  rw [if_neg k4]
  by_cases k5 : k = 5
  · rw [if_pos k5]
    exact qlc5 e S L i _ _ _ (qG5 S) hi hLs (qUn_n (q_divisH e S (by omega) hK hP hT hC hR hB hn) (fun S2 q => qGw_k q.2.2 hn fun j => by omega) (fun S2 q => q_divx hn hC q) (fun S2 q => q5_divis hH q.1 q.2.1.1 q.2.1.2.2.1 q.2.2) (fun S2 q => q5_divx hH q))
  rw [if_neg k5]
  by_cases k6 : k = 6
  · rw [if_pos k6]
    exact qlc6 e S L i _ _ _ (qG5 S) hi hLs (qUn_a hC (q_size e S _ _ (by omega) hK hP hL hT hC hR) ff fx)
  rw [if_neg k6]
  by_cases k7 : k = 7
  · rw [if_pos k7]
    exact qlc7 e S L i _ _ _ (qG5 S) hi hLs (qUn_a hC (q_cell e S _ _ _ (by omega) hK hP hL hT hC hR) ff fx)
  rw [if_neg k7]
  by_cases k8 : k = 8
  · rw [if_pos k8]
    exact qlc8 e S L i _ _ _ (qG5 S) hi hLs (qUn_a hC (q_isMarked e S _ _ (by omega) hK hP hL hT hC hR) ff fx)
  rw [if_neg k8]
  by_cases k9 : k = 9
  · rw [if_pos k9]
    exact qlc9 e S L i _ _ _ (qG5 S) hi hLs (qUn_a hC (q_least e S _ _ (by omega) hK hP hL hT hC hR) ff fx)
  rw [if_neg k9]
  by_cases k10 : k = 10
  · rw [if_pos k10]
    exact qlc10 e S L i _ _ _ (qG5 S) hi hLs (qUn_a hC (q_ways e S _ _ (by omega) hK hP hL hT hC hR) ff fx)
  rw [if_neg k10]
  by_cases k11 : k = 11
  · rw [if_pos k11]
    exact qlc11 e S L i _ _ _ (qG5 S) hi hLs (qUn_a hC (q_readings e S _ _ (by omega) hK hP hL hT hC hR) ff fx)
  rw [if_neg k11]
  by_cases k12 : k = 12
  · rw [if_pos k12]
    exact qlc12 e S L i _ _ _ (qG5 S) hLs (qUn_a0 hC (q_formulaFault (e + 1) S (by omega) hK hP hT hC) ff)
  rw [if_neg k12]
  by_cases k13 : k = 13
  · rw [if_pos k13]
    exact qlc13 e S L i _ _ _ (qG5 S) hi hLs (qUn_a hC (q_formulaCells e S _ (by omega) hK hP hL hT hC) ff fx)
  rw [if_neg k13]
  by_cases k14 : k = 14
  · rw [if_pos k14]
    exact qlc14 e S L i _ _ _ (qG5 S) hi hLs (qUn_a hC (q_formulaCell e S _ _ (by omega) hK hP hL hT hC) ff fx)
  rw [if_neg k14]
  by_cases k15 : k = 15
  · rw [if_pos k15]
    exact qlc15 e S L i _ _ _ (qG5 S) hi hLs (qUn_a hC (q_isReadBack e S _ (by omega) hK hP hL hT hC) ff fx)
  rw [if_neg k15]
  by_cases k16 : k = 16
  · rw [if_pos k16]
    exact qlc16 e S L i _ _ _ (qG5 S) _ rfl hi hLs (q_book e S _ _ _ _ _ (qG5 S) (by omega) hK hP hC hY.1 hn (by split <;> decide) f0 (fun S2 c0 c1 g0 g3 w0 w1 t0 t1 h4 n2 c2 w2 hk o o3 o6 o8 o37 o16 o49 o50 o51 o52 o53 oN oN1 oN2 => q5_book hH h50 _ _ _ _ _ (by split <;> decide) c0 c1 g0 g3 w0 w1 t0 t1 h4 n2 c2 w2 hk o o3 o6 o8 o37 o16 o49 o50 o51 o52 o53 oN oN2))
  rw [if_neg k16]
  by_cases k17 : k = 17
  · rw [if_pos k17]
    exact qlc17 e S L i _ _ _ (qG5 S) hi hLs (q_add e S _ (by omega) hH)
  rw [if_neg k17]
  by_cases k18 : k = 18
  · rw [if_pos k18]
    exact qlc18 e S L i _ _ _ (qG5 S) hi hLs (q_word5 e S _ _ _ (by omega) hH)
  rw [if_neg k18]
  by_cases k19 : k = 19
  · rw [if_pos k19]
    exact qlc19 e S L i _ _ _ (qG5 S) hi hLs (q_ofBook5 e S _ _ (by omega) hH)
  rw [if_neg k19]
  by_cases k20 : k = 20
  · rw [if_pos k20]
    exact qlc20 e S L i _ _ _ (qG5 S) hi hLs (q_at5 e S _ _ _ _ (by omega) hH)
  rw [if_neg k20]
  by_cases k21 : k = 21
  · rw [if_pos k21]
    exact qlc21 e S L i _ _ _ (qG5 S) hi hLs (q_renew e S _ _ _ (qG5 S) (by omega) hK hP hYn f0 (fun o c0 c3 p0 p6 t1 t2 => q5_renew hH _ _ _ o c0 c3 p0 p6 t1 t2))
  rw [if_neg k21]
  by_cases k22 : k = 22
  · rw [if_pos k22]
    exact qlc22 e S L i _ _ _ (qG5 S) hi hLs (q_emboss5 e S _ _ (by omega) hH)
  rw [if_neg k22]
  by_cases k23 : k = 23
  · rw [if_pos k23]
    exact qlc23 e S L i _ _ _ (qG5 S) hi hLs (q_felt5 e S _ _ _ _ (by omega) hH)
  rw [if_neg k23]
  by_cases k24 : k = 24
  · rw [if_pos k24]
    exact qlc24 e S L i _ _ _ (qG5 S) hi hLs (q_ofCopy e S _ _ (by omega) hH)
  rw [if_neg k24]
  by_cases k25 : k = 25
  · rw [if_pos k25]
    exact qlc25 e S L i _ _ _ (qG5 S) hLs (q_sheets5 (e + 1) S (by omega) hH)
  rw [if_neg k25]
  by_cases k26 : k = 26
  · rw [if_pos k26]
    exact qlc26 e S L i _ _ _ (qG5 S) hi hLs (q_reader e S _ (qG5 S) (by omega) hK hP hNr hn f0 (fun S2 g0 g2 h6 n2 c2 w2 hk o o3 o11 o14 o37 o76 o90 oN oN1 => q5_reader hH _ g0 g2 h6 n2 c2 w2 hk o o3 o11 o14 o37 o76 o90 oN oN1))
  rw [if_neg k26]
  by_cases k27 : k = 27
  · rw [if_pos k27]
    exact qlc27 e S L i _ _ _ (qG5 S) hi hLs (q_teach5 e S _ _ _ (by omega) hH)
  rw [if_neg k27]
  by_cases k28 : k = 28
  · rw [if_pos k28]
    exact qlc28 e S L i _ _ _ (qG5 S) hi hLs (q_unknown5 e S _ _ (by omega) hH)
  rw [if_neg k28]
  by_cases k29 : k = 29
  · rw [if_pos k29]
    exact qlc29 e S L i _ _ _ (qG5 S) hi hLs (q_wish5 e S _ _ (by omega) hH)
  rw [if_neg k29]
  by_cases k30 : k = 30
  · rw [if_pos k30]
    exact qlc30 e S L i _ _ _ (qG5 S) hi hLs (q_secret e S _ _ _ (qG5 S) (by omega) hK hP hY f0 (fun o b0 b1 t0 t1 w0 w1 => q5_secret hH _ _ _ o b0 b1 t0 t1 w0 w1))
  rw [if_neg k30]
  by_cases k31 : k = 31
  · rw [if_pos k31]
    exact qlc31 e S L i _ _ _ (qG5 S) hi hLs (q_pass5 e S _ (by omega) hH)
  rw [if_neg k31]
  by_cases k32 : k = 32
  · rw [if_pos k32]
    exact qlc32 e S L i _ _ _ (qG5 S) hLs (q_day (e + 1) S (qG5 S) (by omega) hK hYd.1 (ff _ (qFq_0 S 0)))
  rw [if_neg k32]
  by_cases k33 : k = 33
  · rw [if_pos k33]
    exact qlc33 e S L i _ _ _ (qG5 S) hi hLs (q_giveBack5 e S _ _ (by omega) hH)
  rw [if_neg k33]
  by_cases k34 : k = 34
  · rw [if_pos k34]
    exact qlc34 e S L i _ _ _ (qG5 S) hi hLs (q_ahead e S _ _ (qG5 S) (by omega) hK hP hC hn hY.1 hPo f0 ff)
  rw [if_neg k34]
  by_cases k35 : k = 35
  · rw [if_pos k35]
    exact qlc35 e S L i _ _ _ (qG5 S) hi hLs (q_late e S _ (qG5 S) (by omega) hK hP hC hn hPo f0 ff)
  rw [if_neg k35]
  exact ⟨S, rfl, qKs_r S, ⟨hH, by omega, by omega⟩, q50_r S, Int.le_refl _⟩
