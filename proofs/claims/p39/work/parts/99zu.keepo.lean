/-! For each call that changes a house: what is kept. -/
theorem qfbn_1 {S : zS} {z i : Int} (h : qfbn S z i) : 103 ≤ z ∧ (((zk S z).1 = 20 ∧ i ≠ 13 ∧ i ≠ 14 ∧ i ≠ 15) ∨ (zk S z).1 = 11 ∨ ((zk S z).1 = 3 ∧ (zk S (z - 1)).1 = 11) ∨ (zk S z).1 = 21 ∨ (zk S z).1 = 28 ∨ (zk S z).1 = 31 ∨ ((zk S z).1 = 0 ∧ ((zk S z).2 = 10 ∨ (zk S z).2 = 16 ∨ (zk S z).2 = 4))) := h
def qEk_renew (S : zS) (x j : Int) : Prop := x = 102 ∨ (x = 37 ∧ j = 0) ∨ (10 ≤ x ∧ x ≤ 12) ∨ x = 81
theorem qk_renew {S S' : zS} (h : qHC S) (a : qAg S S' (qEk_renew S)) (cYn : qYn S') : qHC S' := by
  obtain ⟨⟨⟨⟨hK, hP, hL, hn⟩, ⟨hT, hC, hR, hk⟩, ⟨p1, p2, p3, p4, p5, p6⟩, hY⟩, hBB⟩, hYC, hFc⟩ := h
  have e16 : zm S' 37 16 = zm S 37 16 := a.2 37 16 (by omega) (by unfold qEk_renew; omega)
  have h16 := Int.le_of_eq e16.symm
  have h76 := Int.le_of_eq (a.2 37 76 (by omega) (by unfold qEk_renew; omega)).symm
  have h65 := Int.le_of_eq (a.2 37 65 (by omega) (by unfold qEk_renew; omega)).symm
  have cn : 103 ≤ (zn S' : Int) := by have := a.1.1; omega
  have kP := qP_m hP a hn (fun x j q => by unfold qEk_renew; omega)
  have kL := qLt_m hL a hn (fun j => by unfold qEk_renew; omega)
  have kT := qRT_m hT a hn (fun x j q => by unfold qEk_renew; omega)
  have kC := qRC_m hC a hn (fun x j q => by unfold qEk_renew; omega)
  have kD := qRD_m hR a hn (fun x j q => by unfold qEk_renew; omega)
  have kK := qRK_m hk a hn (fun x j q => by unfold qEk_renew; omega)
  have kYn := cYn
  have kYd := qYd_k p2 a hn (fun x j q => by unfold qfDy at q; unfold qEk_renew; omega)
  have kYw := qYw_k p3 a hn (fun x j q => by unfold qfW at q; unfold qEk_renew; omega) h76 h16
  have kYp := qYp_k p4 a hn (fun x j q => by have q := qfP_n q; unfold qEk_renew; omega) h76 h16
  have kYr := qYr_k p5 a hn (fun x j q => by have q := qfR_n q; unfold qEk_renew; omega)
  have kYh := qYh_k p5 p6 a hn (fun x j q => by have q := qfH_n q; unfold qEk_renew; omega)
  have kYb := qYb_k hY a hn (fun x j q => by have q := qfB_n q; unfold qEk_renew; omega) (Int.le_of_eq (a.2 37 4 (by omega) (by unfold qEk_renew; omega)).symm) (fun c _ _ => a.2 6 c (by omega) (by unfold qEk_renew; omega))
  have kBB := qBB_m hY hBB a hn e16 (fun x j q => by unfold qfbn at q; unfold qEk_renew; omega)
  have kYC := qYC_m hY p4 hYC a hn e16 (fun x j q => by unfold qEk_renew; omega)
  have kFc := qFc_m hY hYC hFc a hn h65 (fun x j q => by unfold qEk_renew; omega)
  exact ⟨⟨⟨⟨qK_g hK hn a.1.2, kP, kL, cn⟩, ⟨kT, kC, kD, kK⟩, ⟨kYn, kYd, kYw, kYp, kYr, kYh⟩, kYb⟩, kBB⟩, kYC, kFc⟩
def qEk_secret (S : zS) (x j : Int) : Prop := x = 102 ∨ (x = 37 ∧ j = 0) ∨ x = 62 ∨ x = 63 ∨ (103 ≤ x ∧ (zk S x).1 = 20 ∧ (j = 14 ∨ j = 15))
theorem qk_secret {S S' : zS} (h : qHC S) (a : qAg S S' (qEk_secret S)) (cYb : qYb S') : qHC S' := by
  obtain ⟨⟨⟨⟨hK, hP, hL, hn⟩, ⟨hT, hC, hR, hk⟩, ⟨p1, p2, p3, p4, p5, p6⟩, hY⟩, hBB⟩, hYC, hFc⟩ := h
  have e16 : zm S' 37 16 = zm S 37 16 := a.2 37 16 (by omega) (by unfold qEk_secret; omega)
  have h16 := Int.le_of_eq e16.symm
  have h76 := Int.le_of_eq (a.2 37 76 (by omega) (by unfold qEk_secret; omega)).symm
  have h65 := Int.le_of_eq (a.2 37 65 (by omega) (by unfold qEk_secret; omega)).symm
  have cn : 103 ≤ (zn S' : Int) := by have := a.1.1; omega
  have kP := qP_m hP a hn (fun x j q => by unfold qEk_secret; omega)
  have kL := qLt_m hL a hn (fun j => by unfold qEk_secret; omega)
  have kT := qRT_m hT a hn (fun x j q => by unfold qEk_secret; omega)
  have kC := qRC_m hC a hn (fun x j q => by unfold qEk_secret; omega)
  have kD := qRD_m hR a hn (fun x j q => by unfold qEk_secret; omega)
  have kK := qRK_m hk a hn (fun x j q => by unfold qEk_secret; omega)
  have kYn := qYn_k p1 a hn (fun x j q => by unfold qfN at q; unfold qEk_secret; omega)
  have kYd := qYd_k p2 a hn (fun x j q => by unfold qfDy at q; unfold qEk_secret; omega)
  have kYw := qYw_k p3 a hn (fun x j q => by unfold qfW at q; unfold qEk_secret; omega) h76 h16
  have kYp := qYp_k p4 a hn (fun x j q => by have q := qfP_n q; unfold qEk_secret; omega) h76 h16
  have kYr := qYr_k p5 a hn (fun x j q => by have q := qfR_n q; unfold qEk_secret; omega)
  have kYh := qYh_k p5 p6 a hn (fun x j q => by have q := qfH_n q; unfold qEk_secret; omega)
  have kYb := cYb
  have kBB := qBB_m hY hBB a hn e16 (fun x j q => by unfold qfbn at q; unfold qEk_secret; omega)
  have kYC := qYC_m hY p4 hYC a hn e16 (fun x j q => by unfold qEk_secret; omega)
  have kFc := qFc_m hY hYC hFc a hn h65 (fun x j q => by unfold qEk_secret; omega)
  exact ⟨⟨⟨⟨qK_g hK hn a.1.2, kP, kL, cn⟩, ⟨kT, kC, kD, kK⟩, ⟨kYn, kYd, kYw, kYp, kYr, kYh⟩, kYb⟩, kBB⟩, kYC, kFc⟩
def qEk_reader (S : zS) (x j : Int) : Prop := x = 102 ∨ (x = 37 ∧ (j = 0 ∨ j = 76)) ∨ (x = 3 ∧ j = 11) ∨ x = 14 ∨ x = 90
theorem qk_reader {S S' : zS} (h : qHC S) (a : qAg S S' (qEk_reader S)) (cYr : qYr S') (cYh : qYh S') (h76 : zm S 37 76 ≤ zm S' 37 76) : qHC S' := by
  obtain ⟨⟨⟨⟨hK, hP, hL, hn⟩, ⟨hT, hC, hR, hk⟩, ⟨p1, p2, p3, p4, p5, p6⟩, hY⟩, hBB⟩, hYC, hFc⟩ := h
  have e16 : zm S' 37 16 = zm S 37 16 := a.2 37 16 (by omega) (by unfold qEk_reader; omega)
  have h16 := Int.le_of_eq e16.symm
  have h65 := Int.le_of_eq (a.2 37 65 (by omega) (by unfold qEk_reader; omega)).symm
  have cn : 103 ≤ (zn S' : Int) := by have := a.1.1; omega
  have kP := qP_m hP a hn (fun x j q => by unfold qEk_reader; omega)
  have kL := qLt_m hL a hn (fun j => by unfold qEk_reader; omega)
  have kT := qRT_m hT a hn (fun x j q => by unfold qEk_reader; omega)
  have kC := qRC_m hC a hn (fun x j q => by unfold qEk_reader; omega)
  have kD := qRD_m hR a hn (fun x j q => by unfold qEk_reader; omega)
  have kK := qRK_m hk a hn (fun x j q => by unfold qEk_reader; omega)
  have kYn := qYn_k p1 a hn (fun x j q => by unfold qfN at q; unfold qEk_reader; omega)
  have kYd := qYd_k p2 a hn (fun x j q => by unfold qfDy at q; unfold qEk_reader; omega)
  have kYw := qYw_k p3 a hn (fun x j q => by unfold qfW at q; unfold qEk_reader; omega) h76 h16
  have kYp := qYp_k p4 a hn (fun x j q => by have q := qfP_n q; unfold qEk_reader; omega) h76 h16
  have kYr := cYr
  have kYh := cYh
  have kYb := qYb_k hY a hn (fun x j q => by have q := qfB_n q; unfold qEk_reader; omega) (Int.le_of_eq (a.2 37 4 (by omega) (by unfold qEk_reader; omega)).symm) (fun c _ _ => a.2 6 c (by omega) (by unfold qEk_reader; omega))
  have kBB := qBB_m hY hBB a hn e16 (fun x j q => by unfold qfbn at q; unfold qEk_reader; omega)
  have kYC := qYC_m hY p4 hYC a hn e16 (fun x j q => by unfold qEk_reader; omega)
  have kFc := qFc_m hY hYC hFc a hn h65 (fun x j q => by unfold qEk_reader; omega)
  exact ⟨⟨⟨⟨qK_g hK hn a.1.2, kP, kL, cn⟩, ⟨kT, kC, kD, kK⟩, ⟨kYn, kYd, kYw, kYp, kYr, kYh⟩, kYb⟩, kBB⟩, kYC, kFc⟩
def qEk_teach (S : zS) (x j : Int) : Prop := x = 102 ∨ (x = 37 ∧ j = 0) ∨ x = 91 ∨ (103 ≤ x ∧ (zk S x).1 = 0 ∧ (zk S x).2 = 3)
theorem qk_teach {S S' : zS} (h : qHC S) (a : qAg S S' (qEk_teach S)) (cYr : qYr S') : qHC S' := by
  obtain ⟨⟨⟨⟨hK, hP, hL, hn⟩, ⟨hT, hC, hR, hk⟩, ⟨p1, p2, p3, p4, p5, p6⟩, hY⟩, hBB⟩, hYC, hFc⟩ := h
  have e16 : zm S' 37 16 = zm S 37 16 := a.2 37 16 (by omega) (by unfold qEk_teach; omega)
  have h16 := Int.le_of_eq e16.symm
  have h76 := Int.le_of_eq (a.2 37 76 (by omega) (by unfold qEk_teach; omega)).symm
  have h65 := Int.le_of_eq (a.2 37 65 (by omega) (by unfold qEk_teach; omega)).symm
  have cn : 103 ≤ (zn S' : Int) := by have := a.1.1; omega
  have kP := qP_m hP a hn (fun x j q => by unfold qEk_teach; omega)
  have kL := qLt_m hL a hn (fun j => by unfold qEk_teach; omega)
  have kT := qRT_m hT a hn (fun x j q => by unfold qEk_teach; omega)
  have kC := qRC_m hC a hn (fun x j q => by unfold qEk_teach; omega)
  have kD := qRD_m hR a hn (fun x j q => by unfold qEk_teach; omega)
  have kK := qRK_m hk a hn (fun x j q => by unfold qEk_teach; omega)
  have kYn := qYn_k p1 a hn (fun x j q => by unfold qfN at q; unfold qEk_teach; omega)
  have kYd := qYd_k p2 a hn (fun x j q => by unfold qfDy at q; unfold qEk_teach; omega)
  have kYw := qYw_k p3 a hn (fun x j q => by unfold qfW at q; unfold qEk_teach; omega) h76 h16
  have kYp := qYp_k p4 a hn (fun x j q => by have q := qfP_n q; unfold qEk_teach; omega) h76 h16
  have kYr := cYr
  have kYh := qYh_k p5 p6 a hn (fun x j q => by have q := qfH_n q; unfold qEk_teach; omega)
  have kYb := qYb_k hY a hn (fun x j q => by have q := qfB_n q; unfold qEk_teach; omega) (Int.le_of_eq (a.2 37 4 (by omega) (by unfold qEk_teach; omega)).symm) (fun c _ _ => a.2 6 c (by omega) (by unfold qEk_teach; omega))
  have kBB := qBB_m hY hBB a hn e16 (fun x j q => by unfold qfbn at q; unfold qEk_teach; omega)
  have kYC := qYC_m hY p4 hYC a hn e16 (fun x j q => by unfold qEk_teach; omega)
  have kFc := qFc_m hY hYC hFc a hn h65 (fun x j q => by unfold qEk_teach; omega)
  exact ⟨⟨⟨⟨qK_g hK hn a.1.2, kP, kL, cn⟩, ⟨kT, kC, kD, kK⟩, ⟨kYn, kYd, kYw, kYp, kYr, kYh⟩, kYb⟩, kBB⟩, kYC, kFc⟩
def qEk_type (S : zS) (x j : Int) : Prop := x = 102 ∨ (x = 4 ∧ j = 1) ∨ x = 5 ∨ (x = 37 ∧ (j = 0 ∨ j = 2)) ∨ x = 38
theorem qk_type {S S' : zS} (h : qHC S) (a : qAg S S' (qEk_type S)) (cT : qRT S') : qHC S' := by
  obtain ⟨⟨⟨⟨hK, hP, hL, hn⟩, ⟨hT, hC, hR, hk⟩, ⟨p1, p2, p3, p4, p5, p6⟩, hY⟩, hBB⟩, hYC, hFc⟩ := h
  have e16 : zm S' 37 16 = zm S 37 16 := a.2 37 16 (by omega) (by unfold qEk_type; omega)
  have h16 := Int.le_of_eq e16.symm
  have h76 := Int.le_of_eq (a.2 37 76 (by omega) (by unfold qEk_type; omega)).symm
  have h65 := Int.le_of_eq (a.2 37 65 (by omega) (by unfold qEk_type; omega)).symm
  have cn : 103 ≤ (zn S' : Int) := by have := a.1.1; omega
  have kP := qP_m hP a hn (fun x j q => by unfold qEk_type; omega)
  have kL := qLt_m hL a hn (fun j => by unfold qEk_type; omega)
  have kT := cT
  have kC := qRC_m hC a hn (fun x j q => by unfold qEk_type; omega)
  have kD := qRD_m hR a hn (fun x j q => by unfold qEk_type; omega)
  have kK := qRK_m hk a hn (fun x j q => by unfold qEk_type; omega)
  have kYn := qYn_k p1 a hn (fun x j q => by unfold qfN at q; unfold qEk_type; omega)
  have kYd := qYd_k p2 a hn (fun x j q => by unfold qfDy at q; unfold qEk_type; omega)
  have kYw := qYw_k p3 a hn (fun x j q => by unfold qfW at q; unfold qEk_type; omega) h76 h16
  have kYp := qYp_k p4 a hn (fun x j q => by have q := qfP_n q; unfold qEk_type; omega) h76 h16
  have kYr := qYr_k p5 a hn (fun x j q => by have q := qfR_n q; unfold qEk_type; omega)
  have kYh := qYh_k p5 p6 a hn (fun x j q => by have q := qfH_n q; unfold qEk_type; omega)
  have kYb := qYb_k hY a hn (fun x j q => by have q := qfB_n q; unfold qEk_type; omega) (Int.le_of_eq (a.2 37 4 (by omega) (by unfold qEk_type; omega)).symm) (fun c _ _ => a.2 6 c (by omega) (by unfold qEk_type; omega))
  have kBB := qBB_m hY hBB a hn e16 (fun x j q => by unfold qfbn at q; unfold qEk_type; omega)
  have kYC := qYC_m hY p4 hYC a hn e16 (fun x j q => by unfold qEk_type; omega)
  have kFc := qFc_m hY hYC hFc a hn h65 (fun x j q => by unfold qEk_type; omega)
  exact ⟨⟨⟨⟨qK_g hK hn a.1.2, kP, kL, cn⟩, ⟨kT, kC, kD, kK⟩, ⟨kYn, kYd, kYw, kYp, kYr, kYh⟩, kYb⟩, kBB⟩, kYC, kFc⟩
def qEk_code (S : zS) (x j : Int) : Prop := x = 102 ∨ (x = 3 ∧ j = 2) ∨ x = 6 ∨ (x = 37 ∧ (j = 0 ∨ j = 4))
theorem qk_code {S S' : zS} (h : qHC S) (a : qAg S S' (qEk_code S)) (cC : qRC S') (cYb : qYb S') : qHC S' := by
  obtain ⟨⟨⟨⟨hK, hP, hL, hn⟩, ⟨hT, hC, hR, hk⟩, ⟨p1, p2, p3, p4, p5, p6⟩, hY⟩, hBB⟩, hYC, hFc⟩ := h
  have e16 : zm S' 37 16 = zm S 37 16 := a.2 37 16 (by omega) (by unfold qEk_code; omega)
  have h16 := Int.le_of_eq e16.symm
  have h76 := Int.le_of_eq (a.2 37 76 (by omega) (by unfold qEk_code; omega)).symm
  have h65 := Int.le_of_eq (a.2 37 65 (by omega) (by unfold qEk_code; omega)).symm
  have cn : 103 ≤ (zn S' : Int) := by have := a.1.1; omega
  have kP := qP_m hP a hn (fun x j q => by unfold qEk_code; omega)
  have kL := qLt_m hL a hn (fun j => by unfold qEk_code; omega)
  have kT := qRT_m hT a hn (fun x j q => by unfold qEk_code; omega)
  have kC := cC
  have kD := qRD_m hR a hn (fun x j q => by unfold qEk_code; omega)
  have kK := qRK_m hk a hn (fun x j q => by unfold qEk_code; omega)
  have kYn := qYn_k p1 a hn (fun x j q => by unfold qfN at q; unfold qEk_code; omega)
  have kYd := qYd_k p2 a hn (fun x j q => by unfold qfDy at q; unfold qEk_code; omega)
  have kYw := qYw_k p3 a hn (fun x j q => by unfold qfW at q; unfold qEk_code; omega) h76 h16
  have kYp := qYp_k p4 a hn (fun x j q => by have q := qfP_n q; unfold qEk_code; omega) h76 h16
  have kYr := qYr_k p5 a hn (fun x j q => by have q := qfR_n q; unfold qEk_code; omega)
  have kYh := qYh_k p5 p6 a hn (fun x j q => by have q := qfH_n q; unfold qEk_code; omega)
  have kYb := cYb
  have kBB := qBB_m hY hBB a hn e16 (fun x j q => by unfold qfbn at q; unfold qEk_code; omega)
  have kYC := qYC_m hY p4 hYC a hn e16 (fun x j q => by unfold qEk_code; omega)
  have kFc := qFc_m hY hYC hFc a hn h65 (fun x j q => by unfold qEk_code; omega)
  exact ⟨⟨⟨⟨qK_g hK hn a.1.2, kP, kL, cn⟩, ⟨kT, kC, kD, kK⟩, ⟨kYn, kYd, kYw, kYp, kYr, kYh⟩, kYb⟩, kBB⟩, kYC, kFc⟩
def qEk_contr (S : zS) (x j : Int) : Prop := x = 102 ∨ (x = 4 ∧ j = 1) ∨ (39 ≤ x ∧ x ≤ 45) ∨ (x = 37 ∧ (j = 0 ∨ j = 2)) ∨ (103 ≤ x ∧ ((zk S x).1 = 22 ∨ (zk S x).1 = 12))
theorem qk_contr {S S' : zS} (h : qHC S) (a : qAg S S' (qEk_contr S)) (cT : qRT S') (cC : qRC S') (cBB : ∀ b, 0 ≤ b → b < zm S' 37 16 → qBB S' b) : qHC S' := by
  obtain ⟨⟨⟨⟨hK, hP, hL, hn⟩, ⟨hT, hC, hR, hk⟩, ⟨p1, p2, p3, p4, p5, p6⟩, hY⟩, hBB⟩, hYC, hFc⟩ := h
  have e16 : zm S' 37 16 = zm S 37 16 := a.2 37 16 (by omega) (by unfold qEk_contr; omega)
  have h16 := Int.le_of_eq e16.symm
  have h76 := Int.le_of_eq (a.2 37 76 (by omega) (by unfold qEk_contr; omega)).symm
  have h65 := Int.le_of_eq (a.2 37 65 (by omega) (by unfold qEk_contr; omega)).symm
  have cn : 103 ≤ (zn S' : Int) := by have := a.1.1; omega
  have kP := qP_m hP a hn (fun x j q => by unfold qEk_contr; omega)
  have kL := qLt_m hL a hn (fun j => by unfold qEk_contr; omega)
  have kT := cT
  have kC := cC
  have kD := qRD_m hR a hn (fun x j q => by unfold qEk_contr; omega)
  have kK := qRK_m hk a hn (fun x j q => by unfold qEk_contr; omega)
  have kYn := qYn_k p1 a hn (fun x j q => by unfold qfN at q; unfold qEk_contr; omega)
  have kYd := qYd_k p2 a hn (fun x j q => by unfold qfDy at q; unfold qEk_contr; omega)
  have kYw := qYw_k p3 a hn (fun x j q => by unfold qfW at q; unfold qEk_contr; omega) h76 h16
  have kYp := qYp_k p4 a hn (fun x j q => by have q := qfP_n q; unfold qEk_contr; omega) h76 h16
  have kYr := qYr_k p5 a hn (fun x j q => by have q := qfR_n q; unfold qEk_contr; omega)
  have kYh := qYh_k p5 p6 a hn (fun x j q => by have q := qfH_n q; unfold qEk_contr; omega)
  have kYb := qYb_k hY a hn (fun x j q => by have q := qfB_n q; unfold qEk_contr; omega) (Int.le_of_eq (a.2 37 4 (by omega) (by unfold qEk_contr; omega)).symm) (fun c _ _ => a.2 6 c (by omega) (by unfold qEk_contr; omega))
  have kBB := cBB
  have kYC := qYC_m hY p4 hYC a hn e16 (fun x j q => by unfold qEk_contr; omega)
  have kFc := qFc_m hY hYC hFc a hn h65 (fun x j q => by unfold qEk_contr; omega)
  exact ⟨⟨⟨⟨qK_g hK hn a.1.2, kP, kL, cn⟩, ⟨kT, kC, kD, kK⟩, ⟨kYn, kYd, kYw, kYp, kYr, kYh⟩, kYb⟩, kBB⟩, kYC, kFc⟩
def qEk_divis (S : zS) (x j : Int) : Prop := x = 102 ∨ (x = 3 ∧ j = 4) ∨ (x = 4 ∧ j = 1) ∨ x = 7 ∨ (46 ≤ x ∧ x ≤ 48) ∨ x = 64 ∨ (x = 37 ∧ (j = 0 ∨ j = 2 ∨ j = 12 ∨ j = 33 ∨ j = 36 ∨ j = 38))
theorem qk_divis {S S' : zS} (h : qHC S) (a : qAg S S' (qEk_divis S)) (cT : qRT S') (cD : qRD S') (cK : qRK S') (cBB : ∀ b, 0 ≤ b → b < zm S' 37 16 → qBB S' b) : qHC S' := by
  obtain ⟨⟨⟨⟨hK, hP, hL, hn⟩, ⟨hT, hC, hR, hk⟩, ⟨p1, p2, p3, p4, p5, p6⟩, hY⟩, hBB⟩, hYC, hFc⟩ := h
  have e16 : zm S' 37 16 = zm S 37 16 := a.2 37 16 (by omega) (by unfold qEk_divis; omega)
  have h16 := Int.le_of_eq e16.symm
  have h76 := Int.le_of_eq (a.2 37 76 (by omega) (by unfold qEk_divis; omega)).symm
  have h65 := Int.le_of_eq (a.2 37 65 (by omega) (by unfold qEk_divis; omega)).symm
  have cn : 103 ≤ (zn S' : Int) := by have := a.1.1; omega
  have kP := qP_m hP a hn (fun x j q => by unfold qEk_divis; omega)
  have kL := qLt_m hL a hn (fun j => by unfold qEk_divis; omega)
  have kT := cT
  have kC := qRC_m hC a hn (fun x j q => by unfold qEk_divis; omega)
  have kD := cD
  have kK := cK
  have kYn := qYn_k p1 a hn (fun x j q => by unfold qfN at q; unfold qEk_divis; omega)
  have kYd := qYd_k p2 a hn (fun x j q => by unfold qfDy at q; unfold qEk_divis; omega)
  have kYw := qYw_k p3 a hn (fun x j q => by unfold qfW at q; unfold qEk_divis; omega) h76 h16
  have kYp := qYp_k p4 a hn (fun x j q => by have q := qfP_n q; unfold qEk_divis; omega) h76 h16
  have kYr := qYr_k p5 a hn (fun x j q => by have q := qfR_n q; unfold qEk_divis; omega)
  have kYh := qYh_k p5 p6 a hn (fun x j q => by have q := qfH_n q; unfold qEk_divis; omega)
  have kYb := qYb_k hY a hn (fun x j q => by have q := qfB_n q; unfold qEk_divis; omega) (Int.le_of_eq (a.2 37 4 (by omega) (by unfold qEk_divis; omega)).symm) (fun c _ _ => a.2 6 c (by omega) (by unfold qEk_divis; omega))
  have kBB := cBB
  have kYC := qYC_m hY p4 hYC a hn e16 (fun x j q => by unfold qEk_divis; omega)
  have kFc := qFc_m hY hYC hFc a hn h65 (fun x j q => by unfold qEk_divis; omega)
  exact ⟨⟨⟨⟨qK_g hK hn a.1.2, kP, kL, cn⟩, ⟨kT, kC, kD, kK⟩, ⟨kYn, kYd, kYw, kYp, kYr, kYh⟩, kYb⟩, kBB⟩, kYC, kFc⟩
def qEk_book (S : zS) (x j : Int) : Prop := x = 102 ∨ (x = 3 ∧ j = 6) ∨ x = 8 ∨ (x = 37 ∧ (j = 0 ∨ j = 16)) ∨ (49 ≤ x ∧ x ≤ 53)
theorem qk_book {S S' : zS} (h : qHC S) (a : qAg S S' (qEk_book S)) (cYb : qYb S') (cBB : ∀ b, 0 ≤ b → b < zm S' 37 16 → qBB S' b) (cYC : qYC S') (cFc : qFc S') (cYp : qYp S') (h16 : zm S 37 16 ≤ zm S' 37 16) : qHC S' := by
  obtain ⟨⟨⟨⟨hK, hP, hL, hn⟩, ⟨hT, hC, hR, hk⟩, ⟨p1, p2, p3, p4, p5, p6⟩, hY⟩, hBB⟩, hYC, hFc⟩ := h
  have h76 := Int.le_of_eq (a.2 37 76 (by omega) (by unfold qEk_book; omega)).symm
  have h65 := Int.le_of_eq (a.2 37 65 (by omega) (by unfold qEk_book; omega)).symm
  have cn : 103 ≤ (zn S' : Int) := by have := a.1.1; omega
  have kP := qP_m hP a hn (fun x j q => by unfold qEk_book; omega)
  have kL := qLt_m hL a hn (fun j => by unfold qEk_book; omega)
  have kT := qRT_m hT a hn (fun x j q => by unfold qEk_book; omega)
  have kC := qRC_m hC a hn (fun x j q => by unfold qEk_book; omega)
  have kD := qRD_m hR a hn (fun x j q => by unfold qEk_book; omega)
  have kK := qRK_m hk a hn (fun x j q => by unfold qEk_book; omega)
  have kYn := qYn_k p1 a hn (fun x j q => by unfold qfN at q; unfold qEk_book; omega)
  have kYd := qYd_k p2 a hn (fun x j q => by unfold qfDy at q; unfold qEk_book; omega)
  have kYw := qYw_k p3 a hn (fun x j q => by unfold qfW at q; unfold qEk_book; omega) h76 h16
  have kYp := cYp
  have kYr := qYr_k p5 a hn (fun x j q => by have q := qfR_n q; unfold qEk_book; omega)
  have kYh := qYh_k p5 p6 a hn (fun x j q => by have q := qfH_n q; unfold qEk_book; omega)
  have kYb := cYb
  have kBB := cBB
  have kYC := cYC
  have kFc := cFc
  exact ⟨⟨⟨⟨qK_g hK hn a.1.2, kP, kL, cn⟩, ⟨kT, kC, kD, kK⟩, ⟨kYn, kYd, kYw, kYp, kYr, kYh⟩, kYb⟩, kBB⟩, kYC, kFc⟩
def qEk_wish (S : zS) (x j : Int) : Prop := x = 102 ∨ (x = 37 ∧ (j = 0 ∨ j = 80)) ∨ (x = 15 ∧ j = 2) ∨ x = 16 ∨ x = 17 ∨ x = 93 ∨ x = 94
theorem qk_wish {S S' : zS} (h : qHC S) (a : qAg S S' (qEk_wish S)) (cYw : qYw S') : qHC S' := by
  obtain ⟨⟨⟨⟨hK, hP, hL, hn⟩, ⟨hT, hC, hR, hk⟩, ⟨p1, p2, p3, p4, p5, p6⟩, hY⟩, hBB⟩, hYC, hFc⟩ := h
  have e16 : zm S' 37 16 = zm S 37 16 := a.2 37 16 (by omega) (by unfold qEk_wish; omega)
  have h16 := Int.le_of_eq e16.symm
  have h76 := Int.le_of_eq (a.2 37 76 (by omega) (by unfold qEk_wish; omega)).symm
  have h65 := Int.le_of_eq (a.2 37 65 (by omega) (by unfold qEk_wish; omega)).symm
  have cn : 103 ≤ (zn S' : Int) := by have := a.1.1; omega
  have kP := qP_m hP a hn (fun x j q => by unfold qEk_wish; omega)
  have kL := qLt_m hL a hn (fun j => by unfold qEk_wish; omega)
  have kT := qRT_m hT a hn (fun x j q => by unfold qEk_wish; omega)
  have kC := qRC_m hC a hn (fun x j q => by unfold qEk_wish; omega)
  have kD := qRD_m hR a hn (fun x j q => by unfold qEk_wish; omega)
  have kK := qRK_m hk a hn (fun x j q => by unfold qEk_wish; omega)
  have kYn := qYn_k p1 a hn (fun x j q => by unfold qfN at q; unfold qEk_wish; omega)
  have kYd := qYd_k p2 a hn (fun x j q => by unfold qfDy at q; unfold qEk_wish; omega)
  have kYw := cYw
  have kYp := qYp_k p4 a hn (fun x j q => by have q := qfP_n q; unfold qEk_wish; omega) h76 h16
  have kYr := qYr_k p5 a hn (fun x j q => by have q := qfR_n q; unfold qEk_wish; omega)
  have kYh := qYh_k p5 p6 a hn (fun x j q => by have q := qfH_n q; unfold qEk_wish; omega)
  have kYb := qYb_k hY a hn (fun x j q => by have q := qfB_n q; unfold qEk_wish; omega) (Int.le_of_eq (a.2 37 4 (by omega) (by unfold qEk_wish; omega)).symm) (fun c _ _ => a.2 6 c (by omega) (by unfold qEk_wish; omega))
  have kBB := qBB_m hY hBB a hn e16 (fun x j q => by unfold qfbn at q; unfold qEk_wish; omega)
  have kYC := qYC_m hY p4 hYC a hn e16 (fun x j q => by unfold qEk_wish; omega)
  have kFc := qFc_m hY hYC hFc a hn h65 (fun x j q => by unfold qEk_wish; omega)
  exact ⟨⟨⟨⟨qK_g hK hn a.1.2, kP, kL, cn⟩, ⟨kT, kC, kD, kK⟩, ⟨kYn, kYd, kYw, kYp, kYr, kYh⟩, kYb⟩, kBB⟩, kYC, kFc⟩
def qEk_pass (S : zS) (x j : Int) : Prop := x = 102 ∨ (x = 37 ∧ (j = 0 ∨ j = 3 ∨ j = 80)) ∨ (x = 3 ∧ j = 13) ∨ (x = 15 ∧ j = 2) ∨ x = 16 ∨ x = 17 ∨ x = 93 ∨ x = 94 ∨ (86 ≤ x ∧ x ≤ 88 ∧ j < zm S 37 65) ∨ (103 ≤ x ∧ (((zk S x).1 = 24 ∧ 6 ≤ j ∧ j ≤ 8) ∨ ((zk S x).1 = 27 ∧ j = 2)))
theorem qk_pass {S S' : zS} (h : qHC S) (a : qAg S S' (qEk_pass S)) (cYd : qYd S') (cYw : qYw S') (cYp : qYp S') (cYh : qYh S') : qHC S' := by
  obtain ⟨⟨⟨⟨hK, hP, hL, hn⟩, ⟨hT, hC, hR, hk⟩, ⟨p1, p2, p3, p4, p5, p6⟩, hY⟩, hBB⟩, hYC, hFc⟩ := h
  have e16 : zm S' 37 16 = zm S 37 16 := a.2 37 16 (by omega) (by unfold qEk_pass; omega)
  have h16 := Int.le_of_eq e16.symm
  have h76 := Int.le_of_eq (a.2 37 76 (by omega) (by unfold qEk_pass; omega)).symm
  have h65 := Int.le_of_eq (a.2 37 65 (by omega) (by unfold qEk_pass; omega)).symm
  have cn : 103 ≤ (zn S' : Int) := by have := a.1.1; omega
  have kP := qP_m hP a hn (fun x j q => by unfold qEk_pass; omega)
  have kL := qLt_m hL a hn (fun j => by unfold qEk_pass; omega)
  have kT := qRT_m hT a hn (fun x j q => by unfold qEk_pass; omega)
  have kC := qRC_m hC a hn (fun x j q => by unfold qEk_pass; omega)
  have kD := qRD_m hR a hn (fun x j q => by unfold qEk_pass; omega)
  have kK := qRK_m hk a hn (fun x j q => by unfold qEk_pass; omega)
  have kYn := qYn_k p1 a hn (fun x j q => by unfold qfN at q; unfold qEk_pass; omega)
  have kYd := cYd
  have kYw := cYw
  have kYp := cYp
  have kYr := qYr_k p5 a hn (fun x j q => by have q := qfR_n q; unfold qEk_pass; omega)
  have kYh := cYh
  have kYb := qYb_k hY a hn (fun x j q => by have q := qfB_n q; unfold qEk_pass; omega) (Int.le_of_eq (a.2 37 4 (by omega) (by unfold qEk_pass; omega)).symm) (fun c _ _ => a.2 6 c (by omega) (by unfold qEk_pass; omega))
  have kBB := qBB_m hY hBB a hn e16 (fun x j q => by unfold qfbn at q; unfold qEk_pass; omega)
  have kYC := qYC_m hY p4 hYC a hn e16 (fun x j q => by unfold qEk_pass; omega)
  have kFc := qFc_m hY hYC hFc a hn h65 (fun x j q => by unfold qEk_pass; omega)
  exact ⟨⟨⟨⟨qK_g hK hn a.1.2, kP, kL, cn⟩, ⟨kT, kC, kD, kK⟩, ⟨kYn, kYd, kYw, kYp, kYr, kYh⟩, kYb⟩, kBB⟩, kYC, kFc⟩
def qEk_give (S : zS) (x j : Int) : Prop := x = 102 ∨ (x = 37 ∧ j = 0) ∨ (85 ≤ x ∧ x ≤ 87) ∨ x = 92 ∨ (103 ≤ x ∧ (((zk S x).1 = 24 ∧ (j = 4 ∨ j = 6 ∨ j = 7)) ∨ ((zk S x).1 = 27 ∧ (j = 2 ∨ j = 3)) ∨ (zk S x).1 = 4 ∨ ((zk S x).1 = 3 ∧ (zk S (x - 1)).1 = 24)))
theorem qk_give {S S' : zS} (h : qHC S) (a : qAg S S' (qEk_give S)) (cYp : qYp S') (cYr : qYr S') (cYh : qYh S') (cYC : qYC S') : qHC S' := by
  obtain ⟨⟨⟨⟨hK, hP, hL, hn⟩, ⟨hT, hC, hR, hk⟩, ⟨p1, p2, p3, p4, p5, p6⟩, hY⟩, hBB⟩, hYC, hFc⟩ := h
  have e16 : zm S' 37 16 = zm S 37 16 := a.2 37 16 (by omega) (by unfold qEk_give; omega)
  have h16 := Int.le_of_eq e16.symm
  have h76 := Int.le_of_eq (a.2 37 76 (by omega) (by unfold qEk_give; omega)).symm
  have h65 := Int.le_of_eq (a.2 37 65 (by omega) (by unfold qEk_give; omega)).symm
  have cn : 103 ≤ (zn S' : Int) := by have := a.1.1; omega
  have kP := qP_m hP a hn (fun x j q => by unfold qEk_give; omega)
  have kL := qLt_m hL a hn (fun j => by unfold qEk_give; omega)
  have kT := qRT_m hT a hn (fun x j q => by unfold qEk_give; omega)
  have kC := qRC_m hC a hn (fun x j q => by unfold qEk_give; omega)
  have kD := qRD_m hR a hn (fun x j q => by unfold qEk_give; omega)
  have kK := qRK_m hk a hn (fun x j q => by unfold qEk_give; omega)
  have kYn := qYn_k p1 a hn (fun x j q => by unfold qfN at q; unfold qEk_give; omega)
  have kYd := qYd_k p2 a hn (fun x j q => by unfold qfDy at q; unfold qEk_give; omega)
  have kYw := qYw_k p3 a hn (fun x j q => by unfold qfW at q; unfold qEk_give; omega) h76 h16
  have kYp := cYp
  have kYr := cYr
  have kYh := cYh
  have kYb := qYb_k hY a hn (fun x j q => by have q := qfB_n q; unfold qEk_give; omega) (Int.le_of_eq (a.2 37 4 (by omega) (by unfold qEk_give; omega)).symm) (fun c _ _ => a.2 6 c (by omega) (by unfold qEk_give; omega))
  have kBB := qBB_m hY hBB a hn e16 (fun x j q => by unfold qfbn at q; unfold qEk_give; omega)
  have kYC := cYC
  have kFc := qFc_m hY hYC hFc a hn h65 (fun x j q => by unfold qEk_give; omega)
  exact ⟨⟨⟨⟨qK_g hK hn a.1.2, kP, kL, cn⟩, ⟨kT, kC, kD, kK⟩, ⟨kYn, kYd, kYw, kYp, kYr, kYh⟩, kYb⟩, kBB⟩, kYC, kFc⟩
def qEk_emboss (S : zS) (x j : Int) : Prop := x = 102 ∨ (x = 37 ∧ (j = 0 ∨ j = 65 ∨ j = 73)) ∨ (x = 3 ∧ j = 9) ∨ x = 13 ∨ (10 ≤ x ∧ x ≤ 12) ∨ x = 81 ∨ (82 ≤ x ∧ x ≤ 84) ∨ (86 ≤ x ∧ x ≤ 87) ∨ (103 ≤ x ∧ (zk S x).1 = 20 ∧ j = 13)
theorem qk_emboss {S S' : zS} (h : qHC S) (a : qAg S S' (qEk_emboss S)) (cYn : qYn S') (cYp : qYp S') (cYh : qYh S') (cYC : qYC S') (cFc : qFc S') (h65 : zm S 37 65 ≤ zm S' 37 65) : qHC S' := by
  obtain ⟨⟨⟨⟨hK, hP, hL, hn⟩, ⟨hT, hC, hR, hk⟩, ⟨p1, p2, p3, p4, p5, p6⟩, hY⟩, hBB⟩, hYC, hFc⟩ := h
  have e16 : zm S' 37 16 = zm S 37 16 := a.2 37 16 (by omega) (by unfold qEk_emboss; omega)
  have h16 := Int.le_of_eq e16.symm
  have h76 := Int.le_of_eq (a.2 37 76 (by omega) (by unfold qEk_emboss; omega)).symm
  have cn : 103 ≤ (zn S' : Int) := by have := a.1.1; omega
  have kP := qP_m hP a hn (fun x j q => by unfold qEk_emboss; omega)
  have kL := qLt_m hL a hn (fun j => by unfold qEk_emboss; omega)
  have kT := qRT_m hT a hn (fun x j q => by unfold qEk_emboss; omega)
  have kC := qRC_m hC a hn (fun x j q => by unfold qEk_emboss; omega)
  have kD := qRD_m hR a hn (fun x j q => by unfold qEk_emboss; omega)
  have kK := qRK_m hk a hn (fun x j q => by unfold qEk_emboss; omega)
  have kYn := cYn
  have kYd := qYd_k p2 a hn (fun x j q => by unfold qfDy at q; unfold qEk_emboss; omega)
  have kYw := qYw_k p3 a hn (fun x j q => by unfold qfW at q; unfold qEk_emboss; omega) h76 h16
  have kYp := cYp
  have kYr := qYr_k p5 a hn (fun x j q => by have q := qfR_n q; unfold qEk_emboss; omega)
  have kYh := cYh
  have kYb := qYb_k hY a hn (fun x j q => by have q := qfB_n q; unfold qEk_emboss; omega) (Int.le_of_eq (a.2 37 4 (by omega) (by unfold qEk_emboss; omega)).symm) (fun c _ _ => a.2 6 c (by omega) (by unfold qEk_emboss; omega))
  have kBB := qBB_m hY hBB a hn e16 (fun x j q => by unfold qfbn at q; unfold qEk_emboss; omega)
  have kYC := cYC
  have kFc := cFc
  exact ⟨⟨⟨⟨qK_g hK hn a.1.2, kP, kL, cn⟩, ⟨kT, kC, kD, kK⟩, ⟨kYn, kYd, kYw, kYp, kYr, kYh⟩, kYb⟩, kBB⟩, kYC, kFc⟩
