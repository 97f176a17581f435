/-! The law goes over a book. -/
theorem o_end (e : Nat) {V : zS} (hV : qHC V) {b P t D Q E M K : Int} (s4 : hS (e + 1) 134 [vi b, vi 4] (.inl (some (vi D))) V V) (s3 : hS (e + 1) 134 [vi b, vi 3] (.inl (some (vi Q))) V V) (s2 : hS (e + 1) 134 [vi b, vi 2] (.inl (some (vi E))) V V) (hz1 : z32 (P * t) = M) (hz2 : z32 ((z32 (P - 1)) * t) = K) (hl : E ≤ M ∧ K < E) (x2 x5 x8 x10 x11 x12 x13 x14 x15 : zV) : hOk 0 V (fun a Z => zF_352 (e + 1) 428 [vr a, vi b, x2, vi P, vi t, x5, vi D, vi 1, x8, vi Q, x10, x11, x12, x13, x14, x15] [] Z) := by
  have q_4 : hOk 0 V (fun a Z => zF_352 (e + 1) 474 [vr a, vi b, vu, vi P, vi t, vu, vu, vu, vu, vu, vu, vu, vu, vu, vu, vu] [vi E] Z) := hOk.fin hV fun a Z => by rw [b352_474, hz2, if_pos hl.2, b352_483, b352_488, zchk_pos (by decide)]
  have q_3 : hOk 0 V (fun a Z => zF_352 (e + 1) 461 [vr a, vi b, vu, vi P, vi t, vu, vu, vu, vu, vu, vu, vu, vu, vu, vu, vu] [vi E] Z) := hOk.q hV s2 (hD.rf hV) ⟨rfl, rfl⟩ q_4 fun a Z Z1 hk r => by rw [b352_461, hz1, if_neg (by omega), b352_468, zchk_pos hk, r, qcall_l, qJ_s]
  have q_2 : hOk 0 V (fun a Z => zF_352 (e + 1) 452 [vr a, vi b, vu, vi P, vi t, vu, vu, vu, vu, vi Q, vu, vu, vu, vu, vu, vu] [vi Q, vi Q] Z) := hOk.q hV s2 (hD.rf hV) ⟨rfl, rfl⟩ q_3 fun a Z Z1 hk r => by rw [b352_452, if_pos rfl, b352_455, zchk_pos hk, r, qcall_l, qJ_s]
  have q_1 : hOk 0 V (fun a Z => zF_352 (e + 1) 441 [vr a, vi b, vu, vi P, vi t, vu, vi D, vu, vu, vi Q, vu, vu, vu, vu, vu, vu] [vi D, vi D] Z) := hOk.q hV s3 (hD.rf hV) ⟨rfl, rfl⟩ q_2 fun a Z Z1 hk r => by rw [b352_441, if_pos rfl, b352_444, zchk_pos hk, r, qcall_l, qJ_s]
  have q_0 : hOk 0 V (fun a Z => zF_352 (e + 1) 428 [vr a, vi b, x2, vi P, vi t, x5, vi D, vi 1, x8, vi Q, x10, x11, x12, x13, x14, x15] [] Z) := hOk.q hV s4 (hD.rf hV) ⟨rfl, rfl⟩ q_1 fun a Z Z1 hk r => by rw [b352_428, if_neg (by decide), b352_433, zchk_pos hk, r, qcall_l, qJ_s]
  exact q_0
theorem o_word (e : Nat) {V : zS} (hV : qHC V) {b J w t P D bf bg pr k p0 p2 p3 p4 p5 p6 u l C1 : Int} (s2 : hS (e + 1) 133 [vi b, vi k, vi 2] (.inl (some (vi p2))) V V) (s3 : hS (e + 1) 133 [vi b, vi k, vi 3] (.inl (some (vi p3))) V V) (s4 : hS (e + 1) 133 [vi b, vi k, vi 4] (.inl (some (vi p4))) V V) (s0 : hS (e + 1) 133 [vi b, vi k, vi 0] (.inl (some (vi p0))) V V) (s5 : hS (e + 1) 133 [vi b, vi k, vi 5] (.inl (some (vi p5))) V V) (s6 : hS (e + 1) 133 [vi b, vi k, vi 6] (.inl (some (vi p6))) V V)
    (t1 : hS (e + 1) 135 [vi b, vi p2, vi p3, vi p4] (.inl (some (vi C1))) V V) (hC1 : 0 < C1) (t2 : 3 ≤ p4 → hS (e + 1) 135 [vi b, vi p2, vi p3, vi (p4 - 1)] (.inl (some (vi 0))) V V) (hkJ : k < J) (hk0 : 0 ≤ k ∧ k < 100) (hu : z32 (t * p2) = u) (hl : z32 (u + p3) = l) (hm : z32 ((z32 (100 * l)) + p4) = bg) (hb : bf < bg) (h3 : 0 < p3) (h4 : 0 ≤ p4 ∧ p4 < 100) (h0 : 0 < p0 ∧ p0 < 16) (h5 : 0 < p5) (h6 : pr ≤ p6 ∧ p6 ≤ pr + 1) (h7 : 0 ≤ pr ∧ pr ≤ 1000) {n : Nat}
    (h : hOk n V (fun a Z => zF_352 (e + 1) 187 [vr a, vi b, vi J, vi P, vi t, vi w, vi D, vi 1, vi (bg), vi p6, vi (k + 1), vi p4, vi l, vu, vi p6, vu] [] Z)) (x11 x12 x13 x14 x15 : zV) : hOk n V (fun a Z => zF_352 (e + 1) 187 [vr a, vi b, vi J, vi P, vi t, vi w, vi D, vi 1, vi bf, vi pr, vi k, x11, x12, x13, x14, x15] [] Z) := by
  have h401 : ∀ x15 : zV, hOk n V (fun a Z => zF_352 (e + 1) 401 [vr a, vi b, vi J, vi P, vi t, vi w, vi D, vu, vu, vu, vi k, vi p4, vi l, vu, vi p6, x15] [] Z) := fun x15 => h.eq fun a Z => by rw [b352_401, b352_406, hm, show (z32 (k + 1)) = (k + 1) from q32 (by omega), b352_425]
  have h390 : ∀ x15 : zV, hOk n V (fun a Z => zF_352 (e + 1) 390 [vr a, vi b, vi J, vi P, vi t, vi w, vi D, vu, vu, vu, vi k, vi p4, vi l, vu, vi p6, x15] [] Z) := fun x15 => hOk.q hV s5 (hD.rf hV) ⟨rfl, rfl⟩ (h401 vu) fun a Z Z1 hk r => by rw [b352_390, zchk_pos hk, r, qcall_l, qJ_s, b352_398, if_pos h5]
  have h385 : ∀ f : Int, hOk n V (fun a Z => zF_352 (e + 1) 385 [vr a, vi b, vi J, vi P, vi t, vi w, vi D, vu, vu, vu, vi k, vi p4, vi l, vu, vi p6, vi f] [] Z) := fun f => by
    by_cases c : f = 0
    · exact (h401 (vi f)).eq fun a Z => by rw [b352_385, if_pos c]
    · exact (h390 (vi f)).eq fun a Z => by rw [b352_385, if_neg c]
  have h351 : ∀ f : Int, hOk n V (fun a Z => zF_352 (e + 1) 351 [vr a, vi b, vi J, vi P, vi t, vi w, vi D, vu, vu, vu, vi k, vi p4, vi l, vu, vi p6, vi f] [] Z) := fun f => by
    by_cases c : p4 < 3
    · exact (h385 f).eq fun a Z => by rw [b352_351, if_pos c]
    · have c3 : 3 ≤ p4 := by omega
      have a357_3 : hOk n V (fun a Z => zF_352 (e + 1) 382 [vr a, vi b, vi J, vi P, vi t, vi w, vi D, vu, vu, vu, vi k, vi p4, vi l, vu, vi p6, vi f] [vi 0] Z) := (h385 f).eq fun a Z => by rw [b352_382, if_pos rfl]
      have a357_2 : hOk n V (fun a Z => zF_352 (e + 1) 375 [vr a, vi b, vi J, vi P, vi t, vi w, vi D, vu, vu, vu, vi k, vi p4, vi l, vu, vi p6, vi f] [vi p3, vi p2, vi b, vr a] Z) := hOk.q hV (t2 c3) (hD.rf hV) ⟨rfl, rfl⟩ a357_3 fun a Z Z1 hk r => by rw [b352_375, zchk_pos hk, show (z32 (p4 - 1)) = (p4 - 1) from q32 (by omega), r, qcall_l, qJ_s]
      have a357_1 : hOk n V (fun a Z => zF_352 (e + 1) 367 [vr a, vi b, vi J, vi P, vi t, vi w, vi D, vu, vu, vu, vi k, vi p4, vi l, vu, vi p6, vi f] [vi p2, vi b, vr a] Z) := hOk.q hV s3 (hD.rf hV) ⟨rfl, rfl⟩ a357_2 fun a Z Z1 hk r => by rw [b352_367, zchk_pos hk, r, qcall_l, qJ_s]
      have a357_0 : hOk n V (fun a Z => zF_352 (e + 1) 357 [vr a, vi b, vi J, vi P, vi t, vi w, vi D, vu, vu, vu, vi k, vi p4, vi l, vu, vi p6, vi f] [] Z) := hOk.q hV s2 (hD.rf hV) ⟨rfl, rfl⟩ a357_1 fun a Z Z1 hk r => by rw [b352_357, zchk_pos hk, r, qcall_l, qJ_s]
      exact a357_0.eq fun a Z => by rw [b352_351, if_neg c]
  have h266 : ∀ f : Int, hOk n V (fun a Z => zF_352 (e + 1) 266 [vr a, vi b, vi J, vi P, vi t, vi w, vi D, vu, vi bf, vi pr, vi k, vi p4, vi l, vi p0, vi p6, vu] [vi f] Z) := fun f => by
    have a266_4 : hOk n V (fun a Z => zF_352 (e + 1) 348 [vr a, vi b, vi J, vi P, vi t, vi w, vi D, vu, vu, vu, vi k, vi p4, vi l, vu, vi p6, vi f] [vi C1] Z) := (h351 f).eq fun a Z => by rw [b352_348, if_pos hC1]
    have a266_3 : hOk n V (fun a Z => zF_352 (e + 1) 343 [vr a, vi b, vi J, vi P, vi t, vi w, vi D, vu, vu, vu, vi k, vi p4, vi l, vu, vi p6, vi f] [vi p3, vi p2, vi b, vr a] Z) := hOk.q hV t1 (hD.rf hV) ⟨rfl, rfl⟩ a266_4 fun a Z Z1 hk r => by rw [b352_343, zchk_pos hk, r, qcall_l, qJ_s]
    have a266_2 : hOk n V (fun a Z => zF_352 (e + 1) 335 [vr a, vi b, vi J, vi P, vi t, vi w, vi D, vu, vu, vu, vi k, vi p4, vi l, vu, vi p6, vi f] [vi p2, vi b, vr a] Z) := hOk.q hV s3 (hD.rf hV) ⟨rfl, rfl⟩ a266_3 fun a Z Z1 hk r => by rw [b352_335, zchk_pos hk, r, qcall_l, qJ_s]
    have a266_1 : hOk n V (fun a Z => zF_352 (e + 1) 276 [vr a, vi b, vi J, vi P, vi t, vi w, vi D, vu, vi bf, vi pr, vi k, vi p4, vi l, vi p0, vi p6, vi f] [vi p3] Z) := hOk.q hV s2 (hD.rf hV) ⟨rfl, rfl⟩ a266_2 fun a Z Z1 hk r => by rw [b352_276, if_pos h3, b352_279, if_neg (by omega), b352_284, if_pos h0.1, b352_289, if_pos h0.2, b352_296, hm, if_pos hb, b352_309, if_neg (by omega), b352_316, show z32 (pr + 1) = (pr + 1) from q32 (by omega), if_neg (by omega), b352_325, zchk_pos hk, r, qcall_l, qJ_s]
    have a266_0 : hOk n V (fun a Z => zF_352 (e + 1) 266 [vr a, vi b, vi J, vi P, vi t, vi w, vi D, vu, vi bf, vi pr, vi k, vi p4, vi l, vi p0, vi p6, vu] [vi f] Z) := hOk.q hV s3 (hD.rf hV) ⟨rfl, rfl⟩ a266_1 fun a Z Z1 hk r => by rw [b352_266, zchk_pos hk, r, qcall_l, qJ_s]
    exact a266_0
  have h249 : hOk n V (fun a Z => zF_352 (e + 1) 249 [vr a, vi b, vi J, vi P, vi t, vi w, vi D, vu, vi bf, vi pr, vi k, vi p4, vi l, vi p0, vu, vu] [vi p6] Z) := by
    by_cases c : w < z32 (p4 + p0)
    · exact (h266 1).eq fun a Z => by rw [b352_249, if_pos c, b352_261]
    · exact (h266 0).eq fun a Z => by rw [b352_249, if_neg c, b352_265]
  have a187_4 : hOk n V (fun a Z => zF_352 (e + 1) 238 [vr a, vi b, vi J, vi P, vi t, vi w, vi D, vu, vi bf, vi pr, vi k, vi p4, vi l, vu, vu, vu] [vi p0] Z) := hOk.q hV s6 (hD.rf hV) ⟨rfl, rfl⟩ h249 fun a Z Z1 hk r => by rw [b352_238, zchk_pos hk, r, qcall_l, qJ_s]
  have a187_3 : hOk n V (fun a Z => zF_352 (e + 1) 227 [vr a, vi b, vi J, vi P, vi t, vi w, vi D, vu, vi bf, vi pr, vi k, vi p4, vu, vu, vu, vu] [vi p3, vi u] Z) := hOk.q hV s0 (hD.rf hV) ⟨rfl, rfl⟩ a187_4 fun a Z Z1 hk r => by rw [b352_227, zchk_pos hk, hl, r, qcall_l, qJ_s]
  have a187_2 : hOk n V (fun a Z => zF_352 (e + 1) 218 [vr a, vi b, vi J, vi P, vi t, vi w, vi D, vu, vi bf, vi pr, vi k, vi p4, vu, vu, vu, vu] [vi p2, vi t] Z) := hOk.q hV s3 (hD.rf hV) ⟨rfl, rfl⟩ a187_3 fun a Z Z1 hk r => by rw [b352_218, zchk_pos hk, hu, r, qcall_l, qJ_s]
  have a187_1 : hOk n V (fun a Z => zF_352 (e + 1) 206 [vr a, vi b, vi J, vi P, vi t, vi w, vi D, vu, vi bf, vi pr, vi k, vu, vu, vu, vu, vu] [vi p4] Z) := hOk.q hV s2 (hD.rf hV) ⟨rfl, rfl⟩ a187_2 fun a Z Z1 hk r => by rw [b352_206, zchk_pos hk, r, qcall_l, qJ_s]
  have a187_0 : hOk n V (fun a Z => zF_352 (e + 1) 187 [vr a, vi b, vi J, vi P, vi t, vi w, vi D, vi 1, vi bf, vi pr, vi k, x11, x12, x13, x14, x15] [] Z) := hOk.q hV s4 (hD.rf hV) ⟨rfl, rfl⟩ a187_1 fun a Z Z1 hk r => by rw [b352_187, if_pos hkJ, b352_193, if_neg (by decide), b352_198, zchk_pos hk, r, qcall_l, qJ_s]
  exact a187_0
theorem o_words (e : Nat) (he : 300 ≤ e) {V : zS} (hV : qHC V) {b : Int} {J : Nat} (c1 : 0 ≤ b ∧ b < zm V 37 16) (hk : kOK (zm V) b J) {D : Int} {n : Nat} (h : ∀ (x8 x10 x11 x12 x13 x14 x15 : zV), hOk n V (fun a Z => zF_352 (e + 1) 428 [vr a, vi b, vi J, vi (bv (zm V) b 1), vi (zm V 52 b), vi (zm V 51 b), vi D, vi 1, x8, vi (pFn (zm V) b J), x10, x11, x12, x13, x14, x15] [] Z)) :
    ∀ (g k : Nat) (x11 x12 x13 x14 x15 : zV), k + g = J → hOk n V (fun a Z => zF_352 (e + 1) 187 [vr a, vi b, vi J, vi (bv (zm V) b 1), vi (zm V 52 b), vi (zm V 51 b), vi D, vi 1, vi (bFn (zm V) b k), vi (pFn (zm V) b k), vi k, x11, x12, x13, x14, x15] [] Z)
  | 0, k, x11, x12, x13, x14, x15, hj => by
    obtain rfl : k = J := by omega
    exact (h _ _ _ _ _ _ _).eq fun a Z => by rw [b352_187, if_neg (by omega)]
  | g + 1, k, x11, x12, x13, x14, x15, hj => by
    obtain ⟨wr, tr, Pr, ⟨j1, j80⟩, -, -, wk, -⟩ := id hk
    obtain ⟨a2, a3, a4, a0, a5, a6, a7, a8, a9⟩ := wk k (by omega)
    have pr : ∀ i : Nat, i ≤ k → 0 ≤ pFn (zm V) b i ∧ pFn (zm V) b i ≤ i + 1 := fun i => by
      induction i with
      | zero => intro _; exact ⟨show (0 : Int) ≤ 1 by decide, show (1 : Int) ≤ ((0 : Nat) : Int) + 1 by decide⟩
      | succ i ih =>
        intro hi
        have := ih (by omega)
        have q := (wk i (by omega)).2.2.2.2.2.2.2.2
        show 0 ≤ wv (zm V) b i 6 ∧ wv (zm V) b i 6 ≤ ((i + 1 : Nat) : Int) + 1
        omega
    have pk := pr k (Nat.le_refl _)
    have p := fun (i : Int) hi => p_133 (e + 1) (by omega) hV (j := k) (a := i) c1 (by omega) hi
    have tp : 0 ≤ zm V 52 b * wv (zm V) b k 2 ∧ zm V 52 b * wv (zm V) b k 2 ≤ zm V 52 b * 121 := ⟨Int.mul_nonneg (by omega) a2.1, Int.mul_le_mul_of_nonneg_left (by omega) (by omega)⟩
    have nx := o_words e he hV c1 hk h g (k + 1) (vi (wv (zm V) b k 4)) (vi (zm V 52 b * wv (zm V) b k 2 + wv (zm V) b k 3)) vu (vi (wv (zm V) b k 6)) vu (by omega)
    exact o_word e hV (p 2 (by decide)) (p 3 (by decide)) (p 4 (by decide)) (p 0 (by decide)) (p 5 (by decide)) (p 6 (by decide)) (p_135 (e + 1) (by omega) hV c1 ⟨a2, by omega, a4⟩) a6
      (fun q => by rw [← a7 q]; exact p_135 (e + 1) (by omega) hV c1 ⟨a2, by omega, by omega⟩) (by omega) (by omega) (q32 (by omega)) (q32 (by omega)) (by rw [q32 (show -2147483648 ≤ 100 * (zm V 52 b * wv (zm V) b k 2 + wv (zm V) b k 3) ∧ 100 * (zm V 52 b * wv (zm V) b k 2 + wv (zm V) b k 3) < 2147483648 by omega)]; exact q32 (by omega)) a8 (by omega) (by omega) a0 a5 a9 (by omega) nx x11 x12 x13 x14 x15
/-- the cells of a page -/
theorem o_cells (e : Nat) (he : 300 ≤ e) {V : zS} (hV : qHC V) {b : Int} {J : Nat} (c1 : 0 ≤ b ∧ b < zm V 37 16) (hk : kOK (zm V) b J) (p : Nat) (hp : (p : Int) < bv (zm V) b 1) (N : Nat) (hN : zm V 52 b * zm V 51 b = (N : Int)) (x2 : Int) {n : Nat} (h : ∀ (x9 x10 x11 x12 x13 x14 x15 : zV), hOk n V (fun a Z => zF_352 (e + 1) 172 [vr a, vi b, vi x2, vi (bv (zm V) b 1), vi (zm V 52 b), vi (zm V 51 b), vi (qsum (zm V (zm V 8 b + 2)) (p * N + N)), vi 1, vi p, x9, x10, x11, x12, x13, x14, x15] [] Z)) :
    ∀ (g q : Nat) (x10 x11 x12 x13 x14 x15 : zV), q + g = N → hOk n V (fun a Z => zF_352 (e + 1) 131 [vr a, vi b, vi x2, vi (bv (zm V) b 1), vi (zm V 52 b), vi (zm V 51 b), vi (qsum (zm V (zm V 8 b + 2)) (p * N + q)), vi 1, vi p, vi q, x10, x11, x12, x13, x14, x15] [] Z)
  | 0, q, x10, x11, x12, x13, x14, x15, hj => by
    obtain ⟨wr, tr, Pr, -, -, cr, -, -⟩ := id hk
    have n1 : (N : Int) ≤ 1000 := by
      have m1 := Int.mul_le_mul_of_nonneg_left wr.2 (show 0 ≤ zm V 52 b by omega)
      omega
    have zN : z32 (zm V 51 b * zm V 52 b) = N := by rw [Int.mul_comm, hN]; exact q32 (by omega)
    obtain rfl : q = N := by omega
    exact (h _ _ _ _ _ _ _).eq fun a Z => by rw [b352_131, zN, if_neg (by omega)]
  | g + 1, q, x10, x11, x12, x13, x14, x15, hj => by
    obtain ⟨wr, tr, Pr, -, -, cr, -, -⟩ := id hk
    have n1 : (N : Int) ≤ 1000 := by
      have m1 := Int.mul_le_mul_of_nonneg_left wr.2 (show 0 ≤ zm V 52 b by omega)
      omega
    have zN : z32 (zm V 51 b * zm V 52 b) = N := by rw [Int.mul_comm, hN]; exact q32 (by omega)
    have pN : p * N ≤ 121 * 1000 := Nat.mul_le_mul (by omega) (by omega)
    have r := (qsum_r (zm V (zm V 8 b + 2)) (p * N + q))
    have rb := qpi_r (zm V (zm V 8 b + 2) ((p * N + q : Nat) : Int))
    have d1 := Int.mul_ediv_add_emod (q : Int) (zm V 51 b)
    have d2 := Int.emod_nonneg (q : Int) (show zm V 51 b ≠ 0 by omega)
    have d3 := Int.emod_lt_of_pos (q : Int) (show 0 < zm V 51 b by omega)
    have d4 : 0 ≤ (q : Int) / zm V 51 b := Int.ediv_nonneg (by omega) (by omega)
    have d5 : (q : Int) / zm V 51 b < zm V 52 b := Int.ediv_lt_of_lt_mul (by omega) (by omega)
    have e1 : z32 (Int.tdiv (q : Int) (zm V 51 b)) = (q : Int) / zm V 51 b := by rw [Int.tdiv_eq_ediv_of_nonneg (by omega)]; exact q32 (by omega)
    have e2 : Int.tmod (q : Int) (zm V 51 b) = (q : Int) % zm V 51 b := Int.tmod_eq_emod_of_nonneg (by omega)
    have cvq : cv (zm V) b p ((q : Int) / zm V 51 b) ((q : Int) % zm V 51 b) = zm V (zm V 8 b + 2) ((p * N + q : Nat) : Int) := by
      unfold cv
      congr 1
      have m1 : ((p * N + q : Nat) : Int) = (p : Int) * (zm V 52 b * zm V 51 b) + q := by rw [hN, Int.natCast_add, Int.natCast_mul]
      rw [m1, Int.add_mul, Int.mul_assoc, Int.mul_comm ((q : Int) / zm V 51 b)]
      omega
    have s := p_135 (e + 1) (by omega) hV (p := p) (l := (q : Int) / zm V 51 b) (c := (q : Int) % zm V 51 b) c1 ⟨⟨by omega, hp⟩, ⟨d4, d5⟩, d2, d3⟩
    rw [cvq] at s
    have nx := o_cells e he hV c1 hk p hp N hN x2 h g (q + 1) vu vu vu vu vu vu (by omega)
    have z1 : z32 (qsum (zm V (zm V 8 b + 2)) (p * N + q) + qpi (zm V (zm V 8 b + 2) ((p * N + q : Nat) : Int))) = qsum (zm V (zm V 8 b + 2)) (p * N + (q + 1)) := q32 (by omega)
    refine hOk.q hV s (hD.rf hV) ⟨rfl, rfl⟩ nx fun a Z Z1 hk r1 => ?_
    rw [b352_131, zN, if_pos (by omega), b352_141, zchk_pos (by omega), zchk_pos (by omega), e1, e2, b352_157, zchk_pos hk, r1, qcall_l, qJ_s, b352_160, l_bits e _ (cr _), qcall_l, qJ_s, b352_163, z1, show z32 ((q : Int) + 1) = ((q + 1 : Nat) : Int) from q32 (by omega)]
theorem o_pages (e : Nat) (he : 300 ≤ e) {V : zS} (hV : qHC V) {b : Int} {J : Nat} (c1 : 0 ≤ b ∧ b < zm V 37 16) (hk : kOK (zm V) b J) (N Q : Nat) (hN : zm V 52 b * zm V 51 b = (N : Int)) (hQ : bv (zm V) b 1 = (Q : Int)) (x2 : Int) {n : Nat} (h : ∀ (x8 x9 x10 x11 x12 x13 x14 x15 : zV), hOk n V (fun a Z => zF_352 (e + 1) 178 [vr a, vi b, vi x2, vi (bv (zm V) b 1), vi (zm V 52 b), vi (zm V 51 b), vi (qsum (zm V (zm V 8 b + 2)) (Q * N)), vi 1, x8, x9, x10, x11, x12, x13, x14, x15] [] Z)) :
    ∀ (g p : Nat) (x9 x10 x11 x12 x13 x14 x15 : zV), p + g = Q → hOk n V (fun a Z => zF_352 (e + 1) 117 [vr a, vi b, vi x2, vi (bv (zm V) b 1), vi (zm V 52 b), vi (zm V 51 b), vi (qsum (zm V (zm V 8 b + 2)) (p * N)), vi 1, vi p, x9, x10, x11, x12, x13, x14, x15] [] Z)
  | 0, p, x9, x10, x11, x12, x13, x14, x15, hj => by
    obtain rfl : p = Q := by omega
    exact (h _ _ _ _ _ _ _ _).eq fun a Z => by rw [b352_117, if_neg (by omega)]
  | g + 1, p, x9, x10, x11, x12, x13, x14, x15, hj => by
    have Pr := hk.2.2.1
    have hp : (p : Int) < bv (zm V) b 1 := by omega
    have a := o_cells e he hV c1 hk p hp N hN x2 (n := n) (fun x9 x10 x11 x12 x13 x14 x15 => (o_pages e he hV c1 hk N Q hN hQ x2 h g (p + 1) vu vu vu vu vu vu vu (by omega)).eq fun a Z => by
      rw [b352_172, show z32 ((p : Int) + 1) = ((p + 1 : Nat) : Int) from q32 (by omega), Nat.add_mul, Nat.one_mul]) N 0 vu vu vu vu vu vu (by omega)
    exact a.eq fun a Z => by
      rw [b352_117, if_pos hp, b352_123, if_neg (by decide), b352_128]
      rfl
theorem t2_c {c : Int} (h : 0 ≤ c ∧ c < 100) : z32 (Int.tdiv c 10000) = 0 ∧ Int.tmod (z32 (Int.tdiv c 100)) 100 = 0 ∧ Int.tmod c 100 = c := by
  have e1 : Int.tdiv c 10000 = 0 := by rw [Int.tdiv_eq_ediv_of_nonneg h.1]; omega
  have e2 : Int.tdiv c 100 = 0 := by rw [Int.tdiv_eq_ediv_of_nonneg h.1]; omega
  rw [e1, e2]
  refine ⟨rfl, rfl, ?_⟩
  rw [Int.tmod_eq_emod_of_nonneg h.1]
  omega
theorem t2_h {c : Int} (h : 0 ≤ c ∧ c < 100) : z32 (Int.tdiv (100 * c) 10000) = 0 ∧ Int.tmod (z32 (Int.tdiv (100 * c) 100)) 100 = c ∧ Int.tmod (100 * c) 100 = 0 := by
  have e1 : Int.tdiv (100 * c) 10000 = 0 := by rw [Int.tdiv_eq_ediv_of_nonneg (by omega)]; omega
  have e2 : Int.tdiv (100 * c) 100 = c := by rw [Int.tdiv_eq_ediv_of_nonneg (by omega)]; omega
  rw [e1, e2, show z32 c = c from q32 (by omega)]
  refine ⟨rfl, ?_, ?_⟩
  · rw [Int.tmod_eq_emod_of_nonneg h.1]
    omega
  · rw [Int.tmod_eq_emod_of_nonneg (by omega)]
    omega
theorem zcmp_g {v : Int} (h : 0 ≤ v) : ¬ zcmp v 0 < 0 := by
  unfold zcmp
  split
  · omega
  · split <;> decide
theorem o_wide (e : Nat) (he : 300 ≤ e) {V : zS} (hV : qHC V) {b : Int} {J : Nat} (c1 : 0 ≤ b ∧ b < zm V 37 16) (hk : kOK (zm V) b J) (hP : 0 < bv (zm V) b 1) (x2 : Int) {n : Nat} (h : hOk n (zbump V) (fun a Z => zF_352 (e + 1) 91 [vr a, vi b, vi x2, vi (bv (zm V) b 1), vi (zm V 52 b), vi (zm V 51 b), vu, vu, vu, vu, vu, vu, vu, vu, vu, vu] [] Z)) :
    ∀ (g : Nat) (c : Int) (x6 x7 x8 x9 x10 x11 x12 x13 x14 x15 : zV), 0 ≤ c → c + g = zm V 51 b → hOk (1 + n) V (fun a Z => zF_352 (e + 1) 71 [vr a, vi b, vi x2, vi (bv (zm V) b 1), vi (zm V 52 b), vi c, x6, x7, x8, x9, x10, x11, x12, x13, x14, x15] [] Z)
  | 0, c, x6, x7, x8, x9, x10, x11, x12, x13, x14, x15, h0, hj => by
    obtain ⟨wr, tr, -⟩ := id hk
    obtain ⟨e1, e2, e3⟩ := t2_c (c := c) (by omega)
    have s := n_135 e (by omega) hV (p := 0) (l := 0) (c := c) c1 (fun q => by omega)
    have s := l_t2 e b c 0 (o := .inr 2) (Or.inr ⟨2, rfl, Or.inr (Or.inr rfl)⟩) (by rw [e1, e2, e3]; exact s)
    rw [show c = zm V 51 b by omega] at s ⊢
    exact hOk.d hV s (hD.b hV) ⟨Nat.le_refl _, Nat.le_refl _⟩ h fun a Z Z1 hk r => by rw [b352_71, r, qcall_l, qJ_s, b352_80, if_pos (show zcmp (res (.inr 2)) 0 < 0 by decide)]
  | g + 1, c, x6, x7, x8, x9, x10, x11, x12, x13, x14, x15, h0, hj => by
    obtain ⟨wr, tr, -, -, -, cr, -⟩ := id hk
    obtain ⟨e1, e2, e3⟩ := t2_c (c := c) (by omega)
    have s := p_135 e (by omega) hV (p := 0) (l := 0) (c := c) c1 ⟨⟨Int.le_refl _, hP⟩, ⟨Int.le_refl _, by omega⟩, h0, by omega⟩
    have s' := l_t2 e b c 0 (o := .inl (some (vi (cv (zm V) b 0 0 c)))) (Or.inl ⟨_, rfl⟩) (by rw [e1, e2, e3]; exact s)
    have nx := o_wide e he hV c1 hk hP x2 h g (c + 1) vu vu vu vu vu vu vu vu vu vu (by omega) (by omega)
    have v0 : 0 ≤ cv (zm V) b 0 0 c := (cr _).1
    obtain ⟨V2, d, ct, g2⟩ := nx
    refine ⟨V2, d, ct, fun Z a b' W hh => ?_⟩
    obtain ⟨Z1, r1, m1⟩ := s' Z a b' W hh (hh.ka hV)
    obtain ⟨Z2, r2, m2⟩ := g2 Z1 a b' W m1.1
    refine ⟨Z2, ?_, m1.tr m2⟩
    dsimp only at r2 ⊢
    rw [b352_71, r1, qcall_l, qJ_s, b352_80, if_neg (show ¬ zcmp (res (.inl (some (vi (cv (zm V) b 0 0 c))))) 0 < 0 from zcmp_g v0), b352_85, show z32 (c + 1) = c + 1 from q32 (by omega), r2]
theorem o_high (e : Nat) (he : 300 ≤ e) {V : zS} (hV : qHC V) {b : Int} {J : Nat} (c1 : 0 ≤ b ∧ b < zm V 37 16) (hk : kOK (zm V) b J) (hP : 0 < bv (zm V) b 1) (x2 : Int) {n : Nat} (h : hOk n (zbump V) (fun a Z => zF_352 (e + 1) 67 [vr a, vi b, vi x2, vi (bv (zm V) b 1), vi (zm V 52 b), vu, vu, vu, vu, vu, vu, vu, vu, vu, vu, vu] [] Z)) :
    ∀ (g : Nat) (c : Int) (x5 x6 x7 x8 x9 x10 x11 x12 x13 x14 x15 : zV), 0 ≤ c → c + g = zm V 52 b → hOk (1 + n) V (fun a Z => zF_352 (e + 1) 44 [vr a, vi b, vi x2, vi (bv (zm V) b 1), vi c, x5, x6, x7, x8, x9, x10, x11, x12, x13, x14, x15] [] Z)
  | 0, c, x5, x6, x7, x8, x9, x10, x11, x12, x13, x14, x15, h0, hj => by
    obtain ⟨wr, tr, -⟩ := id hk
    obtain ⟨e1, e2, e3⟩ := t2_h (c := c) (by omega)
    have s := n_135 e (by omega) hV (p := 0) (l := c) (c := 0) c1 (fun q => by omega)
    have s := l_t2 e b (100 * c) 0 (o := .inr 2) (Or.inr ⟨2, rfl, Or.inr (Or.inr rfl)⟩) (by rw [e1, e2, e3]; exact s)
    rw [show c = zm V 52 b by omega] at s ⊢
    exact hOk.d hV s (hD.b hV) ⟨Nat.le_refl _, Nat.le_refl _⟩ h fun a Z Z1 hk r => by rw [b352_44, show z32 (100 * zm V 52 b) = 100 * zm V 52 b from q32 (by omega), r, qcall_l, qJ_s, b352_56, if_pos (show zcmp (res (.inr 2)) 0 < 0 by decide)]
  | g + 1, c, x5, x6, x7, x8, x9, x10, x11, x12, x13, x14, x15, h0, hj => by
    obtain ⟨wr, tr, -, -, -, cr, -⟩ := id hk
    obtain ⟨e1, e2, e3⟩ := t2_h (c := c) (by omega)
    have s := p_135 e (by omega) hV (p := 0) (l := c) (c := 0) c1 ⟨⟨Int.le_refl _, hP⟩, ⟨h0, by omega⟩, Int.le_refl _, by omega⟩
    have s' := l_t2 e b (100 * c) 0 (o := .inl (some (vi (cv (zm V) b 0 c 0)))) (Or.inl ⟨_, rfl⟩) (by rw [e1, e2, e3]; exact s)
    have nx := o_high e he hV c1 hk hP x2 h g (c + 1) vu vu vu vu vu vu vu vu vu vu vu (by omega) (by omega)
    have v0 : 0 ≤ cv (zm V) b 0 c 0 := (cr _).1
    obtain ⟨V2, d, ct, g2⟩ := nx
    refine ⟨V2, d, ct, fun Z a b' W hh => ?_⟩
    obtain ⟨Z1, r1, m1⟩ := s' Z a b' W hh (hh.ka hV)
    obtain ⟨Z2, r2, m2⟩ := g2 Z1 a b' W m1.1
    refine ⟨Z2, ?_, m1.tr m2⟩
    dsimp only at r2 ⊢
    rw [b352_44, show z32 (100 * c) = 100 * c from q32 (by omega), r1, qcall_l, qJ_s, b352_56, if_neg (show ¬ zcmp (res (.inl (some (vi (cv (zm V) b 0 c 0))))) 0 < 0 from zcmp_g v0), b352_61, show z32 (c + 1) = c + 1 from q32 (by omega), r2]
/-- the law finds a book in order -/
theorem o_book (e : Nat) (he : 300 ≤ e) {V : zS} (hV : qHC V) (hi : hFr (zm V)) {b : Int} (c1 : 0 ≤ b ∧ b < zm V 37 16) : hOk 2 V (fun a Z => zDr (e + 2) 352 [vr a, vi b] Z) := by
  obtain ⟨J, hk⟩ := k_all hV hi c1
  obtain ⟨wr, tr, Pr, ⟨j1, j80⟩, j0, cr, wk, jp⟩ := id hk
  have s0 : hS e 134 [vi b, vi 0] (.inl (some (vi (J : Int)))) V V := by
    have := p_134 e (by omega) hV (a := 0) c1 (by decide)
    rw [show bv (zm V) b 0 = (J : Int) from j1] at this
    exact this
  have k0 := l_t1 e b 0 0 (Or.inl ⟨_, rfl⟩) s0
  have k0 : hSk (e + 1) 345 [vi 1, vi b, vi 0, vi 0] (.inl (some (vl (J : Int)))) V V := k0
  have zJ : z32 (J : Int) = J := q32 (by omega)
  have a0 : ∀ {n : Nat} {F' : Int → zS → zR} {F : Int → zS → zR}, hOk n V F' → (∀ a Z Z1, zDr (e + 1) 345 (vr a :: [vi 1, vi b, vi 0, vi 0]) Z = some (.inl (some (vl (J : Int))), Z1) → F a Z = F' a Z1) → hOk n V F := fun h hF => by
    obtain ⟨V2, d, ct, g2⟩ := h
    refine ⟨V2, d, ct, fun Z a b' W hh => ?_⟩
    obtain ⟨Z1, r1, m1⟩ := k0 Z a b' W hh (hh.ka hV)
    obtain ⟨Z2, r2, m2⟩ := g2 Z1 a b' W m1.1
    exact ⟨Z2, by rw [hF a Z Z1 r1, r2], m1.tr m2⟩
  have s1 := p_134 (e + 1) (by omega) hV (a := 1) c1 (by decide)
  by_cases c : J = 0
  · have P0 := j0 c
    rw [P0] at s1
    have e28 : hOk 0 V (fun a Z => zF_352 (e + 1) 25 [vr a, vi b, vu, vu, vu, vu, vu, vu, vu, vu, vu, vu, vu, vu, vu, vu] [vi 0] Z) := hOk.fin hV fun a Z => by rw [b352_25, if_pos rfl, b352_28, b352_33, zchk_pos (by decide)]
    have e19 : hOk 0 V (fun a Z => zF_352 (e + 1) 19 [vr a, vi b, vi (J : Int), vu, vu, vu, vu, vu, vu, vu, vu, vu, vu, vu, vu, vu] [] Z) := hOk.q hV s1 (hD.rf hV) ⟨rfl, rfl⟩ e28 fun a Z Z1 hk r => by rw [b352_19, zchk_pos hk, r, qcall_l, qJ_s]
    refine (a0 e19 fun a Z Z1 r => ?_).up (Nat.zero_le _)
    rw [zDr_352, b352_0, r, qcall_l, qJ_s, b352_8, zJ, if_pos (by omega), b352_15, if_neg (by omega)]
  · obtain ⟨p0, p4, p3, p2, p2'⟩ := jp (by omega)
    obtain ⟨N, hN⟩ : ∃ N : Nat, zm V 52 b * zm V 51 b = (N : Int) := ⟨(zm V 52 b * zm V 51 b).toNat, by rw [Int.toNat_of_nonneg (Int.mul_nonneg (by omega) (by omega))]⟩
    obtain ⟨Q, hQ⟩ : ∃ Q : Nat, bv (zm V) b 1 = (Q : Int) := ⟨(bv (zm V) b 1).toNat, by omega⟩
    have eD : qsum (zm V (zm V 8 b + 2)) (Q * N) = bv (zm V) b 4 := by
      rw [p4, hQ, hN]
      congr 1
    have hV1 : qHC (zbump V) := (hD.b hV).1
    have hV2 : qHC (zbump (zbump V)) := (hD.b hV1).1
    have hk2 : kOK (zm (zbump (zbump V))) b J := hk
    have c2 : 0 ≤ b ∧ b < zm (zbump (zbump V)) 37 16 := c1
    have tb : bv (zm V) b 1 * zm V 52 b ≤ bv (zm V) b 1 * 25 := Int.mul_le_mul_of_nonneg_left (by omega) (by omega)
    have tb0 : 0 ≤ bv (zm V) b 1 * zm V 52 b := Int.mul_nonneg (by omega) (by omega)
    have tb1 : (bv (zm V) b 1 - 1) * zm V 52 b = bv (zm V) b 1 * zm V 52 b - zm V 52 b := by rw [Int.sub_mul, Int.one_mul]
    have fin : ∀ (x8 x10 x11 x12 x13 x14 x15 : zV), hOk 0 (zbump (zbump V)) (fun a Z => zF_352 (e + 1) 428 [vr a, vi b, vi J, vi (bv (zm V) b 1), vi (zm V 52 b), vi (zm V 51 b), vi (bv (zm V) b 4), vi 1, x8, vi (pFn (zm V) b J), x10, x11, x12, x13, x14, x15] [] Z) := fun x8 x10 x11 x12 x13 x14 x15 => by
      rw [p3]
      exact o_end e hV2 (p_134 (e + 1) (by omega) hV2 (a := 4) c2 (by decide)) (p_134 (e + 1) (by omega) hV2 (a := 3) c2 (by decide)) (p_134 (e + 1) (by omega) hV2 (a := 2) c2 (by decide)) (q32 (by omega)) (by rw [show z32 (bv (zm V) b 1 - 1) = bv (zm V) b 1 - 1 from q32 (by omega)]; exact q32 (by omega)) ⟨p2', p2⟩ _ _ _ _ _ _ _ _ _
    have w1 := o_words e he hV2 c2 hk2 fin J 0
    have w2 : ∀ (x8 x9 x10 x11 x12 x13 x14 x15 : zV), hOk 0 (zbump (zbump V)) (fun a Z => zF_352 (e + 1) 178 [vr a, vi b, vi J, vi (bv (zm V) b 1), vi (zm V 52 b), vi (zm V 51 b), vi (qsum (zm V (zm V 8 b + 2)) (Q * N)), vi 1, x8, x9, x10, x11, x12, x13, x14, x15] [] Z) := fun x8 x9 x10 x11 x12 x13 x14 x15 => (w1 vu vu vu vu vu (by omega)).eq fun a Z => by
      rw [b352_178, eD]
      rfl
    have w3 := o_pages e he hV2 c2 hk2 N Q hN hQ J w2 Q 0 vu vu vu vu vu vu vu (by omega)
    have w4 : hOk 0 (zbump (zbump V)) (fun a Z => zF_352 (e + 1) 91 [vr a, vi b, vi J, vi (bv (zm V) b 1), vi (zm V 52 b), vi (zm V 51 b), vu, vu, vu, vu, vu, vu, vu, vu, vu, vu] [] Z) := w3.eq fun a Z => by
      rw [b352_91, if_neg (by omega), b352_101, if_neg (by omega), b352_107, b352_112, Nat.zero_mul]
      rfl
    have w5 := o_wide e he hV1 (V := zbump V) c1 hk p0 J w4 (zm V 51 b - 17).toNat 17 vu vu vu vu vu vu vu vu vu vu (by decide) (by show 17 + (((zm V 51 b - 17).toNat : Nat) : Int) = zm V 51 b; omega)
    have w6 : hOk (1 + 0) (zbump V) (fun a Z => zF_352 (e + 1) 67 [vr a, vi b, vi J, vi (bv (zm V) b 1), vi (zm V 52 b), vu, vu, vu, vu, vu, vu, vu, vu, vu, vu, vu] [] Z) := w5.eq fun a Z => by
      rw [b352_67]
      rfl
    have w7 := o_high e he hV c1 hk p0 J w6 (zm V 52 b - 2).toNat 2 vu vu vu vu vu vu vu vu vu vu vu (by decide) (by omega)
    have e34 : hOk 2 V (fun a Z => zF_352 (e + 1) 34 [vr a, vi b, vi (J : Int), vu, vu, vu, vu, vu, vu, vu, vu, vu, vu, vu, vu, vu] [] Z) := hOk.q hV s1 (hD.rf hV) ⟨rfl, rfl⟩ w7 fun a Z Z1 hk r => by rw [b352_34, zchk_pos hk, r, qcall_l, qJ_s, b352_40]
    refine a0 e34 fun a Z Z1 r => ?_
    rw [zDr_352, b352_0, r, qcall_l, qJ_s, b352_8, zJ, if_neg (by omega)]
