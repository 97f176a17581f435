/-! The check's runs. -/
theorem zyb_0 : zyB 0 86 (zMt 0) (zTt 0) = true := by decide +kernel
theorem zyk_0 : zyok zTt zMt 0 := zyB_ok zyb_0 fun pc h => (show (bif Nat.blt pc 86 then _ else zNop) = zNop from zTN h)
theorem zyb_1 : zyB 0 26 (zMt 1) (zTt 1) = true := by decide +kernel
theorem zyk_1 : zyok zTt zMt 1 := zyB_ok zyb_1 fun pc h => (show (bif Nat.blt pc 26 then _ else zNop) = zNop from zTN h)
theorem zyb_2 : zyB 0 23 (zMt 2) (zTt 2) = true := by decide +kernel
theorem zyk_2 : zyok zTt zMt 2 := zyB_ok zyb_2 fun pc h => (show (bif Nat.blt pc 23 then _ else zNop) = zNop from zTN h)
theorem zyb_3 : zyB 0 16 (zMt 3) (zTt 3) = true := by decide +kernel
theorem zyk_3 : zyok zTt zMt 3 := zyB_ok zyb_3 fun pc h => (show (bif Nat.blt pc 16 then _ else zNop) = zNop from zTN h)
theorem zyb_4 : zyB 0 12 (zMt 4) (zTt 4) = true := by decide +kernel
theorem zyk_4 : zyok zTt zMt 4 := zyB_ok zyb_4 fun pc h => (show (bif Nat.blt pc 12 then _ else zNop) = zNop from zTN h)
theorem zyb_5 : zyB 0 24 (zMt 5) (zTt 5) = true := by decide +kernel
theorem zyk_5 : zyok zTt zMt 5 := zyB_ok zyb_5 fun pc h => (show (bif Nat.blt pc 24 then _ else zNop) = zNop from zTN h)
theorem zyb_6 : zyB 0 64 (zMt 6) (zTt 6) = true := by decide +kernel
theorem zyk_6 : zyok zTt zMt 6 := zyB_ok zyb_6 fun pc h => (show (bif Nat.blt pc 64 then _ else zNop) = zNop from zTN h)
theorem zyb_7 : zyB 0 60 (zMt 7) (zTt 7) = true := by decide +kernel
theorem zyk_7 : zyok zTt zMt 7 := zyB_ok zyb_7 fun pc h => (show (bif Nat.blt pc 60 then _ else zNop) = zNop from zTN h)
theorem zyb_8 : zyB 0 22 (zMt 8) (zTt 8) = true := by decide +kernel
theorem zyk_8 : zyok zTt zMt 8 := zyB_ok zyb_8 fun pc h => (show (bif Nat.blt pc 22 then _ else zNop) = zNop from zTN h)
theorem zyb_9 : zyB 0 144 (zMt 9) (zTt 9) = true := by decide +kernel
theorem zyk_9 : zyok zTt zMt 9 := zyB_ok zyb_9 fun pc h => (show (bif Nat.blt pc 144 then _ else zNop) = zNop from zTN h)
theorem zyb_10 : zyB 0 57 (zMt 10) (zTt 10) = true := by decide +kernel
theorem zyk_10 : zyok zTt zMt 10 := zyB_ok zyb_10 fun pc h => (show (bif Nat.blt pc 57 then _ else zNop) = zNop from zTN h)
theorem zyb_11 : zyB 0 81 (zMt 11) (zTt 11) = true := by decide +kernel
theorem zyk_11 : zyok zTt zMt 11 := zyB_ok zyb_11 fun pc h => (show (bif Nat.blt pc 81 then _ else zNop) = zNop from zTN h)
theorem zyb_12 : zyB 0 108 (zMt 12) (zTt 12) = true := by decide +kernel
theorem zyk_12 : zyok zTt zMt 12 := zyB_ok zyb_12 fun pc h => (show (bif Nat.blt pc 108 then _ else zNop) = zNop from zTN h)
theorem zyb_13 : zyB 0 40 (zMt 13) (zTt 13) = true := by decide +kernel
theorem zyk_13 : zyok zTt zMt 13 := zyB_ok zyb_13 fun pc h => (show (bif Nat.blt pc 40 then _ else zNop) = zNop from zTN h)
theorem zyb_14 : zyB 0 51 (zMt 14) (zTt 14) = true := by decide +kernel
theorem zyk_14 : zyok zTt zMt 14 := zyB_ok zyb_14 fun pc h => (show (bif Nat.blt pc 51 then _ else zNop) = zNop from zTN h)
theorem zyb_15 : zyB 1 27 (zMt 15) (zTt 15) = true := by decide +kernel
theorem zyk_15 : zyok zTt zMt 15 := zyB_ok zyb_15 fun pc h => (show (bif Nat.blt pc 27 then _ else zNop) = zNop from zTN h)
theorem zyb_16 : zyB 2 33 (zMt 16) (zTt 16) = true := by decide +kernel
theorem zyk_16 : zyok zTt zMt 16 := zyB_ok zyb_16 fun pc h => (show (bif Nat.blt pc 33 then _ else zNop) = zNop from zTN h)
theorem zyb_17 : zyB 2 36 (zMt 17) (zTt 17) = true := by decide +kernel
theorem zyk_17 : zyok zTt zMt 17 := zyB_ok zyb_17 fun pc h => (show (bif Nat.blt pc 36 then _ else zNop) = zNop from zTN h)
theorem zyb_18 : zyB 2 24 (zMt 18) (zTt 18) = true := by decide +kernel
theorem zyk_18 : zyok zTt zMt 18 := zyB_ok zyb_18 fun pc h => (show (bif Nat.blt pc 24 then _ else zNop) = zNop from zTN h)
theorem zyb_19 : zyB 2 122 (zMt 19) (zTt 19) = true := by decide +kernel
theorem zyk_19 : zyok zTt zMt 19 := zyB_ok zyb_19 fun pc h => (show (bif Nat.blt pc 122 then _ else zNop) = zNop from zTN h)
theorem zyb_20 : zyB 2 40 (zMt 20) (zTt 20) = true := by decide +kernel
theorem zyk_20 : zyok zTt zMt 20 := zyB_ok zyb_20 fun pc h => (show (bif Nat.blt pc 40 then _ else zNop) = zNop from zTN h)
theorem zyb_21 : zyB 2 53 (zMt 21) (zTt 21) = true := by decide +kernel
theorem zyk_21 : zyok zTt zMt 21 := zyB_ok zyb_21 fun pc h => (show (bif Nat.blt pc 53 then _ else zNop) = zNop from zTN h)
theorem zyb_22 : zyB 2 121 (zMt 22) (zTt 22) = true := by decide +kernel
theorem zyk_22 : zyok zTt zMt 22 := zyB_ok zyb_22 fun pc h => (show (bif Nat.blt pc 121 then _ else zNop) = zNop from zTN h)
theorem zyb_23 : zyB 2 24 (zMt 23) (zTt 23) = true := by decide +kernel
theorem zyk_23 : zyok zTt zMt 23 := zyB_ok zyb_23 fun pc h => (show (bif Nat.blt pc 24 then _ else zNop) = zNop from zTN h)
theorem zyb_24 : zyB 2 76 (zMt 24) (zTt 24) = true := by decide +kernel
theorem zyk_24 : zyok zTt zMt 24 := zyB_ok zyb_24 fun pc h => (show (bif Nat.blt pc 76 then _ else zNop) = zNop from zTN h)
theorem zyb_25 : zyB 2 74 (zMt 25) (zTt 25) = true := by decide +kernel
theorem zyk_25 : zyok zTt zMt 25 := zyB_ok zyb_25 fun pc h => (show (bif Nat.blt pc 74 then _ else zNop) = zNop from zTN h)
theorem zyb_26 : zyB 2 118 (zMt 26) (zTt 26) = true := by decide +kernel
theorem zyk_26 : zyok zTt zMt 26 := zyB_ok zyb_26 fun pc h => (show (bif Nat.blt pc 118 then _ else zNop) = zNop from zTN h)
theorem zyb_27 : zyB 2 174 (zMt 27) (zTt 27) = true := by decide +kernel
theorem zyk_27 : zyok zTt zMt 27 := zyB_ok zyb_27 fun pc h => (show (bif Nat.blt pc 174 then _ else zNop) = zNop from zTN h)
theorem zyb_28 : zyB 2 59 (zMt 28) (zTt 28) = true := by decide +kernel
theorem zyk_28 : zyok zTt zMt 28 := zyB_ok zyb_28 fun pc h => (show (bif Nat.blt pc 59 then _ else zNop) = zNop from zTN h)
theorem zyb_29 : zyB 2 146 (zMt 29) (zTt 29) = true := by decide +kernel
theorem zyk_29 : zyok zTt zMt 29 := zyB_ok zyb_29 fun pc h => (show (bif Nat.blt pc 146 then _ else zNop) = zNop from zTN h)
theorem zyb_30 : zyB 2 126 (zMt 30) (zTt 30) = true := by decide +kernel
theorem zyk_30 : zyok zTt zMt 30 := zyB_ok zyb_30 fun pc h => (show (bif Nat.blt pc 126 then _ else zNop) = zNop from zTN h)
