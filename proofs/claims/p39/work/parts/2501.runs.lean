/-! The check's runs. -/
theorem zyb_31 : zyB 2 133 (zMt 31) (zTt 31) = true := by decide +kernel
theorem zyk_31 : zyok zTt zMt 31 := zyB_ok zyb_31 fun pc h => (show (bif Nat.blt pc 133 then _ else zNop) = zNop from zTN h)
theorem zyb_32 : zyB 3 34 (zMt 32) (zTt 32) = true := by decide +kernel
theorem zyk_32 : zyok zTt zMt 32 := zyB_ok zyb_32 fun pc h => (show (bif Nat.blt pc 34 then _ else zNop) = zNop from zTN h)
theorem zyb_33 : zyB 3 30 (zMt 33) (zTt 33) = true := by decide +kernel
theorem zyk_33 : zyok zTt zMt 33 := zyB_ok zyb_33 fun pc h => (show (bif Nat.blt pc 30 then _ else zNop) = zNop from zTN h)
theorem zyb_34 : zyB 3 13 (zMt 34) (zTt 34) = true := by decide +kernel
theorem zyk_34 : zyok zTt zMt 34 := zyB_ok zyb_34 fun pc h => (show (bif Nat.blt pc 13 then _ else zNop) = zNop from zTN h)
theorem zyb_35 : zyB 3 33 (zMt 35) (zTt 35) = true := by decide +kernel
theorem zyk_35 : zyok zTt zMt 35 := zyB_ok zyb_35 fun pc h => (show (bif Nat.blt pc 33 then _ else zNop) = zNop from zTN h)
theorem zyb_36 : zyB 3 126 (zMt 36) (zTt 36) = true := by decide +kernel
theorem zyk_36 : zyok zTt zMt 36 := zyB_ok zyb_36 fun pc h => (show (bif Nat.blt pc 126 then _ else zNop) = zNop from zTN h)
theorem zyb_37 : zyB 3 86 (zMt 37) (zTt 37) = true := by decide +kernel
theorem zyk_37 : zyok zTt zMt 37 := zyB_ok zyb_37 fun pc h => (show (bif Nat.blt pc 86 then _ else zNop) = zNop from zTN h)
theorem zyb_38 : zyB 3 83 (zMt 38) (zTt 38) = true := by decide +kernel
theorem zyk_38 : zyok zTt zMt 38 := zyB_ok zyb_38 fun pc h => (show (bif Nat.blt pc 83 then _ else zNop) = zNop from zTN h)
theorem zyb_39 : zyB 4 53 (zMt 39) (zTt 39) = true := by decide +kernel
theorem zyk_39 : zyok zTt zMt 39 := zyB_ok zyb_39 fun pc h => (show (bif Nat.blt pc 53 then _ else zNop) = zNop from zTN h)
theorem zyb_40 : zyB 4 119 (zMt 40) (zTt 40) = true := by decide +kernel
theorem zyk_40 : zyok zTt zMt 40 := zyB_ok zyb_40 fun pc h => (show (bif Nat.blt pc 119 then _ else zNop) = zNop from zTN h)
theorem zyb_41 : zyB 4 39 (zMt 41) (zTt 41) = true := by decide +kernel
theorem zyk_41 : zyok zTt zMt 41 := zyB_ok zyb_41 fun pc h => (show (bif Nat.blt pc 39 then _ else zNop) = zNop from zTN h)
theorem zyb_42 : zyB 4 142 (zMt 42) (zTt 42) = true := by decide +kernel
theorem zyk_42 : zyok zTt zMt 42 := zyB_ok zyb_42 fun pc h => (show (bif Nat.blt pc 142 then _ else zNop) = zNop from zTN h)
theorem zyb_43 : zyB 4 32 (zMt 43) (zTt 43) = true := by decide +kernel
theorem zyk_43 : zyok zTt zMt 43 := zyB_ok zyb_43 fun pc h => (show (bif Nat.blt pc 32 then _ else zNop) = zNop from zTN h)
theorem zyb_44 : zyB 4 23 (zMt 44) (zTt 44) = true := by decide +kernel
theorem zyk_44 : zyok zTt zMt 44 := zyB_ok zyb_44 fun pc h => (show (bif Nat.blt pc 23 then _ else zNop) = zNop from zTN h)
theorem zyb_45 : zyB 4 21 (zMt 45) (zTt 45) = true := by decide +kernel
theorem zyk_45 : zyok zTt zMt 45 := zyB_ok zyb_45 fun pc h => (show (bif Nat.blt pc 21 then _ else zNop) = zNop from zTN h)
theorem zyb_46 : zyB 4 11 (zMt 46) (zTt 46) = true := by decide +kernel
theorem zyk_46 : zyok zTt zMt 46 := zyB_ok zyb_46 fun pc h => (show (bif Nat.blt pc 11 then _ else zNop) = zNop from zTN h)
theorem zyb_47 : zyB 4 102 (zMt 47) (zTt 47) = true := by decide +kernel
theorem zyk_47 : zyok zTt zMt 47 := zyB_ok zyb_47 fun pc h => (show (bif Nat.blt pc 102 then _ else zNop) = zNop from zTN h)
theorem zyb_48 : zyB 5 20 (zMt 48) (zTt 48) = true := by decide +kernel
theorem zyk_48 : zyok zTt zMt 48 := zyB_ok zyb_48 fun pc h => (show (bif Nat.blt pc 20 then _ else zNop) = zNop from zTN h)
theorem zyb_49 : zyB 5 33 (zMt 49) (zTt 49) = true := by decide +kernel
theorem zyk_49 : zyok zTt zMt 49 := zyB_ok zyb_49 fun pc h => (show (bif Nat.blt pc 33 then _ else zNop) = zNop from zTN h)
theorem zyb_50 : zyB 5 36 (zMt 50) (zTt 50) = true := by decide +kernel
theorem zyk_50 : zyok zTt zMt 50 := zyB_ok zyb_50 fun pc h => (show (bif Nat.blt pc 36 then _ else zNop) = zNop from zTN h)
theorem zyb_51 : zyB 5 38 (zMt 51) (zTt 51) = true := by decide +kernel
theorem zyk_51 : zyok zTt zMt 51 := zyB_ok zyb_51 fun pc h => (show (bif Nat.blt pc 38 then _ else zNop) = zNop from zTN h)
theorem zyb_52 : zyB 6 60 (zMt 52) (zTt 52) = true := by decide +kernel
theorem zyk_52 : zyok zTt zMt 52 := zyB_ok zyb_52 fun pc h => (show (bif Nat.blt pc 60 then _ else zNop) = zNop from zTN h)
theorem zyb_53 : zyB 6 23 (zMt 53) (zTt 53) = true := by decide +kernel
theorem zyk_53 : zyok zTt zMt 53 := zyB_ok zyb_53 fun pc h => (show (bif Nat.blt pc 23 then _ else zNop) = zNop from zTN h)
theorem zyb_54 : zyB 6 38 (zMt 54) (zTt 54) = true := by decide +kernel
theorem zyk_54 : zyok zTt zMt 54 := zyB_ok zyb_54 fun pc h => (show (bif Nat.blt pc 38 then _ else zNop) = zNop from zTN h)
theorem zyb_55 : zyB 6 129 (zMt 55) (zTt 55) = true := by decide +kernel
theorem zyk_55 : zyok zTt zMt 55 := zyB_ok zyb_55 fun pc h => (show (bif Nat.blt pc 129 then _ else zNop) = zNop from zTN h)
theorem zyb_56 : zyB 6 130 (zMt 56) (zTt 56) = true := by decide +kernel
theorem zyk_56 : zyok zTt zMt 56 := zyB_ok zyb_56 fun pc h => (show (bif Nat.blt pc 130 then _ else zNop) = zNop from zTN h)
theorem zyb_57 : zyB 6 70 (zMt 57) (zTt 57) = true := by decide +kernel
theorem zyk_57 : zyok zTt zMt 57 := zyB_ok zyb_57 fun pc h => (show (bif Nat.blt pc 70 then _ else zNop) = zNop from zTN h)
theorem zyb_58 : zyB 6 31 (zMt 58) (zTt 58) = true := by decide +kernel
theorem zyk_58 : zyok zTt zMt 58 := zyB_ok zyb_58 fun pc h => (show (bif Nat.blt pc 31 then _ else zNop) = zNop from zTN h)
theorem zyb_59 : zyB 6 49 (zMt 59) (zTt 59) = true := by decide +kernel
theorem zyk_59 : zyok zTt zMt 59 := zyB_ok zyb_59 fun pc h => (show (bif Nat.blt pc 49 then _ else zNop) = zNop from zTN h)
theorem zyb_60 : zyB 6 33 (zMt 60) (zTt 60) = true := by decide +kernel
theorem zyk_60 : zyok zTt zMt 60 := zyB_ok zyb_60 fun pc h => (show (bif Nat.blt pc 33 then _ else zNop) = zNop from zTN h)
theorem zyb_61 : zyB 6 22 (zMt 61) (zTt 61) = true := by decide +kernel
theorem zyk_61 : zyok zTt zMt 61 := zyB_ok zyb_61 fun pc h => (show (bif Nat.blt pc 22 then _ else zNop) = zNop from zTN h)
theorem zyb_62 : zyB 6 79 (zMt 62) (zTt 62) = true := by decide +kernel
theorem zyk_62 : zyok zTt zMt 62 := zyB_ok zyb_62 fun pc h => (show (bif Nat.blt pc 79 then _ else zNop) = zNop from zTN h)
theorem zyb_63 : zyB 6 78 (zMt 63) (zTt 63) = true := by decide +kernel
theorem zyk_63 : zyok zTt zMt 63 := zyB_ok zyb_63 fun pc h => (show (bif Nat.blt pc 78 then _ else zNop) = zNop from zTN h)
theorem zyb_64 : zyB 6 93 (zMt 64) (zTt 64) = true := by decide +kernel
theorem zyk_64 : zyok zTt zMt 64 := zyB_ok zyb_64 fun pc h => (show (bif Nat.blt pc 93 then _ else zNop) = zNop from zTN h)
theorem zyb_65 : zyB 6 145 (zMt 65) (zTt 65) = true := by decide +kernel
theorem zyk_65 : zyok zTt zMt 65 := zyB_ok zyb_65 fun pc h => (show (bif Nat.blt pc 145 then _ else zNop) = zNop from zTN h)
