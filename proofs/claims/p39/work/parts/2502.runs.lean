/-! The check's runs. -/
theorem zyb_66 : zyB 6 67 (zMt 66) (zTt 66) = true := by decide +kernel
theorem zyk_66 : zyok zTt zMt 66 := zyB_ok zyb_66 fun pc h => (show (bif Nat.blt pc 67 then _ else zNop) = zNop from zTN h)
theorem zyb_67 : zyB 6 23 (zMt 67) (zTt 67) = true := by decide +kernel
theorem zyk_67 : zyok zTt zMt 67 := zyB_ok zyb_67 fun pc h => (show (bif Nat.blt pc 23 then _ else zNop) = zNop from zTN h)
theorem zyb_68 : zyB 6 69 (zMt 68) (zTt 68) = true := by decide +kernel
theorem zyk_68 : zyok zTt zMt 68 := zyB_ok zyb_68 fun pc h => (show (bif Nat.blt pc 69 then _ else zNop) = zNop from zTN h)
theorem zyb_69 : zyB 6 15 (zMt 69) (zTt 69) = true := by decide +kernel
theorem zyk_69 : zyok zTt zMt 69 := zyB_ok zyb_69 fun pc h => (show (bif Nat.blt pc 15 then _ else zNop) = zNop from zTN h)
theorem zyb_70 : zyB 6 127 (zMt 70) (zTt 70) = true := by decide +kernel
theorem zyk_70 : zyok zTt zMt 70 := zyB_ok zyb_70 fun pc h => (show (bif Nat.blt pc 127 then _ else zNop) = zNop from zTN h)
theorem zyb_71 : zyB 6 40 (zMt 71) (zTt 71) = true := by decide +kernel
theorem zyk_71 : zyok zTt zMt 71 := zyB_ok zyb_71 fun pc h => (show (bif Nat.blt pc 40 then _ else zNop) = zNop from zTN h)
theorem zyb_72 : zyB 6 20 (zMt 72) (zTt 72) = true := by decide +kernel
theorem zyk_72 : zyok zTt zMt 72 := zyB_ok zyb_72 fun pc h => (show (bif Nat.blt pc 20 then _ else zNop) = zNop from zTN h)
theorem zyb_73 : zyB 6 31 (zMt 73) (zTt 73) = true := by decide +kernel
theorem zyk_73 : zyok zTt zMt 73 := zyB_ok zyb_73 fun pc h => (show (bif Nat.blt pc 31 then _ else zNop) = zNop from zTN h)
theorem zyb_74 : zyB 6 227 (zMt 74) (zTt 74) = true := by decide +kernel
theorem zyk_74 : zyok zTt zMt 74 := zyB_ok zyb_74 fun pc h => (show (bif Nat.blt pc 227 then _ else zNop) = zNop from zTN h)
theorem zyb_75 : zyB 6 29 (zMt 75) (zTt 75) = true := by decide +kernel
theorem zyk_75 : zyok zTt zMt 75 := zyB_ok zyb_75 fun pc h => (show (bif Nat.blt pc 29 then _ else zNop) = zNop from zTN h)
theorem zyb_76 : zyB 6 82 (zMt 76) (zTt 76) = true := by decide +kernel
theorem zyk_76 : zyok zTt zMt 76 := zyB_ok zyb_76 fun pc h => (show (bif Nat.blt pc 82 then _ else zNop) = zNop from zTN h)
theorem zyb_77 : zyB 6 47 (zMt 77) (zTt 77) = true := by decide +kernel
theorem zyk_77 : zyok zTt zMt 77 := zyB_ok zyb_77 fun pc h => (show (bif Nat.blt pc 47 then _ else zNop) = zNop from zTN h)
theorem zyb_78 : zyB 6 28 (zMt 78) (zTt 78) = true := by decide +kernel
theorem zyk_78 : zyok zTt zMt 78 := zyB_ok zyb_78 fun pc h => (show (bif Nat.blt pc 28 then _ else zNop) = zNop from zTN h)
theorem zyb_79 : zyB 6 92 (zMt 79) (zTt 79) = true := by decide +kernel
theorem zyk_79 : zyok zTt zMt 79 := zyB_ok zyb_79 fun pc h => (show (bif Nat.blt pc 92 then _ else zNop) = zNop from zTN h)
theorem zyb_80 : zyB 7 17 (zMt 80) (zTt 80) = true := by decide +kernel
theorem zyk_80 : zyok zTt zMt 80 := zyB_ok zyb_80 fun pc h => (show (bif Nat.blt pc 17 then _ else zNop) = zNop from zTN h)
theorem zyb_81 : zyB 8 13 (zMt 81) (zTt 81) = true := by decide +kernel
theorem zyk_81 : zyok zTt zMt 81 := zyB_ok zyb_81 fun pc h => (show (bif Nat.blt pc 13 then _ else zNop) = zNop from zTN h)
theorem zyb_82 : zyB 8 26 (zMt 82) (zTt 82) = true := by decide +kernel
theorem zyk_82 : zyok zTt zMt 82 := zyB_ok zyb_82 fun pc h => (show (bif Nat.blt pc 26 then _ else zNop) = zNop from zTN h)
theorem zyb_83 : zyB 8 36 (zMt 83) (zTt 83) = true := by decide +kernel
theorem zyk_83 : zyok zTt zMt 83 := zyB_ok zyb_83 fun pc h => (show (bif Nat.blt pc 36 then _ else zNop) = zNop from zTN h)
theorem zyb_84 : zyB 8 19 (zMt 84) (zTt 84) = true := by decide +kernel
theorem zyk_84 : zyok zTt zMt 84 := zyB_ok zyb_84 fun pc h => (show (bif Nat.blt pc 19 then _ else zNop) = zNop from zTN h)
theorem zyb_85 : zyB 8 31 (zMt 85) (zTt 85) = true := by decide +kernel
theorem zyk_85 : zyok zTt zMt 85 := zyB_ok zyb_85 fun pc h => (show (bif Nat.blt pc 31 then _ else zNop) = zNop from zTN h)
theorem zyb_86 : zyB 8 72 (zMt 86) (zTt 86) = true := by decide +kernel
theorem zyk_86 : zyok zTt zMt 86 := zyB_ok zyb_86 fun pc h => (show (bif Nat.blt pc 72 then _ else zNop) = zNop from zTN h)
theorem zyb_87 : zyB 9 13 (zMt 87) (zTt 87) = true := by decide +kernel
theorem zyk_87 : zyok zTt zMt 87 := zyB_ok zyb_87 fun pc h => (show (bif Nat.blt pc 13 then _ else zNop) = zNop from zTN h)
theorem zyb_88 : zyB 9 43 (zMt 88) (zTt 88) = true := by decide +kernel
theorem zyk_88 : zyok zTt zMt 88 := zyB_ok zyb_88 fun pc h => (show (bif Nat.blt pc 43 then _ else zNop) = zNop from zTN h)
theorem zyb_89 : zyB 9 18 (zMt 89) (zTt 89) = true := by decide +kernel
theorem zyk_89 : zyok zTt zMt 89 := zyB_ok zyb_89 fun pc h => (show (bif Nat.blt pc 18 then _ else zNop) = zNop from zTN h)
theorem zyb_90 : zyB 9 18 (zMt 90) (zTt 90) = true := by decide +kernel
theorem zyk_90 : zyok zTt zMt 90 := zyB_ok zyb_90 fun pc h => (show (bif Nat.blt pc 18 then _ else zNop) = zNop from zTN h)
theorem zyb_91 : zyB 9 76 (zMt 91) (zTt 91) = true := by decide +kernel
theorem zyk_91 : zyok zTt zMt 91 := zyB_ok zyb_91 fun pc h => (show (bif Nat.blt pc 76 then _ else zNop) = zNop from zTN h)
theorem zyb_92 : zyB 9 45 (zMt 92) (zTt 92) = true := by decide +kernel
theorem zyk_92 : zyok zTt zMt 92 := zyB_ok zyb_92 fun pc h => (show (bif Nat.blt pc 45 then _ else zNop) = zNop from zTN h)
theorem zyb_93 : zyB 9 30 (zMt 93) (zTt 93) = true := by decide +kernel
theorem zyk_93 : zyok zTt zMt 93 := zyB_ok zyb_93 fun pc h => (show (bif Nat.blt pc 30 then _ else zNop) = zNop from zTN h)
theorem zyb_94 : zyB 9 83 (zMt 94) (zTt 94) = true := by decide +kernel
theorem zyk_94 : zyok zTt zMt 94 := zyB_ok zyb_94 fun pc h => (show (bif Nat.blt pc 83 then _ else zNop) = zNop from zTN h)
theorem zyb_95 : zyB 9 178 (zMt 95) (zTt 95) = true := by decide +kernel
theorem zyk_95 : zyok zTt zMt 95 := zyB_ok zyb_95 fun pc h => (show (bif Nat.blt pc 178 then _ else zNop) = zNop from zTN h)
theorem zyb_96 : zyB 9 37 (zMt 96) (zTt 96) = true := by decide +kernel
theorem zyk_96 : zyok zTt zMt 96 := zyB_ok zyb_96 fun pc h => (show (bif Nat.blt pc 37 then _ else zNop) = zNop from zTN h)
theorem zyb_97 : zyB 9 155 (zMt 97) (zTt 97) = true := by decide +kernel
theorem zyk_97 : zyok zTt zMt 97 := zyB_ok zyb_97 fun pc h => (show (bif Nat.blt pc 155 then _ else zNop) = zNop from zTN h)
theorem zyb_98 : zyB 9 52 (zMt 98) (zTt 98) = true := by decide +kernel
theorem zyk_98 : zyok zTt zMt 98 := zyB_ok zyb_98 fun pc h => (show (bif Nat.blt pc 52 then _ else zNop) = zNop from zTN h)
theorem zyb_99 : zyB 9 83 (zMt 99) (zTt 99) = true := by decide +kernel
theorem zyk_99 : zyok zTt zMt 99 := zyB_ok zyb_99 fun pc h => (show (bif Nat.blt pc 83 then _ else zNop) = zNop from zTN h)
theorem zyb_100 : zyB 9 53 (zMt 100) (zTt 100) = true := by decide +kernel
theorem zyk_100 : zyok zTt zMt 100 := zyB_ok zyb_100 fun pc h => (show (bif Nat.blt pc 53 then _ else zNop) = zNop from zTN h)
theorem zyb_101 : zyB 9 223 (zMt 101) (zTt 101) = true := by decide +kernel
theorem zyk_101 : zyok zTt zMt 101 := zyB_ok zyb_101 fun pc h => (show (bif Nat.blt pc 223 then _ else zNop) = zNop from zTN h)
