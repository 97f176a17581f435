/-! The check's runs. -/
theorem zyb_102 : zyB 10 21 (zMt 102) (zTt 102) = true := by decide +kernel
theorem zyk_102 : zyok zTt zMt 102 := zyB_ok zyb_102 fun pc h => (show (bif Nat.blt pc 21 then _ else zNop) = zNop from zTN h)
theorem zyb_103 : zyB 10 40 (zMt 103) (zTt 103) = true := by decide +kernel
theorem zyk_103 : zyok zTt zMt 103 := zyB_ok zyb_103 fun pc h => (show (bif Nat.blt pc 40 then _ else zNop) = zNop from zTN h)
theorem zyb_104 : zyB 10 33 (zMt 104) (zTt 104) = true := by decide +kernel
theorem zyk_104 : zyok zTt zMt 104 := zyB_ok zyb_104 fun pc h => (show (bif Nat.blt pc 33 then _ else zNop) = zNop from zTN h)
theorem zyb_105 : zyB 10 40 (zMt 105) (zTt 105) = true := by decide +kernel
theorem zyk_105 : zyok zTt zMt 105 := zyB_ok zyb_105 fun pc h => (show (bif Nat.blt pc 40 then _ else zNop) = zNop from zTN h)
theorem zyb_106 : zyB 10 68 (zMt 106) (zTt 106) = true := by decide +kernel
theorem zyk_106 : zyok zTt zMt 106 := zyB_ok zyb_106 fun pc h => (show (bif Nat.blt pc 68 then _ else zNop) = zNop from zTN h)
theorem zyb_107 : zyB 11 20 (zMt 107) (zTt 107) = true := by decide +kernel
theorem zyk_107 : zyok zTt zMt 107 := zyB_ok zyb_107 fun pc h => (show (bif Nat.blt pc 20 then _ else zNop) = zNop from zTN h)
theorem zyb_108 : zyB 11 21 (zMt 108) (zTt 108) = true := by decide +kernel
theorem zyk_108 : zyok zTt zMt 108 := zyB_ok zyb_108 fun pc h => (show (bif Nat.blt pc 21 then _ else zNop) = zNop from zTN h)
theorem zyb_109 : zyB 11 30 (zMt 109) (zTt 109) = true := by decide +kernel
theorem zyk_109 : zyok zTt zMt 109 := zyB_ok zyb_109 fun pc h => (show (bif Nat.blt pc 30 then _ else zNop) = zNop from zTN h)
theorem zyb_110 : zyB 11 36 (zMt 110) (zTt 110) = true := by decide +kernel
theorem zyk_110 : zyok zTt zMt 110 := zyB_ok zyb_110 fun pc h => (show (bif Nat.blt pc 36 then _ else zNop) = zNop from zTN h)
theorem zyb_111 : zyB 11 38 (zMt 111) (zTt 111) = true := by decide +kernel
theorem zyk_111 : zyok zTt zMt 111 := zyB_ok zyb_111 fun pc h => (show (bif Nat.blt pc 38 then _ else zNop) = zNop from zTN h)
theorem zyb_112 : zyB 11 23 (zMt 112) (zTt 112) = true := by decide +kernel
theorem zyk_112 : zyok zTt zMt 112 := zyB_ok zyb_112 fun pc h => (show (bif Nat.blt pc 23 then _ else zNop) = zNop from zTN h)
theorem zyb_113 : zyB 11 42 (zMt 113) (zTt 113) = true := by decide +kernel
theorem zyk_113 : zyok zTt zMt 113 := zyB_ok zyb_113 fun pc h => (show (bif Nat.blt pc 42 then _ else zNop) = zNop from zTN h)
theorem zyb_114 : zyB 12 163 (zMt 114) (zTt 114) = true := by decide +kernel
theorem zyk_114 : zyok zTt zMt 114 := zyB_ok zyb_114 fun pc h => (show (bif Nat.blt pc 163 then _ else zNop) = zNop from zTN h)
theorem zyb_115 : zyB 12 118 (zMt 115) (zTt 115) = true := by decide +kernel
theorem zyk_115 : zyok zTt zMt 115 := zyB_ok zyb_115 fun pc h => (show (bif Nat.blt pc 118 then _ else zNop) = zNop from zTN h)
theorem zyb_116 : zyB 12 18 (zMt 116) (zTt 116) = true := by decide +kernel
theorem zyk_116 : zyok zTt zMt 116 := zyB_ok zyb_116 fun pc h => (show (bif Nat.blt pc 18 then _ else zNop) = zNop from zTN h)
theorem zyb_117 : zyB 12 8 (zMt 117) (zTt 117) = true := by decide +kernel
theorem zyk_117 : zyok zTt zMt 117 := zyB_ok zyb_117 fun pc h => (show (bif Nat.blt pc 8 then _ else zNop) = zNop from zTN h)
theorem zyb_118 : zyB 12 51 (zMt 118) (zTt 118) = true := by decide +kernel
theorem zyk_118 : zyok zTt zMt 118 := zyB_ok zyb_118 fun pc h => (show (bif Nat.blt pc 51 then _ else zNop) = zNop from zTN h)
theorem zyb_119 : zyB 12 196 (zMt 119) (zTt 119) = true := by decide +kernel
theorem zyk_119 : zyok zTt zMt 119 := zyB_ok zyb_119 fun pc h => (show (bif Nat.blt pc 196 then _ else zNop) = zNop from zTN h)
theorem zyb_120 : zyB 12 110 (zMt 120) (zTt 120) = true := by decide +kernel
theorem zyk_120 : zyok zTt zMt 120 := zyB_ok zyb_120 fun pc h => (show (bif Nat.blt pc 110 then _ else zNop) = zNop from zTN h)
theorem zyb_121 : zyB 12 14 (zMt 121) (zTt 121) = true := by decide +kernel
theorem zyk_121 : zyok zTt zMt 121 := zyB_ok zyb_121 fun pc h => (show (bif Nat.blt pc 14 then _ else zNop) = zNop from zTN h)
theorem zyb_122 : zyB 12 29 (zMt 122) (zTt 122) = true := by decide +kernel
theorem zyk_122 : zyok zTt zMt 122 := zyB_ok zyb_122 fun pc h => (show (bif Nat.blt pc 29 then _ else zNop) = zNop from zTN h)
theorem zyb_123 : zyB 12 14 (zMt 123) (zTt 123) = true := by decide +kernel
theorem zyk_123 : zyok zTt zMt 123 := zyB_ok zyb_123 fun pc h => (show (bif Nat.blt pc 14 then _ else zNop) = zNop from zTN h)
theorem zyb_124 : zyB 12 39 (zMt 124) (zTt 124) = true := by decide +kernel
theorem zyk_124 : zyok zTt zMt 124 := zyB_ok zyb_124 fun pc h => (show (bif Nat.blt pc 39 then _ else zNop) = zNop from zTN h)
theorem zyb_125 : zyB 12 39 (zMt 125) (zTt 125) = true := by decide +kernel
theorem zyk_125 : zyok zTt zMt 125 := zyB_ok zyb_125 fun pc h => (show (bif Nat.blt pc 39 then _ else zNop) = zNop from zTN h)
theorem zyb_126 : zyB 12 59 (zMt 126) (zTt 126) = true := by decide +kernel
theorem zyk_126 : zyok zTt zMt 126 := zyB_ok zyb_126 fun pc h => (show (bif Nat.blt pc 59 then _ else zNop) = zNop from zTN h)
theorem zyb_127 : zyB 12 8 (zMt 127) (zTt 127) = true := by decide +kernel
theorem zyk_127 : zyok zTt zMt 127 := zyB_ok zyb_127 fun pc h => (show (bif Nat.blt pc 8 then _ else zNop) = zNop from zTN h)
theorem zyb_128 : zyB 12 17 (zMt 128) (zTt 128) = true := by decide +kernel
theorem zyk_128 : zyok zTt zMt 128 := zyB_ok zyb_128 fun pc h => (show (bif Nat.blt pc 17 then _ else zNop) = zNop from zTN h)
theorem zyb_129 : zyB 12 32 (zMt 129) (zTt 129) = true := by decide +kernel
theorem zyk_129 : zyok zTt zMt 129 := zyB_ok zyb_129 fun pc h => (show (bif Nat.blt pc 32 then _ else zNop) = zNop from zTN h)
theorem zyb_130 : zyB 12 53 (zMt 130) (zTt 130) = true := by decide +kernel
theorem zyk_130 : zyok zTt zMt 130 := zyB_ok zyb_130 fun pc h => (show (bif Nat.blt pc 53 then _ else zNop) = zNop from zTN h)
theorem zyb_131 : zyB 12 108 (zMt 131) (zTt 131) = true := by decide +kernel
theorem zyk_131 : zyok zTt zMt 131 := zyB_ok zyb_131 fun pc h => (show (bif Nat.blt pc 108 then _ else zNop) = zNop from zTN h)
theorem zyb_132 : zyB 12 180 (zMt 132) (zTt 132) = true := by decide +kernel
theorem zyk_132 : zyok zTt zMt 132 := zyB_ok zyb_132 fun pc h => (show (bif Nat.blt pc 180 then _ else zNop) = zNop from zTN h)
theorem zyb_133 : zyB 12 154 (zMt 133) (zTt 133) = true := by decide +kernel
theorem zyk_133 : zyok zTt zMt 133 := zyB_ok zyb_133 fun pc h => (show (bif Nat.blt pc 154 then _ else zNop) = zNop from zTN h)
theorem zyb_134 : zyB 12 75 (zMt 134) (zTt 134) = true := by decide +kernel
theorem zyk_134 : zyok zTt zMt 134 := zyB_ok zyb_134 fun pc h => (show (bif Nat.blt pc 75 then _ else zNop) = zNop from zTN h)
theorem zyb_135 : zyB 12 26 (zMt 135) (zTt 135) = true := by decide +kernel
theorem zyk_135 : zyok zTt zMt 135 := zyB_ok zyb_135 fun pc h => (show (bif Nat.blt pc 26 then _ else zNop) = zNop from zTN h)
theorem zyb_136 : zyB 12 75 (zMt 136) (zTt 136) = true := by decide +kernel
theorem zyk_136 : zyok zTt zMt 136 := zyB_ok zyb_136 fun pc h => (show (bif Nat.blt pc 75 then _ else zNop) = zNop from zTN h)
theorem zyb_137 : zyB 12 113 (zMt 137) (zTt 137) = true := by decide +kernel
theorem zyk_137 : zyok zTt zMt 137 := zyB_ok zyb_137 fun pc h => (show (bif Nat.blt pc 113 then _ else zNop) = zNop from zTN h)
theorem zyb_138 : zyB 12 29 (zMt 138) (zTt 138) = true := by decide +kernel
theorem zyk_138 : zyok zTt zMt 138 := zyB_ok zyb_138 fun pc h => (show (bif Nat.blt pc 29 then _ else zNop) = zNop from zTN h)
theorem zyb_139 : zyB 12 85 (zMt 139) (zTt 139) = true := by decide +kernel
theorem zyk_139 : zyok zTt zMt 139 := zyB_ok zyb_139 fun pc h => (show (bif Nat.blt pc 85 then _ else zNop) = zNop from zTN h)
theorem zyb_140 : zyB 12 32 (zMt 140) (zTt 140) = true := by decide +kernel
theorem zyk_140 : zyok zTt zMt 140 := zyB_ok zyb_140 fun pc h => (show (bif Nat.blt pc 32 then _ else zNop) = zNop from zTN h)
theorem zyb_141 : zyB 12 74 (zMt 141) (zTt 141) = true := by decide +kernel
theorem zyk_141 : zyok zTt zMt 141 := zyB_ok zyb_141 fun pc h => (show (bif Nat.blt pc 74 then _ else zNop) = zNop from zTN h)
theorem zyb_142 : zyB 12 62 (zMt 142) (zTt 142) = true := by decide +kernel
theorem zyk_142 : zyok zTt zMt 142 := zyB_ok zyb_142 fun pc h => (show (bif Nat.blt pc 62 then _ else zNop) = zNop from zTN h)
