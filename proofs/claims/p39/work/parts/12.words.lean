/-! Each class's field words are the tables'. -/
theorem zcw_of {ws : List Cond} (ps : List Nat) (hp : ws = ps.filterMap (fun i => lw_tbl[i]?)) (h : ws.all goodWord = true) : ∀ w ∈ ws, w ∈ lw_tbl ∧ goodWord w = true := by
  intro w hw
  refine ⟨?_, List.all_eq_true.mp h w hw⟩
  rw [hp] at hw
  obtain ⟨i, -, hi⟩ := List.mem_filterMap.mp hw
  exact List.mem_of_getElem? hi
theorem zcw0 : ∀ w ∈ u_ws RX0 TX0 18, w ∈ lw_tbl ∧ goodWord w = true := zcw_of [490, 492, 494, 496, 498, 500, 502, 504, 506, 508, 510, 512, 514, 516, 518, 520, 522, 524] (by decide +kernel) (by decide +kernel)
theorem zcw1 : ∀ w ∈ u_ws RX1 TX1 7, w ∈ lw_tbl ∧ goodWord w = true := zcw_of [1082, 1084, 1086, 1088, 1090, 1092, 1094] (by decide +kernel) (by decide +kernel)
theorem zcw2 : ∀ w ∈ u_ws RX2 TX2 4, w ∈ lw_tbl ∧ goodWord w = true := zcw_of [391, 393, 395, 397] (by decide +kernel) (by decide +kernel)
theorem zcw3 : ∀ w ∈ u_ws RX3 TX3 6, w ∈ lw_tbl ∧ goodWord w = true := zcw_of [657, 659, 661, 663, 665, 667] (by decide +kernel) (by decide +kernel)
theorem zcw4 : ∀ w ∈ u_ws RX4 TX4 9, w ∈ lw_tbl ∧ goodWord w = true := zcw_of [1221, 1223, 1225, 1227, 1229, 1231, 1233, 1235, 1237] (by decide +kernel) (by decide +kernel)
theorem zcw5 : ∀ w ∈ u_ws RX5 TX5 4, w ∈ lw_tbl ∧ goodWord w = true := zcw_of [703, 705, 707, 709] (by decide +kernel) (by decide +kernel)
theorem zcw6 : ∀ w ∈ u_ws RX6 TX6 12, w ∈ lw_tbl ∧ goodWord w = true := zcw_of [221, 223, 225, 227, 229, 231, 233, 235, 237, 239, 241, 243] (by decide +kernel) (by decide +kernel)
theorem zcw7 : ∀ w ∈ u_ws RX7 TX7 4, w ∈ lw_tbl ∧ goodWord w = true := zcw_of [544, 546, 548, 550] (by decide +kernel) (by decide +kernel)
theorem zcw8 : ∀ w ∈ u_ws RX8 TX8 6, w ∈ lw_tbl ∧ goodWord w = true := zcw_of [155, 157, 159, 161, 163, 165] (by decide +kernel) (by decide +kernel)
theorem zcw9 : ∀ w ∈ u_ws RX9 TX9 2, w ∈ lw_tbl ∧ goodWord w = true := zcw_of [90, 92] (by decide +kernel) (by decide +kernel)
theorem zcw10 : ∀ w ∈ u_ws RX10 TX10 3, w ∈ lw_tbl ∧ goodWord w = true := zcw_of [120, 122, 124] (by decide +kernel) (by decide +kernel)
theorem zcw11 : ∀ w ∈ u_ws RX11 TX11 6, w ∈ lw_tbl ∧ goodWord w = true := zcw_of [189, 191, 193, 195, 197, 199] (by decide +kernel) (by decide +kernel)
theorem zcw12 : ∀ w ∈ u_ws RX12 TX12 18, w ∈ lw_tbl ∧ goodWord w = true := zcw_of [264, 266, 268, 270, 272, 274, 276, 278, 280, 282, 284, 286, 288, 290, 292, 294, 296, 298] (by decide +kernel) (by decide +kernel)
theorem zcw (ci : Nat) (h : ci < 13) : ∀ w ∈ u_ws (zRX ci) (zTX ci) (zN ci), w ∈ lw_tbl ∧ goodWord w = true := by
  rcases ci with _ | _ | _ | _ | _ | _ | _ | _ | _ | _ | _ | _ | _ | ci
  · exact zcw0
  · exact zcw1
  · exact zcw2
  · exact zcw3
  · exact zcw4
  · exact zcw5
  · exact zcw6
  · exact zcw7
  · exact zcw8
  · exact zcw9
  · exact zcw10
  · exact zcw11
  · exact zcw12
  · omega
theorem zty (ci : Nat) (h : ci < 13) : ∀ k, k < zN ci → parseFieldDescriptor (zTX ci k).2.2.1 = some (zfT ci k) := by
  rcases ci with _ | _ | _ | _ | _ | _ | _ | _ | _ | _ | _ | _ | _ | ci
  · exact tyX0_ok
  · exact tyX1_ok
  · exact tyX2_ok
  · exact tyX3_ok
  · exact tyX4_ok
  · exact tyX5_ok
  · exact tyX6_ok
  · exact tyX7_ok
  · exact tyX8_ok
  · exact tyX9_ok
  · exact tyX10_ok
  · exact tyX11_ok
  · exact tyX12_ok
  · omega
theorem znm (ci : Nat) (h : ci < 13) : ∀ a, a < zN ci → ∀ b, b < zN ci → a ≠ b → (zTX ci a).2.1 ≠ (zTX ci b).2.1 := by
  rcases ci with _ | _ | _ | _ | _ | _ | _ | _ | _ | _ | _ | _ | _ | ci
  · exact nmX0
  · exact nmX1
  · exact nmX2
  · exact nmX3
  · exact nmX4
  · exact nmX5
  · exact nmX6
  · exact nmX7
  · exact nmX8
  · exact nmX9
  · exact nmX10
  · exact nmX11
  · exact nmX12
  · omega
theorem zdf (ci : Nat) (h : ci < 13) : ∀ k, k < zN ci → zcode (zfT ci k) ≤ 5 ∧ (zTX ci k).1 = zRX ci := by
  rcases ci with _ | _ | _ | _ | _ | _ | _ | _ | _ | _ | _ | _ | _ | ci
  all_goals first | omega | decide +kernel
