/-! Each class's field words are the tables'. -/
theorem zcw_of {ws : List Cond} (ps : List Nat) (hp : ws = ps.filterMap (fun i => lw_tbl[i]?)) (h : ws.all goodWord = true) : ∀ w ∈ ws, w ∈ lw_tbl ∧ goodWord w = true := by
  intro w hw
  refine ⟨?_, List.all_eq_true.mp h w hw⟩
  rw [hp] at hw
  obtain ⟨i, -, hi⟩ := List.mem_filterMap.mp hw
  exact List.mem_of_getElem? hi
theorem zcw0 : ∀ w ∈ u_ws RX0 TX0 18, w ∈ lw_tbl ∧ goodWord w = true := zcw_of [1092, 1094, 1096, 1098, 1100, 1102, 1104, 1106, 1108, 1110, 1112, 1114, 1116, 1118, 1120, 1122, 1124, 1126] (by decide +kernel) (by decide +kernel)
theorem zcw1 : ∀ w ∈ u_ws RX1 TX1 7, w ∈ lw_tbl ∧ goodWord w = true := zcw_of [1174, 1176, 1178, 1180, 1182, 1184, 1186] (by decide +kernel) (by decide +kernel)
theorem zcw2 : ∀ w ∈ u_ws RX2 TX2 4, w ∈ lw_tbl ∧ goodWord w = true := zcw_of [538, 540, 542, 544] (by decide +kernel) (by decide +kernel)
theorem zcw3 : ∀ w ∈ u_ws RX3 TX3 6, w ∈ lw_tbl ∧ goodWord w = true := zcw_of [612, 614, 616, 618, 620, 622] (by decide +kernel) (by decide +kernel)
theorem zcw4 : ∀ w ∈ u_ws RX4 TX4 9, w ∈ lw_tbl ∧ goodWord w = true := zcw_of [1324, 1326, 1328, 1330, 1332, 1334, 1336, 1338, 1340] (by decide +kernel) (by decide +kernel)
theorem zcw5 : ∀ w ∈ u_ws RX5 TX5 4, w ∈ lw_tbl ∧ goodWord w = true := zcw_of [661, 663, 665, 667] (by decide +kernel) (by decide +kernel)
theorem zcw6 : ∀ w ∈ u_ws RX6 TX6 12, w ∈ lw_tbl ∧ goodWord w = true := zcw_of [284, 286, 288, 290, 292, 294, 296, 298, 300, 302, 304, 306] (by decide +kernel) (by decide +kernel)
theorem zcw7 : ∀ w ∈ u_ws RX7 TX7 4, w ∈ lw_tbl ∧ goodWord w = true := zcw_of [1425, 1427, 1429, 1431] (by decide +kernel) (by decide +kernel)
theorem zcw8 : ∀ w ∈ u_ws RX8 TX8 6, w ∈ lw_tbl ∧ goodWord w = true := zcw_of [218, 220, 222, 224, 226, 228] (by decide +kernel) (by decide +kernel)
theorem zcw9 : ∀ w ∈ u_ws RX9 TX9 2, w ∈ lw_tbl ∧ goodWord w = true := zcw_of [153, 155] (by decide +kernel) (by decide +kernel)
theorem zcw10 : ∀ w ∈ u_ws RX10 TX10 3, w ∈ lw_tbl ∧ goodWord w = true := zcw_of [183, 185, 187] (by decide +kernel) (by decide +kernel)
theorem zcw11 : ∀ w ∈ u_ws RX11 TX11 6, w ∈ lw_tbl ∧ goodWord w = true := zcw_of [252, 254, 256, 258, 260, 262] (by decide +kernel) (by decide +kernel)
theorem zcw12 : ∀ w ∈ u_ws RX12 TX12 18, w ∈ lw_tbl ∧ goodWord w = true := zcw_of [327, 329, 331, 333, 335, 337, 339, 341, 343, 345, 347, 349, 351, 353, 355, 357, 359, 361] (by decide +kernel) (by decide +kernel)
theorem zcw13 : ∀ w ∈ u_ws RX13 TX13 95, w ∈ lw_tbl ∧ goodWord w = true := zcw_of [1655, 1657, 1659, 1661, 1663, 1665, 1667, 1669, 1671, 1673, 1675, 1677, 1679, 1681, 1683, 1685, 1687, 1689, 1691, 1693, 1695, 1697, 1699, 1701, 1703, 1705, 1707, 1709, 1711, 1713, 1715, 1717, 1719, 1721, 1723, 1725, 1727, 1729, 1731, 1733, 1735, 1737, 1739, 1741, 1743, 1745, 1747, 1749, 1751, 1753, 1755, 1757, 1759, 1761, 1763, 1765, 1767, 1769, 1771, 1773, 1775, 1777, 1779, 1781, 1783, 1785, 1787, 1789, 1791, 1793, 1795, 1797, 1799, 1801, 1803, 1805, 1807, 1809, 1811, 1813, 1815, 1817, 1819, 1821, 1823, 1825, 1827, 1829, 1831, 1833, 1835, 1837, 1839, 1841, 1843] (by decide +kernel) (by decide +kernel)
theorem zcw (ci : Nat) (h : ci < 14) : ∀ w ∈ u_ws (zRX ci) (zTX ci) (zN ci), w ∈ lw_tbl ∧ goodWord w = true := by
  rcases ci with _ | _ | _ | _ | _ | _ | _ | _ | _ | _ | _ | _ | _ | _ | ci
  · exact zcw0
  · exact zcw1
  · exact zcw2
  · exact zcw3
  · exact zcw4
  · exact zcw5
  · exact zcw6
  · exact zcw7
  · exact zcw8
  · exact zcw9
  · exact zcw10
  · exact zcw11
  · exact zcw12
  · exact zcw13
  · omega
theorem zty (ci : Nat) (h : ci < 14) : ∀ k, k < zN ci → parseFieldDescriptor (zTX ci k).2.2.1 = some (zfT ci k) := by
  rcases ci with _ | _ | _ | _ | _ | _ | _ | _ | _ | _ | _ | _ | _ | _ | ci
  · exact tyX0_ok
  · exact tyX1_ok
  · exact tyX2_ok
  · exact tyX3_ok
  · exact tyX4_ok
  · exact tyX5_ok
  · exact tyX6_ok
  · exact tyX7_ok
  · exact tyX8_ok
  · exact tyX9_ok
  · exact tyX10_ok
  · exact tyX11_ok
  · exact tyX12_ok
  · exact tyX13_ok
  · omega
theorem znm (ci : Nat) (h : ci < 14) : ∀ a, a < zN ci → ∀ b, b < zN ci → a ≠ b → (zTX ci a).2.1 ≠ (zTX ci b).2.1 := by
  rcases ci with _ | _ | _ | _ | _ | _ | _ | _ | _ | _ | _ | _ | _ | _ | ci
  · exact nmX0
  · exact nmX1
  · exact nmX2
  · exact nmX3
  · exact nmX4
  · exact nmX5
  · exact nmX6
  · exact nmX7
  · exact nmX8
  · exact nmX9
  · exact nmX10
  · exact nmX11
  · exact nmX12
  · exact nmX13
  · omega
theorem zdf (ci : Nat) (h : ci < 14) : ∀ k, k < zN ci → zcode (zfT ci k) ≤ 5 ∧ (zTX ci k).1 = zRX ci := by
  rcases ci with _ | _ | _ | _ | _ | _ | _ | _ | _ | _ | _ | _ | _ | _ | ci
  all_goals first | omega | decide +kernel
