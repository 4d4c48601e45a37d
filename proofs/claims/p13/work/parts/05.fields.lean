theorem gw_all {ws : List Cond} (ps : List Nat) (hp : ws = ps.filterMap (fun i => lw_tbl[i]?)) (h : ws.all gOK = true) : ∀ w ∈ ws, w ∈ gw := by
  intro w hw
  have h1 := List.all_eq_true.mp h w hw
  rw [hp] at hw
  obtain ⟨i, -, hi⟩ := List.mem_filterMap.mp hw
  exact gw_in hi h1
set_option maxRecDepth 20000 in
theorem inX0 : ∀ w ∈ u_ws RX0 TX0 8, w ∈ gw := gw_all [274, 276, 278, 280, 282, 284, 286, 288] (by decide +kernel) (by decide +kernel)
abbrev f0X0 : List Value := [.null, .null, .null, .null, .null, .null, .null, .int 0]
theorem dfX0 : ∀ j, j < 8 → defaultValue (tyX0 j) = vp_V f0X0 j := by decide +kernel
set_option maxRecDepth 20000 in
theorem inX1 : ∀ w ∈ u_ws RX1 TX1 7, w ∈ gw := gw_all [531, 533, 535, 537, 539, 541, 543] (by decide +kernel) (by decide +kernel)
abbrev f0X1 : List Value := [.int 0, .int 0, .null, .int 0, .null, .int 0, .int 0]
theorem dfX1 : ∀ j, j < 7 → defaultValue (tyX1 j) = vp_V f0X1 j := by decide +kernel
set_option maxRecDepth 20000 in
theorem inX2 : ∀ w ∈ u_ws RX2 TX2 6, w ∈ gw := gw_all [377, 379, 381, 383, 385, 387] (by decide +kernel) (by decide +kernel)
abbrev f0X2 : List Value := [.null, .null, .null, .null, .int 0, .int 0]
theorem dfX2 : ∀ j, j < 6 → defaultValue (tyX2 j) = vp_V f0X2 j := by decide +kernel
set_option maxRecDepth 20000 in
theorem inX3 : ∀ w ∈ u_ws RX3 TX3 7, w ∈ gw := gw_all [490, 492, 494, 496, 498, 500, 502] (by decide +kernel) (by decide +kernel)
abbrev f0X3 : List Value := [.null, .null, .null, .null, .int 0, .null, .null]
theorem dfX3 : ∀ j, j < 7 → defaultValue (tyX3 j) = vp_V f0X3 j := by decide +kernel
set_option maxRecDepth 20000 in
theorem inX4 : ∀ w ∈ u_ws RX4 TX4 14, w ∈ gw := gw_all [577, 579, 581, 583, 585, 587, 589, 591, 593, 595, 597, 599, 601, 603] (by decide +kernel) (by decide +kernel)
abbrev f0X4 : List Value := [.null, .null, .null, .int 0, .int 0, .int 0, .int 0, .int 0, .int 0, .int 0, .null, .int 0, .int 0, .int 0]
theorem dfX4 : ∀ j, j < 14 → defaultValue (tyX4 j) = vp_V f0X4 j := by decide +kernel
set_option maxRecDepth 20000 in
theorem inX5 : ∀ w ∈ u_ws RX5 TX5 7, w ∈ gw := gw_all [207, 209, 211, 213, 215, 217, 219] (by decide +kernel) (by decide +kernel)
abbrev f0X5 : List Value := [.null, .null, .null, .null, .null, .int 0, .int 0]
theorem dfX5 : ∀ j, j < 7 → defaultValue (tyX5 j) = vp_V f0X5 j := by decide +kernel
set_option maxRecDepth 20000 in
theorem inX6 : ∀ w ∈ u_ws RX6 TX6 17, w ∈ gw := gw_all [442, 444, 446, 448, 450, 452, 454, 456, 458, 460, 462, 464, 466, 468, 470, 472, 474] (by decide +kernel) (by decide +kernel)
abbrev f0X6 : List Value := [.int 0, .int 0, .null, .null, .null, .null, .null, .int 0, .null, .null, .null, .null, .null, .int 0, .null, .null, .null]
theorem dfX6 : ∀ j, j < 17 → defaultValue (tyX6 j) = vp_V f0X6 j := by decide +kernel
set_option maxRecDepth 20000 in
theorem inX7 : ∀ w ∈ u_ws RX7 TX7 8, w ∈ gw := gw_all [329, 331, 333, 335, 337, 339, 341, 343] (by decide +kernel) (by decide +kernel)
abbrev f0X7 : List Value := [.int 0, .int 0, .int 0, .int 0, .int 0, .int 0, .int 0, .int 0]
theorem dfX7 : ∀ j, j < 8 → defaultValue (tyX7 j) = vp_V f0X7 j := by decide +kernel
set_option maxRecDepth 20000 in
theorem inX8 : ∀ w ∈ u_ws RX8 TX8 6, w ∈ gw := gw_all [352, 354, 356, 358, 360, 362] (by decide +kernel) (by decide +kernel)
abbrev f0X8 : List Value := [.null, .null, .null, .null, .int 0, .int 0]
theorem dfX8 : ∀ j, j < 6 → defaultValue (tyX8 j) = vp_V f0X8 j := by decide +kernel
set_option maxRecDepth 20000 in
theorem inX9 : ∀ w ∈ u_ws RX9 TX9 5, w ∈ gw := gw_all [240, 242, 244, 246, 248] (by decide +kernel) (by decide +kernel)
abbrev f0X9 : List Value := [.null, .null, .null, .int 0, .null]
theorem dfX9 : ∀ j, j < 5 → defaultValue (tyX9 j) = vp_V f0X9 j := by decide +kernel
set_option maxRecDepth 20000 in
theorem inX10 : ∀ w ∈ u_ws RX10 TX10 12, w ∈ gw := gw_all [618, 620, 622, 624, 626, 628, 630, 632, 634, 636, 638, 640] (by decide +kernel) (by decide +kernel)
abbrev f0X10 : List Value := [.null, .int 0, .int 0, .int 0, .null, .null, .null, .null, .null, .null, .null, .null]
theorem dfX10 : ∀ j, j < 12 → defaultValue (tyX10 j) = vp_V f0X10 j := by decide +kernel
set_option maxRecDepth 20000 in
theorem inX11 : ∀ w ∈ u_ws RX11 TX11 85, w ∈ gw := gw_all [1700, 1702, 1704, 1706, 1708, 1710, 1712, 1714, 1716, 1718, 1720, 1722, 1724, 1726, 1728, 1730, 1732, 1734, 1736, 1738, 1740, 1742, 1744, 1746, 1748, 1750, 1752, 1754, 1756, 1758, 1760, 1762, 1764, 1766, 1768, 1770, 1772, 1774, 1776, 1778, 1780, 1782, 1784, 1786, 1788, 1790, 1792, 1794, 1796, 1798, 1800, 1802, 1804, 1806, 1808, 1810, 1812, 1814, 1816, 1818, 1820, 1822, 1824, 1826, 1828, 1830, 1832, 1834, 1836, 1838, 1840, 1842, 1844, 1846, 1848, 1850, 1852, 1854, 1856, 1858, 1860, 1862, 1864, 1866, 1868] (by decide +kernel) (by decide +kernel)
abbrev f0X11 : List Value := [.int 0, .null, .int 0, .int 0, .int 0, .int 0, .int 0, .int 0, .long 0, .int 0, .int 0, .null, .null, .null, .null, .null, .null, .int 0, .int 0, .null, .null, .null, .null, .int 0, .null, .null, .null, .null, .null, .null, .null, .int 0, .int 0, .int 0, .int 0, .null, .null, .int 0, .int 0, .int 0, .int 0, .int 0, .int 0, .null, .null, .null, .null, .null, .null, .null, .null, .null, .null, .null, .null, .null, .null, .null, .null, .null, .int 0, .null, .int 0, .null, .int 0, .int 0, .int 0, .null, .null, .null, .null, .null, .null, .int 0, .null, .null, .int 0, .int 0, .int 0, .null, .int 0, .int 0, .int 0, .int 0, .int 0]
theorem dfX11 : ∀ j, j < 85 → defaultValue (tyX11 j) = vp_V f0X11 j := by decide +kernel
