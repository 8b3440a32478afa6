/-! ===== paths: the runs ===== -/
set_option maxRecDepth 1000000 in
theorem rp_11_50 : rh_end (rh_R [(6, 11, 11, false)]) (rg_run 6 (rg_x1 (Int32.ofNat 50)) [.inl false, .inl false, .inl false, .inl false, .inl false, .inl false, .inl false, .inr 11] 9560) = true := by decide +kernel
set_option maxRecDepth 1000000 in
theorem rp_11_51 : rh_end (rh_R [(6, 11, 11, false)]) (rg_run 6 (rg_x1 (Int32.ofNat 51)) [.inl false, .inl false, .inl false, .inl false, .inl false, .inl false, .inl false, .inr 11] 9560) = true := by decide +kernel
set_option maxRecDepth 1000000 in
theorem rp_11_52 : rh_end (rh_R [(6, 11, 11, false)]) (rg_run 6 (rg_x1 (Int32.ofNat 52)) [.inl false, .inl false, .inl false, .inl false, .inl false, .inl false, .inl false, .inr 11] 9560) = true := by decide +kernel
set_option maxRecDepth 1000000 in
theorem rp_11_53 : rh_end (rh_R [(6, 11, 11, false)]) (rg_run 6 (rg_x1 (Int32.ofNat 53)) [.inl false, .inl false, .inl false, .inl false, .inl false, .inl false, .inl false, .inr 11] 9560) = true := by decide +kernel
set_option maxRecDepth 1000000 in
theorem rp_11_54 : rh_end (rh_R [(6, 11, 11, false)]) (rg_run 6 (rg_x1 (Int32.ofNat 54)) [.inl false, .inl false, .inl false, .inl false, .inl false, .inl false, .inl false, .inr 11] 9560) = true := by decide +kernel
set_option maxRecDepth 1000000 in
theorem rp_11_55 : rh_end (rh_R [(6, 11, 11, false)]) (rg_run 6 (rg_x1 (Int32.ofNat 55)) [.inl false, .inl false, .inl false, .inl false, .inl false, .inl false, .inl false, .inr 11] 9560) = true := by decide +kernel
set_option maxRecDepth 1000000 in
theorem rp_11_56 : rh_end (rh_R [(6, 11, 11, false)]) (rg_run 6 (rg_x1 (Int32.ofNat 56)) [.inl false, .inl false, .inl false, .inl false, .inl false, .inl false, .inl false, .inr 11] 9560) = true := by decide +kernel
set_option maxRecDepth 1000000 in
theorem rp_11_57 : rh_end (rh_R [(6, 11, 11, false)]) (rg_run 6 (rg_x1 (Int32.ofNat 57)) [.inl false, .inl false, .inl false, .inl false, .inl false, .inl false, .inl false, .inr 11] 9560) = true := by decide +kernel
set_option maxRecDepth 1000000 in
theorem rp_11_58 : rh_end (rh_R [(6, 11, 11, false)]) (rg_run 6 (rg_x1 (Int32.ofNat 58)) [.inl false, .inl false, .inl false, .inl false, .inl false, .inl false, .inl false, .inr 11] 9560) = true := by decide +kernel
set_option maxRecDepth 1000000 in
theorem rp_11_59 : rh_end (rh_R [(6, 11, 11, false)]) (rg_run 6 (rg_x1 (Int32.ofNat 59)) [.inl false, .inl false, .inl false, .inl false, .inl false, .inl false, .inl false, .inr 11] 9560) = true := by decide +kernel
set_option maxRecDepth 1000000 in
theorem rp_11_60 : rh_end (rh_R [(6, 11, 11, false)]) (rg_run 6 (rg_x1 (Int32.ofNat 60)) [.inl false, .inl false, .inl false, .inl false, .inl false, .inl false, .inl false, .inr 11] 9560) = true := by decide +kernel
set_option maxRecDepth 1000000 in
theorem rp_114 : rh_end (rh_R [(1, -2147483648, 0, false), (6, 11, 11, false)]) (rg_run 6 rg_xs [.inl false, .inl false, .inl false, .inl false, .inl false, .inl false, .inl false, .inr 11, .inl true, .inl true] 1809) = true := by decide +kernel
set_option maxRecDepth 1000000 in
theorem rp_115 : rh_end (rh_R [(1, 61, 2147483647, false), (6, 11, 11, false)]) (rg_run 6 rg_xs [.inl false, .inl false, .inl false, .inl false, .inl false, .inl false, .inl false, .inr 11, .inl false, .inl false, .inl false, .inl true] 1815) = true := by decide +kernel
set_option maxRecDepth 1000000 in
theorem rp_116 : rh_end (rh_R [(1, -2147483648, -1, false), (6, 12, 12, false)]) (rg_run 6 rg_xs [.inl false, .inl false, .inl false, .inl false, .inl false, .inl false, .inl false, .inr 12, .inl true, .inl true] 1841) = true := by decide +kernel
set_option maxRecDepth 1000000 in
theorem rp_117 : rh_end (rh_R [(1, 0, 2147483647, false), (6, 12, 12, false)]) (rg_run 6 rg_xs [.inl false, .inl false, .inl false, .inl false, .inl false, .inl false, .inl false, .inr 12, .inl false, .inl false, .inl false, .inl true] 1849) = true := by decide +kernel
set_option maxRecDepth 1000000 in
theorem rp_118 : rh_end (rh_R [(1, -2147483648, -1, false), (6, 13, 13, false)]) (rg_run 6 rg_xs [.inl false, .inl false, .inl false, .inl false, .inl false, .inl false, .inl false, .inr 13, .inl true, .inl true] 1831) = true := by decide +kernel
set_option maxRecDepth 1000000 in
theorem rp_119 : rh_end (rh_R [(1, 0, 2147483647, false), (6, 13, 13, false)]) (rg_run 6 rg_xs [.inl false, .inl false, .inl false, .inl false, .inl false, .inl false, .inl false, .inr 13, .inl false, .inl false, .inl false, .inl true] 1839) = true := by decide +kernel
set_option maxRecDepth 1000000 in
theorem rp_120 : rh_end (rh_R [(1, -2147483648, -1, false), (6, 14, 14, false)]) (rg_run 6 rg_xs [.inl false, .inl false, .inl false, .inl false, .inl false, .inl false, .inl false, .inr 14, .inl true, .inl true] 1831) = true := by decide +kernel
set_option maxRecDepth 1000000 in
theorem rp_121 : rh_end (rh_R [(1, 0, 2147483647, false), (6, 14, 14, false)]) (rg_run 6 rg_xs [.inl false, .inl false, .inl false, .inl false, .inl false, .inl false, .inl false, .inr 14, .inl false, .inl false, .inl false, .inl true] 1839) = true := by decide +kernel
set_option maxRecDepth 1000000 in
theorem rp_122 : rh_end (rh_R [(1, -2147483648, -1, false), (6, 15, 15, false)]) (rg_run 6 rg_xs [.inl false, .inl false, .inl false, .inl false, .inl false, .inl false, .inl false, .inr 15, .inl true, .inl true] 1853) = true := by decide +kernel
set_option maxRecDepth 1000000 in
theorem rp_123 : rh_end (rh_R [(1, 0, 2147483647, false), (6, 15, 15, false)]) (rg_run 6 rg_xs [.inl false, .inl false, .inl false, .inl false, .inl false, .inl false, .inl false, .inr 15, .inl false, .inl false, .inl false, .inl true] 1861) = true := by decide +kernel
set_option maxRecDepth 1000000 in
theorem rp_124 : rh_end (rh_R [(1, -2147483648, -1, false), (6, 16, 16, false)]) (rg_run 6 rg_xs [.inl false, .inl false, .inl false, .inl false, .inl false, .inl false, .inl false, .inr 16, .inl true, .inl true] 1831) = true := by decide +kernel
set_option maxRecDepth 1000000 in
theorem rp_125 : rh_end (rh_R [(1, 0, 2147483647, false), (6, 16, 16, false)]) (rg_run 6 rg_xs [.inl false, .inl false, .inl false, .inl false, .inl false, .inl false, .inl false, .inr 16, .inl false, .inl false, .inl false, .inl true] 1839) = true := by decide +kernel
set_option maxRecDepth 1000000 in
theorem rp_126 : rh_end (rh_R [(1, -2147483648, -1, false), (2, 0, 0, false), (6, 17, 17, false)]) (rg_run 6 rg_xs [.inl false, .inl false, .inl false, .inl false, .inl false, .inl false, .inl false, .inr 17, .inl true, .inl true, .inl true, .inl true] 1835) = true := by decide +kernel
set_option maxRecDepth 1000000 in
theorem rp_127 : rh_end (rh_R [(1, 0, 2147483647, false), (2, 0, 0, false), (6, 17, 17, false)]) (rg_run 6 rg_xs [.inl false, .inl false, .inl false, .inl false, .inl false, .inl false, .inl false, .inr 17, .inl true, .inl false, .inl false, .inl true, .inl false, .inl true] 1843) = true := by decide +kernel
set_option maxRecDepth 1000000 in
theorem rp_128 : rh_end (rh_R [(1, -2147483648, -1, false), (2, -2147483648, 2147483647, true), (6, 17, 17, false)]) (rg_run 6 rg_xs [.inl false, .inl false, .inl false, .inl false, .inl false, .inl false, .inl false, .inr 17, .inl false, .inl true, .inl false, .inl true] 1837) = true := by decide +kernel
set_option maxRecDepth 1000000 in
theorem rp_129 : rh_end (rh_R [(1, 0, 2147483647, false), (2, -2147483648, 2147483647, true), (6, 17, 17, false)]) (rg_run 6 rg_xs [.inl false, .inl false, .inl false, .inl false, .inl false, .inl false, .inl false, .inr 17, .inl false, .inl false, .inl false, .inl false, .inl false, .inl true] 1845) = true := by decide +kernel
set_option maxRecDepth 1000000 in
theorem rp_130 : rh_end (rh_R [(1, -2147483648, -1, false), (6, 18, 18, false)]) (rg_run 6 rg_xs [.inl false, .inl false, .inl false, .inl false, .inl false, .inl false, .inl false, .inr 18, .inl true, .inl true] 1842) = true := by decide +kernel
set_option maxRecDepth 1000000 in
theorem rp_131 : rh_end (rh_R [(1, 0, 2147483647, false), (6, 18, 18, false)]) (rg_run 6 rg_xs [.inl false, .inl false, .inl false, .inl false, .inl false, .inl false, .inl false, .inr 18, .inl false, .inl false, .inl false, .inl true] 1850) = true := by decide +kernel
set_option maxRecDepth 1000000 in
theorem rp_132 : rh_end (rh_R [(1, -2147483648, -1, false), (6, 19, 19, false)]) (rg_run 6 rg_xs [.inl false, .inl false, .inl false, .inl false, .inl false, .inl false, .inl false, .inr 19, .inl true, .inl true] 1831) = true := by decide +kernel
set_option maxRecDepth 1000000 in
theorem rp_133 : rh_end (rh_R [(1, 0, 2147483647, false), (6, 19, 19, false)]) (rg_run 6 rg_xs [.inl false, .inl false, .inl false, .inl false, .inl false, .inl false, .inl false, .inr 19, .inl false, .inl false, .inl false, .inl true] 1839) = true := by decide +kernel
set_option maxRecDepth 1000000 in
theorem rp_134 : rh_end (rh_R [(1, -2147483648, -1, false), (6, 20, 20, false)]) (rg_run 6 rg_xs [.inl false, .inl false, .inl false, .inl false, .inl false, .inl false, .inl false, .inr 20, .inl true, .inl true] 1841) = true := by decide +kernel
set_option maxRecDepth 1000000 in
theorem rp_135 : rh_end (rh_R [(1, 0, 2147483647, false), (6, 20, 20, false)]) (rg_run 6 rg_xs [.inl false, .inl false, .inl false, .inl false, .inl false, .inl false, .inl false, .inr 20, .inl false, .inl false, .inl false, .inl true] 1849) = true := by decide +kernel
set_option maxRecDepth 1000000 in
theorem rp_136 : rh_end (rh_R [(1, 0, 0, false), (6, 21, 21, false)]) (rg_run 6 rg_xs [.inl false, .inl false, .inl false, .inl false, .inl false, .inl false, .inl false, .inr 21, .inl true, .inl true] 27406) = true := by decide +kernel
