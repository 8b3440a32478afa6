/-! ===== paths: the runs ===== -/
set_option maxRecDepth 1000000 in
theorem rp_137 : rh_end (rh_R [(1, -2147483648, 2147483647, true), (6, 21, 21, false)]) (rg_run 6 rg_xs [.inl false, .inl false, .inl false, .inl false, .inl false, .inl false, .inl false, .inr 21, .inl false, .inl false] 27410) = true := by decide +kernel
set_option maxRecDepth 1000000 in
theorem rp_138 : rh_end (rh_R [(1, -2147483648, -1, false), (6, 22, 22, false)]) (rg_run 6 rg_xs [.inl false, .inl false, .inl false, .inl false, .inl false, .inl false, .inl false, .inr 22, .inl true, .inl true] 1820) = true := by decide +kernel
set_option maxRecDepth 1000000 in
theorem rp_139 : rh_end (rh_R [(1, 0, 2147483647, false), (6, 22, 22, false)]) (rg_run 6 rg_xs [.inl false, .inl false, .inl false, .inl false, .inl false, .inl false, .inl false, .inr 22, .inl false, .inl false, .inl false, .inl true] 1828) = true := by decide +kernel
set_option maxRecDepth 1000000 in
theorem rp_140 : rh_end (rh_R [(1, -2147483648, -1, false), (6, 23, 23, false)]) (rg_run 6 rg_xs [.inl false, .inl false, .inl false, .inl false, .inl false, .inl false, .inl false, .inr 23, .inl true, .inl true] 1831) = true := by decide +kernel
set_option maxRecDepth 1000000 in
theorem rp_141 : rh_end (rh_R [(1, 0, 2147483647, false), (6, 23, 23, false)]) (rg_run 6 rg_xs [.inl false, .inl false, .inl false, .inl false, .inl false, .inl false, .inl false, .inr 23, .inl false, .inl false, .inl false, .inl true] 1839) = true := by decide +kernel
set_option maxRecDepth 1000000 in
theorem rp_142 : rh_end (rh_R [(1, -2147483648, -1, false), (6, 24, 24, false)]) (rg_run 6 rg_xs [.inl false, .inl false, .inl false, .inl false, .inl false, .inl false, .inl false, .inr 24, .inl true, .inl true] 1842) = true := by decide +kernel
set_option maxRecDepth 1000000 in
theorem rp_143 : rh_end (rh_R [(1, 0, 2147483647, false), (6, 24, 24, false)]) (rg_run 6 rg_xs [.inl false, .inl false, .inl false, .inl false, .inl false, .inl false, .inl false, .inr 24, .inl false, .inl false, .inl false, .inl true] 1850) = true := by decide +kernel
set_option maxRecDepth 1000000 in
theorem rp_25_0 : rh_end (rh_R [(6, 25, 25, false)]) (rg_run 6 (rg_x1 (Int32.ofNat 0)) [.inl false, .inl false, .inl false, .inl false, .inl false, .inl false, .inl false, .inr 25] 27200) = true := by decide +kernel
set_option maxRecDepth 1000000 in
theorem rp_25_1 : rh_end (rh_R [(6, 25, 25, false)]) (rg_run 6 (rg_x1 (Int32.ofNat 1)) [.inl false, .inl false, .inl false, .inl false, .inl false, .inl false, .inl false, .inr 25] 27200) = true := by decide +kernel
set_option maxRecDepth 1000000 in
theorem rp_25_2 : rh_end (rh_R [(6, 25, 25, false)]) (rg_run 6 (rg_x1 (Int32.ofNat 2)) [.inl false, .inl false, .inl false, .inl false, .inl false, .inl false, .inl false, .inr 25] 27200) = true := by decide +kernel
set_option maxRecDepth 1000000 in
theorem rp_25_3 : rh_end (rh_R [(6, 25, 25, false)]) (rg_run 6 (rg_x1 (Int32.ofNat 3)) [.inl false, .inl false, .inl false, .inl false, .inl false, .inl false, .inl false, .inr 25] 27200) = true := by decide +kernel
set_option maxRecDepth 1000000 in
theorem rp_25_4 : rh_end (rh_R [(6, 25, 25, false)]) (rg_run 6 (rg_x1 (Int32.ofNat 4)) [.inl false, .inl false, .inl false, .inl false, .inl false, .inl false, .inl false, .inr 25] 27200) = true := by decide +kernel
set_option maxRecDepth 1000000 in
theorem rp_25_5 : rh_end (rh_R [(6, 25, 25, false)]) (rg_run 6 (rg_x1 (Int32.ofNat 5)) [.inl false, .inl false, .inl false, .inl false, .inl false, .inl false, .inl false, .inr 25] 27200) = true := by decide +kernel
set_option maxRecDepth 1000000 in
theorem rp_25_6 : rh_end (rh_R [(6, 25, 25, false)]) (rg_run 6 (rg_x1 (Int32.ofNat 6)) [.inl false, .inl false, .inl false, .inl false, .inl false, .inl false, .inl false, .inr 25] 27200) = true := by decide +kernel
