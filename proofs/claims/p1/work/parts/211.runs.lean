/-! ===== paths: the runs ===== -/
set_option maxRecDepth 1000000 in
theorem rp_25_57 : rh_end (rh_R [(6, 25, 25, false)]) (rg_run 6 (rg_x1 (Int32.ofNat 57)) [.inl false, .inl false, .inl false, .inl false, .inl false, .inl false, .inl false, .inr 25] 27200) = true := by decide +kernel
set_option maxRecDepth 1000000 in
theorem rp_25_58 : rh_end (rh_R [(6, 25, 25, false)]) (rg_run 6 (rg_x1 (Int32.ofNat 58)) [.inl false, .inl false, .inl false, .inl false, .inl false, .inl false, .inl false, .inr 25] 27200) = true := by decide +kernel
set_option maxRecDepth 1000000 in
theorem rp_25_59 : rh_end (rh_R [(6, 25, 25, false)]) (rg_run 6 (rg_x1 (Int32.ofNat 59)) [.inl false, .inl false, .inl false, .inl false, .inl false, .inl false, .inl false, .inr 25] 27200) = true := by decide +kernel
set_option maxRecDepth 1000000 in
theorem rp_25_60 : rh_end (rh_R [(6, 25, 25, false)]) (rg_run 6 (rg_x1 (Int32.ofNat 60)) [.inl false, .inl false, .inl false, .inl false, .inl false, .inl false, .inl false, .inr 25] 27200) = true := by decide +kernel
set_option maxRecDepth 1000000 in
theorem rp_205 : rh_end (rh_R [(1, -2147483648, -1, false), (6, 25, 25, false)]) (rg_run 6 rg_xs [.inl false, .inl false, .inl false, .inl false, .inl false, .inl false, .inl false, .inr 25, .inl true, .inl true] 1809) = true := by decide +kernel
set_option maxRecDepth 1000000 in
theorem rp_206 : rh_end (rh_R [(1, 61, 2147483647, false), (6, 25, 25, false)]) (rg_run 6 rg_xs [.inl false, .inl false, .inl false, .inl false, .inl false, .inl false, .inl false, .inr 25, .inl false, .inl false, .inl false, .inl true] 1815) = true := by decide +kernel
set_option maxRecDepth 1000000 in
theorem rp_207 : rh_end (rh_R [(1, -2147483648, -1, false), (3, 0, 0, false), (6, 26, 26, false)]) (rg_run 6 rg_xs [.inl false, .inl false, .inl false, .inl false, .inl false, .inl false, .inl false, .inr 26, .inl true, .inl true, .inl true, .inl true] 1846) = true := by decide +kernel
set_option maxRecDepth 1000000 in
theorem rp_208 : rh_end (rh_R [(1, 0, 2147483647, false), (3, 0, 0, false), (6, 26, 26, false)]) (rg_run 6 rg_xs [.inl false, .inl false, .inl false, .inl false, .inl false, .inl false, .inl false, .inr 26, .inl true, .inl false, .inl false, .inl true, .inl false, .inl true] 1854) = true := by decide +kernel
set_option maxRecDepth 1000000 in
theorem rp_209 : rh_end (rh_R [(1, -2147483648, -1, false), (3, -2147483648, 2147483647, true), (6, 26, 26, false)]) (rg_run 6 rg_xs [.inl false, .inl false, .inl false, .inl false, .inl false, .inl false, .inl false, .inr 26, .inl false, .inl true, .inl false, .inl true] 1848) = true := by decide +kernel
set_option maxRecDepth 1000000 in
theorem rp_210 : rh_end (rh_R [(1, 0, 2147483647, false), (3, -2147483648, 2147483647, true), (6, 26, 26, false)]) (rg_run 6 rg_xs [.inl false, .inl false, .inl false, .inl false, .inl false, .inl false, .inl false, .inr 26, .inl false, .inl false, .inl false, .inl false, .inl false, .inl true] 1856) = true := by decide +kernel
set_option maxRecDepth 1000000 in
theorem rp_211 : rh_end (rh_R [(1, -2147483648, -1, false), (6, 27, 27, false)]) (rg_run 6 rg_xs [.inl false, .inl false, .inl false, .inl false, .inl false, .inl false, .inl false, .inr 27, .inl true, .inl true] 1839) = true := by decide +kernel
set_option maxRecDepth 1000000 in
theorem rp_212 : rh_end (rh_R [(1, 0, 2147483647, false), (6, 27, 27, false)]) (rg_run 6 rg_xs [.inl false, .inl false, .inl false, .inl false, .inl false, .inl false, .inl false, .inr 27, .inl false, .inl false, .inl false, .inl true] 1847) = true := by decide +kernel
set_option maxRecDepth 1000000 in
theorem rp_213 : rh_end (rh_R [(1, -2147483648, -1, false), (6, 28, 28, false)]) (rg_run 6 rg_xs [.inl false, .inl false, .inl false, .inl false, .inl false, .inl false, .inl false, .inr 28, .inl true, .inl true] 1839) = true := by decide +kernel
set_option maxRecDepth 1000000 in
theorem rp_214 : rh_end (rh_R [(1, 0, 2147483647, false), (6, 28, 28, false)]) (rg_run 6 rg_xs [.inl false, .inl false, .inl false, .inl false, .inl false, .inl false, .inl false, .inr 28, .inl false, .inl false, .inl false, .inl true] 1847) = true := by decide +kernel
set_option maxRecDepth 1000000 in
theorem rp_29_0 : rh_end (rh_R [(6, 29, 29, false)]) (rg_run 6 (rg_x1 (Int32.ofNat 0)) [.inl false, .inl false, .inl false, .inl false, .inl false, .inl false, .inl false, .inr 29] 22558) = true := by decide +kernel
set_option maxRecDepth 1000000 in
theorem rp_29_1 : rh_end (rh_R [(6, 29, 29, false)]) (rg_run 6 (rg_x1 (Int32.ofNat 1)) [.inl false, .inl false, .inl false, .inl false, .inl false, .inl false, .inl false, .inr 29] 22558) = true := by decide +kernel
