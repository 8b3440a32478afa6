/-! ===== paths: the runs ===== -/
set_option maxRecDepth 1000000 in
theorem rp_29_59 : rh_end (rh_R [(6, 29, 29, false)]) (rg_run 6 (rg_x1 (Int32.ofNat 59)) [.inl false, .inl false, .inl false, .inl false, .inl false, .inl false, .inl false, .inr 29] 22558) = true := by decide +kernel
set_option maxRecDepth 1000000 in
theorem rp_29_60 : rh_end (rh_R [(6, 29, 29, false)]) (rg_run 6 (rg_x1 (Int32.ofNat 60)) [.inl false, .inl false, .inl false, .inl false, .inl false, .inl false, .inl false, .inr 29] 22558) = true := by decide +kernel
set_option maxRecDepth 1000000 in
theorem rp_276 : rh_end (rh_R [(1, -2147483648, -1, false), (6, 29, 29, false)]) (rg_run 6 rg_xs [.inl false, .inl false, .inl false, .inl false, .inl false, .inl false, .inl false, .inr 29, .inl true, .inl true] 1812) = true := by decide +kernel
set_option maxRecDepth 1000000 in
theorem rp_277 : rh_end (rh_R [(1, 61, 2147483647, false), (6, 29, 29, false)]) (rg_run 6 rg_xs [.inl false, .inl false, .inl false, .inl false, .inl false, .inl false, .inl false, .inr 29, .inl false, .inl false, .inl false, .inl true] 1818) = true := by decide +kernel
set_option maxRecDepth 1000000 in
theorem rp_278 : rh_end (rh_R [(1, -2147483648, -1, false), (6, 30, 30, false)]) (rg_run 6 rg_xs [.inl false, .inl false, .inl false, .inl false, .inl false, .inl false, .inl false, .inr 30, .inl true, .inl true] 1804) = true := by decide +kernel
set_option maxRecDepth 1000000 in
theorem rp_279 : rh_end (rh_R [(1, 0, 8, false), (6, 30, 30, false)]) (rg_run 6 rg_xs [.inl false, .inl false, .inl false, .inl false, .inl false, .inl false, .inl false, .inr 30, .inl false, .inl true, .inl false, .inl false] 1840) = true := by decide +kernel
set_option maxRecDepth 1000000 in
theorem rp_280 : rh_end (rh_R [(1, 9, 2147483647, false), (6, 30, 30, false)]) (rg_run 6 rg_xs [.inl false, .inl false, .inl false, .inl false, .inl false, .inl false, .inl false, .inr 30, .inl false, .inl false, .inl false, .inl true] 1810) = true := by decide +kernel
set_option maxRecDepth 1000000 in
theorem rp_281 : rh_end (rh_R [(1, -2147483648, -1, false), (6, 31, 31, false)]) (rg_run 6 rg_xs [.inl false, .inl false, .inl false, .inl false, .inl false, .inl false, .inl false, .inr 31, .inl true, .inl true] 1807) = true := by decide +kernel
set_option maxRecDepth 1000000 in
theorem rp_282 : rh_end (rh_R [(1, 0, 2147483647, false), (6, 31, 31, false)]) (rg_run 6 rg_xs [.inl false, .inl false, .inl false, .inl false, .inl false, .inl false, .inl false, .inr 31, .inl false, .inl false, .inl false, .inl false] 1815) = true := by decide +kernel
set_option maxRecDepth 1000000 in
theorem rp_283 : rh_end (rh_R [(2, -2147483648, -1, false), (6, 32, 32, false)]) (rg_run 6 rg_xs [.inl false, .inl false, .inl false, .inl false, .inl false, .inl false, .inl false, .inr 32, .inl true, .inl true] 1815) = true := by decide +kernel
set_option maxRecDepth 1000000 in
theorem rp_284 : rh_end (rh_R [(1, -2147483648, -1, false), (2, 0, 3, false), (6, 32, 32, false)]) (rg_run 6 rg_xs [.inl false, .inl false, .inl false, .inl false, .inl false, .inl false, .inl false, .inr 32, .inl false, .inl true, .inl true, .inl false, .inl false, .inl true] 1846) = true := by decide +kernel
set_option maxRecDepth 1000000 in
theorem rp_285 : rh_end (rh_R [(1, 0, 2147483647, false), (2, 0, 3, false), (6, 32, 32, false)]) (rg_run 6 rg_xs [.inl false, .inl false, .inl false, .inl false, .inl false, .inl false, .inl false, .inr 32, .inl false, .inl true, .inl false, .inl false, .inl false, .inl false, .inl false, .inl true] 1855) = true := by decide +kernel
set_option maxRecDepth 1000000 in
theorem rp_286 : rh_end (rh_R [(2, 4, 2147483647, false), (6, 32, 32, false)]) (rg_run 6 rg_xs [.inl false, .inl false, .inl false, .inl false, .inl false, .inl false, .inl false, .inr 32, .inl false, .inl false, .inl false, .inl true] 1821) = true := by decide +kernel
set_option maxRecDepth 1000000 in
theorem rp_287 : rh_end (rh_R [(6, 33, 33, false)]) (rg_run 6 rg_xs [.inl false, .inl false, .inl false, .inl false, .inl false, .inl false, .inl false, .inr 33] 9430) = true := by decide +kernel
set_option maxRecDepth 1000000 in
theorem rp_288 : rh_end (rh_R [(6, 34, 34, false)]) (rg_run 6 rg_xs [.inl false, .inl false, .inl false, .inl false, .inl false, .inl false, .inl false, .inr 34] 1757) = true := by decide +kernel
set_option maxRecDepth 1000000 in
theorem rp_35_0 : rh_end (rh_R [(6, 35, 35, false)]) (rg_run 6 (rg_x1 (Int32.ofNat 0)) [.inl false, .inl false, .inl false, .inl false, .inl false, .inl false, .inl false, .inr 35] 1784) = true := by decide +kernel
set_option maxRecDepth 1000000 in
theorem rp_35_1 : rh_end (rh_R [(6, 35, 35, false)]) (rg_run 6 (rg_x1 (Int32.ofNat 1)) [.inl false, .inl false, .inl false, .inl false, .inl false, .inl false, .inl false, .inr 35] 1784) = true := by decide +kernel
set_option maxRecDepth 1000000 in
theorem rp_35_2 : rh_end (rh_R [(6, 35, 35, false)]) (rg_run 6 (rg_x1 (Int32.ofNat 2)) [.inl false, .inl false, .inl false, .inl false, .inl false, .inl false, .inl false, .inr 35] 1784) = true := by decide +kernel
set_option maxRecDepth 1000000 in
theorem rp_35_3 : rh_end (rh_R [(6, 35, 35, false)]) (rg_run 6 (rg_x1 (Int32.ofNat 3)) [.inl false, .inl false, .inl false, .inl false, .inl false, .inl false, .inl false, .inr 35] 1784) = true := by decide +kernel
set_option maxRecDepth 1000000 in
theorem rp_35_4 : rh_end (rh_R [(6, 35, 35, false)]) (rg_run 6 (rg_x1 (Int32.ofNat 4)) [.inl false, .inl false, .inl false, .inl false, .inl false, .inl false, .inl false, .inr 35] 1784) = true := by decide +kernel
set_option maxRecDepth 1000000 in
theorem rp_294 : rh_end (rh_R [(1, -2147483648, -1, false), (6, 35, 35, false)]) (rg_run 6 rg_xs [.inl false, .inl false, .inl false, .inl false, .inl false, .inl false, .inl false, .inr 35, .inl false, .inl true] 1772) = true := by decide +kernel
set_option maxRecDepth 1000000 in
theorem rp_295 : rh_end (rh_R [(1, 5, 2147483647, false), (6, 35, 35, false)]) (rg_run 6 rg_xs [.inl false, .inl false, .inl false, .inl false, .inl false, .inl false, .inl false, .inr 35, .inl true, .inl false, .inl true] 1775) = true := by decide +kernel
