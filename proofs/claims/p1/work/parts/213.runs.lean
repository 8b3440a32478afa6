/-! ===== paths: the runs ===== -/
set_option maxRecDepth 1000000 in
theorem rp_29_11 : rh_end (rh_R [(6, 29, 29, false)]) (rg_run 6 (rg_x1 (Int32.ofNat 11)) [.inl false, .inl false, .inl false, .inl false, .inl false, .inl false, .inl false, .inr 29] 22558) = true := by decide +kernel
set_option maxRecDepth 1000000 in
theorem rp_29_12 : rh_end (rh_R [(6, 29, 29, false)]) (rg_run 6 (rg_x1 (Int32.ofNat 12)) [.inl false, .inl false, .inl false, .inl false, .inl false, .inl false, .inl false, .inr 29] 22558) = true := by decide +kernel
set_option maxRecDepth 1000000 in
theorem rp_29_13 : rh_end (rh_R [(6, 29, 29, false)]) (rg_run 6 (rg_x1 (Int32.ofNat 13)) [.inl false, .inl false, .inl false, .inl false, .inl false, .inl false, .inl false, .inr 29] 22558) = true := by decide +kernel
set_option maxRecDepth 1000000 in
theorem rp_29_14 : rh_end (rh_R [(6, 29, 29, false)]) (rg_run 6 (rg_x1 (Int32.ofNat 14)) [.inl false, .inl false, .inl false, .inl false, .inl false, .inl false, .inl false, .inr 29] 22558) = true := by decide +kernel
set_option maxRecDepth 1000000 in
theorem rp_29_15 : rh_end (rh_R [(6, 29, 29, false)]) (rg_run 6 (rg_x1 (Int32.ofNat 15)) [.inl false, .inl false, .inl false, .inl false, .inl false, .inl false, .inl false, .inr 29] 22558) = true := by decide +kernel
set_option maxRecDepth 1000000 in
theorem rp_29_16 : rh_end (rh_R [(6, 29, 29, false)]) (rg_run 6 (rg_x1 (Int32.ofNat 16)) [.inl false, .inl false, .inl false, .inl false, .inl false, .inl false, .inl false, .inr 29] 22558) = true := by decide +kernel
set_option maxRecDepth 1000000 in
theorem rp_29_17 : rh_end (rh_R [(6, 29, 29, false)]) (rg_run 6 (rg_x1 (Int32.ofNat 17)) [.inl false, .inl false, .inl false, .inl false, .inl false, .inl false, .inl false, .inr 29] 22558) = true := by decide +kernel
set_option maxRecDepth 1000000 in
theorem rp_29_18 : rh_end (rh_R [(6, 29, 29, false)]) (rg_run 6 (rg_x1 (Int32.ofNat 18)) [.inl false, .inl false, .inl false, .inl false, .inl false, .inl false, .inl false, .inr 29] 22558) = true := by decide +kernel
set_option maxRecDepth 1000000 in
theorem rp_29_19 : rh_end (rh_R [(6, 29, 29, false)]) (rg_run 6 (rg_x1 (Int32.ofNat 19)) [.inl false, .inl false, .inl false, .inl false, .inl false, .inl false, .inl false, .inr 29] 22558) = true := by decide +kernel
