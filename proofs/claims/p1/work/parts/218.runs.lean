/-! ===== paths: the runs ===== -/
set_option maxRecDepth 1000000 in
theorem rp_29_52 : rh_end (rh_R [(6, 29, 29, false)]) (rg_run 6 (rg_x1 (Int32.ofNat 52)) [.inl false, .inl false, .inl false, .inl false, .inl false, .inl false, .inl false, .inr 29] 22558) = true := by decide +kernel
set_option maxRecDepth 1000000 in
theorem rp_29_53 : rh_end (rh_R [(6, 29, 29, false)]) (rg_run 6 (rg_x1 (Int32.ofNat 53)) [.inl false, .inl false, .inl false, .inl false, .inl false, .inl false, .inl false, .inr 29] 22558) = true := by decide +kernel
set_option maxRecDepth 1000000 in
theorem rp_29_54 : rh_end (rh_R [(6, 29, 29, false)]) (rg_run 6 (rg_x1 (Int32.ofNat 54)) [.inl false, .inl false, .inl false, .inl false, .inl false, .inl false, .inl false, .inr 29] 22558) = true := by decide +kernel
set_option maxRecDepth 1000000 in
theorem rp_29_55 : rh_end (rh_R [(6, 29, 29, false)]) (rg_run 6 (rg_x1 (Int32.ofNat 55)) [.inl false, .inl false, .inl false, .inl false, .inl false, .inl false, .inl false, .inr 29] 22558) = true := by decide +kernel
set_option maxRecDepth 1000000 in
theorem rp_29_56 : rh_end (rh_R [(6, 29, 29, false)]) (rg_run 6 (rg_x1 (Int32.ofNat 56)) [.inl false, .inl false, .inl false, .inl false, .inl false, .inl false, .inl false, .inr 29] 22558) = true := by decide +kernel
set_option maxRecDepth 1000000 in
theorem rp_29_57 : rh_end (rh_R [(6, 29, 29, false)]) (rg_run 6 (rg_x1 (Int32.ofNat 57)) [.inl false, .inl false, .inl false, .inl false, .inl false, .inl false, .inl false, .inr 29] 22558) = true := by decide +kernel
set_option maxRecDepth 1000000 in
theorem rp_29_58 : rh_end (rh_R [(6, 29, 29, false)]) (rg_run 6 (rg_x1 (Int32.ofNat 58)) [.inl false, .inl false, .inl false, .inl false, .inl false, .inl false, .inl false, .inr 29] 22558) = true := by decide +kernel
