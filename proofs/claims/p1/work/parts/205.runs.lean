/-! ===== paths: the runs ===== -/
set_option maxRecDepth 1000000 in
theorem rp_25_15 : rh_end (rh_R [(6, 25, 25, false)]) (rg_run 6 (rg_x1 (Int32.ofNat 15)) [.inl false, .inl false, .inl false, .inl false, .inl false, .inl false, .inl false, .inr 25] 27200) = true := by decide +kernel
set_option maxRecDepth 1000000 in
theorem rp_25_16 : rh_end (rh_R [(6, 25, 25, false)]) (rg_run 6 (rg_x1 (Int32.ofNat 16)) [.inl false, .inl false, .inl false, .inl false, .inl false, .inl false, .inl false, .inr 25] 27200) = true := by decide +kernel
set_option maxRecDepth 1000000 in
theorem rp_25_17 : rh_end (rh_R [(6, 25, 25, false)]) (rg_run 6 (rg_x1 (Int32.ofNat 17)) [.inl false, .inl false, .inl false, .inl false, .inl false, .inl false, .inl false, .inr 25] 27200) = true := by decide +kernel
set_option maxRecDepth 1000000 in
theorem rp_25_18 : rh_end (rh_R [(6, 25, 25, false)]) (rg_run 6 (rg_x1 (Int32.ofNat 18)) [.inl false, .inl false, .inl false, .inl false, .inl false, .inl false, .inl false, .inr 25] 27200) = true := by decide +kernel
set_option maxRecDepth 1000000 in
theorem rp_25_19 : rh_end (rh_R [(6, 25, 25, false)]) (rg_run 6 (rg_x1 (Int32.ofNat 19)) [.inl false, .inl false, .inl false, .inl false, .inl false, .inl false, .inl false, .inr 25] 27200) = true := by decide +kernel
set_option maxRecDepth 1000000 in
theorem rp_25_20 : rh_end (rh_R [(6, 25, 25, false)]) (rg_run 6 (rg_x1 (Int32.ofNat 20)) [.inl false, .inl false, .inl false, .inl false, .inl false, .inl false, .inl false, .inr 25] 27200) = true := by decide +kernel
set_option maxRecDepth 1000000 in
theorem rp_25_21 : rh_end (rh_R [(6, 25, 25, false)]) (rg_run 6 (rg_x1 (Int32.ofNat 21)) [.inl false, .inl false, .inl false, .inl false, .inl false, .inl false, .inl false, .inr 25] 27200) = true := by decide +kernel
set_option maxRecDepth 1000000 in
theorem rp_25_22 : rh_end (rh_R [(6, 25, 25, false)]) (rg_run 6 (rg_x1 (Int32.ofNat 22)) [.inl false, .inl false, .inl false, .inl false, .inl false, .inl false, .inl false, .inr 25] 27200) = true := by decide +kernel
