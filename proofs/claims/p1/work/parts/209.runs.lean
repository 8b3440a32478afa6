/-! ===== paths: the runs ===== -/
set_option maxRecDepth 1000000 in
theorem rp_25_44 : rh_end (rh_R [(6, 25, 25, false)]) (rg_run 6 (rg_x1 (Int32.ofNat 44)) [.inl false, .inl false, .inl false, .inl false, .inl false, .inl false, .inl false, .inr 25] 27200) = true := by decide +kernel
set_option maxRecDepth 1000000 in
theorem rp_25_45 : rh_end (rh_R [(6, 25, 25, false)]) (rg_run 6 (rg_x1 (Int32.ofNat 45)) [.inl false, .inl false, .inl false, .inl false, .inl false, .inl false, .inl false, .inr 25] 27200) = true := by decide +kernel
set_option maxRecDepth 1000000 in
theorem rp_25_46 : rh_end (rh_R [(6, 25, 25, false)]) (rg_run 6 (rg_x1 (Int32.ofNat 46)) [.inl false, .inl false, .inl false, .inl false, .inl false, .inl false, .inl false, .inr 25] 27200) = true := by decide +kernel
set_option maxRecDepth 1000000 in
theorem rp_25_47 : rh_end (rh_R [(6, 25, 25, false)]) (rg_run 6 (rg_x1 (Int32.ofNat 47)) [.inl false, .inl false, .inl false, .inl false, .inl false, .inl false, .inl false, .inr 25] 27200) = true := by decide +kernel
set_option maxRecDepth 1000000 in
theorem rp_25_48 : rh_end (rh_R [(6, 25, 25, false)]) (rg_run 6 (rg_x1 (Int32.ofNat 48)) [.inl false, .inl false, .inl false, .inl false, .inl false, .inl false, .inl false, .inr 25] 27200) = true := by decide +kernel
set_option maxRecDepth 1000000 in
theorem rp_25_49 : rh_end (rh_R [(6, 25, 25, false)]) (rg_run 6 (rg_x1 (Int32.ofNat 49)) [.inl false, .inl false, .inl false, .inl false, .inl false, .inl false, .inl false, .inr 25] 27200) = true := by decide +kernel
set_option maxRecDepth 1000000 in
theorem rp_25_50 : rh_end (rh_R [(6, 25, 25, false)]) (rg_run 6 (rg_x1 (Int32.ofNat 50)) [.inl false, .inl false, .inl false, .inl false, .inl false, .inl false, .inl false, .inr 25] 27200) = true := by decide +kernel
