/-! ===== paths: the runs ===== -/
set_option maxRecDepth 1000000 in
theorem rp_29_28 : rh_end (rh_R [(6, 29, 29, false)]) (rg_run 6 (rg_x1 (Int32.ofNat 28)) [.inl false, .inl false, .inl false, .inl false, .inl false, .inl false, .inl false, .inr 29] 22558) = true := by decide +kernel
set_option maxRecDepth 1000000 in
theorem rp_29_29 : rh_end (rh_R [(6, 29, 29, false)]) (rg_run 6 (rg_x1 (Int32.ofNat 29)) [.inl false, .inl false, .inl false, .inl false, .inl false, .inl false, .inl false, .inr 29] 22558) = true := by decide +kernel
set_option maxRecDepth 1000000 in
theorem rp_29_30 : rh_end (rh_R [(6, 29, 29, false)]) (rg_run 6 (rg_x1 (Int32.ofNat 30)) [.inl false, .inl false, .inl false, .inl false, .inl false, .inl false, .inl false, .inr 29] 22558) = true := by decide +kernel
set_option maxRecDepth 1000000 in
theorem rp_29_31 : rh_end (rh_R [(6, 29, 29, false)]) (rg_run 6 (rg_x1 (Int32.ofNat 31)) [.inl false, .inl false, .inl false, .inl false, .inl false, .inl false, .inl false, .inr 29] 22558) = true := by decide +kernel
set_option maxRecDepth 1000000 in
theorem rp_29_32 : rh_end (rh_R [(6, 29, 29, false)]) (rg_run 6 (rg_x1 (Int32.ofNat 32)) [.inl false, .inl false, .inl false, .inl false, .inl false, .inl false, .inl false, .inr 29] 22558) = true := by decide +kernel
set_option maxRecDepth 1000000 in
theorem rp_29_33 : rh_end (rh_R [(6, 29, 29, false)]) (rg_run 6 (rg_x1 (Int32.ofNat 33)) [.inl false, .inl false, .inl false, .inl false, .inl false, .inl false, .inl false, .inr 29] 22558) = true := by decide +kernel
set_option maxRecDepth 1000000 in
theorem rp_29_34 : rh_end (rh_R [(6, 29, 29, false)]) (rg_run 6 (rg_x1 (Int32.ofNat 34)) [.inl false, .inl false, .inl false, .inl false, .inl false, .inl false, .inl false, .inr 29] 22558) = true := by decide +kernel
set_option maxRecDepth 1000000 in
theorem rp_29_35 : rh_end (rh_R [(6, 29, 29, false)]) (rg_run 6 (rg_x1 (Int32.ofNat 35)) [.inl false, .inl false, .inl false, .inl false, .inl false, .inl false, .inl false, .inr 29] 22558) = true := by decide +kernel
