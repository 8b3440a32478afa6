/-! ===== paths: the runs ===== -/
set_option maxRecDepth 1000000 in
theorem rp_11_27 : rh_end (rh_R [(6, 11, 11, false)]) (rg_run 6 (rg_x1 (Int32.ofNat 27)) [.inl false, .inl false, .inl false, .inl false, .inl false, .inl false, .inl false, .inr 11] 9560) = true := by decide +kernel
set_option maxRecDepth 1000000 in
theorem rp_11_28 : rh_end (rh_R [(6, 11, 11, false)]) (rg_run 6 (rg_x1 (Int32.ofNat 28)) [.inl false, .inl false, .inl false, .inl false, .inl false, .inl false, .inl false, .inr 11] 9560) = true := by decide +kernel
set_option maxRecDepth 1000000 in
theorem rp_11_29 : rh_end (rh_R [(6, 11, 11, false)]) (rg_run 6 (rg_x1 (Int32.ofNat 29)) [.inl false, .inl false, .inl false, .inl false, .inl false, .inl false, .inl false, .inr 11] 9560) = true := by decide +kernel
set_option maxRecDepth 1000000 in
theorem rp_11_30 : rh_end (rh_R [(6, 11, 11, false)]) (rg_run 6 (rg_x1 (Int32.ofNat 30)) [.inl false, .inl false, .inl false, .inl false, .inl false, .inl false, .inl false, .inr 11] 9560) = true := by decide +kernel
set_option maxRecDepth 1000000 in
theorem rp_11_31 : rh_end (rh_R [(6, 11, 11, false)]) (rg_run 6 (rg_x1 (Int32.ofNat 31)) [.inl false, .inl false, .inl false, .inl false, .inl false, .inl false, .inl false, .inr 11] 9560) = true := by decide +kernel
set_option maxRecDepth 1000000 in
theorem rp_11_32 : rh_end (rh_R [(6, 11, 11, false)]) (rg_run 6 (rg_x1 (Int32.ofNat 32)) [.inl false, .inl false, .inl false, .inl false, .inl false, .inl false, .inl false, .inr 11] 9560) = true := by decide +kernel
set_option maxRecDepth 1000000 in
theorem rp_11_33 : rh_end (rh_R [(6, 11, 11, false)]) (rg_run 6 (rg_x1 (Int32.ofNat 33)) [.inl false, .inl false, .inl false, .inl false, .inl false, .inl false, .inl false, .inr 11] 9560) = true := by decide +kernel
set_option maxRecDepth 1000000 in
theorem rp_11_34 : rh_end (rh_R [(6, 11, 11, false)]) (rg_run 6 (rg_x1 (Int32.ofNat 34)) [.inl false, .inl false, .inl false, .inl false, .inl false, .inl false, .inl false, .inr 11] 9560) = true := by decide +kernel
set_option maxRecDepth 1000000 in
theorem rp_11_35 : rh_end (rh_R [(6, 11, 11, false)]) (rg_run 6 (rg_x1 (Int32.ofNat 35)) [.inl false, .inl false, .inl false, .inl false, .inl false, .inl false, .inl false, .inr 11] 9560) = true := by decide +kernel
set_option maxRecDepth 1000000 in
theorem rp_11_36 : rh_end (rh_R [(6, 11, 11, false)]) (rg_run 6 (rg_x1 (Int32.ofNat 36)) [.inl false, .inl false, .inl false, .inl false, .inl false, .inl false, .inl false, .inr 11] 9560) = true := by decide +kernel
set_option maxRecDepth 1000000 in
theorem rp_11_37 : rh_end (rh_R [(6, 11, 11, false)]) (rg_run 6 (rg_x1 (Int32.ofNat 37)) [.inl false, .inl false, .inl false, .inl false, .inl false, .inl false, .inl false, .inr 11] 9560) = true := by decide +kernel
set_option maxRecDepth 1000000 in
theorem rp_11_38 : rh_end (rh_R [(6, 11, 11, false)]) (rg_run 6 (rg_x1 (Int32.ofNat 38)) [.inl false, .inl false, .inl false, .inl false, .inl false, .inl false, .inl false, .inr 11] 9560) = true := by decide +kernel
set_option maxRecDepth 1000000 in
theorem rp_11_39 : rh_end (rh_R [(6, 11, 11, false)]) (rg_run 6 (rg_x1 (Int32.ofNat 39)) [.inl false, .inl false, .inl false, .inl false, .inl false, .inl false, .inl false, .inr 11] 9560) = true := by decide +kernel
set_option maxRecDepth 1000000 in
theorem rp_11_40 : rh_end (rh_R [(6, 11, 11, false)]) (rg_run 6 (rg_x1 (Int32.ofNat 40)) [.inl false, .inl false, .inl false, .inl false, .inl false, .inl false, .inl false, .inr 11] 9560) = true := by decide +kernel
set_option maxRecDepth 1000000 in
theorem rp_11_41 : rh_end (rh_R [(6, 11, 11, false)]) (rg_run 6 (rg_x1 (Int32.ofNat 41)) [.inl false, .inl false, .inl false, .inl false, .inl false, .inl false, .inl false, .inr 11] 9560) = true := by decide +kernel
set_option maxRecDepth 1000000 in
theorem rp_11_42 : rh_end (rh_R [(6, 11, 11, false)]) (rg_run 6 (rg_x1 (Int32.ofNat 42)) [.inl false, .inl false, .inl false, .inl false, .inl false, .inl false, .inl false, .inr 11] 9560) = true := by decide +kernel
set_option maxRecDepth 1000000 in
theorem rp_11_43 : rh_end (rh_R [(6, 11, 11, false)]) (rg_run 6 (rg_x1 (Int32.ofNat 43)) [.inl false, .inl false, .inl false, .inl false, .inl false, .inl false, .inl false, .inr 11] 9560) = true := by decide +kernel
set_option maxRecDepth 1000000 in
theorem rp_11_44 : rh_end (rh_R [(6, 11, 11, false)]) (rg_run 6 (rg_x1 (Int32.ofNat 44)) [.inl false, .inl false, .inl false, .inl false, .inl false, .inl false, .inl false, .inr 11] 9560) = true := by decide +kernel
set_option maxRecDepth 1000000 in
theorem rp_11_45 : rh_end (rh_R [(6, 11, 11, false)]) (rg_run 6 (rg_x1 (Int32.ofNat 45)) [.inl false, .inl false, .inl false, .inl false, .inl false, .inl false, .inl false, .inr 11] 9560) = true := by decide +kernel
set_option maxRecDepth 1000000 in
theorem rp_11_46 : rh_end (rh_R [(6, 11, 11, false)]) (rg_run 6 (rg_x1 (Int32.ofNat 46)) [.inl false, .inl false, .inl false, .inl false, .inl false, .inl false, .inl false, .inr 11] 9560) = true := by decide +kernel
set_option maxRecDepth 1000000 in
theorem rp_11_47 : rh_end (rh_R [(6, 11, 11, false)]) (rg_run 6 (rg_x1 (Int32.ofNat 47)) [.inl false, .inl false, .inl false, .inl false, .inl false, .inl false, .inl false, .inr 11] 9560) = true := by decide +kernel
set_option maxRecDepth 1000000 in
theorem rp_11_48 : rh_end (rh_R [(6, 11, 11, false)]) (rg_run 6 (rg_x1 (Int32.ofNat 48)) [.inl false, .inl false, .inl false, .inl false, .inl false, .inl false, .inl false, .inr 11] 9560) = true := by decide +kernel
set_option maxRecDepth 1000000 in
theorem rp_11_49 : rh_end (rh_R [(6, 11, 11, false)]) (rg_run 6 (rg_x1 (Int32.ofNat 49)) [.inl false, .inl false, .inl false, .inl false, .inl false, .inl false, .inl false, .inr 11] 9560) = true := by decide +kernel
