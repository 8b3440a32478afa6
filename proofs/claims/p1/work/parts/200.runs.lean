/-! ===== paths: the runs ===== -/
set_option maxRecDepth 1000000 in
theorem rp_0 : rh_end (rh_R []) (rg_run 0 rg_xs [] 1724) = true := by decide +kernel
set_option maxRecDepth 1000000 in
theorem rp_1 : rh_end (rh_R []) (rg_run 1 rg_xs [] 1724) = true := by decide +kernel
set_option maxRecDepth 1000000 in
theorem rp_2 : rh_end (rh_R []) (rg_run 2 rg_xs [] 1724) = true := by decide +kernel
set_option maxRecDepth 1000000 in
theorem rp_3 : rh_end (rh_R []) (rg_run 3 rg_xs [] 1724) = true := by decide +kernel
set_option maxRecDepth 1000000 in
theorem rp_4 : rh_end (rh_R []) (rg_run 4 rg_xs [] 1724) = true := by decide +kernel
set_option maxRecDepth 1000000 in
theorem rp_5 : rh_end (rh_R []) (rg_run 5 rg_xs [] 1724) = true := by decide +kernel
set_option maxRecDepth 1000000 in
theorem rp_6 : rh_end (rh_R [(6, 36, 63, false)]) (rg_run 6 rg_xs [.inl false, .inl false, .inl false, .inl false, .inl false, .inl false, .inl false, .inl true] 1738) = true := by decide +kernel
set_option maxRecDepth 1000000 in
theorem rp_34 : rh_end (rh_R [(6, 0, 0, false)]) (rg_run 6 rg_xs [.inl false, .inl false, .inl false, .inl false, .inl false, .inl false, .inl false, .inr 0] 2897) = true := by decide +kernel
set_option maxRecDepth 1000000 in
theorem rp_35 : rh_end (rh_R [(1, -2147483648, -1, false), (6, 1, 1, false)]) (rg_run 6 rg_xs [.inl false, .inl false, .inl false, .inl false, .inl false, .inl false, .inl false, .inr 1, .inl true, .inl true] 1764) = true := by decide +kernel
set_option maxRecDepth 1000000 in
theorem rp_36 : rh_end (rh_R [(1, 0, 0, false), (6, 1, 1, false)]) (rg_run 6 rg_xs [.inl false, .inl false, .inl false, .inl false, .inl false, .inl false, .inl false, .inr 1, .inl false, .inl true, .inl false, .inl true] 1780) = true := by decide +kernel
set_option maxRecDepth 1000000 in
theorem rp_37 : rh_end (rh_R [(1, 1, 2147483647, false), (6, 1, 1, false)]) (rg_run 6 rg_xs [.inl false, .inl false, .inl false, .inl false, .inl false, .inl false, .inl false, .inr 1, .inl false, .inl false, .inl false, .inl false] 1773) = true := by decide +kernel
set_option maxRecDepth 1000000 in
theorem rp_38 : rh_end (rh_R [(6, 2, 2, false)]) (rg_run 6 rg_xs [.inl false, .inl false, .inl false, .inl false, .inl false, .inl false, .inl false, .inr 2] 9664) = true := by decide +kernel
set_option maxRecDepth 1000000 in
theorem rp_39 : rh_end (rh_R [(6, 3, 3, false)]) (rg_run 6 rg_xs [.inl false, .inl false, .inl false, .inl false, .inl false, .inl false, .inl false, .inr 3] 1752) = true := by decide +kernel
set_option maxRecDepth 1000000 in
theorem rp_40 : rh_end (rh_R [(1, -2147483648, -1, false), (6, 4, 4, false)]) (rg_run 6 rg_xs [.inl false, .inl false, .inl false, .inl false, .inl false, .inl false, .inl false, .inr 4, .inl true, .inl true] 1831) = true := by decide +kernel
set_option maxRecDepth 1000000 in
theorem rp_41 : rh_end (rh_R [(1, 0, 2147483647, false), (6, 4, 4, false)]) (rg_run 6 rg_xs [.inl false, .inl false, .inl false, .inl false, .inl false, .inl false, .inl false, .inr 4, .inl false, .inl false, .inl false, .inl true] 1839) = true := by decide +kernel
set_option maxRecDepth 1000000 in
theorem rp_42 : rh_end (rh_R [(1, -2147483648, -1, false), (6, 5, 5, false)]) (rg_run 6 rg_xs [.inl false, .inl false, .inl false, .inl false, .inl false, .inl false, .inl false, .inr 5, .inl true, .inl true] 1831) = true := by decide +kernel
set_option maxRecDepth 1000000 in
theorem rp_43 : rh_end (rh_R [(1, 0, 2147483647, false), (6, 5, 5, false)]) (rg_run 6 rg_xs [.inl false, .inl false, .inl false, .inl false, .inl false, .inl false, .inl false, .inr 5, .inl false, .inl false, .inl false, .inl true] 1839) = true := by decide +kernel
set_option maxRecDepth 1000000 in
theorem rp_44 : rh_end (rh_R [(1, -2147483648, -1, false), (6, 6, 6, false)]) (rg_run 6 rg_xs [.inl false, .inl false, .inl false, .inl false, .inl false, .inl false, .inl false, .inr 6, .inl true, .inl true] 1845) = true := by decide +kernel
set_option maxRecDepth 1000000 in
theorem rp_45 : rh_end (rh_R [(1, 0, 2147483647, false), (6, 6, 6, false)]) (rg_run 6 rg_xs [.inl false, .inl false, .inl false, .inl false, .inl false, .inl false, .inl false, .inr 6, .inl false, .inl false, .inl false, .inl true] 1853) = true := by decide +kernel
set_option maxRecDepth 1000000 in
theorem rp_46 : rh_end (rh_R [(1, -2147483648, -1, false), (6, 7, 7, false)]) (rg_run 6 rg_xs [.inl false, .inl false, .inl false, .inl false, .inl false, .inl false, .inl false, .inr 7, .inl true, .inl true] 1832) = true := by decide +kernel
set_option maxRecDepth 1000000 in
theorem rp_47 : rh_end (rh_R [(1, 0, 2147483647, false), (6, 7, 7, false)]) (rg_run 6 rg_xs [.inl false, .inl false, .inl false, .inl false, .inl false, .inl false, .inl false, .inr 7, .inl false, .inl false, .inl false, .inl true] 1840) = true := by decide +kernel
set_option maxRecDepth 1000000 in
theorem rp_48 : rh_end (rh_R [(1, -2147483648, -1, false), (6, 8, 8, false)]) (rg_run 6 rg_xs [.inl false, .inl false, .inl false, .inl false, .inl false, .inl false, .inl false, .inr 8, .inl true, .inl true] 1831) = true := by decide +kernel
set_option maxRecDepth 1000000 in
theorem rp_49 : rh_end (rh_R [(1, 0, 2147483647, false), (6, 8, 8, false)]) (rg_run 6 rg_xs [.inl false, .inl false, .inl false, .inl false, .inl false, .inl false, .inl false, .inr 8, .inl false, .inl false, .inl false, .inl true] 1839) = true := by decide +kernel
set_option maxRecDepth 1000000 in
theorem rp_50 : rh_end (rh_R [(1, -2147483648, -1, false), (6, 9, 9, false)]) (rg_run 6 rg_xs [.inl false, .inl false, .inl false, .inl false, .inl false, .inl false, .inl false, .inr 9, .inl true, .inl true] 1831) = true := by decide +kernel
set_option maxRecDepth 1000000 in
theorem rp_51 : rh_end (rh_R [(1, 0, 2147483647, false), (6, 9, 9, false)]) (rg_run 6 rg_xs [.inl false, .inl false, .inl false, .inl false, .inl false, .inl false, .inl false, .inr 9, .inl false, .inl false, .inl false, .inl true] 1839) = true := by decide +kernel
set_option maxRecDepth 1000000 in
theorem rp_52 : rh_end (rh_R [(1, -2147483648, -1, false), (6, 10, 10, false)]) (rg_run 6 rg_xs [.inl false, .inl false, .inl false, .inl false, .inl false, .inl false, .inl false, .inr 10, .inl true, .inl true] 1832) = true := by decide +kernel
set_option maxRecDepth 1000000 in
theorem rp_53 : rh_end (rh_R [(1, 0, 2147483647, false), (6, 10, 10, false)]) (rg_run 6 rg_xs [.inl false, .inl false, .inl false, .inl false, .inl false, .inl false, .inl false, .inr 10, .inl false, .inl false, .inl false, .inl true] 1840) = true := by decide +kernel
set_option maxRecDepth 1000000 in
theorem rp_11_1 : rh_end (rh_R [(6, 11, 11, false)]) (rg_run 6 (rg_x1 (Int32.ofNat 1)) [.inl false, .inl false, .inl false, .inl false, .inl false, .inl false, .inl false, .inr 11] 9560) = true := by decide +kernel
set_option maxRecDepth 1000000 in
theorem rp_11_2 : rh_end (rh_R [(6, 11, 11, false)]) (rg_run 6 (rg_x1 (Int32.ofNat 2)) [.inl false, .inl false, .inl false, .inl false, .inl false, .inl false, .inl false, .inr 11] 9560) = true := by decide +kernel
set_option maxRecDepth 1000000 in
theorem rp_11_3 : rh_end (rh_R [(6, 11, 11, false)]) (rg_run 6 (rg_x1 (Int32.ofNat 3)) [.inl false, .inl false, .inl false, .inl false, .inl false, .inl false, .inl false, .inr 11] 9560) = true := by decide +kernel
set_option maxRecDepth 1000000 in
theorem rp_11_4 : rh_end (rh_R [(6, 11, 11, false)]) (rg_run 6 (rg_x1 (Int32.ofNat 4)) [.inl false, .inl false, .inl false, .inl false, .inl false, .inl false, .inl false, .inr 11] 9560) = true := by decide +kernel
set_option maxRecDepth 1000000 in
theorem rp_11_5 : rh_end (rh_R [(6, 11, 11, false)]) (rg_run 6 (rg_x1 (Int32.ofNat 5)) [.inl false, .inl false, .inl false, .inl false, .inl false, .inl false, .inl false, .inr 11] 9560) = true := by decide +kernel
set_option maxRecDepth 1000000 in
theorem rp_11_6 : rh_end (rh_R [(6, 11, 11, false)]) (rg_run 6 (rg_x1 (Int32.ofNat 6)) [.inl false, .inl false, .inl false, .inl false, .inl false, .inl false, .inl false, .inr 11] 9560) = true := by decide +kernel
set_option maxRecDepth 1000000 in
theorem rp_11_7 : rh_end (rh_R [(6, 11, 11, false)]) (rg_run 6 (rg_x1 (Int32.ofNat 7)) [.inl false, .inl false, .inl false, .inl false, .inl false, .inl false, .inl false, .inr 11] 9560) = true := by decide +kernel
set_option maxRecDepth 1000000 in
theorem rp_11_8 : rh_end (rh_R [(6, 11, 11, false)]) (rg_run 6 (rg_x1 (Int32.ofNat 8)) [.inl false, .inl false, .inl false, .inl false, .inl false, .inl false, .inl false, .inr 11] 9560) = true := by decide +kernel
set_option maxRecDepth 1000000 in
theorem rp_11_9 : rh_end (rh_R [(6, 11, 11, false)]) (rg_run 6 (rg_x1 (Int32.ofNat 9)) [.inl false, .inl false, .inl false, .inl false, .inl false, .inl false, .inl false, .inr 11] 9560) = true := by decide +kernel
set_option maxRecDepth 1000000 in
theorem rp_11_10 : rh_end (rh_R [(6, 11, 11, false)]) (rg_run 6 (rg_x1 (Int32.ofNat 10)) [.inl false, .inl false, .inl false, .inl false, .inl false, .inl false, .inl false, .inr 11] 9560) = true := by decide +kernel
set_option maxRecDepth 1000000 in
theorem rp_11_11 : rh_end (rh_R [(6, 11, 11, false)]) (rg_run 6 (rg_x1 (Int32.ofNat 11)) [.inl false, .inl false, .inl false, .inl false, .inl false, .inl false, .inl false, .inr 11] 9560) = true := by decide +kernel
set_option maxRecDepth 1000000 in
theorem rp_11_12 : rh_end (rh_R [(6, 11, 11, false)]) (rg_run 6 (rg_x1 (Int32.ofNat 12)) [.inl false, .inl false, .inl false, .inl false, .inl false, .inl false, .inl false, .inr 11] 9560) = true := by decide +kernel
set_option maxRecDepth 1000000 in
theorem rp_11_13 : rh_end (rh_R [(6, 11, 11, false)]) (rg_run 6 (rg_x1 (Int32.ofNat 13)) [.inl false, .inl false, .inl false, .inl false, .inl false, .inl false, .inl false, .inr 11] 9560) = true := by decide +kernel
set_option maxRecDepth 1000000 in
theorem rp_11_14 : rh_end (rh_R [(6, 11, 11, false)]) (rg_run 6 (rg_x1 (Int32.ofNat 14)) [.inl false, .inl false, .inl false, .inl false, .inl false, .inl false, .inl false, .inr 11] 9560) = true := by decide +kernel
set_option maxRecDepth 1000000 in
theorem rp_11_15 : rh_end (rh_R [(6, 11, 11, false)]) (rg_run 6 (rg_x1 (Int32.ofNat 15)) [.inl false, .inl false, .inl false, .inl false, .inl false, .inl false, .inl false, .inr 11] 9560) = true := by decide +kernel
set_option maxRecDepth 1000000 in
theorem rp_11_16 : rh_end (rh_R [(6, 11, 11, false)]) (rg_run 6 (rg_x1 (Int32.ofNat 16)) [.inl false, .inl false, .inl false, .inl false, .inl false, .inl false, .inl false, .inr 11] 9560) = true := by decide +kernel
set_option maxRecDepth 1000000 in
theorem rp_11_17 : rh_end (rh_R [(6, 11, 11, false)]) (rg_run 6 (rg_x1 (Int32.ofNat 17)) [.inl false, .inl false, .inl false, .inl false, .inl false, .inl false, .inl false, .inr 11] 9560) = true := by decide +kernel
set_option maxRecDepth 1000000 in
theorem rp_11_18 : rh_end (rh_R [(6, 11, 11, false)]) (rg_run 6 (rg_x1 (Int32.ofNat 18)) [.inl false, .inl false, .inl false, .inl false, .inl false, .inl false, .inl false, .inr 11] 9560) = true := by decide +kernel
set_option maxRecDepth 1000000 in
theorem rp_11_19 : rh_end (rh_R [(6, 11, 11, false)]) (rg_run 6 (rg_x1 (Int32.ofNat 19)) [.inl false, .inl false, .inl false, .inl false, .inl false, .inl false, .inl false, .inr 11] 9560) = true := by decide +kernel
set_option maxRecDepth 1000000 in
theorem rp_11_20 : rh_end (rh_R [(6, 11, 11, false)]) (rg_run 6 (rg_x1 (Int32.ofNat 20)) [.inl false, .inl false, .inl false, .inl false, .inl false, .inl false, .inl false, .inr 11] 9560) = true := by decide +kernel
set_option maxRecDepth 1000000 in
theorem rp_11_21 : rh_end (rh_R [(6, 11, 11, false)]) (rg_run 6 (rg_x1 (Int32.ofNat 21)) [.inl false, .inl false, .inl false, .inl false, .inl false, .inl false, .inl false, .inr 11] 9560) = true := by decide +kernel
set_option maxRecDepth 1000000 in
theorem rp_11_22 : rh_end (rh_R [(6, 11, 11, false)]) (rg_run 6 (rg_x1 (Int32.ofNat 22)) [.inl false, .inl false, .inl false, .inl false, .inl false, .inl false, .inl false, .inr 11] 9560) = true := by decide +kernel
set_option maxRecDepth 1000000 in
theorem rp_11_23 : rh_end (rh_R [(6, 11, 11, false)]) (rg_run 6 (rg_x1 (Int32.ofNat 23)) [.inl false, .inl false, .inl false, .inl false, .inl false, .inl false, .inl false, .inr 11] 9560) = true := by decide +kernel
set_option maxRecDepth 1000000 in
theorem rp_11_24 : rh_end (rh_R [(6, 11, 11, false)]) (rg_run 6 (rg_x1 (Int32.ofNat 24)) [.inl false, .inl false, .inl false, .inl false, .inl false, .inl false, .inl false, .inr 11] 9560) = true := by decide +kernel
set_option maxRecDepth 1000000 in
theorem rp_11_25 : rh_end (rh_R [(6, 11, 11, false)]) (rg_run 6 (rg_x1 (Int32.ofNat 25)) [.inl false, .inl false, .inl false, .inl false, .inl false, .inl false, .inl false, .inr 11] 9560) = true := by decide +kernel
set_option maxRecDepth 1000000 in
theorem rp_11_26 : rh_end (rh_R [(6, 11, 11, false)]) (rg_run 6 (rg_x1 (Int32.ofNat 26)) [.inl false, .inl false, .inl false, .inl false, .inl false, .inl false, .inl false, .inr 11] 9560) = true := by decide +kernel
