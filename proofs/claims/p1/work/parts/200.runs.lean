/-! ===== paths: the runs ===== -/
set_option maxRecDepth 1000000 in
theorem rp_0 : rh_end (rh_R []) (rg_run 0 rg_xs [] 1724) = true := by sorry
set_option maxRecDepth 1000000 in
theorem rp_1 : rh_end (rh_R []) (rg_run 1 rg_xs [] 1724) = true := by sorry
set_option maxRecDepth 1000000 in
theorem rp_2 : rh_end (rh_R []) (rg_run 2 rg_xs [] 1724) = true := by sorry
set_option maxRecDepth 1000000 in
theorem rp_3 : rh_end (rh_R []) (rg_run 3 rg_xs [] 1724) = true := by sorry
set_option maxRecDepth 1000000 in
theorem rp_4 : rh_end (rh_R []) (rg_run 4 rg_xs [] 1724) = true := by sorry
set_option maxRecDepth 1000000 in
theorem rp_5 : rh_end (rh_R []) (rg_run 5 rg_xs [] 1724) = true := by sorry
set_option maxRecDepth 1000000 in
theorem rp_6 : rh_end (rh_R [(6, 36, 63, false)]) (rg_run 6 rg_xs [.inl false, .inl false, .inl false, .inl false, .inl false, .inl false, .inl false, .inl true] 1738) = true := by sorry
set_option maxRecDepth 1000000 in
theorem rp_34 : rh_end (rh_R [(6, 0, 0, false)]) (rg_run 6 rg_xs [.inl false, .inl false, .inl false, .inl false, .inl false, .inl false, .inl false, .inr 0] 2897) = true := by sorry
set_option maxRecDepth 1000000 in
theorem rp_35 : rh_end (rh_R [(1, -2147483648, -1, false), (6, 1, 1, false)]) (rg_run 6 rg_xs [.inl false, .inl false, .inl false, .inl false, .inl false, .inl false, .inl false, .inr 1, .inl true, .inl true] 1764) = true := by sorry
set_option maxRecDepth 1000000 in
theorem rp_36 : rh_end (rh_R [(1, 0, 0, false), (6, 1, 1, false)]) (rg_run 6 rg_xs [.inl false, .inl false, .inl false, .inl false, .inl false, .inl false, .inl false, .inr 1, .inl false, .inl true, .inl false, .inl true] 1780) = true := by sorry
set_option maxRecDepth 1000000 in
theorem rp_37 : rh_end (rh_R [(1, 1, 2147483647, false), (6, 1, 1, false)]) (rg_run 6 rg_xs [.inl false, .inl false, .inl false, .inl false, .inl false, .inl false, .inl false, .inr 1, .inl false, .inl false, .inl false, .inl false] 1773) = true := by sorry
set_option maxRecDepth 1000000 in
theorem rp_38 : rh_end (rh_R [(6, 2, 2, false)]) (rg_run 6 rg_xs [.inl false, .inl false, .inl false, .inl false, .inl false, .inl false, .inl false, .inr 2] 9664) = true := by sorry
set_option maxRecDepth 1000000 in
theorem rp_39 : rh_end (rh_R [(6, 3, 3, false)]) (rg_run 6 rg_xs [.inl false, .inl false, .inl false, .inl false, .inl false, .inl false, .inl false, .inr 3] 1752) = true := by sorry
set_option maxRecDepth 1000000 in
theorem rp_40 : rh_end (rh_R [(1, -2147483648, -1, false), (6, 4, 4, false)]) (rg_run 6 rg_xs [.inl false, .inl false, .inl false, .inl false, .inl false, .inl false, .inl false, .inr 4, .inl true, .inl true] 1831) = true := by sorry
set_option maxRecDepth 1000000 in
theorem rp_41 : rh_end (rh_R [(1, 0, 2147483647, false), (6, 4, 4, false)]) (rg_run 6 rg_xs [.inl false, .inl false, .inl false, .inl false, .inl false, .inl false, .inl false, .inr 4, .inl false, .inl false, .inl false, .inl true] 1839) = true := by sorry
set_option maxRecDepth 1000000 in
theorem rp_42 : rh_end (rh_R [(1, -2147483648, -1, false), (6, 5, 5, false)]) (rg_run 6 rg_xs [.inl false, .inl false, .inl false, .inl false, .inl false, .inl false, .inl false, .inr 5, .inl true, .inl true] 1831) = true := by sorry
set_option maxRecDepth 1000000 in
theorem rp_43 : rh_end (rh_R [(1, 0, 2147483647, false), (6, 5, 5, false)]) (rg_run 6 rg_xs [.inl false, .inl false, .inl false, .inl false, .inl false, .inl false, .inl false, .inr 5, .inl false, .inl false, .inl false, .inl true] 1839) = true := by sorry
set_option maxRecDepth 1000000 in
theorem rp_44 : rh_end (rh_R [(1, -2147483648, -1, false), (6, 6, 6, false)]) (rg_run 6 rg_xs [.inl false, .inl false, .inl false, .inl false, .inl false, .inl false, .inl false, .inr 6, .inl true, .inl true] 1845) = true := by sorry
set_option maxRecDepth 1000000 in
theorem rp_45 : rh_end (rh_R [(1, 0, 2147483647, false), (6, 6, 6, false)]) (rg_run 6 rg_xs [.inl false, .inl false, .inl false, .inl false, .inl false, .inl false, .inl false, .inr 6, .inl false, .inl false, .inl false, .inl true] 1853) = true := by sorry
set_option maxRecDepth 1000000 in
theorem rp_46 : rh_end (rh_R [(1, -2147483648, -1, false), (6, 7, 7, false)]) (rg_run 6 rg_xs [.inl false, .inl false, .inl false, .inl false, .inl false, .inl false, .inl false, .inr 7, .inl true, .inl true] 1832) = true := by sorry
set_option maxRecDepth 1000000 in
theorem rp_47 : rh_end (rh_R [(1, 0, 2147483647, false), (6, 7, 7, false)]) (rg_run 6 rg_xs [.inl false, .inl false, .inl false, .inl false, .inl false, .inl false, .inl false, .inr 7, .inl false, .inl false, .inl false, .inl true] 1840) = true := by sorry
set_option maxRecDepth 1000000 in
theorem rp_48 : rh_end (rh_R [(1, -2147483648, -1, false), (6, 8, 8, false)]) (rg_run 6 rg_xs [.inl false, .inl false, .inl false, .inl false, .inl false, .inl false, .inl false, .inr 8, .inl true, .inl true] 1831) = true := by sorry
set_option maxRecDepth 1000000 in
theorem rp_49 : rh_end (rh_R [(1, 0, 2147483647, false), (6, 8, 8, false)]) (rg_run 6 rg_xs [.inl false, .inl false, .inl false, .inl false, .inl false, .inl false, .inl false, .inr 8, .inl false, .inl false, .inl false, .inl true] 1839) = true := by sorry
set_option maxRecDepth 1000000 in
theorem rp_50 : rh_end (rh_R [(1, -2147483648, -1, false), (6, 9, 9, false)]) (rg_run 6 rg_xs [.inl false, .inl false, .inl false, .inl false, .inl false, .inl false, .inl false, .inr 9, .inl true, .inl true] 1831) = true := by sorry
set_option maxRecDepth 1000000 in
theorem rp_51 : rh_end (rh_R [(1, 0, 2147483647, false), (6, 9, 9, false)]) (rg_run 6 rg_xs [.inl false, .inl false, .inl false, .inl false, .inl false, .inl false, .inl false, .inr 9, .inl false, .inl false, .inl false, .inl true] 1839) = true := by sorry
set_option maxRecDepth 1000000 in
theorem rp_52 : rh_end (rh_R [(1, -2147483648, -1, false), (6, 10, 10, false)]) (rg_run 6 rg_xs [.inl false, .inl false, .inl false, .inl false, .inl false, .inl false, .inl false, .inr 10, .inl true, .inl true] 1832) = true := by sorry
set_option maxRecDepth 1000000 in
theorem rp_53 : rh_end (rh_R [(1, 0, 2147483647, false), (6, 10, 10, false)]) (rg_run 6 rg_xs [.inl false, .inl false, .inl false, .inl false, .inl false, .inl false, .inl false, .inr 10, .inl false, .inl false, .inl false, .inl true] 1840) = true := by sorry
set_option maxRecDepth 1000000 in
theorem rp_11_1 : rh_end (rh_R [(6, 11, 11, false)]) (rg_run 6 (rg_x1 (Int32.ofNat 1)) [.inl false, .inl false, .inl false, .inl false, .inl false, .inl false, .inl false, .inr 11] 9560) = true := by sorry
set_option maxRecDepth 1000000 in
theorem rp_11_2 : rh_end (rh_R [(6, 11, 11, false)]) (rg_run 6 (rg_x1 (Int32.ofNat 2)) [.inl false, .inl false, .inl false, .inl false, .inl false, .inl false, .inl false, .inr 11] 9560) = true := by sorry
set_option maxRecDepth 1000000 in
theorem rp_11_3 : rh_end (rh_R [(6, 11, 11, false)]) (rg_run 6 (rg_x1 (Int32.ofNat 3)) [.inl false, .inl false, .inl false, .inl false, .inl false, .inl false, .inl false, .inr 11] 9560) = true := by sorry
set_option maxRecDepth 1000000 in
theorem rp_11_4 : rh_end (rh_R [(6, 11, 11, false)]) (rg_run 6 (rg_x1 (Int32.ofNat 4)) [.inl false, .inl false, .inl false, .inl false, .inl false, .inl false, .inl false, .inr 11] 9560) = true := by sorry
set_option maxRecDepth 1000000 in
theorem rp_11_5 : rh_end (rh_R [(6, 11, 11, false)]) (rg_run 6 (rg_x1 (Int32.ofNat 5)) [.inl false, .inl false, .inl false, .inl false, .inl false, .inl false, .inl false, .inr 11] 9560) = true := by sorry
set_option maxRecDepth 1000000 in
theorem rp_11_6 : rh_end (rh_R [(6, 11, 11, false)]) (rg_run 6 (rg_x1 (Int32.ofNat 6)) [.inl false, .inl false, .inl false, .inl false, .inl false, .inl false, .inl false, .inr 11] 9560) = true := by sorry
set_option maxRecDepth 1000000 in
theorem rp_11_7 : rh_end (rh_R [(6, 11, 11, false)]) (rg_run 6 (rg_x1 (Int32.ofNat 7)) [.inl false, .inl false, .inl false, .inl false, .inl false, .inl false, .inl false, .inr 11] 9560) = true := by sorry
set_option maxRecDepth 1000000 in
theorem rp_11_8 : rh_end (rh_R [(6, 11, 11, false)]) (rg_run 6 (rg_x1 (Int32.ofNat 8)) [.inl false, .inl false, .inl false, .inl false, .inl false, .inl false, .inl false, .inr 11] 9560) = true := by sorry
set_option maxRecDepth 1000000 in
theorem rp_11_9 : rh_end (rh_R [(6, 11, 11, false)]) (rg_run 6 (rg_x1 (Int32.ofNat 9)) [.inl false, .inl false, .inl false, .inl false, .inl false, .inl false, .inl false, .inr 11] 9560) = true := by sorry
set_option maxRecDepth 1000000 in
theorem rp_11_10 : rh_end (rh_R [(6, 11, 11, false)]) (rg_run 6 (rg_x1 (Int32.ofNat 10)) [.inl false, .inl false, .inl false, .inl false, .inl false, .inl false, .inl false, .inr 11] 9560) = true := by sorry
set_option maxRecDepth 1000000 in
theorem rp_11_11 : rh_end (rh_R [(6, 11, 11, false)]) (rg_run 6 (rg_x1 (Int32.ofNat 11)) [.inl false, .inl false, .inl false, .inl false, .inl false, .inl false, .inl false, .inr 11] 9560) = true := by sorry
set_option maxRecDepth 1000000 in
theorem rp_11_12 : rh_end (rh_R [(6, 11, 11, false)]) (rg_run 6 (rg_x1 (Int32.ofNat 12)) [.inl false, .inl false, .inl false, .inl false, .inl false, .inl false, .inl false, .inr 11] 9560) = true := by sorry
set_option maxRecDepth 1000000 in
theorem rp_11_13 : rh_end (rh_R [(6, 11, 11, false)]) (rg_run 6 (rg_x1 (Int32.ofNat 13)) [.inl false, .inl false, .inl false, .inl false, .inl false, .inl false, .inl false, .inr 11] 9560) = true := by sorry
set_option maxRecDepth 1000000 in
theorem rp_11_14 : rh_end (rh_R [(6, 11, 11, false)]) (rg_run 6 (rg_x1 (Int32.ofNat 14)) [.inl false, .inl false, .inl false, .inl false, .inl false, .inl false, .inl false, .inr 11] 9560) = true := by sorry
set_option maxRecDepth 1000000 in
theorem rp_11_15 : rh_end (rh_R [(6, 11, 11, false)]) (rg_run 6 (rg_x1 (Int32.ofNat 15)) [.inl false, .inl false, .inl false, .inl false, .inl false, .inl false, .inl false, .inr 11] 9560) = true := by sorry
set_option maxRecDepth 1000000 in
theorem rp_11_16 : rh_end (rh_R [(6, 11, 11, false)]) (rg_run 6 (rg_x1 (Int32.ofNat 16)) [.inl false, .inl false, .inl false, .inl false, .inl false, .inl false, .inl false, .inr 11] 9560) = true := by sorry
set_option maxRecDepth 1000000 in
theorem rp_11_17 : rh_end (rh_R [(6, 11, 11, false)]) (rg_run 6 (rg_x1 (Int32.ofNat 17)) [.inl false, .inl false, .inl false, .inl false, .inl false, .inl false, .inl false, .inr 11] 9560) = true := by sorry
set_option maxRecDepth 1000000 in
theorem rp_11_18 : rh_end (rh_R [(6, 11, 11, false)]) (rg_run 6 (rg_x1 (Int32.ofNat 18)) [.inl false, .inl false, .inl false, .inl false, .inl false, .inl false, .inl false, .inr 11] 9560) = true := by sorry
set_option maxRecDepth 1000000 in
theorem rp_11_19 : rh_end (rh_R [(6, 11, 11, false)]) (rg_run 6 (rg_x1 (Int32.ofNat 19)) [.inl false, .inl false, .inl false, .inl false, .inl false, .inl false, .inl false, .inr 11] 9560) = true := by sorry
set_option maxRecDepth 1000000 in
theorem rp_11_20 : rh_end (rh_R [(6, 11, 11, false)]) (rg_run 6 (rg_x1 (Int32.ofNat 20)) [.inl false, .inl false, .inl false, .inl false, .inl false, .inl false, .inl false, .inr 11] 9560) = true := by sorry
set_option maxRecDepth 1000000 in
theorem rp_11_21 : rh_end (rh_R [(6, 11, 11, false)]) (rg_run 6 (rg_x1 (Int32.ofNat 21)) [.inl false, .inl false, .inl false, .inl false, .inl false, .inl false, .inl false, .inr 11] 9560) = true := by sorry
set_option maxRecDepth 1000000 in
theorem rp_11_22 : rh_end (rh_R [(6, 11, 11, false)]) (rg_run 6 (rg_x1 (Int32.ofNat 22)) [.inl false, .inl false, .inl false, .inl false, .inl false, .inl false, .inl false, .inr 11] 9560) = true := by sorry
set_option maxRecDepth 1000000 in
theorem rp_11_23 : rh_end (rh_R [(6, 11, 11, false)]) (rg_run 6 (rg_x1 (Int32.ofNat 23)) [.inl false, .inl false, .inl false, .inl false, .inl false, .inl false, .inl false, .inr 11] 9560) = true := by sorry
set_option maxRecDepth 1000000 in
theorem rp_11_24 : rh_end (rh_R [(6, 11, 11, false)]) (rg_run 6 (rg_x1 (Int32.ofNat 24)) [.inl false, .inl false, .inl false, .inl false, .inl false, .inl false, .inl false, .inr 11] 9560) = true := by sorry
set_option maxRecDepth 1000000 in
theorem rp_11_25 : rh_end (rh_R [(6, 11, 11, false)]) (rg_run 6 (rg_x1 (Int32.ofNat 25)) [.inl false, .inl false, .inl false, .inl false, .inl false, .inl false, .inl false, .inr 11] 9560) = true := by sorry
set_option maxRecDepth 1000000 in
theorem rp_11_26 : rh_end (rh_R [(6, 11, 11, false)]) (rg_run 6 (rg_x1 (Int32.ofNat 26)) [.inl false, .inl false, .inl false, .inl false, .inl false, .inl false, .inl false, .inr 11] 9560) = true := by sorry
set_option maxRecDepth 1000000 in
theorem rp_11_27 : rh_end (rh_R [(6, 11, 11, false)]) (rg_run 6 (rg_x1 (Int32.ofNat 27)) [.inl false, .inl false, .inl false, .inl false, .inl false, .inl false, .inl false, .inr 11] 9560) = true := by sorry
set_option maxRecDepth 1000000 in
theorem rp_11_28 : rh_end (rh_R [(6, 11, 11, false)]) (rg_run 6 (rg_x1 (Int32.ofNat 28)) [.inl false, .inl false, .inl false, .inl false, .inl false, .inl false, .inl false, .inr 11] 9560) = true := by sorry
set_option maxRecDepth 1000000 in
theorem rp_11_29 : rh_end (rh_R [(6, 11, 11, false)]) (rg_run 6 (rg_x1 (Int32.ofNat 29)) [.inl false, .inl false, .inl false, .inl false, .inl false, .inl false, .inl false, .inr 11] 9560) = true := by sorry
set_option maxRecDepth 1000000 in
theorem rp_11_30 : rh_end (rh_R [(6, 11, 11, false)]) (rg_run 6 (rg_x1 (Int32.ofNat 30)) [.inl false, .inl false, .inl false, .inl false, .inl false, .inl false, .inl false, .inr 11] 9560) = true := by sorry
set_option maxRecDepth 1000000 in
theorem rp_11_31 : rh_end (rh_R [(6, 11, 11, false)]) (rg_run 6 (rg_x1 (Int32.ofNat 31)) [.inl false, .inl false, .inl false, .inl false, .inl false, .inl false, .inl false, .inr 11] 9560) = true := by sorry
set_option maxRecDepth 1000000 in
theorem rp_11_32 : rh_end (rh_R [(6, 11, 11, false)]) (rg_run 6 (rg_x1 (Int32.ofNat 32)) [.inl false, .inl false, .inl false, .inl false, .inl false, .inl false, .inl false, .inr 11] 9560) = true := by sorry
set_option maxRecDepth 1000000 in
theorem rp_11_33 : rh_end (rh_R [(6, 11, 11, false)]) (rg_run 6 (rg_x1 (Int32.ofNat 33)) [.inl false, .inl false, .inl false, .inl false, .inl false, .inl false, .inl false, .inr 11] 9560) = true := by sorry
set_option maxRecDepth 1000000 in
theorem rp_11_34 : rh_end (rh_R [(6, 11, 11, false)]) (rg_run 6 (rg_x1 (Int32.ofNat 34)) [.inl false, .inl false, .inl false, .inl false, .inl false, .inl false, .inl false, .inr 11] 9560) = true := by sorry
set_option maxRecDepth 1000000 in
theorem rp_11_35 : rh_end (rh_R [(6, 11, 11, false)]) (rg_run 6 (rg_x1 (Int32.ofNat 35)) [.inl false, .inl false, .inl false, .inl false, .inl false, .inl false, .inl false, .inr 11] 9560) = true := by sorry
set_option maxRecDepth 1000000 in
theorem rp_11_36 : rh_end (rh_R [(6, 11, 11, false)]) (rg_run 6 (rg_x1 (Int32.ofNat 36)) [.inl false, .inl false, .inl false, .inl false, .inl false, .inl false, .inl false, .inr 11] 9560) = true := by sorry
set_option maxRecDepth 1000000 in
theorem rp_11_37 : rh_end (rh_R [(6, 11, 11, false)]) (rg_run 6 (rg_x1 (Int32.ofNat 37)) [.inl false, .inl false, .inl false, .inl false, .inl false, .inl false, .inl false, .inr 11] 9560) = true := by sorry
set_option maxRecDepth 1000000 in
theorem rp_11_38 : rh_end (rh_R [(6, 11, 11, false)]) (rg_run 6 (rg_x1 (Int32.ofNat 38)) [.inl false, .inl false, .inl false, .inl false, .inl false, .inl false, .inl false, .inr 11] 9560) = true := by sorry
set_option maxRecDepth 1000000 in
theorem rp_11_39 : rh_end (rh_R [(6, 11, 11, false)]) (rg_run 6 (rg_x1 (Int32.ofNat 39)) [.inl false, .inl false, .inl false, .inl false, .inl false, .inl false, .inl false, .inr 11] 9560) = true := by sorry
set_option maxRecDepth 1000000 in
theorem rp_11_40 : rh_end (rh_R [(6, 11, 11, false)]) (rg_run 6 (rg_x1 (Int32.ofNat 40)) [.inl false, .inl false, .inl false, .inl false, .inl false, .inl false, .inl false, .inr 11] 9560) = true := by sorry
set_option maxRecDepth 1000000 in
theorem rp_11_41 : rh_end (rh_R [(6, 11, 11, false)]) (rg_run 6 (rg_x1 (Int32.ofNat 41)) [.inl false, .inl false, .inl false, .inl false, .inl false, .inl false, .inl false, .inr 11] 9560) = true := by sorry
set_option maxRecDepth 1000000 in
theorem rp_11_42 : rh_end (rh_R [(6, 11, 11, false)]) (rg_run 6 (rg_x1 (Int32.ofNat 42)) [.inl false, .inl false, .inl false, .inl false, .inl false, .inl false, .inl false, .inr 11] 9560) = true := by sorry
set_option maxRecDepth 1000000 in
theorem rp_11_43 : rh_end (rh_R [(6, 11, 11, false)]) (rg_run 6 (rg_x1 (Int32.ofNat 43)) [.inl false, .inl false, .inl false, .inl false, .inl false, .inl false, .inl false, .inr 11] 9560) = true := by sorry
set_option maxRecDepth 1000000 in
theorem rp_11_44 : rh_end (rh_R [(6, 11, 11, false)]) (rg_run 6 (rg_x1 (Int32.ofNat 44)) [.inl false, .inl false, .inl false, .inl false, .inl false, .inl false, .inl false, .inr 11] 9560) = true := by sorry
set_option maxRecDepth 1000000 in
theorem rp_11_45 : rh_end (rh_R [(6, 11, 11, false)]) (rg_run 6 (rg_x1 (Int32.ofNat 45)) [.inl false, .inl false, .inl false, .inl false, .inl false, .inl false, .inl false, .inr 11] 9560) = true := by sorry
set_option maxRecDepth 1000000 in
theorem rp_11_46 : rh_end (rh_R [(6, 11, 11, false)]) (rg_run 6 (rg_x1 (Int32.ofNat 46)) [.inl false, .inl false, .inl false, .inl false, .inl false, .inl false, .inl false, .inr 11] 9560) = true := by sorry
set_option maxRecDepth 1000000 in
theorem rp_11_47 : rh_end (rh_R [(6, 11, 11, false)]) (rg_run 6 (rg_x1 (Int32.ofNat 47)) [.inl false, .inl false, .inl false, .inl false, .inl false, .inl false, .inl false, .inr 11] 9560) = true := by sorry
set_option maxRecDepth 1000000 in
theorem rp_11_48 : rh_end (rh_R [(6, 11, 11, false)]) (rg_run 6 (rg_x1 (Int32.ofNat 48)) [.inl false, .inl false, .inl false, .inl false, .inl false, .inl false, .inl false, .inr 11] 9560) = true := by sorry
set_option maxRecDepth 1000000 in
theorem rp_11_49 : rh_end (rh_R [(6, 11, 11, false)]) (rg_run 6 (rg_x1 (Int32.ofNat 49)) [.inl false, .inl false, .inl false, .inl false, .inl false, .inl false, .inl false, .inr 11] 9560) = true := by sorry
set_option maxRecDepth 1000000 in
theorem rp_11_50 : rh_end (rh_R [(6, 11, 11, false)]) (rg_run 6 (rg_x1 (Int32.ofNat 50)) [.inl false, .inl false, .inl false, .inl false, .inl false, .inl false, .inl false, .inr 11] 9560) = true := by sorry
set_option maxRecDepth 1000000 in
theorem rp_11_51 : rh_end (rh_R [(6, 11, 11, false)]) (rg_run 6 (rg_x1 (Int32.ofNat 51)) [.inl false, .inl false, .inl false, .inl false, .inl false, .inl false, .inl false, .inr 11] 9560) = true := by sorry
set_option maxRecDepth 1000000 in
theorem rp_11_52 : rh_end (rh_R [(6, 11, 11, false)]) (rg_run 6 (rg_x1 (Int32.ofNat 52)) [.inl false, .inl false, .inl false, .inl false, .inl false, .inl false, .inl false, .inr 11] 9560) = true := by sorry
set_option maxRecDepth 1000000 in
theorem rp_11_53 : rh_end (rh_R [(6, 11, 11, false)]) (rg_run 6 (rg_x1 (Int32.ofNat 53)) [.inl false, .inl false, .inl false, .inl false, .inl false, .inl false, .inl false, .inr 11] 9560) = true := by sorry
set_option maxRecDepth 1000000 in
theorem rp_11_54 : rh_end (rh_R [(6, 11, 11, false)]) (rg_run 6 (rg_x1 (Int32.ofNat 54)) [.inl false, .inl false, .inl false, .inl false, .inl false, .inl false, .inl false, .inr 11] 9560) = true := by sorry
set_option maxRecDepth 1000000 in
theorem rp_11_55 : rh_end (rh_R [(6, 11, 11, false)]) (rg_run 6 (rg_x1 (Int32.ofNat 55)) [.inl false, .inl false, .inl false, .inl false, .inl false, .inl false, .inl false, .inr 11] 9560) = true := by sorry
set_option maxRecDepth 1000000 in
theorem rp_11_56 : rh_end (rh_R [(6, 11, 11, false)]) (rg_run 6 (rg_x1 (Int32.ofNat 56)) [.inl false, .inl false, .inl false, .inl false, .inl false, .inl false, .inl false, .inr 11] 9560) = true := by sorry
set_option maxRecDepth 1000000 in
theorem rp_11_57 : rh_end (rh_R [(6, 11, 11, false)]) (rg_run 6 (rg_x1 (Int32.ofNat 57)) [.inl false, .inl false, .inl false, .inl false, .inl false, .inl false, .inl false, .inr 11] 9560) = true := by sorry
set_option maxRecDepth 1000000 in
theorem rp_11_58 : rh_end (rh_R [(6, 11, 11, false)]) (rg_run 6 (rg_x1 (Int32.ofNat 58)) [.inl false, .inl false, .inl false, .inl false, .inl false, .inl false, .inl false, .inr 11] 9560) = true := by sorry
set_option maxRecDepth 1000000 in
theorem rp_11_59 : rh_end (rh_R [(6, 11, 11, false)]) (rg_run 6 (rg_x1 (Int32.ofNat 59)) [.inl false, .inl false, .inl false, .inl false, .inl false, .inl false, .inl false, .inr 11] 9560) = true := by sorry
set_option maxRecDepth 1000000 in
theorem rp_11_60 : rh_end (rh_R [(6, 11, 11, false)]) (rg_run 6 (rg_x1 (Int32.ofNat 60)) [.inl false, .inl false, .inl false, .inl false, .inl false, .inl false, .inl false, .inr 11] 9560) = true := by sorry
set_option maxRecDepth 1000000 in
theorem rp_114 : rh_end (rh_R [(1, -2147483648, 0, false), (6, 11, 11, false)]) (rg_run 6 rg_xs [.inl false, .inl false, .inl false, .inl false, .inl false, .inl false, .inl false, .inr 11, .inl true, .inl true] 1809) = true := by sorry
set_option maxRecDepth 1000000 in
theorem rp_115 : rh_end (rh_R [(1, 61, 2147483647, false), (6, 11, 11, false)]) (rg_run 6 rg_xs [.inl false, .inl false, .inl false, .inl false, .inl false, .inl false, .inl false, .inr 11, .inl false, .inl false, .inl false, .inl true] 1815) = true := by sorry
set_option maxRecDepth 1000000 in
theorem rp_116 : rh_end (rh_R [(1, -2147483648, -1, false), (6, 12, 12, false)]) (rg_run 6 rg_xs [.inl false, .inl false, .inl false, .inl false, .inl false, .inl false, .inl false, .inr 12, .inl true, .inl true] 1841) = true := by sorry
set_option maxRecDepth 1000000 in
theorem rp_117 : rh_end (rh_R [(1, 0, 2147483647, false), (6, 12, 12, false)]) (rg_run 6 rg_xs [.inl false, .inl false, .inl false, .inl false, .inl false, .inl false, .inl false, .inr 12, .inl false, .inl false, .inl false, .inl true] 1849) = true := by sorry
set_option maxRecDepth 1000000 in
theorem rp_118 : rh_end (rh_R [(1, -2147483648, -1, false), (6, 13, 13, false)]) (rg_run 6 rg_xs [.inl false, .inl false, .inl false, .inl false, .inl false, .inl false, .inl false, .inr 13, .inl true, .inl true] 1831) = true := by sorry
set_option maxRecDepth 1000000 in
theorem rp_119 : rh_end (rh_R [(1, 0, 2147483647, false), (6, 13, 13, false)]) (rg_run 6 rg_xs [.inl false, .inl false, .inl false, .inl false, .inl false, .inl false, .inl false, .inr 13, .inl false, .inl false, .inl false, .inl true] 1839) = true := by sorry
set_option maxRecDepth 1000000 in
theorem rp_120 : rh_end (rh_R [(1, -2147483648, -1, false), (6, 14, 14, false)]) (rg_run 6 rg_xs [.inl false, .inl false, .inl false, .inl false, .inl false, .inl false, .inl false, .inr 14, .inl true, .inl true] 1831) = true := by sorry
set_option maxRecDepth 1000000 in
theorem rp_121 : rh_end (rh_R [(1, 0, 2147483647, false), (6, 14, 14, false)]) (rg_run 6 rg_xs [.inl false, .inl false, .inl false, .inl false, .inl false, .inl false, .inl false, .inr 14, .inl false, .inl false, .inl false, .inl true] 1839) = true := by sorry
set_option maxRecDepth 1000000 in
theorem rp_122 : rh_end (rh_R [(1, -2147483648, -1, false), (6, 15, 15, false)]) (rg_run 6 rg_xs [.inl false, .inl false, .inl false, .inl false, .inl false, .inl false, .inl false, .inr 15, .inl true, .inl true] 1853) = true := by sorry
set_option maxRecDepth 1000000 in
theorem rp_123 : rh_end (rh_R [(1, 0, 2147483647, false), (6, 15, 15, false)]) (rg_run 6 rg_xs [.inl false, .inl false, .inl false, .inl false, .inl false, .inl false, .inl false, .inr 15, .inl false, .inl false, .inl false, .inl true] 1861) = true := by sorry
set_option maxRecDepth 1000000 in
theorem rp_124 : rh_end (rh_R [(1, -2147483648, -1, false), (6, 16, 16, false)]) (rg_run 6 rg_xs [.inl false, .inl false, .inl false, .inl false, .inl false, .inl false, .inl false, .inr 16, .inl true, .inl true] 1831) = true := by sorry
set_option maxRecDepth 1000000 in
theorem rp_125 : rh_end (rh_R [(1, 0, 2147483647, false), (6, 16, 16, false)]) (rg_run 6 rg_xs [.inl false, .inl false, .inl false, .inl false, .inl false, .inl false, .inl false, .inr 16, .inl false, .inl false, .inl false, .inl true] 1839) = true := by sorry
set_option maxRecDepth 1000000 in
theorem rp_126 : rh_end (rh_R [(1, -2147483648, -1, false), (2, 0, 0, false), (6, 17, 17, false)]) (rg_run 6 rg_xs [.inl false, .inl false, .inl false, .inl false, .inl false, .inl false, .inl false, .inr 17, .inl true, .inl true, .inl true, .inl true] 1835) = true := by sorry
set_option maxRecDepth 1000000 in
theorem rp_127 : rh_end (rh_R [(1, 0, 2147483647, false), (2, 0, 0, false), (6, 17, 17, false)]) (rg_run 6 rg_xs [.inl false, .inl false, .inl false, .inl false, .inl false, .inl false, .inl false, .inr 17, .inl true, .inl false, .inl false, .inl true, .inl false, .inl true] 1843) = true := by sorry
set_option maxRecDepth 1000000 in
theorem rp_128 : rh_end (rh_R [(1, -2147483648, -1, false), (2, -2147483648, 2147483647, true), (6, 17, 17, false)]) (rg_run 6 rg_xs [.inl false, .inl false, .inl false, .inl false, .inl false, .inl false, .inl false, .inr 17, .inl false, .inl true, .inl false, .inl true] 1837) = true := by sorry
set_option maxRecDepth 1000000 in
theorem rp_129 : rh_end (rh_R [(1, 0, 2147483647, false), (2, -2147483648, 2147483647, true), (6, 17, 17, false)]) (rg_run 6 rg_xs [.inl false, .inl false, .inl false, .inl false, .inl false, .inl false, .inl false, .inr 17, .inl false, .inl false, .inl false, .inl false, .inl false, .inl true] 1845) = true := by sorry
set_option maxRecDepth 1000000 in
theorem rp_130 : rh_end (rh_R [(1, -2147483648, -1, false), (6, 18, 18, false)]) (rg_run 6 rg_xs [.inl false, .inl false, .inl false, .inl false, .inl false, .inl false, .inl false, .inr 18, .inl true, .inl true] 1842) = true := by sorry
set_option maxRecDepth 1000000 in
theorem rp_131 : rh_end (rh_R [(1, 0, 2147483647, false), (6, 18, 18, false)]) (rg_run 6 rg_xs [.inl false, .inl false, .inl false, .inl false, .inl false, .inl false, .inl false, .inr 18, .inl false, .inl false, .inl false, .inl true] 1850) = true := by sorry
set_option maxRecDepth 1000000 in
theorem rp_132 : rh_end (rh_R [(1, -2147483648, -1, false), (6, 19, 19, false)]) (rg_run 6 rg_xs [.inl false, .inl false, .inl false, .inl false, .inl false, .inl false, .inl false, .inr 19, .inl true, .inl true] 1831) = true := by sorry
set_option maxRecDepth 1000000 in
theorem rp_133 : rh_end (rh_R [(1, 0, 2147483647, false), (6, 19, 19, false)]) (rg_run 6 rg_xs [.inl false, .inl false, .inl false, .inl false, .inl false, .inl false, .inl false, .inr 19, .inl false, .inl false, .inl false, .inl true] 1839) = true := by sorry
set_option maxRecDepth 1000000 in
theorem rp_134 : rh_end (rh_R [(1, -2147483648, -1, false), (6, 20, 20, false)]) (rg_run 6 rg_xs [.inl false, .inl false, .inl false, .inl false, .inl false, .inl false, .inl false, .inr 20, .inl true, .inl true] 1841) = true := by sorry
set_option maxRecDepth 1000000 in
theorem rp_135 : rh_end (rh_R [(1, 0, 2147483647, false), (6, 20, 20, false)]) (rg_run 6 rg_xs [.inl false, .inl false, .inl false, .inl false, .inl false, .inl false, .inl false, .inr 20, .inl false, .inl false, .inl false, .inl true] 1849) = true := by sorry
set_option maxRecDepth 1000000 in
theorem rp_136 : rh_end (rh_R [(1, 0, 0, false), (6, 21, 21, false)]) (rg_run 6 rg_xs [.inl false, .inl false, .inl false, .inl false, .inl false, .inl false, .inl false, .inr 21, .inl true, .inl true] 27406) = true := by sorry
set_option maxRecDepth 1000000 in
theorem rp_137 : rh_end (rh_R [(1, -2147483648, 2147483647, true), (6, 21, 21, false)]) (rg_run 6 rg_xs [.inl false, .inl false, .inl false, .inl false, .inl false, .inl false, .inl false, .inr 21, .inl false, .inl false] 27410) = true := by sorry
set_option maxRecDepth 1000000 in
theorem rp_138 : rh_end (rh_R [(1, -2147483648, -1, false), (6, 22, 22, false)]) (rg_run 6 rg_xs [.inl false, .inl false, .inl false, .inl false, .inl false, .inl false, .inl false, .inr 22, .inl true, .inl true] 1820) = true := by sorry
set_option maxRecDepth 1000000 in
theorem rp_139 : rh_end (rh_R [(1, 0, 2147483647, false), (6, 22, 22, false)]) (rg_run 6 rg_xs [.inl false, .inl false, .inl false, .inl false, .inl false, .inl false, .inl false, .inr 22, .inl false, .inl false, .inl false, .inl true] 1828) = true := by sorry
set_option maxRecDepth 1000000 in
theorem rp_140 : rh_end (rh_R [(1, -2147483648, -1, false), (6, 23, 23, false)]) (rg_run 6 rg_xs [.inl false, .inl false, .inl false, .inl false, .inl false, .inl false, .inl false, .inr 23, .inl true, .inl true] 1831) = true := by sorry
set_option maxRecDepth 1000000 in
theorem rp_141 : rh_end (rh_R [(1, 0, 2147483647, false), (6, 23, 23, false)]) (rg_run 6 rg_xs [.inl false, .inl false, .inl false, .inl false, .inl false, .inl false, .inl false, .inr 23, .inl false, .inl false, .inl false, .inl true] 1839) = true := by sorry
set_option maxRecDepth 1000000 in
theorem rp_142 : rh_end (rh_R [(1, -2147483648, -1, false), (6, 24, 24, false)]) (rg_run 6 rg_xs [.inl false, .inl false, .inl false, .inl false, .inl false, .inl false, .inl false, .inr 24, .inl true, .inl true] 1842) = true := by sorry
set_option maxRecDepth 1000000 in
theorem rp_143 : rh_end (rh_R [(1, 0, 2147483647, false), (6, 24, 24, false)]) (rg_run 6 rg_xs [.inl false, .inl false, .inl false, .inl false, .inl false, .inl false, .inl false, .inr 24, .inl false, .inl false, .inl false, .inl true] 1850) = true := by sorry
set_option maxRecDepth 1000000 in
theorem rp_25_0 : rh_end (rh_R [(6, 25, 25, false)]) (rg_run 6 (rg_x1 (Int32.ofNat 0)) [.inl false, .inl false, .inl false, .inl false, .inl false, .inl false, .inl false, .inr 25] 27200) = true := by sorry
set_option maxRecDepth 1000000 in
theorem rp_25_1 : rh_end (rh_R [(6, 25, 25, false)]) (rg_run 6 (rg_x1 (Int32.ofNat 1)) [.inl false, .inl false, .inl false, .inl false, .inl false, .inl false, .inl false, .inr 25] 27200) = true := by sorry
set_option maxRecDepth 1000000 in
theorem rp_25_2 : rh_end (rh_R [(6, 25, 25, false)]) (rg_run 6 (rg_x1 (Int32.ofNat 2)) [.inl false, .inl false, .inl false, .inl false, .inl false, .inl false, .inl false, .inr 25] 27200) = true := by sorry
set_option maxRecDepth 1000000 in
theorem rp_25_3 : rh_end (rh_R [(6, 25, 25, false)]) (rg_run 6 (rg_x1 (Int32.ofNat 3)) [.inl false, .inl false, .inl false, .inl false, .inl false, .inl false, .inl false, .inr 25] 27200) = true := by sorry
set_option maxRecDepth 1000000 in
theorem rp_25_4 : rh_end (rh_R [(6, 25, 25, false)]) (rg_run 6 (rg_x1 (Int32.ofNat 4)) [.inl false, .inl false, .inl false, .inl false, .inl false, .inl false, .inl false, .inr 25] 27200) = true := by sorry
set_option maxRecDepth 1000000 in
theorem rp_25_5 : rh_end (rh_R [(6, 25, 25, false)]) (rg_run 6 (rg_x1 (Int32.ofNat 5)) [.inl false, .inl false, .inl false, .inl false, .inl false, .inl false, .inl false, .inr 25] 27200) = true := by sorry
set_option maxRecDepth 1000000 in
theorem rp_25_6 : rh_end (rh_R [(6, 25, 25, false)]) (rg_run 6 (rg_x1 (Int32.ofNat 6)) [.inl false, .inl false, .inl false, .inl false, .inl false, .inl false, .inl false, .inr 25] 27200) = true := by sorry
set_option maxRecDepth 1000000 in
theorem rp_25_7 : rh_end (rh_R [(6, 25, 25, false)]) (rg_run 6 (rg_x1 (Int32.ofNat 7)) [.inl false, .inl false, .inl false, .inl false, .inl false, .inl false, .inl false, .inr 25] 27200) = true := by sorry
set_option maxRecDepth 1000000 in
theorem rp_25_8 : rh_end (rh_R [(6, 25, 25, false)]) (rg_run 6 (rg_x1 (Int32.ofNat 8)) [.inl false, .inl false, .inl false, .inl false, .inl false, .inl false, .inl false, .inr 25] 27200) = true := by sorry
set_option maxRecDepth 1000000 in
theorem rp_25_9 : rh_end (rh_R [(6, 25, 25, false)]) (rg_run 6 (rg_x1 (Int32.ofNat 9)) [.inl false, .inl false, .inl false, .inl false, .inl false, .inl false, .inl false, .inr 25] 27200) = true := by sorry
set_option maxRecDepth 1000000 in
theorem rp_25_10 : rh_end (rh_R [(6, 25, 25, false)]) (rg_run 6 (rg_x1 (Int32.ofNat 10)) [.inl false, .inl false, .inl false, .inl false, .inl false, .inl false, .inl false, .inr 25] 27200) = true := by sorry
set_option maxRecDepth 1000000 in
theorem rp_25_11 : rh_end (rh_R [(6, 25, 25, false)]) (rg_run 6 (rg_x1 (Int32.ofNat 11)) [.inl false, .inl false, .inl false, .inl false, .inl false, .inl false, .inl false, .inr 25] 27200) = true := by sorry
set_option maxRecDepth 1000000 in
theorem rp_25_12 : rh_end (rh_R [(6, 25, 25, false)]) (rg_run 6 (rg_x1 (Int32.ofNat 12)) [.inl false, .inl false, .inl false, .inl false, .inl false, .inl false, .inl false, .inr 25] 27200) = true := by sorry
set_option maxRecDepth 1000000 in
theorem rp_25_13 : rh_end (rh_R [(6, 25, 25, false)]) (rg_run 6 (rg_x1 (Int32.ofNat 13)) [.inl false, .inl false, .inl false, .inl false, .inl false, .inl false, .inl false, .inr 25] 27200) = true := by sorry
set_option maxRecDepth 1000000 in
theorem rp_25_14 : rh_end (rh_R [(6, 25, 25, false)]) (rg_run 6 (rg_x1 (Int32.ofNat 14)) [.inl false, .inl false, .inl false, .inl false, .inl false, .inl false, .inl false, .inr 25] 27200) = true := by sorry
set_option maxRecDepth 1000000 in
theorem rp_25_15 : rh_end (rh_R [(6, 25, 25, false)]) (rg_run 6 (rg_x1 (Int32.ofNat 15)) [.inl false, .inl false, .inl false, .inl false, .inl false, .inl false, .inl false, .inr 25] 27200) = true := by sorry
set_option maxRecDepth 1000000 in
theorem rp_25_16 : rh_end (rh_R [(6, 25, 25, false)]) (rg_run 6 (rg_x1 (Int32.ofNat 16)) [.inl false, .inl false, .inl false, .inl false, .inl false, .inl false, .inl false, .inr 25] 27200) = true := by sorry
set_option maxRecDepth 1000000 in
theorem rp_25_17 : rh_end (rh_R [(6, 25, 25, false)]) (rg_run 6 (rg_x1 (Int32.ofNat 17)) [.inl false, .inl false, .inl false, .inl false, .inl false, .inl false, .inl false, .inr 25] 27200) = true := by sorry
set_option maxRecDepth 1000000 in
theorem rp_25_18 : rh_end (rh_R [(6, 25, 25, false)]) (rg_run 6 (rg_x1 (Int32.ofNat 18)) [.inl false, .inl false, .inl false, .inl false, .inl false, .inl false, .inl false, .inr 25] 27200) = true := by sorry
set_option maxRecDepth 1000000 in
theorem rp_25_19 : rh_end (rh_R [(6, 25, 25, false)]) (rg_run 6 (rg_x1 (Int32.ofNat 19)) [.inl false, .inl false, .inl false, .inl false, .inl false, .inl false, .inl false, .inr 25] 27200) = true := by sorry
set_option maxRecDepth 1000000 in
theorem rp_25_20 : rh_end (rh_R [(6, 25, 25, false)]) (rg_run 6 (rg_x1 (Int32.ofNat 20)) [.inl false, .inl false, .inl false, .inl false, .inl false, .inl false, .inl false, .inr 25] 27200) = true := by sorry
set_option maxRecDepth 1000000 in
theorem rp_25_21 : rh_end (rh_R [(6, 25, 25, false)]) (rg_run 6 (rg_x1 (Int32.ofNat 21)) [.inl false, .inl false, .inl false, .inl false, .inl false, .inl false, .inl false, .inr 25] 27200) = true := by sorry
set_option maxRecDepth 1000000 in
theorem rp_25_22 : rh_end (rh_R [(6, 25, 25, false)]) (rg_run 6 (rg_x1 (Int32.ofNat 22)) [.inl false, .inl false, .inl false, .inl false, .inl false, .inl false, .inl false, .inr 25] 27200) = true := by sorry
set_option maxRecDepth 1000000 in
theorem rp_25_23 : rh_end (rh_R [(6, 25, 25, false)]) (rg_run 6 (rg_x1 (Int32.ofNat 23)) [.inl false, .inl false, .inl false, .inl false, .inl false, .inl false, .inl false, .inr 25] 27200) = true := by sorry
set_option maxRecDepth 1000000 in
theorem rp_25_24 : rh_end (rh_R [(6, 25, 25, false)]) (rg_run 6 (rg_x1 (Int32.ofNat 24)) [.inl false, .inl false, .inl false, .inl false, .inl false, .inl false, .inl false, .inr 25] 27200) = true := by sorry
set_option maxRecDepth 1000000 in
theorem rp_25_25 : rh_end (rh_R [(6, 25, 25, false)]) (rg_run 6 (rg_x1 (Int32.ofNat 25)) [.inl false, .inl false, .inl false, .inl false, .inl false, .inl false, .inl false, .inr 25] 27200) = true := by sorry
set_option maxRecDepth 1000000 in
theorem rp_25_26 : rh_end (rh_R [(6, 25, 25, false)]) (rg_run 6 (rg_x1 (Int32.ofNat 26)) [.inl false, .inl false, .inl false, .inl false, .inl false, .inl false, .inl false, .inr 25] 27200) = true := by sorry
set_option maxRecDepth 1000000 in
theorem rp_25_27 : rh_end (rh_R [(6, 25, 25, false)]) (rg_run 6 (rg_x1 (Int32.ofNat 27)) [.inl false, .inl false, .inl false, .inl false, .inl false, .inl false, .inl false, .inr 25] 27200) = true := by sorry
set_option maxRecDepth 1000000 in
theorem rp_25_28 : rh_end (rh_R [(6, 25, 25, false)]) (rg_run 6 (rg_x1 (Int32.ofNat 28)) [.inl false, .inl false, .inl false, .inl false, .inl false, .inl false, .inl false, .inr 25] 27200) = true := by sorry
set_option maxRecDepth 1000000 in
theorem rp_25_29 : rh_end (rh_R [(6, 25, 25, false)]) (rg_run 6 (rg_x1 (Int32.ofNat 29)) [.inl false, .inl false, .inl false, .inl false, .inl false, .inl false, .inl false, .inr 25] 27200) = true := by sorry
set_option maxRecDepth 1000000 in
theorem rp_25_30 : rh_end (rh_R [(6, 25, 25, false)]) (rg_run 6 (rg_x1 (Int32.ofNat 30)) [.inl false, .inl false, .inl false, .inl false, .inl false, .inl false, .inl false, .inr 25] 27200) = true := by sorry
set_option maxRecDepth 1000000 in
theorem rp_25_31 : rh_end (rh_R [(6, 25, 25, false)]) (rg_run 6 (rg_x1 (Int32.ofNat 31)) [.inl false, .inl false, .inl false, .inl false, .inl false, .inl false, .inl false, .inr 25] 27200) = true := by sorry
set_option maxRecDepth 1000000 in
theorem rp_25_32 : rh_end (rh_R [(6, 25, 25, false)]) (rg_run 6 (rg_x1 (Int32.ofNat 32)) [.inl false, .inl false, .inl false, .inl false, .inl false, .inl false, .inl false, .inr 25] 27200) = true := by sorry
set_option maxRecDepth 1000000 in
theorem rp_25_33 : rh_end (rh_R [(6, 25, 25, false)]) (rg_run 6 (rg_x1 (Int32.ofNat 33)) [.inl false, .inl false, .inl false, .inl false, .inl false, .inl false, .inl false, .inr 25] 27200) = true := by sorry
set_option maxRecDepth 1000000 in
theorem rp_25_34 : rh_end (rh_R [(6, 25, 25, false)]) (rg_run 6 (rg_x1 (Int32.ofNat 34)) [.inl false, .inl false, .inl false, .inl false, .inl false, .inl false, .inl false, .inr 25] 27200) = true := by sorry
set_option maxRecDepth 1000000 in
theorem rp_25_35 : rh_end (rh_R [(6, 25, 25, false)]) (rg_run 6 (rg_x1 (Int32.ofNat 35)) [.inl false, .inl false, .inl false, .inl false, .inl false, .inl false, .inl false, .inr 25] 27200) = true := by sorry
set_option maxRecDepth 1000000 in
theorem rp_25_36 : rh_end (rh_R [(6, 25, 25, false)]) (rg_run 6 (rg_x1 (Int32.ofNat 36)) [.inl false, .inl false, .inl false, .inl false, .inl false, .inl false, .inl false, .inr 25] 27200) = true := by sorry
set_option maxRecDepth 1000000 in
theorem rp_25_37 : rh_end (rh_R [(6, 25, 25, false)]) (rg_run 6 (rg_x1 (Int32.ofNat 37)) [.inl false, .inl false, .inl false, .inl false, .inl false, .inl false, .inl false, .inr 25] 27200) = true := by sorry
set_option maxRecDepth 1000000 in
theorem rp_25_38 : rh_end (rh_R [(6, 25, 25, false)]) (rg_run 6 (rg_x1 (Int32.ofNat 38)) [.inl false, .inl false, .inl false, .inl false, .inl false, .inl false, .inl false, .inr 25] 27200) = true := by sorry
set_option maxRecDepth 1000000 in
theorem rp_25_39 : rh_end (rh_R [(6, 25, 25, false)]) (rg_run 6 (rg_x1 (Int32.ofNat 39)) [.inl false, .inl false, .inl false, .inl false, .inl false, .inl false, .inl false, .inr 25] 27200) = true := by sorry
set_option maxRecDepth 1000000 in
theorem rp_25_40 : rh_end (rh_R [(6, 25, 25, false)]) (rg_run 6 (rg_x1 (Int32.ofNat 40)) [.inl false, .inl false, .inl false, .inl false, .inl false, .inl false, .inl false, .inr 25] 27200) = true := by sorry
set_option maxRecDepth 1000000 in
theorem rp_25_41 : rh_end (rh_R [(6, 25, 25, false)]) (rg_run 6 (rg_x1 (Int32.ofNat 41)) [.inl false, .inl false, .inl false, .inl false, .inl false, .inl false, .inl false, .inr 25] 27200) = true := by sorry
set_option maxRecDepth 1000000 in
theorem rp_25_42 : rh_end (rh_R [(6, 25, 25, false)]) (rg_run 6 (rg_x1 (Int32.ofNat 42)) [.inl false, .inl false, .inl false, .inl false, .inl false, .inl false, .inl false, .inr 25] 27200) = true := by sorry
set_option maxRecDepth 1000000 in
theorem rp_25_43 : rh_end (rh_R [(6, 25, 25, false)]) (rg_run 6 (rg_x1 (Int32.ofNat 43)) [.inl false, .inl false, .inl false, .inl false, .inl false, .inl false, .inl false, .inr 25] 27200) = true := by sorry
set_option maxRecDepth 1000000 in
theorem rp_25_44 : rh_end (rh_R [(6, 25, 25, false)]) (rg_run 6 (rg_x1 (Int32.ofNat 44)) [.inl false, .inl false, .inl false, .inl false, .inl false, .inl false, .inl false, .inr 25] 27200) = true := by sorry
set_option maxRecDepth 1000000 in
theorem rp_25_45 : rh_end (rh_R [(6, 25, 25, false)]) (rg_run 6 (rg_x1 (Int32.ofNat 45)) [.inl false, .inl false, .inl false, .inl false, .inl false, .inl false, .inl false, .inr 25] 27200) = true := by sorry
set_option maxRecDepth 1000000 in
theorem rp_25_46 : rh_end (rh_R [(6, 25, 25, false)]) (rg_run 6 (rg_x1 (Int32.ofNat 46)) [.inl false, .inl false, .inl false, .inl false, .inl false, .inl false, .inl false, .inr 25] 27200) = true := by sorry
set_option maxRecDepth 1000000 in
theorem rp_25_47 : rh_end (rh_R [(6, 25, 25, false)]) (rg_run 6 (rg_x1 (Int32.ofNat 47)) [.inl false, .inl false, .inl false, .inl false, .inl false, .inl false, .inl false, .inr 25] 27200) = true := by sorry
set_option maxRecDepth 1000000 in
theorem rp_25_48 : rh_end (rh_R [(6, 25, 25, false)]) (rg_run 6 (rg_x1 (Int32.ofNat 48)) [.inl false, .inl false, .inl false, .inl false, .inl false, .inl false, .inl false, .inr 25] 27200) = true := by sorry
set_option maxRecDepth 1000000 in
theorem rp_25_49 : rh_end (rh_R [(6, 25, 25, false)]) (rg_run 6 (rg_x1 (Int32.ofNat 49)) [.inl false, .inl false, .inl false, .inl false, .inl false, .inl false, .inl false, .inr 25] 27200) = true := by sorry
set_option maxRecDepth 1000000 in
theorem rp_25_50 : rh_end (rh_R [(6, 25, 25, false)]) (rg_run 6 (rg_x1 (Int32.ofNat 50)) [.inl false, .inl false, .inl false, .inl false, .inl false, .inl false, .inl false, .inr 25] 27200) = true := by sorry
set_option maxRecDepth 1000000 in
theorem rp_25_51 : rh_end (rh_R [(6, 25, 25, false)]) (rg_run 6 (rg_x1 (Int32.ofNat 51)) [.inl false, .inl false, .inl false, .inl false, .inl false, .inl false, .inl false, .inr 25] 27200) = true := by sorry
set_option maxRecDepth 1000000 in
theorem rp_25_52 : rh_end (rh_R [(6, 25, 25, false)]) (rg_run 6 (rg_x1 (Int32.ofNat 52)) [.inl false, .inl false, .inl false, .inl false, .inl false, .inl false, .inl false, .inr 25] 27200) = true := by sorry
set_option maxRecDepth 1000000 in
theorem rp_25_53 : rh_end (rh_R [(6, 25, 25, false)]) (rg_run 6 (rg_x1 (Int32.ofNat 53)) [.inl false, .inl false, .inl false, .inl false, .inl false, .inl false, .inl false, .inr 25] 27200) = true := by sorry
set_option maxRecDepth 1000000 in
theorem rp_25_54 : rh_end (rh_R [(6, 25, 25, false)]) (rg_run 6 (rg_x1 (Int32.ofNat 54)) [.inl false, .inl false, .inl false, .inl false, .inl false, .inl false, .inl false, .inr 25] 27200) = true := by sorry
set_option maxRecDepth 1000000 in
theorem rp_25_55 : rh_end (rh_R [(6, 25, 25, false)]) (rg_run 6 (rg_x1 (Int32.ofNat 55)) [.inl false, .inl false, .inl false, .inl false, .inl false, .inl false, .inl false, .inr 25] 27200) = true := by sorry
set_option maxRecDepth 1000000 in
theorem rp_25_56 : rh_end (rh_R [(6, 25, 25, false)]) (rg_run 6 (rg_x1 (Int32.ofNat 56)) [.inl false, .inl false, .inl false, .inl false, .inl false, .inl false, .inl false, .inr 25] 27200) = true := by sorry
set_option maxRecDepth 1000000 in
theorem rp_25_57 : rh_end (rh_R [(6, 25, 25, false)]) (rg_run 6 (rg_x1 (Int32.ofNat 57)) [.inl false, .inl false, .inl false, .inl false, .inl false, .inl false, .inl false, .inr 25] 27200) = true := by sorry
set_option maxRecDepth 1000000 in
theorem rp_25_58 : rh_end (rh_R [(6, 25, 25, false)]) (rg_run 6 (rg_x1 (Int32.ofNat 58)) [.inl false, .inl false, .inl false, .inl false, .inl false, .inl false, .inl false, .inr 25] 27200) = true := by sorry
set_option maxRecDepth 1000000 in
theorem rp_25_59 : rh_end (rh_R [(6, 25, 25, false)]) (rg_run 6 (rg_x1 (Int32.ofNat 59)) [.inl false, .inl false, .inl false, .inl false, .inl false, .inl false, .inl false, .inr 25] 27200) = true := by sorry
set_option maxRecDepth 1000000 in
theorem rp_25_60 : rh_end (rh_R [(6, 25, 25, false)]) (rg_run 6 (rg_x1 (Int32.ofNat 60)) [.inl false, .inl false, .inl false, .inl false, .inl false, .inl false, .inl false, .inr 25] 27200) = true := by sorry
set_option maxRecDepth 1000000 in
theorem rp_205 : rh_end (rh_R [(1, -2147483648, -1, false), (6, 25, 25, false)]) (rg_run 6 rg_xs [.inl false, .inl false, .inl false, .inl false, .inl false, .inl false, .inl false, .inr 25, .inl true, .inl true] 1809) = true := by sorry
set_option maxRecDepth 1000000 in
theorem rp_206 : rh_end (rh_R [(1, 61, 2147483647, false), (6, 25, 25, false)]) (rg_run 6 rg_xs [.inl false, .inl false, .inl false, .inl false, .inl false, .inl false, .inl false, .inr 25, .inl false, .inl false, .inl false, .inl true] 1815) = true := by sorry
set_option maxRecDepth 1000000 in
theorem rp_207 : rh_end (rh_R [(1, -2147483648, -1, false), (3, 0, 0, false), (6, 26, 26, false)]) (rg_run 6 rg_xs [.inl false, .inl false, .inl false, .inl false, .inl false, .inl false, .inl false, .inr 26, .inl true, .inl true, .inl true, .inl true] 1846) = true := by sorry
set_option maxRecDepth 1000000 in
theorem rp_208 : rh_end (rh_R [(1, 0, 2147483647, false), (3, 0, 0, false), (6, 26, 26, false)]) (rg_run 6 rg_xs [.inl false, .inl false, .inl false, .inl false, .inl false, .inl false, .inl false, .inr 26, .inl true, .inl false, .inl false, .inl true, .inl false, .inl true] 1854) = true := by sorry
set_option maxRecDepth 1000000 in
theorem rp_209 : rh_end (rh_R [(1, -2147483648, -1, false), (3, -2147483648, 2147483647, true), (6, 26, 26, false)]) (rg_run 6 rg_xs [.inl false, .inl false, .inl false, .inl false, .inl false, .inl false, .inl false, .inr 26, .inl false, .inl true, .inl false, .inl true] 1848) = true := by sorry
set_option maxRecDepth 1000000 in
theorem rp_210 : rh_end (rh_R [(1, 0, 2147483647, false), (3, -2147483648, 2147483647, true), (6, 26, 26, false)]) (rg_run 6 rg_xs [.inl false, .inl false, .inl false, .inl false, .inl false, .inl false, .inl false, .inr 26, .inl false, .inl false, .inl false, .inl false, .inl false, .inl true] 1856) = true := by sorry
set_option maxRecDepth 1000000 in
theorem rp_211 : rh_end (rh_R [(1, -2147483648, -1, false), (6, 27, 27, false)]) (rg_run 6 rg_xs [.inl false, .inl false, .inl false, .inl false, .inl false, .inl false, .inl false, .inr 27, .inl true, .inl true] 1839) = true := by sorry
set_option maxRecDepth 1000000 in
theorem rp_212 : rh_end (rh_R [(1, 0, 2147483647, false), (6, 27, 27, false)]) (rg_run 6 rg_xs [.inl false, .inl false, .inl false, .inl false, .inl false, .inl false, .inl false, .inr 27, .inl false, .inl false, .inl false, .inl true] 1847) = true := by sorry
set_option maxRecDepth 1000000 in
theorem rp_213 : rh_end (rh_R [(1, -2147483648, -1, false), (6, 28, 28, false)]) (rg_run 6 rg_xs [.inl false, .inl false, .inl false, .inl false, .inl false, .inl false, .inl false, .inr 28, .inl true, .inl true] 1839) = true := by sorry
set_option maxRecDepth 1000000 in
theorem rp_214 : rh_end (rh_R [(1, 0, 2147483647, false), (6, 28, 28, false)]) (rg_run 6 rg_xs [.inl false, .inl false, .inl false, .inl false, .inl false, .inl false, .inl false, .inr 28, .inl false, .inl false, .inl false, .inl true] 1847) = true := by sorry
set_option maxRecDepth 1000000 in
theorem rp_29_0 : rh_end (rh_R [(6, 29, 29, false)]) (rg_run 6 (rg_x1 (Int32.ofNat 0)) [.inl false, .inl false, .inl false, .inl false, .inl false, .inl false, .inl false, .inr 29] 22558) = true := by sorry
set_option maxRecDepth 1000000 in
theorem rp_29_1 : rh_end (rh_R [(6, 29, 29, false)]) (rg_run 6 (rg_x1 (Int32.ofNat 1)) [.inl false, .inl false, .inl false, .inl false, .inl false, .inl false, .inl false, .inr 29] 22558) = true := by sorry
set_option maxRecDepth 1000000 in
theorem rp_29_2 : rh_end (rh_R [(6, 29, 29, false)]) (rg_run 6 (rg_x1 (Int32.ofNat 2)) [.inl false, .inl false, .inl false, .inl false, .inl false, .inl false, .inl false, .inr 29] 22558) = true := by sorry
set_option maxRecDepth 1000000 in
theorem rp_29_3 : rh_end (rh_R [(6, 29, 29, false)]) (rg_run 6 (rg_x1 (Int32.ofNat 3)) [.inl false, .inl false, .inl false, .inl false, .inl false, .inl false, .inl false, .inr 29] 22558) = true := by sorry
set_option maxRecDepth 1000000 in
theorem rp_29_4 : rh_end (rh_R [(6, 29, 29, false)]) (rg_run 6 (rg_x1 (Int32.ofNat 4)) [.inl false, .inl false, .inl false, .inl false, .inl false, .inl false, .inl false, .inr 29] 22558) = true := by sorry
set_option maxRecDepth 1000000 in
theorem rp_29_5 : rh_end (rh_R [(6, 29, 29, false)]) (rg_run 6 (rg_x1 (Int32.ofNat 5)) [.inl false, .inl false, .inl false, .inl false, .inl false, .inl false, .inl false, .inr 29] 22558) = true := by sorry
set_option maxRecDepth 1000000 in
theorem rp_29_6 : rh_end (rh_R [(6, 29, 29, false)]) (rg_run 6 (rg_x1 (Int32.ofNat 6)) [.inl false, .inl false, .inl false, .inl false, .inl false, .inl false, .inl false, .inr 29] 22558) = true := by sorry
set_option maxRecDepth 1000000 in
theorem rp_29_7 : rh_end (rh_R [(6, 29, 29, false)]) (rg_run 6 (rg_x1 (Int32.ofNat 7)) [.inl false, .inl false, .inl false, .inl false, .inl false, .inl false, .inl false, .inr 29] 22558) = true := by sorry
set_option maxRecDepth 1000000 in
theorem rp_29_8 : rh_end (rh_R [(6, 29, 29, false)]) (rg_run 6 (rg_x1 (Int32.ofNat 8)) [.inl false, .inl false, .inl false, .inl false, .inl false, .inl false, .inl false, .inr 29] 22558) = true := by sorry
set_option maxRecDepth 1000000 in
theorem rp_29_9 : rh_end (rh_R [(6, 29, 29, false)]) (rg_run 6 (rg_x1 (Int32.ofNat 9)) [.inl false, .inl false, .inl false, .inl false, .inl false, .inl false, .inl false, .inr 29] 22558) = true := by sorry
set_option maxRecDepth 1000000 in
theorem rp_29_10 : rh_end (rh_R [(6, 29, 29, false)]) (rg_run 6 (rg_x1 (Int32.ofNat 10)) [.inl false, .inl false, .inl false, .inl false, .inl false, .inl false, .inl false, .inr 29] 22558) = true := by sorry
set_option maxRecDepth 1000000 in
theorem rp_29_11 : rh_end (rh_R [(6, 29, 29, false)]) (rg_run 6 (rg_x1 (Int32.ofNat 11)) [.inl false, .inl false, .inl false, .inl false, .inl false, .inl false, .inl false, .inr 29] 22558) = true := by sorry
set_option maxRecDepth 1000000 in
theorem rp_29_12 : rh_end (rh_R [(6, 29, 29, false)]) (rg_run 6 (rg_x1 (Int32.ofNat 12)) [.inl false, .inl false, .inl false, .inl false, .inl false, .inl false, .inl false, .inr 29] 22558) = true := by sorry
set_option maxRecDepth 1000000 in
theorem rp_29_13 : rh_end (rh_R [(6, 29, 29, false)]) (rg_run 6 (rg_x1 (Int32.ofNat 13)) [.inl false, .inl false, .inl false, .inl false, .inl false, .inl false, .inl false, .inr 29] 22558) = true := by sorry
set_option maxRecDepth 1000000 in
theorem rp_29_14 : rh_end (rh_R [(6, 29, 29, false)]) (rg_run 6 (rg_x1 (Int32.ofNat 14)) [.inl false, .inl false, .inl false, .inl false, .inl false, .inl false, .inl false, .inr 29] 22558) = true := by sorry
set_option maxRecDepth 1000000 in
theorem rp_29_15 : rh_end (rh_R [(6, 29, 29, false)]) (rg_run 6 (rg_x1 (Int32.ofNat 15)) [.inl false, .inl false, .inl false, .inl false, .inl false, .inl false, .inl false, .inr 29] 22558) = true := by sorry
set_option maxRecDepth 1000000 in
theorem rp_29_16 : rh_end (rh_R [(6, 29, 29, false)]) (rg_run 6 (rg_x1 (Int32.ofNat 16)) [.inl false, .inl false, .inl false, .inl false, .inl false, .inl false, .inl false, .inr 29] 22558) = true := by sorry
set_option maxRecDepth 1000000 in
theorem rp_29_17 : rh_end (rh_R [(6, 29, 29, false)]) (rg_run 6 (rg_x1 (Int32.ofNat 17)) [.inl false, .inl false, .inl false, .inl false, .inl false, .inl false, .inl false, .inr 29] 22558) = true := by sorry
set_option maxRecDepth 1000000 in
theorem rp_29_18 : rh_end (rh_R [(6, 29, 29, false)]) (rg_run 6 (rg_x1 (Int32.ofNat 18)) [.inl false, .inl false, .inl false, .inl false, .inl false, .inl false, .inl false, .inr 29] 22558) = true := by sorry
set_option maxRecDepth 1000000 in
theorem rp_29_19 : rh_end (rh_R [(6, 29, 29, false)]) (rg_run 6 (rg_x1 (Int32.ofNat 19)) [.inl false, .inl false, .inl false, .inl false, .inl false, .inl false, .inl false, .inr 29] 22558) = true := by sorry
set_option maxRecDepth 1000000 in
theorem rp_29_20 : rh_end (rh_R [(6, 29, 29, false)]) (rg_run 6 (rg_x1 (Int32.ofNat 20)) [.inl false, .inl false, .inl false, .inl false, .inl false, .inl false, .inl false, .inr 29] 22558) = true := by sorry
set_option maxRecDepth 1000000 in
theorem rp_29_21 : rh_end (rh_R [(6, 29, 29, false)]) (rg_run 6 (rg_x1 (Int32.ofNat 21)) [.inl false, .inl false, .inl false, .inl false, .inl false, .inl false, .inl false, .inr 29] 22558) = true := by sorry
set_option maxRecDepth 1000000 in
theorem rp_29_22 : rh_end (rh_R [(6, 29, 29, false)]) (rg_run 6 (rg_x1 (Int32.ofNat 22)) [.inl false, .inl false, .inl false, .inl false, .inl false, .inl false, .inl false, .inr 29] 22558) = true := by sorry
set_option maxRecDepth 1000000 in
theorem rp_29_23 : rh_end (rh_R [(6, 29, 29, false)]) (rg_run 6 (rg_x1 (Int32.ofNat 23)) [.inl false, .inl false, .inl false, .inl false, .inl false, .inl false, .inl false, .inr 29] 22558) = true := by sorry
set_option maxRecDepth 1000000 in
theorem rp_29_24 : rh_end (rh_R [(6, 29, 29, false)]) (rg_run 6 (rg_x1 (Int32.ofNat 24)) [.inl false, .inl false, .inl false, .inl false, .inl false, .inl false, .inl false, .inr 29] 22558) = true := by sorry
set_option maxRecDepth 1000000 in
theorem rp_29_25 : rh_end (rh_R [(6, 29, 29, false)]) (rg_run 6 (rg_x1 (Int32.ofNat 25)) [.inl false, .inl false, .inl false, .inl false, .inl false, .inl false, .inl false, .inr 29] 22558) = true := by sorry
set_option maxRecDepth 1000000 in
theorem rp_29_26 : rh_end (rh_R [(6, 29, 29, false)]) (rg_run 6 (rg_x1 (Int32.ofNat 26)) [.inl false, .inl false, .inl false, .inl false, .inl false, .inl false, .inl false, .inr 29] 22558) = true := by sorry
set_option maxRecDepth 1000000 in
theorem rp_29_27 : rh_end (rh_R [(6, 29, 29, false)]) (rg_run 6 (rg_x1 (Int32.ofNat 27)) [.inl false, .inl false, .inl false, .inl false, .inl false, .inl false, .inl false, .inr 29] 22558) = true := by sorry
set_option maxRecDepth 1000000 in
theorem rp_29_28 : rh_end (rh_R [(6, 29, 29, false)]) (rg_run 6 (rg_x1 (Int32.ofNat 28)) [.inl false, .inl false, .inl false, .inl false, .inl false, .inl false, .inl false, .inr 29] 22558) = true := by sorry
set_option maxRecDepth 1000000 in
theorem rp_29_29 : rh_end (rh_R [(6, 29, 29, false)]) (rg_run 6 (rg_x1 (Int32.ofNat 29)) [.inl false, .inl false, .inl false, .inl false, .inl false, .inl false, .inl false, .inr 29] 22558) = true := by sorry
set_option maxRecDepth 1000000 in
theorem rp_29_30 : rh_end (rh_R [(6, 29, 29, false)]) (rg_run 6 (rg_x1 (Int32.ofNat 30)) [.inl false, .inl false, .inl false, .inl false, .inl false, .inl false, .inl false, .inr 29] 22558) = true := by sorry
set_option maxRecDepth 1000000 in
theorem rp_29_31 : rh_end (rh_R [(6, 29, 29, false)]) (rg_run 6 (rg_x1 (Int32.ofNat 31)) [.inl false, .inl false, .inl false, .inl false, .inl false, .inl false, .inl false, .inr 29] 22558) = true := by sorry
set_option maxRecDepth 1000000 in
theorem rp_29_32 : rh_end (rh_R [(6, 29, 29, false)]) (rg_run 6 (rg_x1 (Int32.ofNat 32)) [.inl false, .inl false, .inl false, .inl false, .inl false, .inl false, .inl false, .inr 29] 22558) = true := by sorry
set_option maxRecDepth 1000000 in
theorem rp_29_33 : rh_end (rh_R [(6, 29, 29, false)]) (rg_run 6 (rg_x1 (Int32.ofNat 33)) [.inl false, .inl false, .inl false, .inl false, .inl false, .inl false, .inl false, .inr 29] 22558) = true := by sorry
set_option maxRecDepth 1000000 in
theorem rp_29_34 : rh_end (rh_R [(6, 29, 29, false)]) (rg_run 6 (rg_x1 (Int32.ofNat 34)) [.inl false, .inl false, .inl false, .inl false, .inl false, .inl false, .inl false, .inr 29] 22558) = true := by sorry
set_option maxRecDepth 1000000 in
theorem rp_29_35 : rh_end (rh_R [(6, 29, 29, false)]) (rg_run 6 (rg_x1 (Int32.ofNat 35)) [.inl false, .inl false, .inl false, .inl false, .inl false, .inl false, .inl false, .inr 29] 22558) = true := by sorry
set_option maxRecDepth 1000000 in
theorem rp_29_36 : rh_end (rh_R [(6, 29, 29, false)]) (rg_run 6 (rg_x1 (Int32.ofNat 36)) [.inl false, .inl false, .inl false, .inl false, .inl false, .inl false, .inl false, .inr 29] 22558) = true := by sorry
set_option maxRecDepth 1000000 in
theorem rp_29_37 : rh_end (rh_R [(6, 29, 29, false)]) (rg_run 6 (rg_x1 (Int32.ofNat 37)) [.inl false, .inl false, .inl false, .inl false, .inl false, .inl false, .inl false, .inr 29] 22558) = true := by sorry
set_option maxRecDepth 1000000 in
theorem rp_29_38 : rh_end (rh_R [(6, 29, 29, false)]) (rg_run 6 (rg_x1 (Int32.ofNat 38)) [.inl false, .inl false, .inl false, .inl false, .inl false, .inl false, .inl false, .inr 29] 22558) = true := by sorry
set_option maxRecDepth 1000000 in
theorem rp_29_39 : rh_end (rh_R [(6, 29, 29, false)]) (rg_run 6 (rg_x1 (Int32.ofNat 39)) [.inl false, .inl false, .inl false, .inl false, .inl false, .inl false, .inl false, .inr 29] 22558) = true := by sorry
set_option maxRecDepth 1000000 in
theorem rp_29_40 : rh_end (rh_R [(6, 29, 29, false)]) (rg_run 6 (rg_x1 (Int32.ofNat 40)) [.inl false, .inl false, .inl false, .inl false, .inl false, .inl false, .inl false, .inr 29] 22558) = true := by sorry
set_option maxRecDepth 1000000 in
theorem rp_29_41 : rh_end (rh_R [(6, 29, 29, false)]) (rg_run 6 (rg_x1 (Int32.ofNat 41)) [.inl false, .inl false, .inl false, .inl false, .inl false, .inl false, .inl false, .inr 29] 22558) = true := by sorry
set_option maxRecDepth 1000000 in
theorem rp_29_42 : rh_end (rh_R [(6, 29, 29, false)]) (rg_run 6 (rg_x1 (Int32.ofNat 42)) [.inl false, .inl false, .inl false, .inl false, .inl false, .inl false, .inl false, .inr 29] 22558) = true := by sorry
set_option maxRecDepth 1000000 in
theorem rp_29_43 : rh_end (rh_R [(6, 29, 29, false)]) (rg_run 6 (rg_x1 (Int32.ofNat 43)) [.inl false, .inl false, .inl false, .inl false, .inl false, .inl false, .inl false, .inr 29] 22558) = true := by sorry
set_option maxRecDepth 1000000 in
theorem rp_29_44 : rh_end (rh_R [(6, 29, 29, false)]) (rg_run 6 (rg_x1 (Int32.ofNat 44)) [.inl false, .inl false, .inl false, .inl false, .inl false, .inl false, .inl false, .inr 29] 22558) = true := by sorry
set_option maxRecDepth 1000000 in
theorem rp_29_45 : rh_end (rh_R [(6, 29, 29, false)]) (rg_run 6 (rg_x1 (Int32.ofNat 45)) [.inl false, .inl false, .inl false, .inl false, .inl false, .inl false, .inl false, .inr 29] 22558) = true := by sorry
set_option maxRecDepth 1000000 in
theorem rp_29_46 : rh_end (rh_R [(6, 29, 29, false)]) (rg_run 6 (rg_x1 (Int32.ofNat 46)) [.inl false, .inl false, .inl false, .inl false, .inl false, .inl false, .inl false, .inr 29] 22558) = true := by sorry
set_option maxRecDepth 1000000 in
theorem rp_29_47 : rh_end (rh_R [(6, 29, 29, false)]) (rg_run 6 (rg_x1 (Int32.ofNat 47)) [.inl false, .inl false, .inl false, .inl false, .inl false, .inl false, .inl false, .inr 29] 22558) = true := by sorry
set_option maxRecDepth 1000000 in
theorem rp_29_48 : rh_end (rh_R [(6, 29, 29, false)]) (rg_run 6 (rg_x1 (Int32.ofNat 48)) [.inl false, .inl false, .inl false, .inl false, .inl false, .inl false, .inl false, .inr 29] 22558) = true := by sorry
set_option maxRecDepth 1000000 in
theorem rp_29_49 : rh_end (rh_R [(6, 29, 29, false)]) (rg_run 6 (rg_x1 (Int32.ofNat 49)) [.inl false, .inl false, .inl false, .inl false, .inl false, .inl false, .inl false, .inr 29] 22558) = true := by sorry
set_option maxRecDepth 1000000 in
theorem rp_29_50 : rh_end (rh_R [(6, 29, 29, false)]) (rg_run 6 (rg_x1 (Int32.ofNat 50)) [.inl false, .inl false, .inl false, .inl false, .inl false, .inl false, .inl false, .inr 29] 22558) = true := by sorry
set_option maxRecDepth 1000000 in
theorem rp_29_51 : rh_end (rh_R [(6, 29, 29, false)]) (rg_run 6 (rg_x1 (Int32.ofNat 51)) [.inl false, .inl false, .inl false, .inl false, .inl false, .inl false, .inl false, .inr 29] 22558) = true := by sorry
set_option maxRecDepth 1000000 in
theorem rp_29_52 : rh_end (rh_R [(6, 29, 29, false)]) (rg_run 6 (rg_x1 (Int32.ofNat 52)) [.inl false, .inl false, .inl false, .inl false, .inl false, .inl false, .inl false, .inr 29] 22558) = true := by sorry
set_option maxRecDepth 1000000 in
theorem rp_29_53 : rh_end (rh_R [(6, 29, 29, false)]) (rg_run 6 (rg_x1 (Int32.ofNat 53)) [.inl false, .inl false, .inl false, .inl false, .inl false, .inl false, .inl false, .inr 29] 22558) = true := by sorry
set_option maxRecDepth 1000000 in
theorem rp_29_54 : rh_end (rh_R [(6, 29, 29, false)]) (rg_run 6 (rg_x1 (Int32.ofNat 54)) [.inl false, .inl false, .inl false, .inl false, .inl false, .inl false, .inl false, .inr 29] 22558) = true := by sorry
set_option maxRecDepth 1000000 in
theorem rp_29_55 : rh_end (rh_R [(6, 29, 29, false)]) (rg_run 6 (rg_x1 (Int32.ofNat 55)) [.inl false, .inl false, .inl false, .inl false, .inl false, .inl false, .inl false, .inr 29] 22558) = true := by sorry
set_option maxRecDepth 1000000 in
theorem rp_29_56 : rh_end (rh_R [(6, 29, 29, false)]) (rg_run 6 (rg_x1 (Int32.ofNat 56)) [.inl false, .inl false, .inl false, .inl false, .inl false, .inl false, .inl false, .inr 29] 22558) = true := by sorry
set_option maxRecDepth 1000000 in
theorem rp_29_57 : rh_end (rh_R [(6, 29, 29, false)]) (rg_run 6 (rg_x1 (Int32.ofNat 57)) [.inl false, .inl false, .inl false, .inl false, .inl false, .inl false, .inl false, .inr 29] 22558) = true := by sorry
set_option maxRecDepth 1000000 in
theorem rp_29_58 : rh_end (rh_R [(6, 29, 29, false)]) (rg_run 6 (rg_x1 (Int32.ofNat 58)) [.inl false, .inl false, .inl false, .inl false, .inl false, .inl false, .inl false, .inr 29] 22558) = true := by sorry
set_option maxRecDepth 1000000 in
theorem rp_29_59 : rh_end (rh_R [(6, 29, 29, false)]) (rg_run 6 (rg_x1 (Int32.ofNat 59)) [.inl false, .inl false, .inl false, .inl false, .inl false, .inl false, .inl false, .inr 29] 22558) = true := by sorry
set_option maxRecDepth 1000000 in
theorem rp_29_60 : rh_end (rh_R [(6, 29, 29, false)]) (rg_run 6 (rg_x1 (Int32.ofNat 60)) [.inl false, .inl false, .inl false, .inl false, .inl false, .inl false, .inl false, .inr 29] 22558) = true := by sorry
set_option maxRecDepth 1000000 in
theorem rp_276 : rh_end (rh_R [(1, -2147483648, -1, false), (6, 29, 29, false)]) (rg_run 6 rg_xs [.inl false, .inl false, .inl false, .inl false, .inl false, .inl false, .inl false, .inr 29, .inl true, .inl true] 1812) = true := by sorry
set_option maxRecDepth 1000000 in
theorem rp_277 : rh_end (rh_R [(1, 61, 2147483647, false), (6, 29, 29, false)]) (rg_run 6 rg_xs [.inl false, .inl false, .inl false, .inl false, .inl false, .inl false, .inl false, .inr 29, .inl false, .inl false, .inl false, .inl true] 1818) = true := by sorry
set_option maxRecDepth 1000000 in
theorem rp_278 : rh_end (rh_R [(1, -2147483648, -1, false), (6, 30, 30, false)]) (rg_run 6 rg_xs [.inl false, .inl false, .inl false, .inl false, .inl false, .inl false, .inl false, .inr 30, .inl true, .inl true] 1804) = true := by sorry
set_option maxRecDepth 1000000 in
theorem rp_279 : rh_end (rh_R [(1, 0, 8, false), (6, 30, 30, false)]) (rg_run 6 rg_xs [.inl false, .inl false, .inl false, .inl false, .inl false, .inl false, .inl false, .inr 30, .inl false, .inl true, .inl false, .inl false] 1840) = true := by sorry
set_option maxRecDepth 1000000 in
theorem rp_280 : rh_end (rh_R [(1, 9, 2147483647, false), (6, 30, 30, false)]) (rg_run 6 rg_xs [.inl false, .inl false, .inl false, .inl false, .inl false, .inl false, .inl false, .inr 30, .inl false, .inl false, .inl false, .inl true] 1810) = true := by sorry
set_option maxRecDepth 1000000 in
theorem rp_281 : rh_end (rh_R [(1, -2147483648, -1, false), (6, 31, 31, false)]) (rg_run 6 rg_xs [.inl false, .inl false, .inl false, .inl false, .inl false, .inl false, .inl false, .inr 31, .inl true, .inl true] 1807) = true := by sorry
set_option maxRecDepth 1000000 in
theorem rp_282 : rh_end (rh_R [(1, 0, 2147483647, false), (6, 31, 31, false)]) (rg_run 6 rg_xs [.inl false, .inl false, .inl false, .inl false, .inl false, .inl false, .inl false, .inr 31, .inl false, .inl false, .inl false, .inl false] 1815) = true := by sorry
set_option maxRecDepth 1000000 in
theorem rp_283 : rh_end (rh_R [(2, -2147483648, -1, false), (6, 32, 32, false)]) (rg_run 6 rg_xs [.inl false, .inl false, .inl false, .inl false, .inl false, .inl false, .inl false, .inr 32, .inl true, .inl true] 1815) = true := by sorry
set_option maxRecDepth 1000000 in
theorem rp_284 : rh_end (rh_R [(1, -2147483648, -1, false), (2, 0, 3, false), (6, 32, 32, false)]) (rg_run 6 rg_xs [.inl false, .inl false, .inl false, .inl false, .inl false, .inl false, .inl false, .inr 32, .inl false, .inl true, .inl true, .inl false, .inl false, .inl true] 1846) = true := by sorry
set_option maxRecDepth 1000000 in
theorem rp_285 : rh_end (rh_R [(1, 0, 2147483647, false), (2, 0, 3, false), (6, 32, 32, false)]) (rg_run 6 rg_xs [.inl false, .inl false, .inl false, .inl false, .inl false, .inl false, .inl false, .inr 32, .inl false, .inl true, .inl false, .inl false, .inl false, .inl false, .inl false, .inl true] 1855) = true := by sorry
set_option maxRecDepth 1000000 in
theorem rp_286 : rh_end (rh_R [(2, 4, 2147483647, false), (6, 32, 32, false)]) (rg_run 6 rg_xs [.inl false, .inl false, .inl false, .inl false, .inl false, .inl false, .inl false, .inr 32, .inl false, .inl false, .inl false, .inl true] 1821) = true := by sorry
set_option maxRecDepth 1000000 in
theorem rp_287 : rh_end (rh_R [(6, 33, 33, false)]) (rg_run 6 rg_xs [.inl false, .inl false, .inl false, .inl false, .inl false, .inl false, .inl false, .inr 33] 9430) = true := by sorry
set_option maxRecDepth 1000000 in
theorem rp_288 : rh_end (rh_R [(6, 34, 34, false)]) (rg_run 6 rg_xs [.inl false, .inl false, .inl false, .inl false, .inl false, .inl false, .inl false, .inr 34] 1757) = true := by sorry
set_option maxRecDepth 1000000 in
theorem rp_35_0 : rh_end (rh_R [(6, 35, 35, false)]) (rg_run 6 (rg_x1 (Int32.ofNat 0)) [.inl false, .inl false, .inl false, .inl false, .inl false, .inl false, .inl false, .inr 35] 1784) = true := by sorry
set_option maxRecDepth 1000000 in
theorem rp_35_1 : rh_end (rh_R [(6, 35, 35, false)]) (rg_run 6 (rg_x1 (Int32.ofNat 1)) [.inl false, .inl false, .inl false, .inl false, .inl false, .inl false, .inl false, .inr 35] 1784) = true := by sorry
set_option maxRecDepth 1000000 in
theorem rp_35_2 : rh_end (rh_R [(6, 35, 35, false)]) (rg_run 6 (rg_x1 (Int32.ofNat 2)) [.inl false, .inl false, .inl false, .inl false, .inl false, .inl false, .inl false, .inr 35] 1784) = true := by sorry
set_option maxRecDepth 1000000 in
theorem rp_35_3 : rh_end (rh_R [(6, 35, 35, false)]) (rg_run 6 (rg_x1 (Int32.ofNat 3)) [.inl false, .inl false, .inl false, .inl false, .inl false, .inl false, .inl false, .inr 35] 1784) = true := by sorry
set_option maxRecDepth 1000000 in
theorem rp_35_4 : rh_end (rh_R [(6, 35, 35, false)]) (rg_run 6 (rg_x1 (Int32.ofNat 4)) [.inl false, .inl false, .inl false, .inl false, .inl false, .inl false, .inl false, .inr 35] 1784) = true := by sorry
set_option maxRecDepth 1000000 in
theorem rp_294 : rh_end (rh_R [(1, -2147483648, -1, false), (6, 35, 35, false)]) (rg_run 6 rg_xs [.inl false, .inl false, .inl false, .inl false, .inl false, .inl false, .inl false, .inr 35, .inl false, .inl true] 1772) = true := by sorry
set_option maxRecDepth 1000000 in
theorem rp_295 : rh_end (rh_R [(1, 5, 2147483647, false), (6, 35, 35, false)]) (rg_run 6 rg_xs [.inl false, .inl false, .inl false, .inl false, .inl false, .inl false, .inl false, .inr 35, .inl true, .inl false, .inl true] 1775) = true := by sorry
