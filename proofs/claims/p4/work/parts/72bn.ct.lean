/-! ===== contracts, 39 ===== -/
/-! X2_tellGains  -/
set_option maxRecDepth 100000 in
noncomputable def sz_cd318 : sy_Ct := (177, 2, 47, [(3, .inr 103, .inl 0), (0, .inr 0, .inl 0), (0, .inr 1, .inl 0), (0, .inl 9999, .inl 0)], ([((-2147483648), 9999), ((-2147483648), 2147483647)], []), [], [], [(103, 8, 8), (110, 0, 2), (111, 0, 2), (112, 0, 2)], [(.inl none, 0, 0, ([((-2147483648), 9999), ((-2147483648), 2147483647)], []), [], [])])
set_option maxRecDepth 100000 in
noncomputable def sz_ud318 : List sy_Cut := []
set_option maxRecDepth 100000 in
noncomputable def sz_hd318_0 : List sy_Hn := [(120, 20, 0, 0, 0, 0, [], [], []),
  (0, 31, 0, 0, 0, 0, [], [], [])]
set_option maxRecDepth 100000 in
theorem sz_sd318_0 : sy_seg sz_E (pv_T (sz_own true) sz_T) sz_RU [sz_cd61] sz_cd318 sz_ud318 ri_m_X2_tellGains 128 none sz_hd318_0 = true := by decide +kernel
theorem sz_okd318 (xs : Nat → Value) (L : Nat) : sy_Cok (sz_env xs L) (pv_T (sz_own true) sz_T) sz_RU sz_cd318 := sy_chk_ok (CT := [sz_cd61]) (CU := sz_ud318) (M := ri_m_X2_tellGains) (List.forall_mem_cons.mpr ⟨sz_okd61 xs L, fun _ h => absurd h List.not_mem_nil⟩) rfl rfl ⟨_, _, sz_sd318_0⟩ (fun _ h => absurd h List.not_mem_nil)

/-! X2_tellGains  -/
set_option maxRecDepth 100000 in
noncomputable def sz_cd319 : sy_Ct := (177, 2, 47, [(3, .inr 103, .inl 0), (0, .inr 0, .inl 0), (0, .inl 9999, .inl 0), (0, .inr 1, .inl 0)], ([((-2147483648), 9999), ((-2147483648), 2147483647)], []), [], [], [(103, 8, 8), (110, 0, 2), (111, 0, 2), (112, 0, 2)], [(.inl none, 0, 0, ([((-2147483648), 9999), ((-2147483648), 2147483647)], []), [], [])])
set_option maxRecDepth 100000 in
noncomputable def sz_ud319 : List sy_Cut := []
set_option maxRecDepth 100000 in
noncomputable def sz_hd319_0 : List sy_Hn := [(120, 20, 0, 0, 0, 0, [], [], []),
  (0, 31, 0, 0, 0, 0, [], [], [])]
set_option maxRecDepth 100000 in
theorem sz_sd319_0 : sy_seg sz_E (pv_T (sz_own true) sz_T) sz_RU [sz_cd61] sz_cd319 sz_ud319 ri_m_X2_tellGains 128 none sz_hd319_0 = true := by decide +kernel
theorem sz_okd319 (xs : Nat → Value) (L : Nat) : sy_Cok (sz_env xs L) (pv_T (sz_own true) sz_T) sz_RU sz_cd319 := sy_chk_ok (CT := [sz_cd61]) (CU := sz_ud319) (M := ri_m_X2_tellGains) (List.forall_mem_cons.mpr ⟨sz_okd61 xs L, fun _ h => absurd h List.not_mem_nil⟩) rfl rfl ⟨_, _, sz_sd319_0⟩ (fun _ h => absurd h List.not_mem_nil)

/-! X2_tellGains  -/
set_option maxRecDepth 100000 in
noncomputable def sz_cd320 : sy_Ct := (177, 2, 47, [(3, .inr 103, .inl 0), (0, .inr 0, .inl 0), (0, .inl 9999, .inl 0), (0, .inl 9999, .inl 0)], ([((-2147483648), 2147483647)], []), [], [], [(103, 8, 8), (110, 0, 2), (111, 0, 2), (112, 0, 2)], [(.inl none, 0, 0, ([((-2147483648), 2147483647)], []), [], [])])
set_option maxRecDepth 100000 in
noncomputable def sz_ud320 : List sy_Cut := []
set_option maxRecDepth 100000 in
noncomputable def sz_hd320_0 : List sy_Hn := [(120, 20, 0, 0, 0, 0, [], [], []),
  (0, 31, 0, 0, 0, 0, [], [], [])]
set_option maxRecDepth 100000 in
theorem sz_sd320_0 : sy_seg sz_E (pv_T (sz_own true) sz_T) sz_RU [sz_cd61] sz_cd320 sz_ud320 ri_m_X2_tellGains 128 none sz_hd320_0 = true := by decide +kernel
theorem sz_okd320 (xs : Nat → Value) (L : Nat) : sy_Cok (sz_env xs L) (pv_T (sz_own true) sz_T) sz_RU sz_cd320 := sy_chk_ok (CT := [sz_cd61]) (CU := sz_ud320) (M := ri_m_X2_tellGains) (List.forall_mem_cons.mpr ⟨sz_okd61 xs L, fun _ h => absurd h List.not_mem_nil⟩) rfl rfl ⟨_, _, sz_sd320_0⟩ (fun _ h => absurd h List.not_mem_nil)

/-! X2_tellGains  -/
set_option maxRecDepth 100000 in
noncomputable def sz_cd321 : sy_Ct := (177, 2, 47, [(3, .inr 103, .inl 0), (0, .inr 0, .inl 0), (0, .inr 1, .inl 0), (0, .inl 0, .inl 0)], ([((-2147483648), 9999), ((-2147483648), 2147483647)], []), [], [], [(103, 8, 8), (110, 0, 2), (111, 0, 2), (112, 0, 2)], [(.inl none, 0, 0, ([((-2147483648), 9999), ((-2147483648), 2147483647)], []), [], [])])
set_option maxRecDepth 100000 in
noncomputable def sz_ud321 : List sy_Cut := []
set_option maxRecDepth 100000 in
noncomputable def sz_hd321_0 : List sy_Hn := [(120, 20, 0, 0, 0, 0, [], [], []),
  (0, 31, 0, 0, 0, 0, [], [], [])]
set_option maxRecDepth 100000 in
theorem sz_sd321_0 : sy_seg sz_E (pv_T (sz_own true) sz_T) sz_RU [sz_cd61] sz_cd321 sz_ud321 ri_m_X2_tellGains 128 none sz_hd321_0 = true := by decide +kernel
theorem sz_okd321 (xs : Nat → Value) (L : Nat) : sy_Cok (sz_env xs L) (pv_T (sz_own true) sz_T) sz_RU sz_cd321 := sy_chk_ok (CT := [sz_cd61]) (CU := sz_ud321) (M := ri_m_X2_tellGains) (List.forall_mem_cons.mpr ⟨sz_okd61 xs L, fun _ h => absurd h List.not_mem_nil⟩) rfl rfl ⟨_, _, sz_sd321_0⟩ (fun _ h => absurd h List.not_mem_nil)

/-! X2_tellGains  -/
set_option maxRecDepth 100000 in
noncomputable def sz_cd322 : sy_Ct := (177, 2, 47, [(3, .inr 103, .inl 0), (0, .inr 0, .inl 0), (0, .inl 9999, .inl 0), (0, .inl 0, .inl 0)], ([((-2147483648), 2147483647)], []), [], [], [(103, 8, 8), (110, 0, 2), (111, 0, 2), (112, 0, 2)], [(.inl none, 0, 0, ([((-2147483648), 2147483647)], []), [], [])])
set_option maxRecDepth 100000 in
noncomputable def sz_ud322 : List sy_Cut := []
set_option maxRecDepth 100000 in
noncomputable def sz_hd322_0 : List sy_Hn := [(120, 20, 0, 0, 0, 0, [], [], []),
  (0, 31, 0, 0, 0, 0, [], [], [])]
set_option maxRecDepth 100000 in
theorem sz_sd322_0 : sy_seg sz_E (pv_T (sz_own true) sz_T) sz_RU [sz_cd61] sz_cd322 sz_ud322 ri_m_X2_tellGains 128 none sz_hd322_0 = true := by decide +kernel
theorem sz_okd322 (xs : Nat → Value) (L : Nat) : sy_Cok (sz_env xs L) (pv_T (sz_own true) sz_T) sz_RU sz_cd322 := sy_chk_ok (CT := [sz_cd61]) (CU := sz_ud322) (M := ri_m_X2_tellGains) (List.forall_mem_cons.mpr ⟨sz_okd61 xs L, fun _ h => absurd h List.not_mem_nil⟩) rfl rfl ⟨_, _, sz_sd322_0⟩ (fun _ h => absurd h List.not_mem_nil)

/-! X2_tuneBy  -/
set_option maxRecDepth 100000 in
noncomputable def sz_cd323 : sy_Ct := (180, 3, 72, [(3, .inr 103, .inl 0), (0, .inr 0, .inl 0)], ([(0, 2)], []), [], [], [(103, 8, 8), (110, 0, 2), (111, 0, 2), (112, 0, 2)], [(.inl (some (0, .inr 1, .inl 0)), 0, 0, ([((-2147483648), 2147483647), (0, 2)], []), [], [])])
set_option maxRecDepth 100000 in
noncomputable def sz_ud323 : List sy_Cut := []
set_option maxRecDepth 100000 in
noncomputable def sz_hd323_0 : List sy_Hn := [(59, 20, 0, 0, 0, 0, [], [], []),
  (0, 31, 0, 0, 0, 0, [], [], []),
  (4, 20, 1, 0, 0, 0, [], [], []),
  (0, 31, 0, 0, 0, 0, [], [], []),
  (12, 20, 2, 0, 0, 0, [], [], []),
  (0, 31, 0, 0, 0, 0, [], [], []),
  (4, 20, 3, 0, 0, 0, [], [], []),
  (0, 31, 0, 0, 0, 0, [], [], []),
  (47, 20, 4, 0, 0, 0, [], [], []),
  (0, 31, 0, 0, 0, 0, [], [], []),
  (12, 20, 5, 0, 0, 0, [], [], []),
  (0, 31, 0, 0, 0, 0, [], [], []),
  (45, 20, 0, 0, 0, 0, [], [], []),
  (0, 31, 0, 0, 0, 0, [], [], []),
  (4, 20, 1, 0, 0, 0, [], [], []),
  (0, 31, 0, 0, 0, 0, [], [], []),
  (12, 20, 2, 0, 0, 0, [], [], []),
  (0, 31, 0, 0, 0, 0, [], [], []),
  (4, 20, 3, 0, 0, 0, [], [], []),
  (0, 31, 0, 0, 0, 0, [], [], []),
  (53, 20, 0, 0, 0, 0, [], [], []),
  (0, 31, 0, 0, 0, 0, [], [], []),
  (4, 20, 1, 0, 0, 0, [], [], []),
  (0, 31, 0, 0, 0, 0, [], [], []),
  (12, 20, 2, 0, 0, 0, [], [], []),
  (0, 31, 0, 0, 0, 0, [], [], []),
  (4, 20, 3, 0, 0, 0, [], [], []),
  (0, 31, 0, 0, 0, 0, [], [], []),
  (47, 20, 4, 0, 0, 0, [], [], []),
  (0, 31, 0, 0, 0, 0, [], [], []),
  (12, 20, 5, 0, 0, 0, [], [], []),
  (0, 31, 0, 0, 0, 0, [], [], []),
  (45, 20, 0, 0, 0, 0, [], [], []),
  (0, 31, 0, 0, 0, 0, [], [], []),
  (4, 20, 1, 0, 0, 0, [], [], []),
  (0, 31, 0, 0, 0, 0, [], [], []),
  (12, 20, 2, 0, 0, 0, [], [], []),
  (0, 31, 0, 0, 0, 0, [], [], []),
  (4, 20, 3, 0, 0, 0, [], [], []),
  (0, 31, 0, 0, 0, 0, [], [], [])]
set_option maxRecDepth 100000 in
theorem sz_sd323_0 : sy_seg sz_E (pv_T (sz_own true) sz_T) sz_RU [sz_cd317, sz_cd318, sz_cd319, sz_cd320, sz_cd321, sz_cd322] sz_cd323 sz_ud323 ri_m_X2_tuneBy 485 none sz_hd323_0 = true := by decide +kernel
theorem sz_okd323 (xs : Nat → Value) (L : Nat) : sy_Cok (sz_env xs L) (pv_T (sz_own true) sz_T) sz_RU sz_cd323 := sy_chk_ok (CT := [sz_cd317, sz_cd318, sz_cd319, sz_cd320, sz_cd321, sz_cd322]) (CU := sz_ud323) (M := ri_m_X2_tuneBy) (List.forall_mem_cons.mpr ⟨sz_okd317 xs L, List.forall_mem_cons.mpr ⟨sz_okd318 xs L, List.forall_mem_cons.mpr ⟨sz_okd319 xs L, List.forall_mem_cons.mpr ⟨sz_okd320 xs L, List.forall_mem_cons.mpr ⟨sz_okd321 xs L, List.forall_mem_cons.mpr ⟨sz_okd322 xs L, fun _ h => absurd h List.not_mem_nil⟩⟩⟩⟩⟩⟩) rfl rfl ⟨_, _, sz_sd323_0⟩ (fun _ h => absurd h List.not_mem_nil)

/-! X10_tune  -/
set_option maxRecDepth 100000 in
noncomputable def sz_cd324 : sy_Ct := (114, 7, 103, [(3, .inr 0, .inl 0), (0, .inr 0, .inl 0), (0, .inr 1, .inl 0)], ([((-2147483648), 2147483647), ((-2147483648), 2147483647)], []), [], [], [(67, 8, 8), (74, 0, 2), (75, 0, 2), (76, 0, 2), (79, 8, 8), (86, 0, 2), (87, 0, 2), (88, 0, 2), (91, 8, 8), (98, 0, 2), (99, 0, 2), (100, 0, 2), (103, 8, 8), (110, 0, 2), (111, 0, 2), (112, 0, 2)], [(.inl (some (0, .inr 2, .inl 0)), 0, 0, ([((-2147483648), 2147483647), ((-2147483648), 2147483647), ((-2147483648), 2147483647)], []), [], []), (.inr 0, 1, 6, ([((-2147483648), 2147483647), ((-2147483648), 2147483647)], []), [], []), (.inr 2, 1, 6, ([((-2147483648), 2147483647), ((-2147483648), 2147483647)], []), [], []), (.inr 4, 1, 6, ([((-2147483648), 2147483647), ((-2147483648), 2147483647)], []), [], [])])
set_option maxRecDepth 100000 in
noncomputable def sz_ud324 : List sy_Cut := []
set_option maxRecDepth 100000 in
noncomputable def sz_hd324_0 : List sy_Hn := [(0, 31, 2, 0, 0, 0, [], [], []),
  (9, 1, 0, 0, 0, 0, [], [], []),
  (0, 31, 1, 0, 0, 0, [], [], []),
  (11, 20, 0, 0, 0, 0, [], [], []),
  (0, 31, 0, 0, 0, 0, [], [], []),
  (0, 31, 3, 0, 0, 0, [], [], []),
  (0, 31, 1, 0, 0, 0, [], [], []),
  (0, 1, 0, 0, 1, 0, [], [], []),
  (0, 31, 1, 0, 0, 0, [], [], []),
  (11, 20, 1, 0, 0, 0, [], [], []),
  (0, 31, 0, 0, 0, 0, [], [], []),
  (0, 31, 3, 0, 0, 0, [], [], []),
  (0, 31, 1, 0, 0, 0, [], [], []),
  (0, 1, 0, 0, 2, 0, [], [], []),
  (0, 31, 1, 0, 0, 0, [], [], []),
  (11, 20, 2, 0, 0, 0, [], [], []),
  (0, 31, 0, 0, 0, 0, [], [], []),
  (0, 31, 3, 0, 0, 0, [], [], []),
  (0, 31, 1, 0, 0, 0, [], [], []),
  (0, 31, 1, 0, 0, 0, [], [], []),
  (11, 20, 3, 0, 0, 0, [], [], []),
  (0, 31, 0, 0, 0, 0, [], [], []),
  (0, 31, 3, 0, 0, 0, [], [], []),
  (0, 31, 1, 0, 0, 0, [], [], []),
  (0, 31, 2, 0, 0, 0, [], [], [])]
set_option maxRecDepth 100000 in
theorem sz_sd324_0 : sy_seg sz_E (pv_T (sz_own true) sz_T) sz_RU [sz_cd302, sz_cd309, sz_cd316, sz_cd323] sz_cd324 sz_ud324 ri_m_X10_tune 149 none sz_hd324_0 = true := by decide +kernel
theorem sz_okd324 (xs : Nat → Value) (L : Nat) : sy_Cok (sz_env xs L) (pv_T (sz_own true) sz_T) sz_RU sz_cd324 := sy_chk_ok (CT := [sz_cd302, sz_cd309, sz_cd316, sz_cd323]) (CU := sz_ud324) (M := ri_m_X10_tune) (List.forall_mem_cons.mpr ⟨sz_okd302 xs L, List.forall_mem_cons.mpr ⟨sz_okd309 xs L, List.forall_mem_cons.mpr ⟨sz_okd316 xs L, List.forall_mem_cons.mpr ⟨sz_okd323 xs L, fun _ h => absurd h List.not_mem_nil⟩⟩⟩⟩) rfl rfl ⟨_, _, sz_sd324_0⟩ (fun _ h => absurd h List.not_mem_nil)

/-! L_tune  -/
set_option maxRecDepth 100000 in
noncomputable def sz_cd325 : sy_Ct := (42, 8, 126, [(3, .inr 0, .inl 0), (0, .inr 0, .inl 0), (0, .inr 1, .inl 0), (3, .inr 265, .inl 0)], ([((-2147483648), 2147483647), ((-2147483648), 2147483647)], []), [], [], [(67, 8, 8), (74, 0, 2), (75, 0, 2), (76, 0, 2), (79, 8, 8), (86, 0, 2), (87, 0, 2), (88, 0, 2), (91, 8, 8), (98, 0, 2), (99, 0, 2), (100, 0, 2), (103, 8, 8), (110, 0, 2), (111, 0, 2), (112, 0, 2), (265, 0, 0)], [(.inl (some (0, .inl 0, .inl 0)), 0, 0, ([((-2147483648), 2147483647), ((-2147483648), 2147483647)], []), [], []), (.inl (some (0, .inr 2, .inl 0)), 1, 6, ([(1, 3), ((-2147483648), 2147483647), ((-2147483648), 2147483647)], []), [], [])])
set_option maxRecDepth 100000 in
noncomputable def sz_ud325 : List sy_Cut := []
set_option maxRecDepth 100000 in
noncomputable def sz_hd325_0 : List sy_Hn := [(6, 20, 0, 0, 0, 0, [], [], []),
  (0, 31, 0, 0, 0, 0, [], [], []),
  (0, 31, 1, 0, 0, 0, [], [], []),
  (0, 31, 1, 0, 0, 0, [], [], []),
  (0, 31, 1, 0, 0, 0, [], [], [])]
set_option maxRecDepth 100000 in
theorem sz_sd325_0 : sy_seg sz_E (pv_T (sz_own true) sz_T) sz_RU [sz_cd324] sz_cd325 sz_ud325 ri_m_L_tune 27 none sz_hd325_0 = true := by decide +kernel
theorem sz_okd325 (xs : Nat → Value) (L : Nat) : sy_Cok (sz_env xs L) (pv_T (sz_own true) sz_T) sz_RU sz_cd325 := sy_chk_ok (CT := [sz_cd324]) (CU := sz_ud325) (M := ri_m_L_tune) (List.forall_mem_cons.mpr ⟨sz_okd324 xs L, fun _ h => absurd h List.not_mem_nil⟩) rfl rfl ⟨_, _, sz_sd325_0⟩ (fun _ h => absurd h List.not_mem_nil)

/-! X11_isGained  -/
set_option maxRecDepth 100000 in
noncomputable def sz_cd326 : sy_Ct := (110, 5, 116, [(3, .inr 244, .inl 0), (0, .inl 0, .inl 0), (1, .inr 0, .inl 0), (1, .inr 1, .inl 0), (1, .inl 9999, .inl 0)], ([(0, 9999), (0, 9999)], []), [], [], [(245, 33, 35), (245, 37, 39), (245, 41, 43), (245, 54, 54)], [(.inl none, 0, 0, ([(0, 9999), (0, 9999)], []), [], [])])
set_option maxRecDepth 100000 in
noncomputable def sz_ud326 : List sy_Cut := []
set_option maxRecDepth 100000 in
noncomputable def sz_hd326_0 : List sy_Hn := [(69, 1, 4, 0, 0, 0, [], [], []),
  (277, 20, 0, 0, 0, 0, [], [], []),
  (0, 31, 0, 0, 0, 0, [], [], []),
  (0, 1, 4, 0, 1, 0, [], [], []),
  (277, 20, 0, 0, 0, 0, [], [], []),
  (0, 31, 0, 0, 0, 0, [], [], []),
  (277, 20, 0, 0, 0, 0, [], [], []),
  (0, 31, 0, 0, 0, 0, [], [], [])]
set_option maxRecDepth 100000 in
theorem sz_sd326_0 : sy_seg sz_E (pv_T (sz_own false) sz_T) sz_RU [sz_cd275] sz_cd326 sz_ud326 ri_m_X11_isGained 918 none sz_hd326_0 = true := by decide +kernel
theorem sz_okd326 (xs : Nat → Value) (L : Nat) : sy_Cok (sz_env xs L) (pv_T (sz_own false) sz_T) sz_RU sz_cd326 := sy_chk_ok (CT := [sz_cd275]) (CU := sz_ud326) (M := ri_m_X11_isGained) (List.forall_mem_cons.mpr ⟨sz_okd275 xs L, fun _ h => absurd h List.not_mem_nil⟩) rfl rfl ⟨_, _, sz_sd326_0⟩ (fun _ h => absurd h List.not_mem_nil)

/-! X11_isGained  -/
set_option maxRecDepth 100000 in
noncomputable def sz_cd327 : sy_Ct := (110, 5, 116, [(3, .inr 244, .inl 0), (0, .inl 0, .inl 0), (1, .inr 0, .inl 0), (1, .inl 9999, .inl 0), (1, .inr 1, .inl 0)], ([(0, 9999), (0, 9999)], []), [], [], [(245, 33, 35), (245, 37, 39), (245, 41, 43), (245, 54, 54)], [(.inl none, 0, 0, ([(0, 9999), (0, 9999)], []), [], [])])
set_option maxRecDepth 100000 in
noncomputable def sz_ud327 : List sy_Cut := []
set_option maxRecDepth 100000 in
noncomputable def sz_hd327_0 : List sy_Hn := [(69, 1, 4, 0, 0, 0, [], [], []),
  (277, 20, 0, 0, 0, 0, [], [], []),
  (0, 31, 0, 0, 0, 0, [], [], []),
  (0, 1, 4, 0, 1, 0, [], [], []),
  (277, 20, 0, 0, 0, 0, [], [], []),
  (0, 31, 0, 0, 0, 0, [], [], []),
  (277, 20, 0, 0, 0, 0, [], [], []),
  (0, 31, 0, 0, 0, 0, [], [], [])]
set_option maxRecDepth 100000 in
theorem sz_sd327_0 : sy_seg sz_E (pv_T (sz_own false) sz_T) sz_RU [sz_cd275] sz_cd327 sz_ud327 ri_m_X11_isGained 918 none sz_hd327_0 = true := by decide +kernel
theorem sz_okd327 (xs : Nat → Value) (L : Nat) : sy_Cok (sz_env xs L) (pv_T (sz_own false) sz_T) sz_RU sz_cd327 := sy_chk_ok (CT := [sz_cd275]) (CU := sz_ud327) (M := ri_m_X11_isGained) (List.forall_mem_cons.mpr ⟨sz_okd275 xs L, fun _ h => absurd h List.not_mem_nil⟩) rfl rfl ⟨_, _, sz_sd327_0⟩ (fun _ h => absurd h List.not_mem_nil)

/-! X11_isGained  -/
set_option maxRecDepth 100000 in
noncomputable def sz_cd328 : sy_Ct := (110, 5, 116, [(3, .inr 244, .inl 0), (0, .inl 0, .inl 0), (1, .inr 0, .inl 0), (1, .inl 9999, .inl 0), (1, .inl 9999, .inl 0)], ([(0, 9999)], []), [], [], [(245, 33, 35), (245, 37, 39), (245, 41, 43), (245, 54, 54)], [(.inl none, 0, 0, ([(0, 9999)], []), [], [])])
set_option maxRecDepth 100000 in
noncomputable def sz_ud328 : List sy_Cut := []
set_option maxRecDepth 100000 in
noncomputable def sz_hd328_0 : List sy_Hn := [(69, 1, 3, 0, 0, 0, [], [], []),
  (277, 20, 0, 0, 0, 0, [], [], []),
  (0, 31, 0, 0, 0, 0, [], [], []),
  (0, 1, 3, 0, 1, 0, [], [], []),
  (277, 20, 0, 0, 0, 0, [], [], []),
  (0, 31, 0, 0, 0, 0, [], [], []),
  (277, 20, 0, 0, 0, 0, [], [], []),
  (0, 31, 0, 0, 0, 0, [], [], [])]
set_option maxRecDepth 100000 in
theorem sz_sd328_0 : sy_seg sz_E (pv_T (sz_own false) sz_T) sz_RU [sz_cd275] sz_cd328 sz_ud328 ri_m_X11_isGained 918 none sz_hd328_0 = true := by decide +kernel
theorem sz_okd328 (xs : Nat → Value) (L : Nat) : sy_Cok (sz_env xs L) (pv_T (sz_own false) sz_T) sz_RU sz_cd328 := sy_chk_ok (CT := [sz_cd275]) (CU := sz_ud328) (M := ri_m_X11_isGained) (List.forall_mem_cons.mpr ⟨sz_okd275 xs L, fun _ h => absurd h List.not_mem_nil⟩) rfl rfl ⟨_, _, sz_sd328_0⟩ (fun _ h => absurd h List.not_mem_nil)

/-! X11_isGained  -/
set_option maxRecDepth 100000 in
noncomputable def sz_cd329 : sy_Ct := (110, 5, 116, [(3, .inr 244, .inl 0), (0, .inl 0, .inl 0), (1, .inr 0, .inl 0), (1, .inr 1, .inl 0), (1, .inl 0, .inl 0)], ([(0, 9999), (0, 9999)], []), [], [], [(245, 33, 35), (245, 37, 39), (245, 41, 43), (245, 54, 54)], [(.inl none, 0, 0, ([(0, 9999), (0, 9999)], []), [], [])])
set_option maxRecDepth 100000 in
noncomputable def sz_ud329 : List sy_Cut := []
set_option maxRecDepth 100000 in
noncomputable def sz_hd329_0 : List sy_Hn := [(69, 1, 4, 0, 0, 0, [], [], []),
  (277, 20, 0, 0, 0, 0, [], [], []),
  (0, 31, 0, 0, 0, 0, [], [], []),
  (0, 1, 4, 0, 1, 0, [], [], []),
  (277, 20, 0, 0, 0, 0, [], [], []),
  (0, 31, 0, 0, 0, 0, [], [], []),
  (277, 20, 0, 0, 0, 0, [], [], []),
  (0, 31, 0, 0, 0, 0, [], [], [])]
set_option maxRecDepth 100000 in
theorem sz_sd329_0 : sy_seg sz_E (pv_T (sz_own false) sz_T) sz_RU [sz_cd275] sz_cd329 sz_ud329 ri_m_X11_isGained 918 none sz_hd329_0 = true := by decide +kernel
theorem sz_okd329 (xs : Nat → Value) (L : Nat) : sy_Cok (sz_env xs L) (pv_T (sz_own false) sz_T) sz_RU sz_cd329 := sy_chk_ok (CT := [sz_cd275]) (CU := sz_ud329) (M := ri_m_X11_isGained) (List.forall_mem_cons.mpr ⟨sz_okd275 xs L, fun _ h => absurd h List.not_mem_nil⟩) rfl rfl ⟨_, _, sz_sd329_0⟩ (fun _ h => absurd h List.not_mem_nil)

/-! X11_isGained  -/
set_option maxRecDepth 100000 in
noncomputable def sz_cd330 : sy_Ct := (110, 5, 116, [(3, .inr 244, .inl 0), (0, .inl 0, .inl 0), (1, .inr 0, .inl 0), (1, .inl 9999, .inl 0), (1, .inl 0, .inl 0)], ([(0, 9999)], []), [], [], [(245, 33, 35), (245, 37, 39), (245, 41, 43), (245, 54, 54)], [(.inl none, 0, 0, ([(0, 9999)], []), [], [])])
set_option maxRecDepth 100000 in
noncomputable def sz_ud330 : List sy_Cut := []
set_option maxRecDepth 100000 in
noncomputable def sz_hd330_0 : List sy_Hn := [(69, 1, 3, 0, 0, 0, [], [], []),
  (277, 20, 0, 0, 0, 0, [], [], []),
  (0, 31, 0, 0, 0, 0, [], [], []),
  (0, 1, 3, 0, 1, 0, [], [], []),
  (277, 20, 0, 0, 0, 0, [], [], []),
  (0, 31, 0, 0, 0, 0, [], [], []),
  (277, 20, 0, 0, 0, 0, [], [], []),
  (0, 31, 0, 0, 0, 0, [], [], [])]
set_option maxRecDepth 100000 in
theorem sz_sd330_0 : sy_seg sz_E (pv_T (sz_own false) sz_T) sz_RU [sz_cd275] sz_cd330 sz_ud330 ri_m_X11_isGained 918 none sz_hd330_0 = true := by decide +kernel
theorem sz_okd330 (xs : Nat → Value) (L : Nat) : sy_Cok (sz_env xs L) (pv_T (sz_own false) sz_T) sz_RU sz_cd330 := sy_chk_ok (CT := [sz_cd275]) (CU := sz_ud330) (M := ri_m_X11_isGained) (List.forall_mem_cons.mpr ⟨sz_okd275 xs L, fun _ h => absurd h List.not_mem_nil⟩) rfl rfl ⟨_, _, sz_sd330_0⟩ (fun _ h => absurd h List.not_mem_nil)

/-! X11_isGained  -/
set_option maxRecDepth 100000 in
noncomputable def sz_cd331 : sy_Ct := (110, 5, 116, [(3, .inr 244, .inl 0), (0, .inl 1, .inl 0), (1, .inr 0, .inl 0), (1, .inr 1, .inl 0), (1, .inl 9999, .inl 0)], ([(0, 9999), (0, 9999)], []), [], [], [(245, 110, 112), (245, 114, 116), (245, 118, 120), (245, 131, 131)], [(.inl none, 0, 0, ([(0, 9999), (0, 9999)], []), [], [])])
set_option maxRecDepth 100000 in
noncomputable def sz_ud331 : List sy_Cut := []
set_option maxRecDepth 100000 in
noncomputable def sz_hd331_0 : List sy_Hn := [(69, 1, 4, 0, 0, 0, [], [], []),
  (277, 20, 0, 0, 0, 0, [], [], []),
  (0, 31, 0, 0, 0, 0, [], [], []),
  (0, 1, 4, 0, 1, 0, [], [], []),
  (277, 20, 0, 0, 0, 0, [], [], []),
  (0, 31, 0, 0, 0, 0, [], [], []),
  (277, 20, 0, 0, 0, 0, [], [], []),
  (0, 31, 0, 0, 0, 0, [], [], [])]
set_option maxRecDepth 100000 in
theorem sz_sd331_0 : sy_seg sz_E (pv_T (sz_own false) sz_T) sz_RU [sz_cd277] sz_cd331 sz_ud331 ri_m_X11_isGained 918 none sz_hd331_0 = true := by decide +kernel
theorem sz_okd331 (xs : Nat → Value) (L : Nat) : sy_Cok (sz_env xs L) (pv_T (sz_own false) sz_T) sz_RU sz_cd331 := sy_chk_ok (CT := [sz_cd277]) (CU := sz_ud331) (M := ri_m_X11_isGained) (List.forall_mem_cons.mpr ⟨sz_okd277 xs L, fun _ h => absurd h List.not_mem_nil⟩) rfl rfl ⟨_, _, sz_sd331_0⟩ (fun _ h => absurd h List.not_mem_nil)

/-! X11_isGained  -/
set_option maxRecDepth 100000 in
noncomputable def sz_cd332 : sy_Ct := (110, 5, 116, [(3, .inr 244, .inl 0), (0, .inl 1, .inl 0), (1, .inr 0, .inl 0), (1, .inl 9999, .inl 0), (1, .inr 1, .inl 0)], ([(0, 9999), (0, 9999)], []), [], [], [(245, 110, 112), (245, 114, 116), (245, 118, 120), (245, 131, 131)], [(.inl none, 0, 0, ([(0, 9999), (0, 9999)], []), [], [])])
set_option maxRecDepth 100000 in
noncomputable def sz_ud332 : List sy_Cut := []
set_option maxRecDepth 100000 in
noncomputable def sz_hd332_0 : List sy_Hn := [(69, 1, 4, 0, 0, 0, [], [], []),
  (277, 20, 0, 0, 0, 0, [], [], []),
  (0, 31, 0, 0, 0, 0, [], [], []),
  (0, 1, 4, 0, 1, 0, [], [], []),
  (277, 20, 0, 0, 0, 0, [], [], []),
  (0, 31, 0, 0, 0, 0, [], [], []),
  (277, 20, 0, 0, 0, 0, [], [], []),
  (0, 31, 0, 0, 0, 0, [], [], [])]
set_option maxRecDepth 100000 in
theorem sz_sd332_0 : sy_seg sz_E (pv_T (sz_own false) sz_T) sz_RU [sz_cd277] sz_cd332 sz_ud332 ri_m_X11_isGained 918 none sz_hd332_0 = true := by decide +kernel
theorem sz_okd332 (xs : Nat → Value) (L : Nat) : sy_Cok (sz_env xs L) (pv_T (sz_own false) sz_T) sz_RU sz_cd332 := sy_chk_ok (CT := [sz_cd277]) (CU := sz_ud332) (M := ri_m_X11_isGained) (List.forall_mem_cons.mpr ⟨sz_okd277 xs L, fun _ h => absurd h List.not_mem_nil⟩) rfl rfl ⟨_, _, sz_sd332_0⟩ (fun _ h => absurd h List.not_mem_nil)

/-! X11_isGained  -/
set_option maxRecDepth 100000 in
noncomputable def sz_cd333 : sy_Ct := (110, 5, 116, [(3, .inr 244, .inl 0), (0, .inl 1, .inl 0), (1, .inr 0, .inl 0), (1, .inl 9999, .inl 0), (1, .inl 9999, .inl 0)], ([(0, 9999)], []), [], [], [(245, 110, 112), (245, 114, 116), (245, 118, 120), (245, 131, 131)], [(.inl none, 0, 0, ([(0, 9999)], []), [], [])])
set_option maxRecDepth 100000 in
noncomputable def sz_ud333 : List sy_Cut := []
set_option maxRecDepth 100000 in
noncomputable def sz_hd333_0 : List sy_Hn := [(69, 1, 3, 0, 0, 0, [], [], []),
  (277, 20, 0, 0, 0, 0, [], [], []),
  (0, 31, 0, 0, 0, 0, [], [], []),
  (0, 1, 3, 0, 1, 0, [], [], []),
  (277, 20, 0, 0, 0, 0, [], [], []),
  (0, 31, 0, 0, 0, 0, [], [], []),
  (277, 20, 0, 0, 0, 0, [], [], []),
  (0, 31, 0, 0, 0, 0, [], [], [])]
set_option maxRecDepth 100000 in
theorem sz_sd333_0 : sy_seg sz_E (pv_T (sz_own false) sz_T) sz_RU [sz_cd277] sz_cd333 sz_ud333 ri_m_X11_isGained 918 none sz_hd333_0 = true := by decide +kernel
theorem sz_okd333 (xs : Nat → Value) (L : Nat) : sy_Cok (sz_env xs L) (pv_T (sz_own false) sz_T) sz_RU sz_cd333 := sy_chk_ok (CT := [sz_cd277]) (CU := sz_ud333) (M := ri_m_X11_isGained) (List.forall_mem_cons.mpr ⟨sz_okd277 xs L, fun _ h => absurd h List.not_mem_nil⟩) rfl rfl ⟨_, _, sz_sd333_0⟩ (fun _ h => absurd h List.not_mem_nil)

/-! X11_isGained  -/
set_option maxRecDepth 100000 in
noncomputable def sz_cd334 : sy_Ct := (110, 5, 116, [(3, .inr 244, .inl 0), (0, .inl 1, .inl 0), (1, .inr 0, .inl 0), (1, .inr 1, .inl 0), (1, .inl 0, .inl 0)], ([(0, 9999), (0, 9999)], []), [], [], [(245, 110, 112), (245, 114, 116), (245, 118, 120), (245, 131, 131)], [(.inl none, 0, 0, ([(0, 9999), (0, 9999)], []), [], [])])
set_option maxRecDepth 100000 in
noncomputable def sz_ud334 : List sy_Cut := []
set_option maxRecDepth 100000 in
noncomputable def sz_hd334_0 : List sy_Hn := [(69, 1, 4, 0, 0, 0, [], [], []),
  (277, 20, 0, 0, 0, 0, [], [], []),
  (0, 31, 0, 0, 0, 0, [], [], []),
  (0, 1, 4, 0, 1, 0, [], [], []),
  (277, 20, 0, 0, 0, 0, [], [], []),
  (0, 31, 0, 0, 0, 0, [], [], []),
  (277, 20, 0, 0, 0, 0, [], [], []),
  (0, 31, 0, 0, 0, 0, [], [], [])]
set_option maxRecDepth 100000 in
theorem sz_sd334_0 : sy_seg sz_E (pv_T (sz_own false) sz_T) sz_RU [sz_cd277] sz_cd334 sz_ud334 ri_m_X11_isGained 918 none sz_hd334_0 = true := by decide +kernel
theorem sz_okd334 (xs : Nat → Value) (L : Nat) : sy_Cok (sz_env xs L) (pv_T (sz_own false) sz_T) sz_RU sz_cd334 := sy_chk_ok (CT := [sz_cd277]) (CU := sz_ud334) (M := ri_m_X11_isGained) (List.forall_mem_cons.mpr ⟨sz_okd277 xs L, fun _ h => absurd h List.not_mem_nil⟩) rfl rfl ⟨_, _, sz_sd334_0⟩ (fun _ h => absurd h List.not_mem_nil)

/-! X11_isGained  -/
set_option maxRecDepth 100000 in
noncomputable def sz_cd335 : sy_Ct := (110, 5, 116, [(3, .inr 244, .inl 0), (0, .inl 1, .inl 0), (1, .inr 0, .inl 0), (1, .inl 9999, .inl 0), (1, .inl 0, .inl 0)], ([(0, 9999)], []), [], [], [(245, 110, 112), (245, 114, 116), (245, 118, 120), (245, 131, 131)], [(.inl none, 0, 0, ([(0, 9999)], []), [], [])])
set_option maxRecDepth 100000 in
noncomputable def sz_ud335 : List sy_Cut := []
set_option maxRecDepth 100000 in
noncomputable def sz_hd335_0 : List sy_Hn := [(69, 1, 3, 0, 0, 0, [], [], []),
  (277, 20, 0, 0, 0, 0, [], [], []),
  (0, 31, 0, 0, 0, 0, [], [], []),
  (0, 1, 3, 0, 1, 0, [], [], []),
  (277, 20, 0, 0, 0, 0, [], [], []),
  (0, 31, 0, 0, 0, 0, [], [], []),
  (277, 20, 0, 0, 0, 0, [], [], []),
  (0, 31, 0, 0, 0, 0, [], [], [])]
set_option maxRecDepth 100000 in
theorem sz_sd335_0 : sy_seg sz_E (pv_T (sz_own false) sz_T) sz_RU [sz_cd277] sz_cd335 sz_ud335 ri_m_X11_isGained 918 none sz_hd335_0 = true := by decide +kernel
theorem sz_okd335 (xs : Nat → Value) (L : Nat) : sy_Cok (sz_env xs L) (pv_T (sz_own false) sz_T) sz_RU sz_cd335 := sy_chk_ok (CT := [sz_cd277]) (CU := sz_ud335) (M := ri_m_X11_isGained) (List.forall_mem_cons.mpr ⟨sz_okd277 xs L, fun _ h => absurd h List.not_mem_nil⟩) rfl rfl ⟨_, _, sz_sd335_0⟩ (fun _ h => absurd h List.not_mem_nil)

/-! X11_isGained  -/
set_option maxRecDepth 100000 in
noncomputable def sz_cd336 : sy_Ct := (110, 5, 116, [(3, .inr 244, .inl 0), (0, .inl 2, .inl 0), (1, .inr 0, .inl 0), (1, .inr 1, .inl 0), (1, .inl 9999, .inl 0)], ([(0, 9999), (0, 9999)], []), [], [], [(245, 187, 189), (245, 191, 193), (245, 195, 197), (245, 208, 208)], [(.inl none, 0, 0, ([(0, 9999), (0, 9999)], []), [], [])])
set_option maxRecDepth 100000 in
noncomputable def sz_ud336 : List sy_Cut := []
set_option maxRecDepth 100000 in
noncomputable def sz_hd336_0 : List sy_Hn := [(69, 1, 4, 0, 0, 0, [], [], []),
  (277, 20, 0, 0, 0, 0, [], [], []),
  (0, 31, 0, 0, 0, 0, [], [], []),
  (0, 1, 4, 0, 1, 0, [], [], []),
  (277, 20, 0, 0, 0, 0, [], [], []),
  (0, 31, 0, 0, 0, 0, [], [], []),
  (277, 20, 0, 0, 0, 0, [], [], []),
  (0, 31, 0, 0, 0, 0, [], [], [])]
set_option maxRecDepth 100000 in
theorem sz_sd336_0 : sy_seg sz_E (pv_T (sz_own false) sz_T) sz_RU [sz_cd279] sz_cd336 sz_ud336 ri_m_X11_isGained 918 none sz_hd336_0 = true := by decide +kernel
theorem sz_okd336 (xs : Nat → Value) (L : Nat) : sy_Cok (sz_env xs L) (pv_T (sz_own false) sz_T) sz_RU sz_cd336 := sy_chk_ok (CT := [sz_cd279]) (CU := sz_ud336) (M := ri_m_X11_isGained) (List.forall_mem_cons.mpr ⟨sz_okd279 xs L, fun _ h => absurd h List.not_mem_nil⟩) rfl rfl ⟨_, _, sz_sd336_0⟩ (fun _ h => absurd h List.not_mem_nil)

/-! X11_isGained  -/
set_option maxRecDepth 100000 in
noncomputable def sz_cd337 : sy_Ct := (110, 5, 116, [(3, .inr 244, .inl 0), (0, .inl 2, .inl 0), (1, .inr 0, .inl 0), (1, .inl 9999, .inl 0), (1, .inr 1, .inl 0)], ([(0, 9999), (0, 9999)], []), [], [], [(245, 187, 189), (245, 191, 193), (245, 195, 197), (245, 208, 208)], [(.inl none, 0, 0, ([(0, 9999), (0, 9999)], []), [], [])])
set_option maxRecDepth 100000 in
noncomputable def sz_ud337 : List sy_Cut := []
set_option maxRecDepth 100000 in
noncomputable def sz_hd337_0 : List sy_Hn := [(69, 1, 4, 0, 0, 0, [], [], []),
  (277, 20, 0, 0, 0, 0, [], [], []),
  (0, 31, 0, 0, 0, 0, [], [], []),
  (0, 1, 4, 0, 1, 0, [], [], []),
  (277, 20, 0, 0, 0, 0, [], [], []),
  (0, 31, 0, 0, 0, 0, [], [], []),
  (277, 20, 0, 0, 0, 0, [], [], []),
  (0, 31, 0, 0, 0, 0, [], [], [])]
set_option maxRecDepth 100000 in
theorem sz_sd337_0 : sy_seg sz_E (pv_T (sz_own false) sz_T) sz_RU [sz_cd279] sz_cd337 sz_ud337 ri_m_X11_isGained 918 none sz_hd337_0 = true := by decide +kernel
theorem sz_okd337 (xs : Nat → Value) (L : Nat) : sy_Cok (sz_env xs L) (pv_T (sz_own false) sz_T) sz_RU sz_cd337 := sy_chk_ok (CT := [sz_cd279]) (CU := sz_ud337) (M := ri_m_X11_isGained) (List.forall_mem_cons.mpr ⟨sz_okd279 xs L, fun _ h => absurd h List.not_mem_nil⟩) rfl rfl ⟨_, _, sz_sd337_0⟩ (fun _ h => absurd h List.not_mem_nil)

/-! X11_isGained  -/
set_option maxRecDepth 100000 in
noncomputable def sz_cd338 : sy_Ct := (110, 5, 116, [(3, .inr 244, .inl 0), (0, .inl 2, .inl 0), (1, .inr 0, .inl 0), (1, .inl 9999, .inl 0), (1, .inl 9999, .inl 0)], ([(0, 9999)], []), [], [], [(245, 187, 189), (245, 191, 193), (245, 195, 197), (245, 208, 208)], [(.inl none, 0, 0, ([(0, 9999)], []), [], [])])
set_option maxRecDepth 100000 in
noncomputable def sz_ud338 : List sy_Cut := []
set_option maxRecDepth 100000 in
noncomputable def sz_hd338_0 : List sy_Hn := [(69, 1, 3, 0, 0, 0, [], [], []),
  (277, 20, 0, 0, 0, 0, [], [], []),
  (0, 31, 0, 0, 0, 0, [], [], []),
  (0, 1, 3, 0, 1, 0, [], [], []),
  (277, 20, 0, 0, 0, 0, [], [], []),
  (0, 31, 0, 0, 0, 0, [], [], []),
  (277, 20, 0, 0, 0, 0, [], [], []),
  (0, 31, 0, 0, 0, 0, [], [], [])]
set_option maxRecDepth 100000 in
theorem sz_sd338_0 : sy_seg sz_E (pv_T (sz_own false) sz_T) sz_RU [sz_cd279] sz_cd338 sz_ud338 ri_m_X11_isGained 918 none sz_hd338_0 = true := by decide +kernel
theorem sz_okd338 (xs : Nat → Value) (L : Nat) : sy_Cok (sz_env xs L) (pv_T (sz_own false) sz_T) sz_RU sz_cd338 := sy_chk_ok (CT := [sz_cd279]) (CU := sz_ud338) (M := ri_m_X11_isGained) (List.forall_mem_cons.mpr ⟨sz_okd279 xs L, fun _ h => absurd h List.not_mem_nil⟩) rfl rfl ⟨_, _, sz_sd338_0⟩ (fun _ h => absurd h List.not_mem_nil)

/-! X11_isGained  -/
set_option maxRecDepth 100000 in
noncomputable def sz_cd339 : sy_Ct := (110, 5, 116, [(3, .inr 244, .inl 0), (0, .inl 2, .inl 0), (1, .inr 0, .inl 0), (1, .inr 1, .inl 0), (1, .inl 0, .inl 0)], ([(0, 9999), (0, 9999)], []), [], [], [(245, 187, 189), (245, 191, 193), (245, 195, 197), (245, 208, 208)], [(.inl none, 0, 0, ([(0, 9999), (0, 9999)], []), [], [])])
set_option maxRecDepth 100000 in
noncomputable def sz_ud339 : List sy_Cut := []
set_option maxRecDepth 100000 in
noncomputable def sz_hd339_0 : List sy_Hn := [(69, 1, 4, 0, 0, 0, [], [], []),
  (277, 20, 0, 0, 0, 0, [], [], []),
  (0, 31, 0, 0, 0, 0, [], [], []),
  (0, 1, 4, 0, 1, 0, [], [], []),
  (277, 20, 0, 0, 0, 0, [], [], []),
  (0, 31, 0, 0, 0, 0, [], [], []),
  (277, 20, 0, 0, 0, 0, [], [], []),
  (0, 31, 0, 0, 0, 0, [], [], [])]
set_option maxRecDepth 100000 in
theorem sz_sd339_0 : sy_seg sz_E (pv_T (sz_own false) sz_T) sz_RU [sz_cd279] sz_cd339 sz_ud339 ri_m_X11_isGained 918 none sz_hd339_0 = true := by decide +kernel
theorem sz_okd339 (xs : Nat → Value) (L : Nat) : sy_Cok (sz_env xs L) (pv_T (sz_own false) sz_T) sz_RU sz_cd339 := sy_chk_ok (CT := [sz_cd279]) (CU := sz_ud339) (M := ri_m_X11_isGained) (List.forall_mem_cons.mpr ⟨sz_okd279 xs L, fun _ h => absurd h List.not_mem_nil⟩) rfl rfl ⟨_, _, sz_sd339_0⟩ (fun _ h => absurd h List.not_mem_nil)

/-! X11_isGained  -/
set_option maxRecDepth 100000 in
noncomputable def sz_cd340 : sy_Ct := (110, 5, 116, [(3, .inr 244, .inl 0), (0, .inl 2, .inl 0), (1, .inr 0, .inl 0), (1, .inl 9999, .inl 0), (1, .inl 0, .inl 0)], ([(0, 9999)], []), [], [], [(245, 187, 189), (245, 191, 193), (245, 195, 197), (245, 208, 208)], [(.inl none, 0, 0, ([(0, 9999)], []), [], [])])
set_option maxRecDepth 100000 in
noncomputable def sz_ud340 : List sy_Cut := []
set_option maxRecDepth 100000 in
noncomputable def sz_hd340_0 : List sy_Hn := [(69, 1, 3, 0, 0, 0, [], [], []),
  (277, 20, 0, 0, 0, 0, [], [], []),
  (0, 31, 0, 0, 0, 0, [], [], []),
  (0, 1, 3, 0, 1, 0, [], [], []),
  (277, 20, 0, 0, 0, 0, [], [], []),
  (0, 31, 0, 0, 0, 0, [], [], []),
  (277, 20, 0, 0, 0, 0, [], [], []),
  (0, 31, 0, 0, 0, 0, [], [], [])]
set_option maxRecDepth 100000 in
theorem sz_sd340_0 : sy_seg sz_E (pv_T (sz_own false) sz_T) sz_RU [sz_cd279] sz_cd340 sz_ud340 ri_m_X11_isGained 918 none sz_hd340_0 = true := by decide +kernel
theorem sz_okd340 (xs : Nat → Value) (L : Nat) : sy_Cok (sz_env xs L) (pv_T (sz_own false) sz_T) sz_RU sz_cd340 := sy_chk_ok (CT := [sz_cd279]) (CU := sz_ud340) (M := ri_m_X11_isGained) (List.forall_mem_cons.mpr ⟨sz_okd279 xs L, fun _ h => absurd h List.not_mem_nil⟩) rfl rfl ⟨_, _, sz_sd340_0⟩ (fun _ h => absurd h List.not_mem_nil)
