/-! ===== the survey: contracts 537 to 634 ===== -/
/-! X10_relay [0, 0, 1, 2] -/
set_option maxRecDepth 100000 in
noncomputable def sz_c537 : sy_Ct := (112, 7, 103, [(3, .inr 0, .inl 0), (0, .inr 0, .inl 0), (0, .inr 1, .inl 0), (0, .inr 2, .inl 0)], ([((-2147483648), 2147483647), ((-2147483648), 2147483647), ((-2147483648), 2147483647)], []), [], [], [(67, 5, 5), (67, 17, 18), (77, 0, 8), (79, 5, 5), (79, 17, 18), (89, 0, 8), (91, 5, 5), (91, 17, 18), (101, 0, 8), (103, 5, 5), (103, 17, 18), (113, 0, 8)], [(.inl (some (0, .inr 3, .inl 0)), 0, 0, ([((-1), 1), ((-2147483648), 2147483647), ((-2147483648), 2147483647), ((-2147483648), 2147483647)], []), [], []), (.inr 0, 1, 6, ([((-2147483648), 2147483647), ((-2147483648), 2147483647), ((-2147483648), 2147483647)], []), [], []), (.inr 2, 1, 6, ([((-2147483648), 2147483647), ((-2147483648), 2147483647), ((-2147483648), 2147483647)], []), [], []), (.inr 4, 1, 6, ([((-2147483648), 2147483647), ((-2147483648), 2147483647), ((-2147483648), 2147483647)], []), [], [])])
set_option maxRecDepth 100000 in
noncomputable def sz_u537 : List sy_Cut := []
set_option maxRecDepth 100000 in
noncomputable def sz_h537_0 : List sy_Hn := [(0, 31, 2, 0, 0, 0, [], [], []),
  (9, 1, 0, 0, 0, 0, [], [], []),
  (0, 31, 1, 0, 0, 0, [], [], []),
  (0, 31, 1, 0, 0, 0, [], [], []),
  (0, 31, 3, 0, 0, 0, [], [], []),
  (77, 6, 376, 0, 0, 0, [([], [(1, [0]), (1, [7]), (1, [5])]), ([], [(1, [0]), (1, [3]), (1, [2])])], [], [1, 1]),
  (0, 6, 377, 0, 0, 0, [([], [(1, [0])]), ([], [(1, [0])])], [], [1, 1]),
  (0, 31, 0, 0, 0, 0, [], [], []),
  (31, 6, 376, 0, 0, 0, [([], [(1, [0]), (1, [7]), (1, [5])]), ([], [(1, [0]), (1, [3]), (1, [2])])], [], [1, 1]),
  (0, 6, 377, 0, 0, 0, [([], [(1, [0])]), ([], [(1, [0])])], [], [1, 1]),
  (0, 31, 0, 0, 0, 0, [], [], []),
  (0, 31, 3, 0, 0, 0, [], [], []),
  (0, 31, 3, 0, 0, 0, [], [], []),
  (0, 31, 1, 0, 0, 0, [], [], []),
  (0, 31, 1, 0, 0, 0, [], [], []),
  (0, 1, 0, 0, 1, 0, [], [], []),
  (0, 31, 1, 0, 0, 0, [], [], []),
  (0, 31, 1, 0, 0, 0, [], [], []),
  (0, 31, 3, 0, 0, 0, [], [], []),
  (77, 6, 381, 0, 0, 0, [([], [(1, [0]), (1, [7]), (1, [5])]), ([], [(1, [0]), (1, [3]), (1, [2])])], [], [1, 1]),
  (0, 6, 382, 0, 0, 0, [([], [(1, [0])]), ([], [(1, [0])])], [], [1, 1]),
  (0, 31, 0, 0, 0, 0, [], [], []),
  (31, 6, 381, 0, 0, 0, [([], [(1, [0]), (1, [7]), (1, [5])]), ([], [(1, [0]), (1, [3]), (1, [2])])], [], [1, 1]),
  (0, 6, 382, 0, 0, 0, [([], [(1, [0])]), ([], [(1, [0])])], [], [1, 1]),
  (0, 31, 0, 0, 0, 0, [], [], []),
  (0, 31, 3, 0, 0, 0, [], [], []),
  (0, 31, 3, 0, 0, 0, [], [], []),
  (0, 31, 1, 0, 0, 0, [], [], []),
  (0, 31, 1, 0, 0, 0, [], [], []),
  (0, 1, 0, 0, 2, 0, [], [], []),
  (0, 31, 1, 0, 0, 0, [], [], []),
  (0, 31, 1, 0, 0, 0, [], [], []),
  (0, 31, 3, 0, 0, 0, [], [], []),
  (77, 6, 386, 0, 0, 0, [([], [(1, [0]), (1, [7]), (1, [5])]), ([], [(1, [0]), (1, [3]), (1, [2])])], [], [1, 1]),
  (0, 6, 387, 0, 0, 0, [([], [(1, [0])]), ([], [(1, [0])])], [], [1, 1]),
  (0, 31, 0, 0, 0, 0, [], [], []),
  (31, 6, 386, 0, 0, 0, [([], [(1, [0]), (1, [7]), (1, [5])]), ([], [(1, [0]), (1, [3]), (1, [2])])], [], [1, 1]),
  (0, 6, 387, 0, 0, 0, [([], [(1, [0])]), ([], [(1, [0])])], [], [1, 1]),
  (0, 31, 0, 0, 0, 0, [], [], []),
  (0, 31, 3, 0, 0, 0, [], [], []),
  (0, 31, 3, 0, 0, 0, [], [], []),
  (0, 31, 1, 0, 0, 0, [], [], []),
  (0, 31, 1, 0, 0, 0, [], [], []),
  (0, 31, 1, 0, 0, 0, [], [], []),
  (0, 31, 1, 0, 0, 0, [], [], []),
  (0, 31, 3, 0, 0, 0, [], [], []),
  (77, 6, 391, 0, 0, 0, [([], [(1, [0]), (1, [7]), (1, [5])]), ([], [(1, [0]), (1, [3]), (1, [2])])], [], [1, 1]),
  (0, 6, 392, 0, 0, 0, [([], [(1, [0])]), ([], [(1, [0])])], [], [1, 1]),
  (0, 31, 0, 0, 0, 0, [], [], []),
  (31, 6, 391, 0, 0, 0, [([], [(1, [0]), (1, [7]), (1, [5])]), ([], [(1, [0]), (1, [3]), (1, [2])])], [], [1, 1]),
  (0, 6, 392, 0, 0, 0, [([], [(1, [0])]), ([], [(1, [0])])], [], [1, 1]),
  (0, 31, 0, 0, 0, 0, [], [], []),
  (0, 31, 3, 0, 0, 0, [], [], []),
  (0, 31, 3, 0, 0, 0, [], [], []),
  (0, 31, 1, 0, 0, 0, [], [], []),
  (0, 31, 1, 0, 0, 0, [], [], []),
  (0, 31, 2, 0, 0, 0, [], [], [])]
set_option maxRecDepth 100000 in
theorem sz_s537_0 : sy_seg sz_E sz_T sz_RU [] sz_c537 sz_u537 ri_m_X10_relay 713 none sz_h537_0 = true := by decide +kernel
theorem sz_ok537 (xs : Nat → Value) (L : Nat) : sy_Cok (sz_env xs L) sz_T sz_RU sz_c537 := sy_chk_ok (CT := []) (CU := sz_u537) (M := ri_m_X10_relay) (fun _ h => absurd h List.not_mem_nil) rfl ⟨_, _, sz_s537_0⟩ (fun _ h => absurd h List.not_mem_nil)

/-! X2_tellGains [67, 0, 1, 2] -/
set_option maxRecDepth 100000 in
noncomputable def sz_c538 : sy_Ct := (176, 2, 47, [(3, .inr 67, .inl 0), (0, .inr 0, .inl 0), (0, .inr 1, .inl 0), (0, .inr 2, .inl 0)], ([((-2147483648), 9999), ((-2147483648), 9999), ((-2147483648), 2147483647)], []), [], [], [(67, 8, 8), (74, 0, 2), (75, 0, 2), (76, 0, 2)], [(.inl none, 0, 0, ([((-2147483648), 9999), ((-2147483648), 9999), ((-2147483648), 2147483647)], []), [], [])])
set_option maxRecDepth 100000 in
noncomputable def sz_u538 : List sy_Cut := []
set_option maxRecDepth 100000 in
noncomputable def sz_h538_0 : List sy_Hn := [(120, 20, 0, 0, 0, 0, [], [], []),
  (0, 31, 0, 0, 0, 0, [], [], [])]
set_option maxRecDepth 100000 in
theorem sz_s538_0 : sy_seg sz_E sz_T sz_RU [sz_c345] sz_c538 sz_u538 ri_m_X2_tellGains 128 none sz_h538_0 = true := by decide +kernel
theorem sz_ok538 (xs : Nat → Value) (L : Nat) : sy_Cok (sz_env xs L) sz_T sz_RU sz_c538 := sy_chk_ok (CT := [sz_c345]) (CU := sz_u538) (M := ri_m_X2_tellGains) (List.forall_mem_cons.mpr ⟨sz_ok345 xs L, fun _ h => absurd h List.not_mem_nil⟩) rfl ⟨_, _, sz_s538_0⟩ (fun _ h => absurd h List.not_mem_nil)

/-! X2_tellGains [67, 0, 1, 9999] -/
set_option maxRecDepth 100000 in
noncomputable def sz_c539 : sy_Ct := (176, 2, 47, [(3, .inr 67, .inl 0), (0, .inr 0, .inl 0), (0, .inr 1, .inl 0), (0, .inl 9999, .inl 0)], ([((-2147483648), 9999), ((-2147483648), 2147483647)], []), [], [], [(67, 8, 8), (74, 0, 2), (75, 0, 2), (76, 0, 2)], [(.inl none, 0, 0, ([((-2147483648), 9999), ((-2147483648), 2147483647)], []), [], [])])
set_option maxRecDepth 100000 in
noncomputable def sz_u539 : List sy_Cut := []
set_option maxRecDepth 100000 in
noncomputable def sz_h539_0 : List sy_Hn := [(120, 20, 0, 0, 0, 0, [], [], []),
  (0, 31, 0, 0, 0, 0, [], [], [])]
set_option maxRecDepth 100000 in
theorem sz_s539_0 : sy_seg sz_E sz_T sz_RU [sz_c345] sz_c539 sz_u539 ri_m_X2_tellGains 128 none sz_h539_0 = true := by decide +kernel
theorem sz_ok539 (xs : Nat → Value) (L : Nat) : sy_Cok (sz_env xs L) sz_T sz_RU sz_c539 := sy_chk_ok (CT := [sz_c345]) (CU := sz_u539) (M := ri_m_X2_tellGains) (List.forall_mem_cons.mpr ⟨sz_ok345 xs L, fun _ h => absurd h List.not_mem_nil⟩) rfl ⟨_, _, sz_s539_0⟩ (fun _ h => absurd h List.not_mem_nil)

/-! X2_tellGains [67, 0, 9999, 1] -/
set_option maxRecDepth 100000 in
noncomputable def sz_c540 : sy_Ct := (176, 2, 47, [(3, .inr 67, .inl 0), (0, .inr 0, .inl 0), (0, .inl 9999, .inl 0), (0, .inr 1, .inl 0)], ([((-2147483648), 9999), ((-2147483648), 2147483647)], []), [], [], [(67, 8, 8), (74, 0, 2), (75, 0, 2), (76, 0, 2)], [(.inl none, 0, 0, ([((-2147483648), 9999), ((-2147483648), 2147483647)], []), [], [])])
set_option maxRecDepth 100000 in
noncomputable def sz_u540 : List sy_Cut := []
set_option maxRecDepth 100000 in
noncomputable def sz_h540_0 : List sy_Hn := [(120, 20, 0, 0, 0, 0, [], [], []),
  (0, 31, 0, 0, 0, 0, [], [], [])]
set_option maxRecDepth 100000 in
theorem sz_s540_0 : sy_seg sz_E sz_T sz_RU [sz_c345] sz_c540 sz_u540 ri_m_X2_tellGains 128 none sz_h540_0 = true := by decide +kernel
theorem sz_ok540 (xs : Nat → Value) (L : Nat) : sy_Cok (sz_env xs L) sz_T sz_RU sz_c540 := sy_chk_ok (CT := [sz_c345]) (CU := sz_u540) (M := ri_m_X2_tellGains) (List.forall_mem_cons.mpr ⟨sz_ok345 xs L, fun _ h => absurd h List.not_mem_nil⟩) rfl ⟨_, _, sz_s540_0⟩ (fun _ h => absurd h List.not_mem_nil)

/-! X2_tellGains [67, 0, 9999, 9999] -/
set_option maxRecDepth 100000 in
noncomputable def sz_c541 : sy_Ct := (176, 2, 47, [(3, .inr 67, .inl 0), (0, .inr 0, .inl 0), (0, .inl 9999, .inl 0), (0, .inl 9999, .inl 0)], ([((-2147483648), 2147483647)], []), [], [], [(67, 8, 8), (74, 0, 2), (75, 0, 2), (76, 0, 2)], [(.inl none, 0, 0, ([((-2147483648), 2147483647)], []), [], [])])
set_option maxRecDepth 100000 in
noncomputable def sz_u541 : List sy_Cut := []
set_option maxRecDepth 100000 in
noncomputable def sz_h541_0 : List sy_Hn := [(120, 20, 0, 0, 0, 0, [], [], []),
  (0, 31, 0, 0, 0, 0, [], [], [])]
set_option maxRecDepth 100000 in
theorem sz_s541_0 : sy_seg sz_E sz_T sz_RU [sz_c345] sz_c541 sz_u541 ri_m_X2_tellGains 128 none sz_h541_0 = true := by decide +kernel
theorem sz_ok541 (xs : Nat → Value) (L : Nat) : sy_Cok (sz_env xs L) sz_T sz_RU sz_c541 := sy_chk_ok (CT := [sz_c345]) (CU := sz_u541) (M := ri_m_X2_tellGains) (List.forall_mem_cons.mpr ⟨sz_ok345 xs L, fun _ h => absurd h List.not_mem_nil⟩) rfl ⟨_, _, sz_s541_0⟩ (fun _ h => absurd h List.not_mem_nil)

/-! X2_tellGains [67, 0, 1, 0] -/
set_option maxRecDepth 100000 in
noncomputable def sz_c542 : sy_Ct := (176, 2, 47, [(3, .inr 67, .inl 0), (0, .inr 0, .inl 0), (0, .inr 1, .inl 0), (0, .inl 0, .inl 0)], ([((-2147483648), 9999), ((-2147483648), 2147483647)], []), [], [], [(67, 8, 8), (74, 0, 2), (75, 0, 2), (76, 0, 2)], [(.inl none, 0, 0, ([((-2147483648), 9999), ((-2147483648), 2147483647)], []), [], [])])
set_option maxRecDepth 100000 in
noncomputable def sz_u542 : List sy_Cut := []
set_option maxRecDepth 100000 in
noncomputable def sz_h542_0 : List sy_Hn := [(120, 20, 0, 0, 0, 0, [], [], []),
  (0, 31, 0, 0, 0, 0, [], [], [])]
set_option maxRecDepth 100000 in
theorem sz_s542_0 : sy_seg sz_E sz_T sz_RU [sz_c345] sz_c542 sz_u542 ri_m_X2_tellGains 128 none sz_h542_0 = true := by decide +kernel
theorem sz_ok542 (xs : Nat → Value) (L : Nat) : sy_Cok (sz_env xs L) sz_T sz_RU sz_c542 := sy_chk_ok (CT := [sz_c345]) (CU := sz_u542) (M := ri_m_X2_tellGains) (List.forall_mem_cons.mpr ⟨sz_ok345 xs L, fun _ h => absurd h List.not_mem_nil⟩) rfl ⟨_, _, sz_s542_0⟩ (fun _ h => absurd h List.not_mem_nil)

/-! X2_tellGains [67, 0, 9999, 0] -/
set_option maxRecDepth 100000 in
noncomputable def sz_c543 : sy_Ct := (176, 2, 47, [(3, .inr 67, .inl 0), (0, .inr 0, .inl 0), (0, .inl 9999, .inl 0), (0, .inl 0, .inl 0)], ([((-2147483648), 2147483647)], []), [], [], [(67, 8, 8), (74, 0, 2), (75, 0, 2), (76, 0, 2)], [(.inl none, 0, 0, ([((-2147483648), 2147483647)], []), [], [])])
set_option maxRecDepth 100000 in
noncomputable def sz_u543 : List sy_Cut := []
set_option maxRecDepth 100000 in
noncomputable def sz_h543_0 : List sy_Hn := [(120, 20, 0, 0, 0, 0, [], [], []),
  (0, 31, 0, 0, 0, 0, [], [], [])]
set_option maxRecDepth 100000 in
theorem sz_s543_0 : sy_seg sz_E sz_T sz_RU [sz_c345] sz_c543 sz_u543 ri_m_X2_tellGains 128 none sz_h543_0 = true := by decide +kernel
theorem sz_ok543 (xs : Nat → Value) (L : Nat) : sy_Cok (sz_env xs L) sz_T sz_RU sz_c543 := sy_chk_ok (CT := [sz_c345]) (CU := sz_u543) (M := ri_m_X2_tellGains) (List.forall_mem_cons.mpr ⟨sz_ok345 xs L, fun _ h => absurd h List.not_mem_nil⟩) rfl ⟨_, _, sz_s543_0⟩ (fun _ h => absurd h List.not_mem_nil)

/-! X2_tuneBy [67, 0] -/
set_option maxRecDepth 100000 in
noncomputable def sz_c544 : sy_Ct := (179, 3, 72, [(3, .inr 67, .inl 0), (0, .inr 0, .inl 0)], ([(0, 2)], []), [], [], [(67, 8, 8), (74, 0, 2), (75, 0, 2), (76, 0, 2)], [(.inl (some (0, .inr 1, .inl 0)), 0, 0, ([((-2147483648), 2147483647), (0, 2)], []), [], [])])
set_option maxRecDepth 100000 in
noncomputable def sz_u544 : List sy_Cut := []
set_option maxRecDepth 100000 in
noncomputable def sz_h544_0 : List sy_Hn := [(59, 20, 0, 0, 0, 0, [], [], []),
  (0, 31, 0, 0, 0, 0, [], [], []),
  (4, 20, 1, 0, 0, 0, [], [], []),
  (0, 31, 0, 0, 0, 0, [], [], []),
  (12, 20, 2, 0, 0, 0, [], [], []),
  (0, 31, 0, 0, 0, 0, [], [], []),
  (4, 20, 3, 0, 0, 0, [], [], []),
  (0, 31, 0, 0, 0, 0, [], [], []),
  (47, 20, 4, 0, 0, 0, [], [], []),
  (0, 31, 0, 0, 0, 0, [], [], []),
  (12, 20, 5, 0, 0, 0, [], [], []),
  (0, 31, 0, 0, 0, 0, [], [], []),
  (45, 20, 0, 0, 0, 0, [], [], []),
  (0, 31, 0, 0, 0, 0, [], [], []),
  (4, 20, 1, 0, 0, 0, [], [], []),
  (0, 31, 0, 0, 0, 0, [], [], []),
  (12, 20, 2, 0, 0, 0, [], [], []),
  (0, 31, 0, 0, 0, 0, [], [], []),
  (4, 20, 3, 0, 0, 0, [], [], []),
  (0, 31, 0, 0, 0, 0, [], [], []),
  (53, 20, 0, 0, 0, 0, [], [], []),
  (0, 31, 0, 0, 0, 0, [], [], []),
  (4, 20, 1, 0, 0, 0, [], [], []),
  (0, 31, 0, 0, 0, 0, [], [], []),
  (12, 20, 2, 0, 0, 0, [], [], []),
  (0, 31, 0, 0, 0, 0, [], [], []),
  (4, 20, 3, 0, 0, 0, [], [], []),
  (0, 31, 0, 0, 0, 0, [], [], []),
  (47, 20, 4, 0, 0, 0, [], [], []),
  (0, 31, 0, 0, 0, 0, [], [], []),
  (12, 20, 5, 0, 0, 0, [], [], []),
  (0, 31, 0, 0, 0, 0, [], [], []),
  (45, 20, 0, 0, 0, 0, [], [], []),
  (0, 31, 0, 0, 0, 0, [], [], []),
  (4, 20, 1, 0, 0, 0, [], [], []),
  (0, 31, 0, 0, 0, 0, [], [], []),
  (12, 20, 2, 0, 0, 0, [], [], []),
  (0, 31, 0, 0, 0, 0, [], [], []),
  (4, 20, 3, 0, 0, 0, [], [], []),
  (0, 31, 0, 0, 0, 0, [], [], [])]
set_option maxRecDepth 100000 in
theorem sz_s544_0 : sy_seg sz_E sz_T sz_RU [sz_c538, sz_c539, sz_c540, sz_c541, sz_c542, sz_c543] sz_c544 sz_u544 ri_m_X2_tuneBy 485 none sz_h544_0 = true := by decide +kernel
theorem sz_ok544 (xs : Nat → Value) (L : Nat) : sy_Cok (sz_env xs L) sz_T sz_RU sz_c544 := sy_chk_ok (CT := [sz_c538, sz_c539, sz_c540, sz_c541, sz_c542, sz_c543]) (CU := sz_u544) (M := ri_m_X2_tuneBy) (List.forall_mem_cons.mpr ⟨sz_ok538 xs L, List.forall_mem_cons.mpr ⟨sz_ok539 xs L, List.forall_mem_cons.mpr ⟨sz_ok540 xs L, List.forall_mem_cons.mpr ⟨sz_ok541 xs L, List.forall_mem_cons.mpr ⟨sz_ok542 xs L, List.forall_mem_cons.mpr ⟨sz_ok543 xs L, fun _ h => absurd h List.not_mem_nil⟩⟩⟩⟩⟩⟩) rfl ⟨_, _, sz_s544_0⟩ (fun _ h => absurd h List.not_mem_nil)

/-! X2_tellGains [79, 0, 1, 2] -/
set_option maxRecDepth 100000 in
noncomputable def sz_c545 : sy_Ct := (176, 2, 47, [(3, .inr 79, .inl 0), (0, .inr 0, .inl 0), (0, .inr 1, .inl 0), (0, .inr 2, .inl 0)], ([((-2147483648), 9999), ((-2147483648), 9999), ((-2147483648), 2147483647)], []), [], [], [(79, 8, 8), (86, 0, 2), (87, 0, 2), (88, 0, 2)], [(.inl none, 0, 0, ([((-2147483648), 9999), ((-2147483648), 9999), ((-2147483648), 2147483647)], []), [], [])])
set_option maxRecDepth 100000 in
noncomputable def sz_u545 : List sy_Cut := []
set_option maxRecDepth 100000 in
noncomputable def sz_h545_0 : List sy_Hn := [(120, 20, 0, 0, 0, 0, [], [], []),
  (0, 31, 0, 0, 0, 0, [], [], [])]
set_option maxRecDepth 100000 in
theorem sz_s545_0 : sy_seg sz_E sz_T sz_RU [sz_c364] sz_c545 sz_u545 ri_m_X2_tellGains 128 none sz_h545_0 = true := by decide +kernel
theorem sz_ok545 (xs : Nat → Value) (L : Nat) : sy_Cok (sz_env xs L) sz_T sz_RU sz_c545 := sy_chk_ok (CT := [sz_c364]) (CU := sz_u545) (M := ri_m_X2_tellGains) (List.forall_mem_cons.mpr ⟨sz_ok364 xs L, fun _ h => absurd h List.not_mem_nil⟩) rfl ⟨_, _, sz_s545_0⟩ (fun _ h => absurd h List.not_mem_nil)

/-! X2_tellGains [79, 0, 1, 9999] -/
set_option maxRecDepth 100000 in
noncomputable def sz_c546 : sy_Ct := (176, 2, 47, [(3, .inr 79, .inl 0), (0, .inr 0, .inl 0), (0, .inr 1, .inl 0), (0, .inl 9999, .inl 0)], ([((-2147483648), 9999), ((-2147483648), 2147483647)], []), [], [], [(79, 8, 8), (86, 0, 2), (87, 0, 2), (88, 0, 2)], [(.inl none, 0, 0, ([((-2147483648), 9999), ((-2147483648), 2147483647)], []), [], [])])
set_option maxRecDepth 100000 in
noncomputable def sz_u546 : List sy_Cut := []
set_option maxRecDepth 100000 in
noncomputable def sz_h546_0 : List sy_Hn := [(120, 20, 0, 0, 0, 0, [], [], []),
  (0, 31, 0, 0, 0, 0, [], [], [])]
set_option maxRecDepth 100000 in
theorem sz_s546_0 : sy_seg sz_E sz_T sz_RU [sz_c364] sz_c546 sz_u546 ri_m_X2_tellGains 128 none sz_h546_0 = true := by decide +kernel
theorem sz_ok546 (xs : Nat → Value) (L : Nat) : sy_Cok (sz_env xs L) sz_T sz_RU sz_c546 := sy_chk_ok (CT := [sz_c364]) (CU := sz_u546) (M := ri_m_X2_tellGains) (List.forall_mem_cons.mpr ⟨sz_ok364 xs L, fun _ h => absurd h List.not_mem_nil⟩) rfl ⟨_, _, sz_s546_0⟩ (fun _ h => absurd h List.not_mem_nil)

/-! X2_tellGains [79, 0, 9999, 1] -/
set_option maxRecDepth 100000 in
noncomputable def sz_c547 : sy_Ct := (176, 2, 47, [(3, .inr 79, .inl 0), (0, .inr 0, .inl 0), (0, .inl 9999, .inl 0), (0, .inr 1, .inl 0)], ([((-2147483648), 9999), ((-2147483648), 2147483647)], []), [], [], [(79, 8, 8), (86, 0, 2), (87, 0, 2), (88, 0, 2)], [(.inl none, 0, 0, ([((-2147483648), 9999), ((-2147483648), 2147483647)], []), [], [])])
set_option maxRecDepth 100000 in
noncomputable def sz_u547 : List sy_Cut := []
set_option maxRecDepth 100000 in
noncomputable def sz_h547_0 : List sy_Hn := [(120, 20, 0, 0, 0, 0, [], [], []),
  (0, 31, 0, 0, 0, 0, [], [], [])]
set_option maxRecDepth 100000 in
theorem sz_s547_0 : sy_seg sz_E sz_T sz_RU [sz_c364] sz_c547 sz_u547 ri_m_X2_tellGains 128 none sz_h547_0 = true := by decide +kernel
theorem sz_ok547 (xs : Nat → Value) (L : Nat) : sy_Cok (sz_env xs L) sz_T sz_RU sz_c547 := sy_chk_ok (CT := [sz_c364]) (CU := sz_u547) (M := ri_m_X2_tellGains) (List.forall_mem_cons.mpr ⟨sz_ok364 xs L, fun _ h => absurd h List.not_mem_nil⟩) rfl ⟨_, _, sz_s547_0⟩ (fun _ h => absurd h List.not_mem_nil)

/-! X2_tellGains [79, 0, 9999, 9999] -/
set_option maxRecDepth 100000 in
noncomputable def sz_c548 : sy_Ct := (176, 2, 47, [(3, .inr 79, .inl 0), (0, .inr 0, .inl 0), (0, .inl 9999, .inl 0), (0, .inl 9999, .inl 0)], ([((-2147483648), 2147483647)], []), [], [], [(79, 8, 8), (86, 0, 2), (87, 0, 2), (88, 0, 2)], [(.inl none, 0, 0, ([((-2147483648), 2147483647)], []), [], [])])
set_option maxRecDepth 100000 in
noncomputable def sz_u548 : List sy_Cut := []
set_option maxRecDepth 100000 in
noncomputable def sz_h548_0 : List sy_Hn := [(120, 20, 0, 0, 0, 0, [], [], []),
  (0, 31, 0, 0, 0, 0, [], [], [])]
set_option maxRecDepth 100000 in
theorem sz_s548_0 : sy_seg sz_E sz_T sz_RU [sz_c364] sz_c548 sz_u548 ri_m_X2_tellGains 128 none sz_h548_0 = true := by decide +kernel
theorem sz_ok548 (xs : Nat → Value) (L : Nat) : sy_Cok (sz_env xs L) sz_T sz_RU sz_c548 := sy_chk_ok (CT := [sz_c364]) (CU := sz_u548) (M := ri_m_X2_tellGains) (List.forall_mem_cons.mpr ⟨sz_ok364 xs L, fun _ h => absurd h List.not_mem_nil⟩) rfl ⟨_, _, sz_s548_0⟩ (fun _ h => absurd h List.not_mem_nil)

/-! X2_tellGains [79, 0, 1, 0] -/
set_option maxRecDepth 100000 in
noncomputable def sz_c549 : sy_Ct := (176, 2, 47, [(3, .inr 79, .inl 0), (0, .inr 0, .inl 0), (0, .inr 1, .inl 0), (0, .inl 0, .inl 0)], ([((-2147483648), 9999), ((-2147483648), 2147483647)], []), [], [], [(79, 8, 8), (86, 0, 2), (87, 0, 2), (88, 0, 2)], [(.inl none, 0, 0, ([((-2147483648), 9999), ((-2147483648), 2147483647)], []), [], [])])
set_option maxRecDepth 100000 in
noncomputable def sz_u549 : List sy_Cut := []
set_option maxRecDepth 100000 in
noncomputable def sz_h549_0 : List sy_Hn := [(120, 20, 0, 0, 0, 0, [], [], []),
  (0, 31, 0, 0, 0, 0, [], [], [])]
set_option maxRecDepth 100000 in
theorem sz_s549_0 : sy_seg sz_E sz_T sz_RU [sz_c364] sz_c549 sz_u549 ri_m_X2_tellGains 128 none sz_h549_0 = true := by decide +kernel
theorem sz_ok549 (xs : Nat → Value) (L : Nat) : sy_Cok (sz_env xs L) sz_T sz_RU sz_c549 := sy_chk_ok (CT := [sz_c364]) (CU := sz_u549) (M := ri_m_X2_tellGains) (List.forall_mem_cons.mpr ⟨sz_ok364 xs L, fun _ h => absurd h List.not_mem_nil⟩) rfl ⟨_, _, sz_s549_0⟩ (fun _ h => absurd h List.not_mem_nil)

/-! X2_tellGains [79, 0, 9999, 0] -/
set_option maxRecDepth 100000 in
noncomputable def sz_c550 : sy_Ct := (176, 2, 47, [(3, .inr 79, .inl 0), (0, .inr 0, .inl 0), (0, .inl 9999, .inl 0), (0, .inl 0, .inl 0)], ([((-2147483648), 2147483647)], []), [], [], [(79, 8, 8), (86, 0, 2), (87, 0, 2), (88, 0, 2)], [(.inl none, 0, 0, ([((-2147483648), 2147483647)], []), [], [])])
set_option maxRecDepth 100000 in
noncomputable def sz_u550 : List sy_Cut := []
set_option maxRecDepth 100000 in
noncomputable def sz_h550_0 : List sy_Hn := [(120, 20, 0, 0, 0, 0, [], [], []),
  (0, 31, 0, 0, 0, 0, [], [], [])]
set_option maxRecDepth 100000 in
theorem sz_s550_0 : sy_seg sz_E sz_T sz_RU [sz_c364] sz_c550 sz_u550 ri_m_X2_tellGains 128 none sz_h550_0 = true := by decide +kernel
theorem sz_ok550 (xs : Nat → Value) (L : Nat) : sy_Cok (sz_env xs L) sz_T sz_RU sz_c550 := sy_chk_ok (CT := [sz_c364]) (CU := sz_u550) (M := ri_m_X2_tellGains) (List.forall_mem_cons.mpr ⟨sz_ok364 xs L, fun _ h => absurd h List.not_mem_nil⟩) rfl ⟨_, _, sz_s550_0⟩ (fun _ h => absurd h List.not_mem_nil)

/-! X2_tuneBy [79, 0] -/
set_option maxRecDepth 100000 in
noncomputable def sz_c551 : sy_Ct := (179, 3, 72, [(3, .inr 79, .inl 0), (0, .inr 0, .inl 0)], ([(0, 2)], []), [], [], [(79, 8, 8), (86, 0, 2), (87, 0, 2), (88, 0, 2)], [(.inl (some (0, .inr 1, .inl 0)), 0, 0, ([((-2147483648), 2147483647), (0, 2)], []), [], [])])
set_option maxRecDepth 100000 in
noncomputable def sz_u551 : List sy_Cut := []
set_option maxRecDepth 100000 in
noncomputable def sz_h551_0 : List sy_Hn := [(59, 20, 0, 0, 0, 0, [], [], []),
  (0, 31, 0, 0, 0, 0, [], [], []),
  (4, 20, 1, 0, 0, 0, [], [], []),
  (0, 31, 0, 0, 0, 0, [], [], []),
  (12, 20, 2, 0, 0, 0, [], [], []),
  (0, 31, 0, 0, 0, 0, [], [], []),
  (4, 20, 3, 0, 0, 0, [], [], []),
  (0, 31, 0, 0, 0, 0, [], [], []),
  (47, 20, 4, 0, 0, 0, [], [], []),
  (0, 31, 0, 0, 0, 0, [], [], []),
  (12, 20, 5, 0, 0, 0, [], [], []),
  (0, 31, 0, 0, 0, 0, [], [], []),
  (45, 20, 0, 0, 0, 0, [], [], []),
  (0, 31, 0, 0, 0, 0, [], [], []),
  (4, 20, 1, 0, 0, 0, [], [], []),
  (0, 31, 0, 0, 0, 0, [], [], []),
  (12, 20, 2, 0, 0, 0, [], [], []),
  (0, 31, 0, 0, 0, 0, [], [], []),
  (4, 20, 3, 0, 0, 0, [], [], []),
  (0, 31, 0, 0, 0, 0, [], [], []),
  (53, 20, 0, 0, 0, 0, [], [], []),
  (0, 31, 0, 0, 0, 0, [], [], []),
  (4, 20, 1, 0, 0, 0, [], [], []),
  (0, 31, 0, 0, 0, 0, [], [], []),
  (12, 20, 2, 0, 0, 0, [], [], []),
  (0, 31, 0, 0, 0, 0, [], [], []),
  (4, 20, 3, 0, 0, 0, [], [], []),
  (0, 31, 0, 0, 0, 0, [], [], []),
  (47, 20, 4, 0, 0, 0, [], [], []),
  (0, 31, 0, 0, 0, 0, [], [], []),
  (12, 20, 5, 0, 0, 0, [], [], []),
  (0, 31, 0, 0, 0, 0, [], [], []),
  (45, 20, 0, 0, 0, 0, [], [], []),
  (0, 31, 0, 0, 0, 0, [], [], []),
  (4, 20, 1, 0, 0, 0, [], [], []),
  (0, 31, 0, 0, 0, 0, [], [], []),
  (12, 20, 2, 0, 0, 0, [], [], []),
  (0, 31, 0, 0, 0, 0, [], [], []),
  (4, 20, 3, 0, 0, 0, [], [], []),
  (0, 31, 0, 0, 0, 0, [], [], [])]
set_option maxRecDepth 100000 in
theorem sz_s551_0 : sy_seg sz_E sz_T sz_RU [sz_c545, sz_c546, sz_c547, sz_c548, sz_c549, sz_c550] sz_c551 sz_u551 ri_m_X2_tuneBy 485 none sz_h551_0 = true := by decide +kernel
theorem sz_ok551 (xs : Nat → Value) (L : Nat) : sy_Cok (sz_env xs L) sz_T sz_RU sz_c551 := sy_chk_ok (CT := [sz_c545, sz_c546, sz_c547, sz_c548, sz_c549, sz_c550]) (CU := sz_u551) (M := ri_m_X2_tuneBy) (List.forall_mem_cons.mpr ⟨sz_ok545 xs L, List.forall_mem_cons.mpr ⟨sz_ok546 xs L, List.forall_mem_cons.mpr ⟨sz_ok547 xs L, List.forall_mem_cons.mpr ⟨sz_ok548 xs L, List.forall_mem_cons.mpr ⟨sz_ok549 xs L, List.forall_mem_cons.mpr ⟨sz_ok550 xs L, fun _ h => absurd h List.not_mem_nil⟩⟩⟩⟩⟩⟩) rfl ⟨_, _, sz_s551_0⟩ (fun _ h => absurd h List.not_mem_nil)

/-! X2_tellGains [91, 0, 1, 2] -/
set_option maxRecDepth 100000 in
noncomputable def sz_c552 : sy_Ct := (176, 2, 47, [(3, .inr 91, .inl 0), (0, .inr 0, .inl 0), (0, .inr 1, .inl 0), (0, .inr 2, .inl 0)], ([((-2147483648), 9999), ((-2147483648), 9999), ((-2147483648), 2147483647)], []), [], [], [(91, 8, 8), (98, 0, 2), (99, 0, 2), (100, 0, 2)], [(.inl none, 0, 0, ([((-2147483648), 9999), ((-2147483648), 9999), ((-2147483648), 2147483647)], []), [], [])])
set_option maxRecDepth 100000 in
noncomputable def sz_u552 : List sy_Cut := []
set_option maxRecDepth 100000 in
noncomputable def sz_h552_0 : List sy_Hn := [(120, 20, 0, 0, 0, 0, [], [], []),
  (0, 31, 0, 0, 0, 0, [], [], [])]
set_option maxRecDepth 100000 in
theorem sz_s552_0 : sy_seg sz_E sz_T sz_RU [sz_c383] sz_c552 sz_u552 ri_m_X2_tellGains 128 none sz_h552_0 = true := by decide +kernel
theorem sz_ok552 (xs : Nat → Value) (L : Nat) : sy_Cok (sz_env xs L) sz_T sz_RU sz_c552 := sy_chk_ok (CT := [sz_c383]) (CU := sz_u552) (M := ri_m_X2_tellGains) (List.forall_mem_cons.mpr ⟨sz_ok383 xs L, fun _ h => absurd h List.not_mem_nil⟩) rfl ⟨_, _, sz_s552_0⟩ (fun _ h => absurd h List.not_mem_nil)

/-! X2_tellGains [91, 0, 1, 9999] -/
set_option maxRecDepth 100000 in
noncomputable def sz_c553 : sy_Ct := (176, 2, 47, [(3, .inr 91, .inl 0), (0, .inr 0, .inl 0), (0, .inr 1, .inl 0), (0, .inl 9999, .inl 0)], ([((-2147483648), 9999), ((-2147483648), 2147483647)], []), [], [], [(91, 8, 8), (98, 0, 2), (99, 0, 2), (100, 0, 2)], [(.inl none, 0, 0, ([((-2147483648), 9999), ((-2147483648), 2147483647)], []), [], [])])
set_option maxRecDepth 100000 in
noncomputable def sz_u553 : List sy_Cut := []
set_option maxRecDepth 100000 in
noncomputable def sz_h553_0 : List sy_Hn := [(120, 20, 0, 0, 0, 0, [], [], []),
  (0, 31, 0, 0, 0, 0, [], [], [])]
set_option maxRecDepth 100000 in
theorem sz_s553_0 : sy_seg sz_E sz_T sz_RU [sz_c383] sz_c553 sz_u553 ri_m_X2_tellGains 128 none sz_h553_0 = true := by decide +kernel
theorem sz_ok553 (xs : Nat → Value) (L : Nat) : sy_Cok (sz_env xs L) sz_T sz_RU sz_c553 := sy_chk_ok (CT := [sz_c383]) (CU := sz_u553) (M := ri_m_X2_tellGains) (List.forall_mem_cons.mpr ⟨sz_ok383 xs L, fun _ h => absurd h List.not_mem_nil⟩) rfl ⟨_, _, sz_s553_0⟩ (fun _ h => absurd h List.not_mem_nil)

/-! X2_tellGains [91, 0, 9999, 1] -/
set_option maxRecDepth 100000 in
noncomputable def sz_c554 : sy_Ct := (176, 2, 47, [(3, .inr 91, .inl 0), (0, .inr 0, .inl 0), (0, .inl 9999, .inl 0), (0, .inr 1, .inl 0)], ([((-2147483648), 9999), ((-2147483648), 2147483647)], []), [], [], [(91, 8, 8), (98, 0, 2), (99, 0, 2), (100, 0, 2)], [(.inl none, 0, 0, ([((-2147483648), 9999), ((-2147483648), 2147483647)], []), [], [])])
set_option maxRecDepth 100000 in
noncomputable def sz_u554 : List sy_Cut := []
set_option maxRecDepth 100000 in
noncomputable def sz_h554_0 : List sy_Hn := [(120, 20, 0, 0, 0, 0, [], [], []),
  (0, 31, 0, 0, 0, 0, [], [], [])]
set_option maxRecDepth 100000 in
theorem sz_s554_0 : sy_seg sz_E sz_T sz_RU [sz_c383] sz_c554 sz_u554 ri_m_X2_tellGains 128 none sz_h554_0 = true := by decide +kernel
theorem sz_ok554 (xs : Nat → Value) (L : Nat) : sy_Cok (sz_env xs L) sz_T sz_RU sz_c554 := sy_chk_ok (CT := [sz_c383]) (CU := sz_u554) (M := ri_m_X2_tellGains) (List.forall_mem_cons.mpr ⟨sz_ok383 xs L, fun _ h => absurd h List.not_mem_nil⟩) rfl ⟨_, _, sz_s554_0⟩ (fun _ h => absurd h List.not_mem_nil)

/-! X2_tellGains [91, 0, 9999, 9999] -/
set_option maxRecDepth 100000 in
noncomputable def sz_c555 : sy_Ct := (176, 2, 47, [(3, .inr 91, .inl 0), (0, .inr 0, .inl 0), (0, .inl 9999, .inl 0), (0, .inl 9999, .inl 0)], ([((-2147483648), 2147483647)], []), [], [], [(91, 8, 8), (98, 0, 2), (99, 0, 2), (100, 0, 2)], [(.inl none, 0, 0, ([((-2147483648), 2147483647)], []), [], [])])
set_option maxRecDepth 100000 in
noncomputable def sz_u555 : List sy_Cut := []
set_option maxRecDepth 100000 in
noncomputable def sz_h555_0 : List sy_Hn := [(120, 20, 0, 0, 0, 0, [], [], []),
  (0, 31, 0, 0, 0, 0, [], [], [])]
set_option maxRecDepth 100000 in
theorem sz_s555_0 : sy_seg sz_E sz_T sz_RU [sz_c383] sz_c555 sz_u555 ri_m_X2_tellGains 128 none sz_h555_0 = true := by decide +kernel
theorem sz_ok555 (xs : Nat → Value) (L : Nat) : sy_Cok (sz_env xs L) sz_T sz_RU sz_c555 := sy_chk_ok (CT := [sz_c383]) (CU := sz_u555) (M := ri_m_X2_tellGains) (List.forall_mem_cons.mpr ⟨sz_ok383 xs L, fun _ h => absurd h List.not_mem_nil⟩) rfl ⟨_, _, sz_s555_0⟩ (fun _ h => absurd h List.not_mem_nil)

/-! X2_tellGains [91, 0, 1, 0] -/
set_option maxRecDepth 100000 in
noncomputable def sz_c556 : sy_Ct := (176, 2, 47, [(3, .inr 91, .inl 0), (0, .inr 0, .inl 0), (0, .inr 1, .inl 0), (0, .inl 0, .inl 0)], ([((-2147483648), 9999), ((-2147483648), 2147483647)], []), [], [], [(91, 8, 8), (98, 0, 2), (99, 0, 2), (100, 0, 2)], [(.inl none, 0, 0, ([((-2147483648), 9999), ((-2147483648), 2147483647)], []), [], [])])
set_option maxRecDepth 100000 in
noncomputable def sz_u556 : List sy_Cut := []
set_option maxRecDepth 100000 in
noncomputable def sz_h556_0 : List sy_Hn := [(120, 20, 0, 0, 0, 0, [], [], []),
  (0, 31, 0, 0, 0, 0, [], [], [])]
set_option maxRecDepth 100000 in
theorem sz_s556_0 : sy_seg sz_E sz_T sz_RU [sz_c383] sz_c556 sz_u556 ri_m_X2_tellGains 128 none sz_h556_0 = true := by decide +kernel
theorem sz_ok556 (xs : Nat → Value) (L : Nat) : sy_Cok (sz_env xs L) sz_T sz_RU sz_c556 := sy_chk_ok (CT := [sz_c383]) (CU := sz_u556) (M := ri_m_X2_tellGains) (List.forall_mem_cons.mpr ⟨sz_ok383 xs L, fun _ h => absurd h List.not_mem_nil⟩) rfl ⟨_, _, sz_s556_0⟩ (fun _ h => absurd h List.not_mem_nil)

/-! X2_tellGains [91, 0, 9999, 0] -/
set_option maxRecDepth 100000 in
noncomputable def sz_c557 : sy_Ct := (176, 2, 47, [(3, .inr 91, .inl 0), (0, .inr 0, .inl 0), (0, .inl 9999, .inl 0), (0, .inl 0, .inl 0)], ([((-2147483648), 2147483647)], []), [], [], [(91, 8, 8), (98, 0, 2), (99, 0, 2), (100, 0, 2)], [(.inl none, 0, 0, ([((-2147483648), 2147483647)], []), [], [])])
set_option maxRecDepth 100000 in
noncomputable def sz_u557 : List sy_Cut := []
set_option maxRecDepth 100000 in
noncomputable def sz_h557_0 : List sy_Hn := [(120, 20, 0, 0, 0, 0, [], [], []),
  (0, 31, 0, 0, 0, 0, [], [], [])]
set_option maxRecDepth 100000 in
theorem sz_s557_0 : sy_seg sz_E sz_T sz_RU [sz_c383] sz_c557 sz_u557 ri_m_X2_tellGains 128 none sz_h557_0 = true := by decide +kernel
theorem sz_ok557 (xs : Nat → Value) (L : Nat) : sy_Cok (sz_env xs L) sz_T sz_RU sz_c557 := sy_chk_ok (CT := [sz_c383]) (CU := sz_u557) (M := ri_m_X2_tellGains) (List.forall_mem_cons.mpr ⟨sz_ok383 xs L, fun _ h => absurd h List.not_mem_nil⟩) rfl ⟨_, _, sz_s557_0⟩ (fun _ h => absurd h List.not_mem_nil)

/-! X2_tuneBy [91, 0] -/
set_option maxRecDepth 100000 in
noncomputable def sz_c558 : sy_Ct := (179, 3, 72, [(3, .inr 91, .inl 0), (0, .inr 0, .inl 0)], ([(0, 2)], []), [], [], [(91, 8, 8), (98, 0, 2), (99, 0, 2), (100, 0, 2)], [(.inl (some (0, .inr 1, .inl 0)), 0, 0, ([((-2147483648), 2147483647), (0, 2)], []), [], [])])
set_option maxRecDepth 100000 in
noncomputable def sz_u558 : List sy_Cut := []
set_option maxRecDepth 100000 in
noncomputable def sz_h558_0 : List sy_Hn := [(59, 20, 0, 0, 0, 0, [], [], []),
  (0, 31, 0, 0, 0, 0, [], [], []),
  (4, 20, 1, 0, 0, 0, [], [], []),
  (0, 31, 0, 0, 0, 0, [], [], []),
  (12, 20, 2, 0, 0, 0, [], [], []),
  (0, 31, 0, 0, 0, 0, [], [], []),
  (4, 20, 3, 0, 0, 0, [], [], []),
  (0, 31, 0, 0, 0, 0, [], [], []),
  (47, 20, 4, 0, 0, 0, [], [], []),
  (0, 31, 0, 0, 0, 0, [], [], []),
  (12, 20, 5, 0, 0, 0, [], [], []),
  (0, 31, 0, 0, 0, 0, [], [], []),
  (45, 20, 0, 0, 0, 0, [], [], []),
  (0, 31, 0, 0, 0, 0, [], [], []),
  (4, 20, 1, 0, 0, 0, [], [], []),
  (0, 31, 0, 0, 0, 0, [], [], []),
  (12, 20, 2, 0, 0, 0, [], [], []),
  (0, 31, 0, 0, 0, 0, [], [], []),
  (4, 20, 3, 0, 0, 0, [], [], []),
  (0, 31, 0, 0, 0, 0, [], [], []),
  (53, 20, 0, 0, 0, 0, [], [], []),
  (0, 31, 0, 0, 0, 0, [], [], []),
  (4, 20, 1, 0, 0, 0, [], [], []),
  (0, 31, 0, 0, 0, 0, [], [], []),
  (12, 20, 2, 0, 0, 0, [], [], []),
  (0, 31, 0, 0, 0, 0, [], [], []),
  (4, 20, 3, 0, 0, 0, [], [], []),
  (0, 31, 0, 0, 0, 0, [], [], []),
  (47, 20, 4, 0, 0, 0, [], [], []),
  (0, 31, 0, 0, 0, 0, [], [], []),
  (12, 20, 5, 0, 0, 0, [], [], []),
  (0, 31, 0, 0, 0, 0, [], [], []),
  (45, 20, 0, 0, 0, 0, [], [], []),
  (0, 31, 0, 0, 0, 0, [], [], []),
  (4, 20, 1, 0, 0, 0, [], [], []),
  (0, 31, 0, 0, 0, 0, [], [], []),
  (12, 20, 2, 0, 0, 0, [], [], []),
  (0, 31, 0, 0, 0, 0, [], [], []),
  (4, 20, 3, 0, 0, 0, [], [], []),
  (0, 31, 0, 0, 0, 0, [], [], [])]
set_option maxRecDepth 100000 in
theorem sz_s558_0 : sy_seg sz_E sz_T sz_RU [sz_c552, sz_c553, sz_c554, sz_c555, sz_c556, sz_c557] sz_c558 sz_u558 ri_m_X2_tuneBy 485 none sz_h558_0 = true := by decide +kernel
theorem sz_ok558 (xs : Nat → Value) (L : Nat) : sy_Cok (sz_env xs L) sz_T sz_RU sz_c558 := sy_chk_ok (CT := [sz_c552, sz_c553, sz_c554, sz_c555, sz_c556, sz_c557]) (CU := sz_u558) (M := ri_m_X2_tuneBy) (List.forall_mem_cons.mpr ⟨sz_ok552 xs L, List.forall_mem_cons.mpr ⟨sz_ok553 xs L, List.forall_mem_cons.mpr ⟨sz_ok554 xs L, List.forall_mem_cons.mpr ⟨sz_ok555 xs L, List.forall_mem_cons.mpr ⟨sz_ok556 xs L, List.forall_mem_cons.mpr ⟨sz_ok557 xs L, fun _ h => absurd h List.not_mem_nil⟩⟩⟩⟩⟩⟩) rfl ⟨_, _, sz_s558_0⟩ (fun _ h => absurd h List.not_mem_nil)

/-! X2_tellGains [103, 0, 1, 2] -/
set_option maxRecDepth 100000 in
noncomputable def sz_c559 : sy_Ct := (176, 2, 47, [(3, .inr 103, .inl 0), (0, .inr 0, .inl 0), (0, .inr 1, .inl 0), (0, .inr 2, .inl 0)], ([((-2147483648), 9999), ((-2147483648), 9999), ((-2147483648), 2147483647)], []), [], [], [(103, 8, 8), (110, 0, 2), (111, 0, 2), (112, 0, 2)], [(.inl none, 0, 0, ([((-2147483648), 9999), ((-2147483648), 9999), ((-2147483648), 2147483647)], []), [], [])])
set_option maxRecDepth 100000 in
noncomputable def sz_u559 : List sy_Cut := []
set_option maxRecDepth 100000 in
noncomputable def sz_h559_0 : List sy_Hn := [(120, 20, 0, 0, 0, 0, [], [], []),
  (0, 31, 0, 0, 0, 0, [], [], [])]
set_option maxRecDepth 100000 in
theorem sz_s559_0 : sy_seg sz_E sz_T sz_RU [sz_c400] sz_c559 sz_u559 ri_m_X2_tellGains 128 none sz_h559_0 = true := by decide +kernel
theorem sz_ok559 (xs : Nat → Value) (L : Nat) : sy_Cok (sz_env xs L) sz_T sz_RU sz_c559 := sy_chk_ok (CT := [sz_c400]) (CU := sz_u559) (M := ri_m_X2_tellGains) (List.forall_mem_cons.mpr ⟨sz_ok400 xs L, fun _ h => absurd h List.not_mem_nil⟩) rfl ⟨_, _, sz_s559_0⟩ (fun _ h => absurd h List.not_mem_nil)

/-! X2_tellGains [103, 0, 1, 9999] -/
set_option maxRecDepth 100000 in
noncomputable def sz_c560 : sy_Ct := (176, 2, 47, [(3, .inr 103, .inl 0), (0, .inr 0, .inl 0), (0, .inr 1, .inl 0), (0, .inl 9999, .inl 0)], ([((-2147483648), 9999), ((-2147483648), 2147483647)], []), [], [], [(103, 8, 8), (110, 0, 2), (111, 0, 2), (112, 0, 2)], [(.inl none, 0, 0, ([((-2147483648), 9999), ((-2147483648), 2147483647)], []), [], [])])
set_option maxRecDepth 100000 in
noncomputable def sz_u560 : List sy_Cut := []
set_option maxRecDepth 100000 in
noncomputable def sz_h560_0 : List sy_Hn := [(120, 20, 0, 0, 0, 0, [], [], []),
  (0, 31, 0, 0, 0, 0, [], [], [])]
set_option maxRecDepth 100000 in
theorem sz_s560_0 : sy_seg sz_E sz_T sz_RU [sz_c400] sz_c560 sz_u560 ri_m_X2_tellGains 128 none sz_h560_0 = true := by decide +kernel
theorem sz_ok560 (xs : Nat → Value) (L : Nat) : sy_Cok (sz_env xs L) sz_T sz_RU sz_c560 := sy_chk_ok (CT := [sz_c400]) (CU := sz_u560) (M := ri_m_X2_tellGains) (List.forall_mem_cons.mpr ⟨sz_ok400 xs L, fun _ h => absurd h List.not_mem_nil⟩) rfl ⟨_, _, sz_s560_0⟩ (fun _ h => absurd h List.not_mem_nil)

/-! X2_tellGains [103, 0, 9999, 1] -/
set_option maxRecDepth 100000 in
noncomputable def sz_c561 : sy_Ct := (176, 2, 47, [(3, .inr 103, .inl 0), (0, .inr 0, .inl 0), (0, .inl 9999, .inl 0), (0, .inr 1, .inl 0)], ([((-2147483648), 9999), ((-2147483648), 2147483647)], []), [], [], [(103, 8, 8), (110, 0, 2), (111, 0, 2), (112, 0, 2)], [(.inl none, 0, 0, ([((-2147483648), 9999), ((-2147483648), 2147483647)], []), [], [])])
set_option maxRecDepth 100000 in
noncomputable def sz_u561 : List sy_Cut := []
set_option maxRecDepth 100000 in
noncomputable def sz_h561_0 : List sy_Hn := [(120, 20, 0, 0, 0, 0, [], [], []),
  (0, 31, 0, 0, 0, 0, [], [], [])]
set_option maxRecDepth 100000 in
theorem sz_s561_0 : sy_seg sz_E sz_T sz_RU [sz_c400] sz_c561 sz_u561 ri_m_X2_tellGains 128 none sz_h561_0 = true := by decide +kernel
theorem sz_ok561 (xs : Nat → Value) (L : Nat) : sy_Cok (sz_env xs L) sz_T sz_RU sz_c561 := sy_chk_ok (CT := [sz_c400]) (CU := sz_u561) (M := ri_m_X2_tellGains) (List.forall_mem_cons.mpr ⟨sz_ok400 xs L, fun _ h => absurd h List.not_mem_nil⟩) rfl ⟨_, _, sz_s561_0⟩ (fun _ h => absurd h List.not_mem_nil)

/-! X2_tellGains [103, 0, 9999, 9999] -/
set_option maxRecDepth 100000 in
noncomputable def sz_c562 : sy_Ct := (176, 2, 47, [(3, .inr 103, .inl 0), (0, .inr 0, .inl 0), (0, .inl 9999, .inl 0), (0, .inl 9999, .inl 0)], ([((-2147483648), 2147483647)], []), [], [], [(103, 8, 8), (110, 0, 2), (111, 0, 2), (112, 0, 2)], [(.inl none, 0, 0, ([((-2147483648), 2147483647)], []), [], [])])
set_option maxRecDepth 100000 in
noncomputable def sz_u562 : List sy_Cut := []
set_option maxRecDepth 100000 in
noncomputable def sz_h562_0 : List sy_Hn := [(120, 20, 0, 0, 0, 0, [], [], []),
  (0, 31, 0, 0, 0, 0, [], [], [])]
set_option maxRecDepth 100000 in
theorem sz_s562_0 : sy_seg sz_E sz_T sz_RU [sz_c400] sz_c562 sz_u562 ri_m_X2_tellGains 128 none sz_h562_0 = true := by decide +kernel
theorem sz_ok562 (xs : Nat → Value) (L : Nat) : sy_Cok (sz_env xs L) sz_T sz_RU sz_c562 := sy_chk_ok (CT := [sz_c400]) (CU := sz_u562) (M := ri_m_X2_tellGains) (List.forall_mem_cons.mpr ⟨sz_ok400 xs L, fun _ h => absurd h List.not_mem_nil⟩) rfl ⟨_, _, sz_s562_0⟩ (fun _ h => absurd h List.not_mem_nil)

/-! X2_tellGains [103, 0, 1, 0] -/
set_option maxRecDepth 100000 in
noncomputable def sz_c563 : sy_Ct := (176, 2, 47, [(3, .inr 103, .inl 0), (0, .inr 0, .inl 0), (0, .inr 1, .inl 0), (0, .inl 0, .inl 0)], ([((-2147483648), 9999), ((-2147483648), 2147483647)], []), [], [], [(103, 8, 8), (110, 0, 2), (111, 0, 2), (112, 0, 2)], [(.inl none, 0, 0, ([((-2147483648), 9999), ((-2147483648), 2147483647)], []), [], [])])
set_option maxRecDepth 100000 in
noncomputable def sz_u563 : List sy_Cut := []
set_option maxRecDepth 100000 in
noncomputable def sz_h563_0 : List sy_Hn := [(120, 20, 0, 0, 0, 0, [], [], []),
  (0, 31, 0, 0, 0, 0, [], [], [])]
set_option maxRecDepth 100000 in
theorem sz_s563_0 : sy_seg sz_E sz_T sz_RU [sz_c400] sz_c563 sz_u563 ri_m_X2_tellGains 128 none sz_h563_0 = true := by decide +kernel
theorem sz_ok563 (xs : Nat → Value) (L : Nat) : sy_Cok (sz_env xs L) sz_T sz_RU sz_c563 := sy_chk_ok (CT := [sz_c400]) (CU := sz_u563) (M := ri_m_X2_tellGains) (List.forall_mem_cons.mpr ⟨sz_ok400 xs L, fun _ h => absurd h List.not_mem_nil⟩) rfl ⟨_, _, sz_s563_0⟩ (fun _ h => absurd h List.not_mem_nil)

/-! X2_tellGains [103, 0, 9999, 0] -/
set_option maxRecDepth 100000 in
noncomputable def sz_c564 : sy_Ct := (176, 2, 47, [(3, .inr 103, .inl 0), (0, .inr 0, .inl 0), (0, .inl 9999, .inl 0), (0, .inl 0, .inl 0)], ([((-2147483648), 2147483647)], []), [], [], [(103, 8, 8), (110, 0, 2), (111, 0, 2), (112, 0, 2)], [(.inl none, 0, 0, ([((-2147483648), 2147483647)], []), [], [])])
set_option maxRecDepth 100000 in
noncomputable def sz_u564 : List sy_Cut := []
set_option maxRecDepth 100000 in
noncomputable def sz_h564_0 : List sy_Hn := [(120, 20, 0, 0, 0, 0, [], [], []),
  (0, 31, 0, 0, 0, 0, [], [], [])]
set_option maxRecDepth 100000 in
theorem sz_s564_0 : sy_seg sz_E sz_T sz_RU [sz_c400] sz_c564 sz_u564 ri_m_X2_tellGains 128 none sz_h564_0 = true := by decide +kernel
theorem sz_ok564 (xs : Nat → Value) (L : Nat) : sy_Cok (sz_env xs L) sz_T sz_RU sz_c564 := sy_chk_ok (CT := [sz_c400]) (CU := sz_u564) (M := ri_m_X2_tellGains) (List.forall_mem_cons.mpr ⟨sz_ok400 xs L, fun _ h => absurd h List.not_mem_nil⟩) rfl ⟨_, _, sz_s564_0⟩ (fun _ h => absurd h List.not_mem_nil)

/-! X2_tuneBy [103, 0] -/
set_option maxRecDepth 100000 in
noncomputable def sz_c565 : sy_Ct := (179, 3, 72, [(3, .inr 103, .inl 0), (0, .inr 0, .inl 0)], ([(0, 2)], []), [], [], [(103, 8, 8), (110, 0, 2), (111, 0, 2), (112, 0, 2)], [(.inl (some (0, .inr 1, .inl 0)), 0, 0, ([((-2147483648), 2147483647), (0, 2)], []), [], [])])
set_option maxRecDepth 100000 in
noncomputable def sz_u565 : List sy_Cut := []
set_option maxRecDepth 100000 in
noncomputable def sz_h565_0 : List sy_Hn := [(59, 20, 0, 0, 0, 0, [], [], []),
  (0, 31, 0, 0, 0, 0, [], [], []),
  (4, 20, 1, 0, 0, 0, [], [], []),
  (0, 31, 0, 0, 0, 0, [], [], []),
  (12, 20, 2, 0, 0, 0, [], [], []),
  (0, 31, 0, 0, 0, 0, [], [], []),
  (4, 20, 3, 0, 0, 0, [], [], []),
  (0, 31, 0, 0, 0, 0, [], [], []),
  (47, 20, 4, 0, 0, 0, [], [], []),
  (0, 31, 0, 0, 0, 0, [], [], []),
  (12, 20, 5, 0, 0, 0, [], [], []),
  (0, 31, 0, 0, 0, 0, [], [], []),
  (45, 20, 0, 0, 0, 0, [], [], []),
  (0, 31, 0, 0, 0, 0, [], [], []),
  (4, 20, 1, 0, 0, 0, [], [], []),
  (0, 31, 0, 0, 0, 0, [], [], []),
  (12, 20, 2, 0, 0, 0, [], [], []),
  (0, 31, 0, 0, 0, 0, [], [], []),
  (4, 20, 3, 0, 0, 0, [], [], []),
  (0, 31, 0, 0, 0, 0, [], [], []),
  (53, 20, 0, 0, 0, 0, [], [], []),
  (0, 31, 0, 0, 0, 0, [], [], []),
  (4, 20, 1, 0, 0, 0, [], [], []),
  (0, 31, 0, 0, 0, 0, [], [], []),
  (12, 20, 2, 0, 0, 0, [], [], []),
  (0, 31, 0, 0, 0, 0, [], [], []),
  (4, 20, 3, 0, 0, 0, [], [], []),
  (0, 31, 0, 0, 0, 0, [], [], []),
  (47, 20, 4, 0, 0, 0, [], [], []),
  (0, 31, 0, 0, 0, 0, [], [], []),
  (12, 20, 5, 0, 0, 0, [], [], []),
  (0, 31, 0, 0, 0, 0, [], [], []),
  (45, 20, 0, 0, 0, 0, [], [], []),
  (0, 31, 0, 0, 0, 0, [], [], []),
  (4, 20, 1, 0, 0, 0, [], [], []),
  (0, 31, 0, 0, 0, 0, [], [], []),
  (12, 20, 2, 0, 0, 0, [], [], []),
  (0, 31, 0, 0, 0, 0, [], [], []),
  (4, 20, 3, 0, 0, 0, [], [], []),
  (0, 31, 0, 0, 0, 0, [], [], [])]
set_option maxRecDepth 100000 in
theorem sz_s565_0 : sy_seg sz_E sz_T sz_RU [sz_c559, sz_c560, sz_c561, sz_c562, sz_c563, sz_c564] sz_c565 sz_u565 ri_m_X2_tuneBy 485 none sz_h565_0 = true := by decide +kernel
theorem sz_ok565 (xs : Nat → Value) (L : Nat) : sy_Cok (sz_env xs L) sz_T sz_RU sz_c565 := sy_chk_ok (CT := [sz_c559, sz_c560, sz_c561, sz_c562, sz_c563, sz_c564]) (CU := sz_u565) (M := ri_m_X2_tuneBy) (List.forall_mem_cons.mpr ⟨sz_ok559 xs L, List.forall_mem_cons.mpr ⟨sz_ok560 xs L, List.forall_mem_cons.mpr ⟨sz_ok561 xs L, List.forall_mem_cons.mpr ⟨sz_ok562 xs L, List.forall_mem_cons.mpr ⟨sz_ok563 xs L, List.forall_mem_cons.mpr ⟨sz_ok564 xs L, fun _ h => absurd h List.not_mem_nil⟩⟩⟩⟩⟩⟩) rfl ⟨_, _, sz_s565_0⟩ (fun _ h => absurd h List.not_mem_nil)

/-! X10_tune [0, 0, 1] -/
set_option maxRecDepth 100000 in
noncomputable def sz_c566 : sy_Ct := (113, 7, 103, [(3, .inr 0, .inl 0), (0, .inr 0, .inl 0), (0, .inr 1, .inl 0)], ([((-2147483648), 2147483647), ((-2147483648), 2147483647)], []), [], [], [(67, 8, 8), (74, 0, 2), (75, 0, 2), (76, 0, 2), (79, 8, 8), (86, 0, 2), (87, 0, 2), (88, 0, 2), (91, 8, 8), (98, 0, 2), (99, 0, 2), (100, 0, 2), (103, 8, 8), (110, 0, 2), (111, 0, 2), (112, 0, 2)], [(.inl (some (0, .inr 2, .inl 0)), 0, 0, ([((-2147483648), 2147483647), ((-2147483648), 2147483647), ((-2147483648), 2147483647)], []), [], []), (.inr 0, 1, 6, ([((-2147483648), 2147483647), ((-2147483648), 2147483647)], []), [], []), (.inr 2, 1, 6, ([((-2147483648), 2147483647), ((-2147483648), 2147483647)], []), [], []), (.inr 4, 1, 6, ([((-2147483648), 2147483647), ((-2147483648), 2147483647)], []), [], [])])
set_option maxRecDepth 100000 in
noncomputable def sz_u566 : List sy_Cut := []
set_option maxRecDepth 100000 in
noncomputable def sz_h566_0 : List sy_Hn := [(0, 31, 2, 0, 0, 0, [], [], []),
  (9, 1, 0, 0, 0, 0, [], [], []),
  (0, 31, 1, 0, 0, 0, [], [], []),
  (11, 20, 0, 0, 0, 0, [], [], []),
  (0, 31, 0, 0, 0, 0, [], [], []),
  (0, 31, 3, 0, 0, 0, [], [], []),
  (0, 31, 1, 0, 0, 0, [], [], []),
  (0, 1, 0, 0, 1, 0, [], [], []),
  (0, 31, 1, 0, 0, 0, [], [], []),
  (11, 20, 1, 0, 0, 0, [], [], []),
  (0, 31, 0, 0, 0, 0, [], [], []),
  (0, 31, 3, 0, 0, 0, [], [], []),
  (0, 31, 1, 0, 0, 0, [], [], []),
  (0, 1, 0, 0, 2, 0, [], [], []),
  (0, 31, 1, 0, 0, 0, [], [], []),
  (11, 20, 2, 0, 0, 0, [], [], []),
  (0, 31, 0, 0, 0, 0, [], [], []),
  (0, 31, 3, 0, 0, 0, [], [], []),
  (0, 31, 1, 0, 0, 0, [], [], []),
  (0, 31, 1, 0, 0, 0, [], [], []),
  (11, 20, 3, 0, 0, 0, [], [], []),
  (0, 31, 0, 0, 0, 0, [], [], []),
  (0, 31, 3, 0, 0, 0, [], [], []),
  (0, 31, 1, 0, 0, 0, [], [], []),
  (0, 31, 2, 0, 0, 0, [], [], [])]
set_option maxRecDepth 100000 in
theorem sz_s566_0 : sy_seg sz_E sz_T sz_RU [sz_c544, sz_c551, sz_c558, sz_c565] sz_c566 sz_u566 ri_m_X10_tune 149 none sz_h566_0 = true := by decide +kernel
theorem sz_ok566 (xs : Nat → Value) (L : Nat) : sy_Cok (sz_env xs L) sz_T sz_RU sz_c566 := sy_chk_ok (CT := [sz_c544, sz_c551, sz_c558, sz_c565]) (CU := sz_u566) (M := ri_m_X10_tune) (List.forall_mem_cons.mpr ⟨sz_ok544 xs L, List.forall_mem_cons.mpr ⟨sz_ok551 xs L, List.forall_mem_cons.mpr ⟨sz_ok558 xs L, List.forall_mem_cons.mpr ⟨sz_ok565 xs L, fun _ h => absurd h List.not_mem_nil⟩⟩⟩⟩) rfl ⟨_, _, sz_s566_0⟩ (fun _ h => absurd h List.not_mem_nil)

/-! X0_isSuch [59, 0, 0] -/
set_option maxRecDepth 100000 in
noncomputable def sz_c567 : sy_Ct := (198, 2, 44, [(3, .inr 59, .inl 0), (0, .inl 0, .inl 0), (0, .inr 0, .inl 0)], ([(0, 8)], []), [], [], [], [(.inl (some (0, .inr 1, .inl 0)), 0, 0, ([(0, 1), (0, 8)], []), [], [])])
set_option maxRecDepth 100000 in
noncomputable def sz_u567 : List sy_Cut := []
set_option maxRecDepth 100000 in
noncomputable def sz_h567_0 : List sy_Hn := [(0, 31, 0, 0, 0, 0, [], [], []),
  (0, 31, 0, 0, 0, 0, [], [], []),
  (0, 31, 0, 0, 0, 0, [], [], []),
  (0, 31, 0, 0, 0, 0, [], [], []),
  (0, 31, 0, 0, 0, 0, [], [], []),
  (0, 31, 0, 0, 0, 0, [], [], []),
  (0, 31, 0, 0, 0, 0, [], [], []),
  (0, 31, 0, 0, 0, 0, [], [], []),
  (0, 31, 0, 0, 0, 0, [], [], []),
  (0, 31, 0, 0, 0, 0, [], [], []),
  (3, 20, 0, 0, 0, 0, [], [], []),
  (0, 31, 0, 0, 0, 0, [], [], []),
  (0, 31, 0, 0, 0, 0, [], [], [])]
set_option maxRecDepth 100000 in
theorem sz_s567_0 : sy_seg sz_E sz_T sz_RU [sz_c352] sz_c567 sz_u567 ri_m_X0_isSuch 75 none sz_h567_0 = true := by decide +kernel
theorem sz_ok567 (xs : Nat → Value) (L : Nat) : sy_Cok (sz_env xs L) sz_T sz_RU sz_c567 := sy_chk_ok (CT := [sz_c352]) (CU := sz_u567) (M := ri_m_X0_isSuch) (List.forall_mem_cons.mpr ⟨sz_ok352 xs L, fun _ h => absurd h List.not_mem_nil⟩) rfl ⟨_, _, sz_s567_0⟩ (fun _ h => absurd h List.not_mem_nil)

/-! X0_isSuch [59, 1, 0] -/
set_option maxRecDepth 100000 in
noncomputable def sz_c568 : sy_Ct := (198, 2, 44, [(3, .inr 59, .inl 0), (0, .inl 1, .inl 0), (0, .inr 0, .inl 0)], ([(0, 8)], []), [], [], [], [(.inl (some (0, .inr 1, .inl 0)), 0, 0, ([(0, 1), (0, 8)], []), [], [])])
set_option maxRecDepth 100000 in
noncomputable def sz_u568 : List sy_Cut := []
set_option maxRecDepth 100000 in
noncomputable def sz_h568_0 : List sy_Hn := [(0, 31, 0, 0, 0, 0, [], [], []),
  (0, 31, 0, 0, 0, 0, [], [], []),
  (0, 31, 0, 0, 0, 0, [], [], []),
  (0, 31, 0, 0, 0, 0, [], [], []),
  (0, 31, 0, 0, 0, 0, [], [], []),
  (0, 31, 0, 0, 0, 0, [], [], []),
  (0, 31, 0, 0, 0, 0, [], [], []),
  (0, 31, 0, 0, 0, 0, [], [], []),
  (0, 31, 0, 0, 0, 0, [], [], []),
  (0, 31, 0, 0, 0, 0, [], [], []),
  (3, 20, 0, 0, 0, 0, [], [], []),
  (0, 31, 0, 0, 0, 0, [], [], []),
  (0, 31, 0, 0, 0, 0, [], [], [])]
set_option maxRecDepth 100000 in
theorem sz_s568_0 : sy_seg sz_E sz_T sz_RU [sz_c370] sz_c568 sz_u568 ri_m_X0_isSuch 75 none sz_h568_0 = true := by decide +kernel
theorem sz_ok568 (xs : Nat → Value) (L : Nat) : sy_Cok (sz_env xs L) sz_T sz_RU sz_c568 := sy_chk_ok (CT := [sz_c370]) (CU := sz_u568) (M := ri_m_X0_isSuch) (List.forall_mem_cons.mpr ⟨sz_ok370 xs L, fun _ h => absurd h List.not_mem_nil⟩) rfl ⟨_, _, sz_s568_0⟩ (fun _ h => absurd h List.not_mem_nil)

/-! X0_isSuch [59, 2, 0] -/
set_option maxRecDepth 100000 in
noncomputable def sz_c569 : sy_Ct := (198, 2, 44, [(3, .inr 59, .inl 0), (0, .inl 2, .inl 0), (0, .inr 0, .inl 0)], ([(0, 8)], []), [], [], [], [(.inl (some (0, .inr 1, .inl 0)), 0, 0, ([(0, 1), (0, 8)], []), [], [])])
set_option maxRecDepth 100000 in
noncomputable def sz_u569 : List sy_Cut := []
set_option maxRecDepth 100000 in
noncomputable def sz_h569_0 : List sy_Hn := [(0, 31, 0, 0, 0, 0, [], [], []),
  (0, 31, 0, 0, 0, 0, [], [], []),
  (0, 31, 0, 0, 0, 0, [], [], []),
  (0, 31, 0, 0, 0, 0, [], [], []),
  (0, 31, 0, 0, 0, 0, [], [], []),
  (0, 31, 0, 0, 0, 0, [], [], []),
  (0, 31, 0, 0, 0, 0, [], [], []),
  (0, 31, 0, 0, 0, 0, [], [], []),
  (0, 31, 0, 0, 0, 0, [], [], []),
  (0, 31, 0, 0, 0, 0, [], [], []),
  (3, 20, 0, 0, 0, 0, [], [], []),
  (0, 31, 0, 0, 0, 0, [], [], []),
  (0, 31, 0, 0, 0, 0, [], [], [])]
set_option maxRecDepth 100000 in
theorem sz_s569_0 : sy_seg sz_E sz_T sz_RU [sz_c389] sz_c569 sz_u569 ri_m_X0_isSuch 75 none sz_h569_0 = true := by decide +kernel
theorem sz_ok569 (xs : Nat → Value) (L : Nat) : sy_Cok (sz_env xs L) sz_T sz_RU sz_c569 := sy_chk_ok (CT := [sz_c389]) (CU := sz_u569) (M := ri_m_X0_isSuch) (List.forall_mem_cons.mpr ⟨sz_ok389 xs L, fun _ h => absurd h List.not_mem_nil⟩) rfl ⟨_, _, sz_s569_0⟩ (fun _ h => absurd h List.not_mem_nil)

/-! X0_isSuch [59, 3, 0] -/
set_option maxRecDepth 100000 in
noncomputable def sz_c570 : sy_Ct := (198, 2, 44, [(3, .inr 59, .inl 0), (0, .inl 3, .inl 0), (0, .inr 0, .inl 0)], ([(0, 8)], []), [], [], [], [(.inl (some (0, .inr 1, .inl 0)), 0, 0, ([(0, 1), (0, 8)], []), [], [])])
set_option maxRecDepth 100000 in
noncomputable def sz_u570 : List sy_Cut := []
set_option maxRecDepth 100000 in
noncomputable def sz_h570_0 : List sy_Hn := [(0, 31, 0, 0, 0, 0, [], [], []),
  (0, 31, 0, 0, 0, 0, [], [], []),
  (0, 31, 0, 0, 0, 0, [], [], []),
  (0, 31, 0, 0, 0, 0, [], [], []),
  (0, 31, 0, 0, 0, 0, [], [], []),
  (0, 31, 0, 0, 0, 0, [], [], []),
  (0, 31, 0, 0, 0, 0, [], [], []),
  (0, 31, 0, 0, 0, 0, [], [], []),
  (0, 31, 0, 0, 0, 0, [], [], []),
  (0, 31, 0, 0, 0, 0, [], [], []),
  (3, 20, 0, 0, 0, 0, [], [], []),
  (0, 31, 0, 0, 0, 0, [], [], [])]
set_option maxRecDepth 100000 in
theorem sz_s570_0 : sy_seg sz_E sz_T sz_RU [sz_c406] sz_c570 sz_u570 ri_m_X0_isSuch 71 none sz_h570_0 = true := by decide +kernel
theorem sz_ok570 (xs : Nat → Value) (L : Nat) : sy_Cok (sz_env xs L) sz_T sz_RU sz_c570 := sy_chk_ok (CT := [sz_c406]) (CU := sz_u570) (M := ri_m_X0_isSuch) (List.forall_mem_cons.mpr ⟨sz_ok406 xs L, fun _ h => absurd h List.not_mem_nil⟩) rfl ⟨_, _, sz_s570_0⟩ (fun _ h => absurd h List.not_mem_nil)

/-! X10_which [0, 0] -/
set_option maxRecDepth 100000 in
noncomputable def sz_c571 : sy_Ct := (143, 6, 81, [(3, .inr 0, .inl 0), (0, .inr 0, .inl 0)], ([((-2147483648), 2147483647)], []), [], [], [], [(.inl (some (0, .inr 1, .inl 0)), 0, 0, ([((-2147483648), 2147483647), ((-2147483648), 2147483647)], []), [], []), (.inr 3, 1, 6, ([((-2147483648), 2147483647)], []), [], [])])
set_option maxRecDepth 100000 in
noncomputable def sz_u571 : List sy_Cut := [(13, [(0, (3, .inr 0, .inl 0)), (1, (0, .inr 0, .inl 0)), (2, (0, .inr 1, .inl 0)), (3, (0, .inr 2, .inl 0))], ([(0, 4), ((-2147483648), 2147483647), (0, 8)], []), [], [], [(4, []), ((-1), [2])])]
set_option maxRecDepth 100000 in
noncomputable def sz_h571_0 : List sy_Hn := [(0, 31, 1, 0, 0, 0, [], [], []),
  (0, 30, 0, 0, 0, 0, [([], [(1, [0])]), ([], [])], [], []),
  (0, 31, 1, 0, 0, 0, [], [], [])]
set_option maxRecDepth 100000 in
theorem sz_s571_0 : sy_seg sz_E sz_T sz_RU [sz_c567, sz_c568, sz_c569, sz_c570] sz_c571 sz_u571 ri_m_X10_which 20 none sz_h571_0 = true := by decide +kernel
set_option maxRecDepth 100000 in
noncomputable def sz_h571_1 : List sy_Hn := [(0, 31, 0, 0, 0, 0, [], [], []),
  (4, 1, 2, 0, 0, 0, [], [], []),
  (1, 20, 0, 0, 0, 0, [], [], []),
  (0, 30, 0, 0, 0, 0, [([], [(1, [0])]), ([2], [(1, [0]), (1, [2])])], [], []),
  (0, 30, 0, 0, 0, 0, [([], [(1, [0])]), ([2], [(1, [0]), (1, [2])])], [], []),
  (0, 1, 2, 0, 1, 0, [], [], []),
  (1, 20, 1, 0, 0, 0, [], [], []),
  (0, 30, 0, 0, 0, 0, [([], [(1, [0])]), ([2], [(1, [0]), (1, [2])])], [], []),
  (0, 30, 0, 0, 0, 0, [([], [(1, [0])]), ([2], [(1, [0]), (1, [2])])], [], []),
  (0, 1, 2, 0, 2, 0, [], [], []),
  (1, 20, 2, 0, 0, 0, [], [], []),
  (0, 30, 0, 0, 0, 0, [([], [(1, [0])]), ([2], [(1, [0]), (1, [2])])], [], []),
  (0, 30, 0, 0, 0, 0, [([], [(1, [0])]), ([2], [(1, [0]), (1, [2])])], [], []),
  (1, 20, 3, 0, 0, 0, [], [], []),
  (0, 30, 0, 0, 0, 0, [([], [(1, [0])]), ([2], [(1, [0]), (1, [2])])], [], []),
  (0, 30, 0, 0, 0, 0, [([], [(1, [0])]), ([2], [(1, [0]), (1, [2])])], [], [])]
set_option maxRecDepth 100000 in
theorem sz_s571_1 : sy_seg sz_E sz_T sz_RU [sz_c567, sz_c568, sz_c569, sz_c570] sz_c571 sz_u571 ri_m_X10_which 91 (some ((13, [(0, (3, .inr 0, .inl 0)), (1, (0, .inr 0, .inl 0)), (2, (0, .inr 1, .inl 0)), (3, (0, .inr 2, .inl 0))], ([(0, 4), ((-2147483648), 2147483647), (0, 8)], []), [], [], [(4, []), ((-1), [2])]))) sz_h571_1 = true := by decide +kernel
theorem sz_ok571 (xs : Nat → Value) (L : Nat) : sy_Cok (sz_env xs L) sz_T sz_RU sz_c571 := sy_chk_ok (CT := [sz_c567, sz_c568, sz_c569, sz_c570]) (CU := sz_u571) (M := ri_m_X10_which) (List.forall_mem_cons.mpr ⟨sz_ok567 xs L, List.forall_mem_cons.mpr ⟨sz_ok568 xs L, List.forall_mem_cons.mpr ⟨sz_ok569 xs L, List.forall_mem_cons.mpr ⟨sz_ok570 xs L, fun _ h => absurd h List.not_mem_nil⟩⟩⟩⟩) rfl ⟨_, _, sz_s571_0⟩ (List.forall_mem_cons.mpr ⟨⟨_, _, sz_s571_1⟩, fun _ h => absurd h List.not_mem_nil⟩)

/-! X10_event [0, 0, 1] -/
set_option maxRecDepth 100000 in
noncomputable def sz_c572 : sy_Ct := (145, 6, 81, [(3, .inr 0, .inl 0), (0, .inr 0, .inl 0), (0, .inr 1, .inl 0)], ([((-2147483648), 2147483647), ((-2147483648), 2147483647)], []), [], [], [], [(.inl (some (0, .inr 2, .inl 0)), 0, 0, ([((-2147483648), 2147483647), ((-2147483648), 2147483647), ((-2147483648), 2147483647)], []), [], []), (.inr 2, 1, 6, ([((-2147483648), 2147483647), ((-2147483648), 2147483647)], []), [], []), (.inr 3, 1, 6, ([((-2147483648), 2147483647), ((-2147483648), 2147483647)], []), [], [])])
set_option maxRecDepth 100000 in
noncomputable def sz_u572 : List sy_Cut := []
set_option maxRecDepth 100000 in
noncomputable def sz_h572_0 : List sy_Hn := [(0, 31, 1, 0, 0, 0, [], [], []),
  (0, 31, 2, 0, 0, 0, [], [], []),
  (0, 31, 0, 0, 0, 0, [], [], []),
  (0, 31, 2, 0, 0, 0, [], [], []),
  (0, 31, 1, 0, 0, 0, [], [], [])]
set_option maxRecDepth 100000 in
theorem sz_s572_0 : sy_seg sz_E sz_T sz_RU [] sz_c572 sz_u572 ri_m_X10_event 43 none sz_h572_0 = true := by decide +kernel
theorem sz_ok572 (xs : Nat → Value) (L : Nat) : sy_Cok (sz_env xs L) sz_T sz_RU sz_c572 := sy_chk_ok (CT := []) (CU := sz_u572) (M := ri_m_X10_event) (fun _ h => absurd h List.not_mem_nil) rfl ⟨_, _, sz_s572_0⟩ (fun _ h => absurd h List.not_mem_nil)

/-! X10_log [0, 0, 1] -/
set_option maxRecDepth 100000 in
noncomputable def sz_c573 : sy_Ct := (146, 6, 81, [(3, .inr 0, .inl 0), (0, .inr 0, .inl 0), (0, .inr 1, .inl 0)], ([((-2147483648), 2147483647), ((-2147483648), 2147483647)], []), [], [], [], [(.inl (some (0, .inr 2, .inl 0)), 0, 0, ([((-2147483648), 2147483647), ((-2147483648), 2147483647), ((-2147483648), 2147483647)], []), [], []), (.inr 3, 1, 6, ([((-2147483648), 2147483647), ((-2147483648), 2147483647)], []), [], [])])
set_option maxRecDepth 100000 in
noncomputable def sz_u573 : List sy_Cut := []
set_option maxRecDepth 100000 in
noncomputable def sz_h573_0 : List sy_Hn := [(0, 31, 1, 0, 0, 0, [], [], []),
  (0, 31, 0, 0, 0, 0, [], [], []),
  (26, 3, 6, 0, 0, 239, [([0, 1, 2, 3, 4, 5, 6], [(1, [0]), (1, [3]), (1, [15]), (1, [17]), (4, [19]), (4, [21]), (4, [23])]), ([6], [(1, [0]), (1, [2])])], [], []),
  (0, 31, 0, 0, 0, 0, [], [], []),
  (0, 31, 0, 0, 0, 0, [], [], []),
  (0, 31, 1, 0, 0, 0, [], [], [])]
set_option maxRecDepth 100000 in
theorem sz_s573_0 : sy_seg sz_E sz_T sz_RU [] sz_c573 sz_u573 ri_m_X10_log 53 none sz_h573_0 = true := by decide +kernel
theorem sz_ok573 (xs : Nat → Value) (L : Nat) : sy_Cok (sz_env xs L) sz_T sz_RU sz_c573 := sy_chk_ok (CT := []) (CU := sz_u573) (M := ri_m_X10_log) (fun _ h => absurd h List.not_mem_nil) rfl ⟨_, _, sz_s573_0⟩ (fun _ h => absurd h List.not_mem_nil)

/-! X0_tellMode [59, 0, 0] -/
set_option maxRecDepth 100000 in
noncomputable def sz_c574 : sy_Ct := (169, 3, 67, [(3, .inr 59, .inl 0), (0, .inl 0, .inl 0), (0, .inr 0, .inl 0)], ([(0, 2)], []), [], [], [(63, 2, 2), (64, 0, 240), (67, 5, 6), (67, 8, 8), (67, 12, 13), (67, 16, 16)], [(.inl none, 0, 0, ([(0, 2)], []), [], [])])
set_option maxRecDepth 100000 in
noncomputable def sz_u574 : List sy_Cut := []
set_option maxRecDepth 100000 in
noncomputable def sz_h574_0 : List sy_Hn := [(27, 4, 70, 0, 0, 0, [], [], []),
  (0, 4, 70, 1, 0, 0, [], [], []),
  (0, 4, 77, 2, 0, 0, [], [], []),
  (0, 4, 77, 0, 0, 0, [], [], []),
  (0, 6, 376, 0, 0, 0, [([0], [(1, [0]), (1, [2])]), ([0], [(1, [0]), (1, [2])])], [], [0, 0]),
  (0, 4, 77, 5, 0, 0, [], [], []),
  (0, 4, 77, 6, 0, 0, [], [], []),
  (0, 6, 377, 0, 0, 0, [([0], [(1, [0]), (1, [2])]), ([0], [(1, [0]), (1, [2])])], [], [0, 0]),
  (1, 20, 2, 0, 0, 0, [], [], []),
  (8, 20, 0, 0, 0, 0, [], [], []),
  (0, 31, 0, 0, 0, 0, [], [], []),
  (2, 4, 70, 0, 0, 0, [], [], []),
  (0, 4, 70, 1, 0, 0, [], [], []),
  (0, 4, 77, 2, 0, 0, [], [], []),
  (0, 4, 77, 0, 0, 0, [], [], []),
  (0, 6, 376, 0, 0, 0, [([0], [(1, [0]), (1, [2])]), ([0], [(1, [0]), (1, [2])])], [], [0, 0]),
  (0, 4, 77, 5, 0, 0, [], [], []),
  (0, 4, 77, 6, 0, 0, [], [], []),
  (0, 6, 377, 0, 0, 0, [([0], [(1, [0]), (1, [2])]), ([0], [(1, [0]), (1, [2])])], [], [0, 0]),
  (1, 20, 1, 0, 0, 0, [], [], []),
  (4, 20, 2, 0, 0, 0, [], [], []),
  (8, 20, 0, 0, 0, 0, [], [], []),
  (0, 31, 0, 0, 0, 0, [], [], []),
  (24, 4, 70, 0, 0, 0, [], [], []),
  (0, 4, 70, 1, 0, 0, [], [], []),
  (0, 4, 77, 2, 0, 0, [], [], []),
  (0, 4, 77, 0, 0, 0, [], [], []),
  (0, 6, 376, 0, 0, 0, [([0], [(1, [0]), (1, [2])]), ([0], [(1, [0]), (1, [2])])], [], [0, 0]),
  (0, 4, 77, 5, 0, 0, [], [], []),
  (0, 4, 77, 6, 0, 0, [], [], []),
  (0, 6, 377, 0, 0, 0, [([0], [(1, [0]), (1, [2])]), ([0], [(1, [0]), (1, [2])])], [], [0, 0]),
  (1, 20, 0, 0, 0, 0, [], [], []),
  (0, 31, 0, 0, 0, 0, [], [], []),
  (1, 4, 70, 0, 0, 0, [], [], []),
  (0, 4, 70, 1, 0, 0, [], [], []),
  (0, 4, 77, 2, 0, 0, [], [], []),
  (0, 4, 77, 0, 0, 0, [], [], []),
  (0, 6, 376, 0, 0, 0, [([0], [(1, [0]), (1, [2])]), ([0], [(1, [0]), (1, [2])])], [], [0, 0]),
  (0, 4, 77, 5, 0, 0, [], [], []),
  (0, 4, 77, 6, 0, 0, [], [], []),
  (0, 6, 377, 0, 0, 0, [([0], [(1, [0]), (1, [2])]), ([0], [(1, [0]), (1, [2])])], [], [0, 0]),
  (1, 20, 2, 0, 0, 0, [], [], []),
  (8, 20, 0, 0, 0, 0, [], [], []),
  (0, 31, 0, 0, 0, 0, [], [], []),
  (2, 4, 70, 0, 0, 0, [], [], []),
  (0, 4, 70, 1, 0, 0, [], [], []),
  (0, 4, 77, 2, 0, 0, [], [], []),
  (0, 4, 77, 0, 0, 0, [], [], []),
  (0, 6, 376, 0, 0, 0, [([0], [(1, [0]), (1, [2])]), ([0], [(1, [0]), (1, [2])])], [], [0, 0]),
  (0, 4, 77, 5, 0, 0, [], [], []),
  (0, 4, 77, 6, 0, 0, [], [], []),
  (0, 6, 377, 0, 0, 0, [([0], [(1, [0]), (1, [2])]), ([0], [(1, [0]), (1, [2])])], [], [0, 0]),
  (1, 20, 1, 0, 0, 0, [], [], []),
  (4, 20, 2, 0, 0, 0, [], [], []),
  (8, 20, 0, 0, 0, 0, [], [], []),
  (0, 31, 0, 0, 0, 0, [], [], []),
  (0, 31, 0, 0, 0, 0, [], [], [])]
set_option maxRecDepth 100000 in
theorem sz_s574_0 : sy_seg sz_E sz_T sz_RU [sz_c340, sz_c348, sz_c357] sz_c574 sz_u574 ri_m_X0_tellMode 169 none sz_h574_0 = true := by decide +kernel
theorem sz_ok574 (xs : Nat → Value) (L : Nat) : sy_Cok (sz_env xs L) sz_T sz_RU sz_c574 := sy_chk_ok (CT := [sz_c340, sz_c348, sz_c357]) (CU := sz_u574) (M := ri_m_X0_tellMode) (List.forall_mem_cons.mpr ⟨sz_ok340 xs L, List.forall_mem_cons.mpr ⟨sz_ok348 xs L, List.forall_mem_cons.mpr ⟨sz_ok357 xs L, fun _ h => absurd h List.not_mem_nil⟩⟩⟩) rfl ⟨_, _, sz_s574_0⟩ (fun _ h => absurd h List.not_mem_nil)

/-! X0_tellMode [59, 1, 0] -/
set_option maxRecDepth 100000 in
noncomputable def sz_c575 : sy_Ct := (169, 3, 67, [(3, .inr 59, .inl 0), (0, .inl 1, .inl 0), (0, .inr 0, .inl 0)], ([(0, 2)], []), [], [], [(63, 2, 2), (64, 0, 240), (79, 5, 6), (79, 8, 8), (79, 12, 13), (79, 16, 16)], [(.inl none, 0, 0, ([(0, 2)], []), [], [])])
set_option maxRecDepth 100000 in
noncomputable def sz_u575 : List sy_Cut := []
set_option maxRecDepth 100000 in
noncomputable def sz_h575_0 : List sy_Hn := [(27, 4, 82, 0, 0, 0, [], [], []),
  (0, 4, 82, 1, 0, 0, [], [], []),
  (0, 4, 89, 2, 0, 0, [], [], []),
  (0, 4, 89, 0, 0, 0, [], [], []),
  (0, 6, 381, 0, 0, 0, [([0], [(1, [0]), (1, [2])]), ([0], [(1, [0]), (1, [2])])], [], [0, 0]),
  (0, 4, 89, 5, 0, 0, [], [], []),
  (0, 4, 89, 6, 0, 0, [], [], []),
  (0, 6, 382, 0, 0, 0, [([0], [(1, [0]), (1, [2])]), ([0], [(1, [0]), (1, [2])])], [], [0, 0]),
  (1, 20, 2, 0, 0, 0, [], [], []),
  (8, 20, 0, 0, 0, 0, [], [], []),
  (0, 31, 0, 0, 0, 0, [], [], []),
  (2, 4, 82, 0, 0, 0, [], [], []),
  (0, 4, 82, 1, 0, 0, [], [], []),
  (0, 4, 89, 2, 0, 0, [], [], []),
  (0, 4, 89, 0, 0, 0, [], [], []),
  (0, 6, 381, 0, 0, 0, [([0], [(1, [0]), (1, [2])]), ([0], [(1, [0]), (1, [2])])], [], [0, 0]),
  (0, 4, 89, 5, 0, 0, [], [], []),
  (0, 4, 89, 6, 0, 0, [], [], []),
  (0, 6, 382, 0, 0, 0, [([0], [(1, [0]), (1, [2])]), ([0], [(1, [0]), (1, [2])])], [], [0, 0]),
  (1, 20, 1, 0, 0, 0, [], [], []),
  (4, 20, 2, 0, 0, 0, [], [], []),
  (8, 20, 0, 0, 0, 0, [], [], []),
  (0, 31, 0, 0, 0, 0, [], [], []),
  (24, 4, 82, 0, 0, 0, [], [], []),
  (0, 4, 82, 1, 0, 0, [], [], []),
  (0, 4, 89, 2, 0, 0, [], [], []),
  (0, 4, 89, 0, 0, 0, [], [], []),
  (0, 6, 381, 0, 0, 0, [([0], [(1, [0]), (1, [2])]), ([0], [(1, [0]), (1, [2])])], [], [0, 0]),
  (0, 4, 89, 5, 0, 0, [], [], []),
  (0, 4, 89, 6, 0, 0, [], [], []),
  (0, 6, 382, 0, 0, 0, [([0], [(1, [0]), (1, [2])]), ([0], [(1, [0]), (1, [2])])], [], [0, 0]),
  (1, 20, 0, 0, 0, 0, [], [], []),
  (0, 31, 0, 0, 0, 0, [], [], []),
  (1, 4, 82, 0, 0, 0, [], [], []),
  (0, 4, 82, 1, 0, 0, [], [], []),
  (0, 4, 89, 2, 0, 0, [], [], []),
  (0, 4, 89, 0, 0, 0, [], [], []),
  (0, 6, 381, 0, 0, 0, [([0], [(1, [0]), (1, [2])]), ([0], [(1, [0]), (1, [2])])], [], [0, 0]),
  (0, 4, 89, 5, 0, 0, [], [], []),
  (0, 4, 89, 6, 0, 0, [], [], []),
  (0, 6, 382, 0, 0, 0, [([0], [(1, [0]), (1, [2])]), ([0], [(1, [0]), (1, [2])])], [], [0, 0]),
  (1, 20, 2, 0, 0, 0, [], [], []),
  (8, 20, 0, 0, 0, 0, [], [], []),
  (0, 31, 0, 0, 0, 0, [], [], []),
  (2, 4, 82, 0, 0, 0, [], [], []),
  (0, 4, 82, 1, 0, 0, [], [], []),
  (0, 4, 89, 2, 0, 0, [], [], []),
  (0, 4, 89, 0, 0, 0, [], [], []),
  (0, 6, 381, 0, 0, 0, [([0], [(1, [0]), (1, [2])]), ([0], [(1, [0]), (1, [2])])], [], [0, 0]),
  (0, 4, 89, 5, 0, 0, [], [], []),
  (0, 4, 89, 6, 0, 0, [], [], []),
  (0, 6, 382, 0, 0, 0, [([0], [(1, [0]), (1, [2])]), ([0], [(1, [0]), (1, [2])])], [], [0, 0]),
  (1, 20, 1, 0, 0, 0, [], [], []),
  (4, 20, 2, 0, 0, 0, [], [], []),
  (8, 20, 0, 0, 0, 0, [], [], []),
  (0, 31, 0, 0, 0, 0, [], [], []),
  (0, 31, 0, 0, 0, 0, [], [], [])]
set_option maxRecDepth 100000 in
theorem sz_s575_0 : sy_seg sz_E sz_T sz_RU [sz_c340, sz_c367, sz_c375] sz_c575 sz_u575 ri_m_X0_tellMode 169 none sz_h575_0 = true := by decide +kernel
theorem sz_ok575 (xs : Nat → Value) (L : Nat) : sy_Cok (sz_env xs L) sz_T sz_RU sz_c575 := sy_chk_ok (CT := [sz_c340, sz_c367, sz_c375]) (CU := sz_u575) (M := ri_m_X0_tellMode) (List.forall_mem_cons.mpr ⟨sz_ok340 xs L, List.forall_mem_cons.mpr ⟨sz_ok367 xs L, List.forall_mem_cons.mpr ⟨sz_ok375 xs L, fun _ h => absurd h List.not_mem_nil⟩⟩⟩) rfl ⟨_, _, sz_s575_0⟩ (fun _ h => absurd h List.not_mem_nil)

/-! X0_tellMode [59, 2, 0] -/
set_option maxRecDepth 100000 in
noncomputable def sz_c576 : sy_Ct := (169, 3, 67, [(3, .inr 59, .inl 0), (0, .inl 2, .inl 0), (0, .inr 0, .inl 0)], ([(0, 2)], []), [], [], [(63, 2, 2), (64, 0, 240), (91, 5, 6), (91, 8, 8), (91, 12, 13), (91, 16, 16)], [(.inl none, 0, 0, ([(0, 2)], []), [], [])])
set_option maxRecDepth 100000 in
noncomputable def sz_u576 : List sy_Cut := []
set_option maxRecDepth 100000 in
noncomputable def sz_h576_0 : List sy_Hn := [(27, 4, 94, 0, 0, 0, [], [], []),
  (0, 4, 94, 1, 0, 0, [], [], []),
  (0, 4, 101, 2, 0, 0, [], [], []),
  (0, 4, 101, 0, 0, 0, [], [], []),
  (0, 6, 386, 0, 0, 0, [([0], [(1, [0]), (1, [2])]), ([0], [(1, [0]), (1, [2])])], [], [0, 0]),
  (0, 4, 101, 5, 0, 0, [], [], []),
  (0, 4, 101, 6, 0, 0, [], [], []),
  (0, 6, 387, 0, 0, 0, [([0], [(1, [0]), (1, [2])]), ([0], [(1, [0]), (1, [2])])], [], [0, 0]),
  (1, 20, 2, 0, 0, 0, [], [], []),
  (8, 20, 0, 0, 0, 0, [], [], []),
  (0, 31, 0, 0, 0, 0, [], [], []),
  (2, 4, 94, 0, 0, 0, [], [], []),
  (0, 4, 94, 1, 0, 0, [], [], []),
  (0, 4, 101, 2, 0, 0, [], [], []),
  (0, 4, 101, 0, 0, 0, [], [], []),
  (0, 6, 386, 0, 0, 0, [([0], [(1, [0]), (1, [2])]), ([0], [(1, [0]), (1, [2])])], [], [0, 0]),
  (0, 4, 101, 5, 0, 0, [], [], []),
  (0, 4, 101, 6, 0, 0, [], [], []),
  (0, 6, 387, 0, 0, 0, [([0], [(1, [0]), (1, [2])]), ([0], [(1, [0]), (1, [2])])], [], [0, 0]),
  (1, 20, 1, 0, 0, 0, [], [], []),
  (4, 20, 2, 0, 0, 0, [], [], []),
  (8, 20, 0, 0, 0, 0, [], [], []),
  (0, 31, 0, 0, 0, 0, [], [], []),
  (24, 4, 94, 0, 0, 0, [], [], []),
  (0, 4, 94, 1, 0, 0, [], [], []),
  (0, 4, 101, 2, 0, 0, [], [], []),
  (0, 4, 101, 0, 0, 0, [], [], []),
  (0, 6, 386, 0, 0, 0, [([0], [(1, [0]), (1, [2])]), ([0], [(1, [0]), (1, [2])])], [], [0, 0]),
  (0, 4, 101, 5, 0, 0, [], [], []),
  (0, 4, 101, 6, 0, 0, [], [], []),
  (0, 6, 387, 0, 0, 0, [([0], [(1, [0]), (1, [2])]), ([0], [(1, [0]), (1, [2])])], [], [0, 0]),
  (1, 20, 0, 0, 0, 0, [], [], []),
  (0, 31, 0, 0, 0, 0, [], [], []),
  (1, 4, 94, 0, 0, 0, [], [], []),
  (0, 4, 94, 1, 0, 0, [], [], []),
  (0, 4, 101, 2, 0, 0, [], [], []),
  (0, 4, 101, 0, 0, 0, [], [], []),
  (0, 6, 386, 0, 0, 0, [([0], [(1, [0]), (1, [2])]), ([0], [(1, [0]), (1, [2])])], [], [0, 0]),
  (0, 4, 101, 5, 0, 0, [], [], []),
  (0, 4, 101, 6, 0, 0, [], [], []),
  (0, 6, 387, 0, 0, 0, [([0], [(1, [0]), (1, [2])]), ([0], [(1, [0]), (1, [2])])], [], [0, 0]),
  (1, 20, 2, 0, 0, 0, [], [], []),
  (8, 20, 0, 0, 0, 0, [], [], []),
  (0, 31, 0, 0, 0, 0, [], [], []),
  (2, 4, 94, 0, 0, 0, [], [], []),
  (0, 4, 94, 1, 0, 0, [], [], []),
  (0, 4, 101, 2, 0, 0, [], [], []),
  (0, 4, 101, 0, 0, 0, [], [], []),
  (0, 6, 386, 0, 0, 0, [([0], [(1, [0]), (1, [2])]), ([0], [(1, [0]), (1, [2])])], [], [0, 0]),
  (0, 4, 101, 5, 0, 0, [], [], []),
  (0, 4, 101, 6, 0, 0, [], [], []),
  (0, 6, 387, 0, 0, 0, [([0], [(1, [0]), (1, [2])]), ([0], [(1, [0]), (1, [2])])], [], [0, 0]),
  (1, 20, 1, 0, 0, 0, [], [], []),
  (4, 20, 2, 0, 0, 0, [], [], []),
  (8, 20, 0, 0, 0, 0, [], [], []),
  (0, 31, 0, 0, 0, 0, [], [], []),
  (0, 31, 0, 0, 0, 0, [], [], [])]
set_option maxRecDepth 100000 in
theorem sz_s576_0 : sy_seg sz_E sz_T sz_RU [sz_c340, sz_c386, sz_c394] sz_c576 sz_u576 ri_m_X0_tellMode 169 none sz_h576_0 = true := by decide +kernel
theorem sz_ok576 (xs : Nat → Value) (L : Nat) : sy_Cok (sz_env xs L) sz_T sz_RU sz_c576 := sy_chk_ok (CT := [sz_c340, sz_c386, sz_c394]) (CU := sz_u576) (M := ri_m_X0_tellMode) (List.forall_mem_cons.mpr ⟨sz_ok340 xs L, List.forall_mem_cons.mpr ⟨sz_ok386 xs L, List.forall_mem_cons.mpr ⟨sz_ok394 xs L, fun _ h => absurd h List.not_mem_nil⟩⟩⟩) rfl ⟨_, _, sz_s576_0⟩ (fun _ h => absurd h List.not_mem_nil)

/-! X0_tellMode [59, 3, 0] -/
set_option maxRecDepth 100000 in
noncomputable def sz_c577 : sy_Ct := (169, 3, 67, [(3, .inr 59, .inl 0), (0, .inl 3, .inl 0), (0, .inr 0, .inl 0)], ([(0, 2)], []), [], [], [(63, 2, 2), (64, 0, 240), (103, 5, 6), (103, 8, 8), (103, 12, 13), (103, 16, 16)], [(.inl none, 0, 0, ([(0, 2)], []), [], [])])
set_option maxRecDepth 100000 in
noncomputable def sz_u577 : List sy_Cut := []
set_option maxRecDepth 100000 in
noncomputable def sz_h577_0 : List sy_Hn := [(27, 4, 106, 0, 0, 0, [], [], []),
  (0, 4, 106, 1, 0, 0, [], [], []),
  (0, 4, 113, 2, 0, 0, [], [], []),
  (0, 4, 113, 0, 0, 0, [], [], []),
  (0, 6, 391, 0, 0, 0, [([0], [(1, [0]), (1, [2])]), ([0], [(1, [0]), (1, [2])])], [], [0, 0]),
  (0, 4, 113, 5, 0, 0, [], [], []),
  (0, 4, 113, 6, 0, 0, [], [], []),
  (0, 6, 392, 0, 0, 0, [([0], [(1, [0]), (1, [2])]), ([0], [(1, [0]), (1, [2])])], [], [0, 0]),
  (1, 20, 2, 0, 0, 0, [], [], []),
  (8, 20, 0, 0, 0, 0, [], [], []),
  (0, 31, 0, 0, 0, 0, [], [], []),
  (2, 4, 106, 0, 0, 0, [], [], []),
  (0, 4, 106, 1, 0, 0, [], [], []),
  (0, 4, 113, 2, 0, 0, [], [], []),
  (0, 4, 113, 0, 0, 0, [], [], []),
  (0, 6, 391, 0, 0, 0, [([0], [(1, [0]), (1, [2])]), ([0], [(1, [0]), (1, [2])])], [], [0, 0]),
  (0, 4, 113, 5, 0, 0, [], [], []),
  (0, 4, 113, 6, 0, 0, [], [], []),
  (0, 6, 392, 0, 0, 0, [([0], [(1, [0]), (1, [2])]), ([0], [(1, [0]), (1, [2])])], [], [0, 0]),
  (1, 20, 1, 0, 0, 0, [], [], []),
  (4, 20, 2, 0, 0, 0, [], [], []),
  (8, 20, 0, 0, 0, 0, [], [], []),
  (0, 31, 0, 0, 0, 0, [], [], []),
  (24, 4, 106, 0, 0, 0, [], [], []),
  (0, 4, 106, 1, 0, 0, [], [], []),
  (0, 4, 113, 2, 0, 0, [], [], []),
  (0, 4, 113, 0, 0, 0, [], [], []),
  (0, 6, 391, 0, 0, 0, [([0], [(1, [0]), (1, [2])]), ([0], [(1, [0]), (1, [2])])], [], [0, 0]),
  (0, 4, 113, 5, 0, 0, [], [], []),
  (0, 4, 113, 6, 0, 0, [], [], []),
  (0, 6, 392, 0, 0, 0, [([0], [(1, [0]), (1, [2])]), ([0], [(1, [0]), (1, [2])])], [], [0, 0]),
  (1, 20, 0, 0, 0, 0, [], [], []),
  (0, 31, 0, 0, 0, 0, [], [], []),
  (1, 4, 106, 0, 0, 0, [], [], []),
  (0, 4, 106, 1, 0, 0, [], [], []),
  (0, 4, 113, 2, 0, 0, [], [], []),
  (0, 4, 113, 0, 0, 0, [], [], []),
  (0, 6, 391, 0, 0, 0, [([0], [(1, [0]), (1, [2])]), ([0], [(1, [0]), (1, [2])])], [], [0, 0]),
  (0, 4, 113, 5, 0, 0, [], [], []),
  (0, 4, 113, 6, 0, 0, [], [], []),
  (0, 6, 392, 0, 0, 0, [([0], [(1, [0]), (1, [2])]), ([0], [(1, [0]), (1, [2])])], [], [0, 0]),
  (1, 20, 2, 0, 0, 0, [], [], []),
  (8, 20, 0, 0, 0, 0, [], [], []),
  (0, 31, 0, 0, 0, 0, [], [], []),
  (2, 4, 106, 0, 0, 0, [], [], []),
  (0, 4, 106, 1, 0, 0, [], [], []),
  (0, 4, 113, 2, 0, 0, [], [], []),
  (0, 4, 113, 0, 0, 0, [], [], []),
  (0, 6, 391, 0, 0, 0, [([0], [(1, [0]), (1, [2])]), ([0], [(1, [0]), (1, [2])])], [], [0, 0]),
  (0, 4, 113, 5, 0, 0, [], [], []),
  (0, 4, 113, 6, 0, 0, [], [], []),
  (0, 6, 392, 0, 0, 0, [([0], [(1, [0]), (1, [2])]), ([0], [(1, [0]), (1, [2])])], [], [0, 0]),
  (1, 20, 1, 0, 0, 0, [], [], []),
  (4, 20, 2, 0, 0, 0, [], [], []),
  (8, 20, 0, 0, 0, 0, [], [], []),
  (0, 31, 0, 0, 0, 0, [], [], []),
  (0, 31, 0, 0, 0, 0, [], [], [])]
set_option maxRecDepth 100000 in
theorem sz_s577_0 : sy_seg sz_E sz_T sz_RU [sz_c340, sz_c403, sz_c411] sz_c577 sz_u577 ri_m_X0_tellMode 169 none sz_h577_0 = true := by decide +kernel
theorem sz_ok577 (xs : Nat → Value) (L : Nat) : sy_Cok (sz_env xs L) sz_T sz_RU sz_c577 := sy_chk_ok (CT := [sz_c340, sz_c403, sz_c411]) (CU := sz_u577) (M := ri_m_X0_tellMode) (List.forall_mem_cons.mpr ⟨sz_ok340 xs L, List.forall_mem_cons.mpr ⟨sz_ok403 xs L, List.forall_mem_cons.mpr ⟨sz_ok411 xs L, fun _ h => absurd h List.not_mem_nil⟩⟩⟩) rfl ⟨_, _, sz_s577_0⟩ (fun _ h => absurd h List.not_mem_nil)

/-! X0_happen [59] -/
set_option maxRecDepth 100000 in
noncomputable def sz_c578 : sy_Ct := (162, 5, 114, [(3, .inr 59, .inl 0)], ([], []), [], [], [(61, 2, 2), (62, 0, 32), (63, 2, 2), (64, 0, 240), (67, 5, 6), (67, 8, 8), (67, 12, 14), (67, 16, 16), (68, 4, 4), (79, 5, 6), (79, 8, 8), (79, 12, 14), (79, 16, 16), (80, 4, 4), (91, 5, 6), (91, 8, 8), (91, 12, 14), (91, 16, 16), (92, 4, 4), (103, 5, 6), (103, 8, 8), (103, 12, 14), (103, 16, 16), (104, 4, 4)], [(.inl none, 0, 0, ([], []), [], [])])
set_option maxRecDepth 100000 in
noncomputable def sz_u578 : List sy_Cut := [(6, [(0, (3, .inr 59, .inl 0)), (1, (0, .inr 0, .inl 0)), (2, (0, .inr 1, .inl 0))], ([(0, 8), (0, 8), (0, 8)], [[((-1), [0]), ((-1), [1]), (1, [2])], [(1, [0]), (1, [1]), ((-1), [2])]]), [((61, 2), (0, .inr 2, .inl 0))], [], [(2, [1])]), (35, [(0, (3, .inr 59, .inl 0)), (1, (0, .inr 0, .inl 0)), (2, (0, .inr 1, .inl 0))], ([(0, 8), (1, 8), (0, 7)], [[(1, [1]), ((-1), [])], [((-1), [0]), ((-1), [1]), (1, [2])], [(1, [0]), (1, [1]), ((-1), [2])]]), [((61, 2), (0, .inr 2, .inl 0))], [], [(2, [1]), ((-1), [])])]
set_option maxRecDepth 100000 in
noncomputable def sz_h578_0 : List sy_Hn := [(0, 30, 0, 0, 0, 0, [([0], [(1, [0]), (2, [1])]), ([], []), ([], [(1, [0])]), ([], [(1, [0])])], [], [])]
set_option maxRecDepth 100000 in
theorem sz_s578_0 : sy_seg sz_E sz_T sz_RU [sz_c574, sz_c575, sz_c576, sz_c577] sz_c578 sz_u578 ri_m_X0_happen 13 none sz_h578_0 = true := by decide +kernel
set_option maxRecDepth 100000 in
noncomputable def sz_h578_1_0 : List sy_Hn := [(0, 31, 0, 0, 0, 0, [], [], []),
  (0, 3, 0, 0, 0, 7, [([0], [(1, [0]), (1, [1])]), ([1, 2], [(1, [0]), (1, [5]), (1, [1]), (1, [4])])], [], []),
  (0, 3, 2, 0, 1, 8, [([0, 1], [(1, [0]), (1, [5]), (1, [1]), (1, [3])]), ([2], [(1, [0]), (1, [2])])], [], []),
  (0, 1, 0, 0, 0, 0, [], [], []),
  (60, 5, 397, 0, 0, 0, [], [], []),
  (0, 3, 6, 0, 0, 2147483647, [([], [(1, [0]), (1, [1])]), ([6], [(1, [0]), (1, [2])])], [], []),
  (0, 5, 397, 1, 0, 0, [], [], []),
  (0, 3, 6, 0, 0, 3, [([6], [(1, [0]), (1, [1])]), ([], [(1, [0]), (1, [1])])], [], []),
  (4, 1, 6, 0, 0, 0, [], [], []),
  (0, 30, 0, 0, 0, 0, [([1], [(1, [0]), (2, [1])]), ([], [(1, [0])]), ([1], [(1, [0]), (1, [1])]), ([], [(1, [0]), (1, [4])]), ([], [(1, [0]), (1, [5])])], [], []),
  (0, 30, 0, 0, 0, 0, [([1], [(1, [0]), (2, [1])]), ([], [(1, [0])]), ([1], [(1, [0]), (1, [1])]), ([], [(1, [0]), (1, [4])]), ([], [(1, [0]), (1, [5])])], [], []),
  (0, 30, 0, 0, 0, 0, [([1], [(1, [0]), (2, [1])]), ([], [(1, [0])]), ([1], [(1, [0]), (1, [1])]), ([], [(1, [0]), (1, [4])]), ([], [(1, [0]), (1, [5])])], [], []),
  (0, 30, 0, 0, 0, 0, [([1], [(1, [0]), (2, [1])]), ([], [(1, [0])]), ([1], [(1, [0]), (1, [1])]), ([], [(1, [0]), (1, [4])]), ([], [(1, [0]), (1, [5])])], [], []),
  (0, 30, 0, 0, 0, 0, [([1], [(1, [0]), (2, [1])]), ([], [(1, [0])]), ([1], [(1, [0]), (1, [1])]), ([], [(1, [0]), (1, [4])]), ([], [(1, [0]), (1, [5])])], [], []),
  (0, 30, 0, 0, 0, 0, [([1], [(1, [0]), (2, [1])]), ([], [(1, [0])]), ([1], [(1, [0]), (1, [1])]), ([], [(1, [0]), (1, [4])]), ([], [(1, [0]), (1, [5])])], [], []),
  (3, 5, 397, 2, 0, 0, [], [], []),
  (0, 7, 0, 0, 0, 0, [([5], [(1, [2]), (1, [0])])], [], []),
  (0, 7, 0, 0, 0, 0, [([5], [(1, [2]), (1, [1])])], [], []),
  (0, 3, 7, 0, 0, 2147483647, [([], [(1, [0]), (1, [1])]), ([7], [(1, [0]), (1, [2])])], [], []),
  (0, 5, 397, 3, 0, 0, [], [], []),
  (0, 7, 0, 0, 0, 0, [([5], [(1, [2]), (1, [0])])], [], []),
  (0, 7, 0, 0, 0, 0, [([5], [(1, [2]), (1, [1])])], [], []),
  (0, 3, 7, 0, 0, 2, [([7], [(1, [0]), (1, [1])]), ([], [(1, [0]), (1, [1])])], [], []),
  (1, 20, 0, 0, 0, 0, [], [], []),
  (0, 30, 0, 0, 0, 0, [([1], [(1, [0]), (2, [1])]), ([], [(1, [0])]), ([1], [(1, [0]), (1, [1])]), ([], [(1, [0]), (1, [6])]), ([], [(1, [0]), (1, [7])])], [], []),
  (0, 1, 6, 0, 1, 0, [], [], []),
  (0, 30, 0, 0, 0, 0, [([1], [(1, [0]), (2, [1])]), ([], [(1, [0])]), ([1], [(1, [0]), (1, [1])]), ([], [(1, [0]), (1, [4])]), ([], [(1, [0]), (1, [5])])], [], []),
  (0, 30, 0, 0, 0, 0, [([1], [(1, [0]), (2, [1])]), ([], [(1, [0])]), ([1], [(1, [0]), (1, [1])]), ([], [(1, [0]), (1, [4])]), ([], [(1, [0]), (1, [5])])], [], []),
  (0, 30, 0, 0, 0, 0, [([1], [(1, [0]), (2, [1])]), ([], [(1, [0])]), ([1], [(1, [0]), (1, [1])]), ([], [(1, [0]), (1, [4])]), ([], [(1, [0]), (1, [5])])], [], []),
  (0, 30, 0, 0, 0, 0, [([1], [(1, [0]), (2, [1])]), ([], [(1, [0])]), ([1], [(1, [0]), (1, [1])]), ([], [(1, [0]), (1, [4])]), ([], [(1, [0]), (1, [5])])], [], []),
  (0, 30, 0, 0, 0, 0, [([1], [(1, [0]), (2, [1])]), ([], [(1, [0])]), ([1], [(1, [0]), (1, [1])]), ([], [(1, [0]), (1, [4])]), ([], [(1, [0]), (1, [5])])], [], []),
  (0, 30, 0, 0, 0, 0, [([1], [(1, [0]), (2, [1])]), ([], [(1, [0])]), ([1], [(1, [0]), (1, [1])]), ([], [(1, [0]), (1, [4])]), ([], [(1, [0]), (1, [5])])], [], []),
  (3, 5, 397, 2, 0, 0, [], [], []),
  (0, 7, 0, 0, 0, 0, [([5], [(1, [2]), (1, [0])])], [], []),
  (0, 7, 0, 0, 0, 0, [([5], [(1, [2]), (1, [1])])], [], []),
  (0, 3, 7, 0, 0, 2147483647, [([], [(1, [0]), (1, [1])]), ([7], [(1, [0]), (1, [2])])], [], []),
  (0, 5, 397, 3, 0, 0, [], [], []),
  (0, 7, 0, 0, 0, 0, [([5], [(1, [2]), (1, [0])])], [], []),
  (0, 7, 0, 0, 0, 0, [([5], [(1, [2]), (1, [1])])], [], []),
  (0, 3, 7, 0, 0, 2, [([7], [(1, [0]), (1, [1])]), ([], [(1, [0]), (1, [1])])], [], []),
  (1, 20, 1, 0, 0, 0, [], [], []),
  (0, 30, 0, 0, 0, 0, [([1], [(1, [0]), (2, [1])]), ([], [(1, [0])]), ([1], [(1, [0]), (1, [1])]), ([], [(1, [0]), (1, [6])]), ([], [(1, [0]), (1, [7])])], [], []),
  (0, 1, 6, 0, 2, 0, [], [], []),
  (0, 30, 0, 0, 0, 0, [([1], [(1, [0]), (2, [1])]), ([], [(1, [0])]), ([1], [(1, [0]), (1, [1])]), ([], [(1, [0]), (1, [4])]), ([], [(1, [0]), (1, [5])])], [], []),
  (0, 30, 0, 0, 0, 0, [([1], [(1, [0]), (2, [1])]), ([], [(1, [0])]), ([1], [(1, [0]), (1, [1])]), ([], [(1, [0]), (1, [4])]), ([], [(1, [0]), (1, [5])])], [], []),
  (0, 30, 0, 0, 0, 0, [([1], [(1, [0]), (2, [1])]), ([], [(1, [0])]), ([1], [(1, [0]), (1, [1])]), ([], [(1, [0]), (1, [4])]), ([], [(1, [0]), (1, [5])])], [], []),
  (0, 30, 0, 0, 0, 0, [([1], [(1, [0]), (2, [1])]), ([], [(1, [0])]), ([1], [(1, [0]), (1, [1])]), ([], [(1, [0]), (1, [4])]), ([], [(1, [0]), (1, [5])])], [], []),
  (0, 30, 0, 0, 0, 0, [([1], [(1, [0]), (2, [1])]), ([], [(1, [0])]), ([1], [(1, [0]), (1, [1])]), ([], [(1, [0]), (1, [4])]), ([], [(1, [0]), (1, [5])])], [], []),
  (0, 30, 0, 0, 0, 0, [([1], [(1, [0]), (2, [1])]), ([], [(1, [0])]), ([1], [(1, [0]), (1, [1])]), ([], [(1, [0]), (1, [4])]), ([], [(1, [0]), (1, [5])])], [], []),
  (3, 5, 397, 2, 0, 0, [], [], []),
  (0, 7, 0, 0, 0, 0, [([5], [(1, [2]), (1, [0])])], [], []),
  (0, 7, 0, 0, 0, 0, [([5], [(1, [2]), (1, [1])])], [], []),
  (0, 3, 7, 0, 0, 2147483647, [([], [(1, [0]), (1, [1])]), ([7], [(1, [0]), (1, [2])])], [], []),
  (0, 5, 397, 3, 0, 0, [], [], []),
  (0, 7, 0, 0, 0, 0, [([5], [(1, [2]), (1, [0])])], [], []),
  (0, 7, 0, 0, 0, 0, [([5], [(1, [2]), (1, [1])])], [], []),
  (0, 3, 7, 0, 0, 2, [([7], [(1, [0]), (1, [1])]), ([], [(1, [0]), (1, [1])])], [], []),
  (1, 20, 2, 0, 0, 0, [], [], []),
  (0, 30, 0, 0, 0, 0, [([1], [(1, [0]), (2, [1])]), ([], [(1, [0])]), ([1], [(1, [0]), (1, [1])]), ([], [(1, [0]), (1, [6])]), ([], [(1, [0]), (1, [7])])], [], []),
  (0, 30, 0, 0, 0, 0, [([1], [(1, [0]), (2, [1])]), ([], [(1, [0])]), ([1], [(1, [0]), (1, [1])]), ([], [(1, [0]), (1, [4])]), ([], [(1, [0]), (1, [5])])], [], []),
  (0, 30, 0, 0, 0, 0, [([1], [(1, [0]), (2, [1])]), ([], [(1, [0])]), ([1], [(1, [0]), (1, [1])]), ([], [(1, [0]), (1, [4])]), ([], [(1, [0]), (1, [5])])], [], []),
  (0, 30, 0, 0, 0, 0, [([1], [(1, [0]), (2, [1])]), ([], [(1, [0])]), ([1], [(1, [0]), (1, [1])]), ([], [(1, [0]), (1, [4])]), ([], [(1, [0]), (1, [5])])], [], []),
  (0, 30, 0, 0, 0, 0, [([1], [(1, [0]), (2, [1])]), ([], [(1, [0])]), ([1], [(1, [0]), (1, [1])]), ([], [(1, [0]), (1, [4])]), ([], [(1, [0]), (1, [5])])], [], []),
  (0, 30, 0, 0, 0, 0, [([1], [(1, [0]), (2, [1])]), ([], [(1, [0])]), ([1], [(1, [0]), (1, [1])]), ([], [(1, [0]), (1, [4])]), ([], [(1, [0]), (1, [5])])], [], []),
  (0, 30, 0, 0, 0, 0, [([1], [(1, [0]), (2, [1])]), ([], [(1, [0])]), ([1], [(1, [0]), (1, [1])]), ([], [(1, [0]), (1, [4])]), ([], [(1, [0]), (1, [5])])], [], []),
  (3, 5, 397, 2, 0, 0, [], [], []),
  (0, 7, 0, 0, 0, 0, [([5], [(1, [2]), (1, [0])])], [], []),
  (0, 7, 0, 0, 0, 0, [([5], [(1, [2]), (1, [1])])], [], []),
  (0, 3, 7, 0, 0, 2147483647, [([], [(1, [0]), (1, [1])]), ([7], [(1, [0]), (1, [2])])], [], []),
  (0, 5, 397, 3, 0, 0, [], [], []),
  (0, 7, 0, 0, 0, 0, [([5], [(1, [2]), (1, [0])])], [], []),
  (0, 7, 0, 0, 0, 0, [([5], [(1, [2]), (1, [1])])], [], []),
  (0, 3, 7, 0, 0, 2, [([7], [(1, [0]), (1, [1])]), ([], [(1, [0]), (1, [1])])], [], []),
  (1, 20, 3, 0, 0, 0, [], [], []),
  (0, 30, 0, 0, 0, 0, [([1], [(1, [0]), (2, [1])]), ([], [(1, [0])]), ([1], [(1, [0]), (1, [1])]), ([], [(1, [0]), (1, [6])]), ([], [(1, [0]), (1, [7])])], [], []),
  (0, 30, 0, 0, 0, 0, [([5], [(1, [0]), (2, [1])]), ([], [(1, [0]), (2, [2])]), ([0], [(1, [0]), (1, [6]), (1, [1]), (1, [4])]), ([0], [(1, [0]), (1, [7]), (1, [2]), (1, [3])])], [], []),
  (0, 1, 0, 0, 1, 0, [], [], []),
  (60, 5, 398, 0, 0, 0, [], [], []),
  (0, 3, 6, 0, 0, 2147483647, [([], [(1, [0]), (1, [1])]), ([6], [(1, [0]), (1, [2])])], [], []),
  (0, 5, 398, 1, 0, 0, [], [], []),
  (0, 3, 6, 0, 0, 3, [([6], [(1, [0]), (1, [1])]), ([], [(1, [0]), (1, [1])])], [], []),
  (4, 1, 6, 0, 0, 0, [], [], []),
  (0, 30, 0, 0, 0, 0, [([1], [(1, [0]), (2, [1])]), ([], [(1, [0])]), ([1], [(1, [0]), (1, [1])]), ([], [(1, [0]), (1, [4])]), ([], [(1, [0]), (1, [5])])], [], []),
  (0, 30, 0, 0, 0, 0, [([1], [(1, [0]), (2, [1])]), ([], [(1, [0])]), ([1], [(1, [0]), (1, [1])]), ([], [(1, [0]), (1, [4])]), ([], [(1, [0]), (1, [5])])], [], []),
  (0, 30, 0, 0, 0, 0, [([1], [(1, [0]), (2, [1])]), ([], [(1, [0])]), ([1], [(1, [0]), (1, [1])]), ([], [(1, [0]), (1, [4])]), ([], [(1, [0]), (1, [5])])], [], []),
  (0, 30, 0, 0, 0, 0, [([1], [(1, [0]), (2, [1])]), ([], [(1, [0])]), ([1], [(1, [0]), (1, [1])]), ([], [(1, [0]), (1, [4])]), ([], [(1, [0]), (1, [5])])], [], []),
  (0, 30, 0, 0, 0, 0, [([1], [(1, [0]), (2, [1])]), ([], [(1, [0])]), ([1], [(1, [0]), (1, [1])]), ([], [(1, [0]), (1, [4])]), ([], [(1, [0]), (1, [5])])], [], []),
  (0, 30, 0, 0, 0, 0, [([1], [(1, [0]), (2, [1])]), ([], [(1, [0])]), ([1], [(1, [0]), (1, [1])]), ([], [(1, [0]), (1, [4])]), ([], [(1, [0]), (1, [5])])], [], []),
  (3, 5, 398, 2, 0, 0, [], [], []),
  (0, 7, 0, 0, 0, 0, [([5], [(1, [2]), (1, [0])])], [], []),
  (0, 7, 0, 0, 0, 0, [([5], [(1, [2]), (1, [1])])], [], []),
  (0, 3, 7, 0, 0, 2147483647, [([], [(1, [0]), (1, [1])]), ([7], [(1, [0]), (1, [2])])], [], []),
  (0, 5, 398, 3, 0, 0, [], [], []),
  (0, 7, 0, 0, 0, 0, [([5], [(1, [2]), (1, [0])])], [], []),
  (0, 7, 0, 0, 0, 0, [([5], [(1, [2]), (1, [1])])], [], []),
  (0, 3, 7, 0, 0, 2, [([7], [(1, [0]), (1, [1])]), ([], [(1, [0]), (1, [1])])], [], []),
  (1, 20, 0, 0, 0, 0, [], [], []),
  (0, 30, 0, 0, 0, 0, [([1], [(1, [0]), (2, [1])]), ([], [(1, [0])]), ([1], [(1, [0]), (1, [1])]), ([], [(1, [0]), (1, [6])]), ([], [(1, [0]), (1, [7])])], [], []),
  (0, 1, 6, 0, 1, 0, [], [], []),
  (0, 30, 0, 0, 0, 0, [([1], [(1, [0]), (2, [1])]), ([], [(1, [0])]), ([1], [(1, [0]), (1, [1])]), ([], [(1, [0]), (1, [4])]), ([], [(1, [0]), (1, [5])])], [], []),
  (0, 30, 0, 0, 0, 0, [([1], [(1, [0]), (2, [1])]), ([], [(1, [0])]), ([1], [(1, [0]), (1, [1])]), ([], [(1, [0]), (1, [4])]), ([], [(1, [0]), (1, [5])])], [], []),
  (0, 30, 0, 0, 0, 0, [([1], [(1, [0]), (2, [1])]), ([], [(1, [0])]), ([1], [(1, [0]), (1, [1])]), ([], [(1, [0]), (1, [4])]), ([], [(1, [0]), (1, [5])])], [], []),
  (0, 30, 0, 0, 0, 0, [([1], [(1, [0]), (2, [1])]), ([], [(1, [0])]), ([1], [(1, [0]), (1, [1])]), ([], [(1, [0]), (1, [4])]), ([], [(1, [0]), (1, [5])])], [], []),
  (0, 30, 0, 0, 0, 0, [([1], [(1, [0]), (2, [1])]), ([], [(1, [0])]), ([1], [(1, [0]), (1, [1])]), ([], [(1, [0]), (1, [4])]), ([], [(1, [0]), (1, [5])])], [], []),
  (0, 30, 0, 0, 0, 0, [([1], [(1, [0]), (2, [1])]), ([], [(1, [0])]), ([1], [(1, [0]), (1, [1])]), ([], [(1, [0]), (1, [4])]), ([], [(1, [0]), (1, [5])])], [], []),
  (3, 5, 398, 2, 0, 0, [], [], []),
  (0, 7, 0, 0, 0, 0, [([5], [(1, [2]), (1, [0])])], [], []),
  (0, 7, 0, 0, 0, 0, [([5], [(1, [2]), (1, [1])])], [], []),
  (0, 3, 7, 0, 0, 2147483647, [([], [(1, [0]), (1, [1])]), ([7], [(1, [0]), (1, [2])])], [], []),
  (0, 5, 398, 3, 0, 0, [], [], []),
  (0, 7, 0, 0, 0, 0, [([5], [(1, [2]), (1, [0])])], [], []),
  (0, 7, 0, 0, 0, 0, [([5], [(1, [2]), (1, [1])])], [], []),
  (0, 3, 7, 0, 0, 2, [([7], [(1, [0]), (1, [1])]), ([], [(1, [0]), (1, [1])])], [], []),
  (1, 20, 1, 0, 0, 0, [], [], []),
  (0, 30, 0, 0, 0, 0, [([1], [(1, [0]), (2, [1])]), ([], [(1, [0])]), ([1], [(1, [0]), (1, [1])]), ([], [(1, [0]), (1, [6])]), ([], [(1, [0]), (1, [7])])], [], []),
  (0, 1, 6, 0, 2, 0, [], [], []),
  (0, 30, 0, 0, 0, 0, [([1], [(1, [0]), (2, [1])]), ([], [(1, [0])]), ([1], [(1, [0]), (1, [1])]), ([], [(1, [0]), (1, [4])]), ([], [(1, [0]), (1, [5])])], [], []),
  (0, 30, 0, 0, 0, 0, [([1], [(1, [0]), (2, [1])]), ([], [(1, [0])]), ([1], [(1, [0]), (1, [1])]), ([], [(1, [0]), (1, [4])]), ([], [(1, [0]), (1, [5])])], [], []),
  (0, 30, 0, 0, 0, 0, [([1], [(1, [0]), (2, [1])]), ([], [(1, [0])]), ([1], [(1, [0]), (1, [1])]), ([], [(1, [0]), (1, [4])]), ([], [(1, [0]), (1, [5])])], [], []),
  (0, 30, 0, 0, 0, 0, [([1], [(1, [0]), (2, [1])]), ([], [(1, [0])]), ([1], [(1, [0]), (1, [1])]), ([], [(1, [0]), (1, [4])]), ([], [(1, [0]), (1, [5])])], [], []),
  (0, 30, 0, 0, 0, 0, [([1], [(1, [0]), (2, [1])]), ([], [(1, [0])]), ([1], [(1, [0]), (1, [1])]), ([], [(1, [0]), (1, [4])]), ([], [(1, [0]), (1, [5])])], [], []),
  (0, 30, 0, 0, 0, 0, [([1], [(1, [0]), (2, [1])]), ([], [(1, [0])]), ([1], [(1, [0]), (1, [1])]), ([], [(1, [0]), (1, [4])]), ([], [(1, [0]), (1, [5])])], [], []),
  (3, 5, 398, 2, 0, 0, [], [], []),
  (0, 7, 0, 0, 0, 0, [([5], [(1, [2]), (1, [0])])], [], []),
  (0, 7, 0, 0, 0, 0, [([5], [(1, [2]), (1, [1])])], [], []),
  (0, 3, 7, 0, 0, 2147483647, [([], [(1, [0]), (1, [1])]), ([7], [(1, [0]), (1, [2])])], [], []),
  (0, 5, 398, 3, 0, 0, [], [], []),
  (0, 7, 0, 0, 0, 0, [([5], [(1, [2]), (1, [0])])], [], []),
  (0, 7, 0, 0, 0, 0, [([5], [(1, [2]), (1, [1])])], [], []),
  (0, 3, 7, 0, 0, 2, [([7], [(1, [0]), (1, [1])]), ([], [(1, [0]), (1, [1])])], [], []),
  (1, 20, 2, 0, 0, 0, [], [], []),
  (0, 30, 0, 0, 0, 0, [([1], [(1, [0]), (2, [1])]), ([], [(1, [0])]), ([1], [(1, [0]), (1, [1])]), ([], [(1, [0]), (1, [6])]), ([], [(1, [0]), (1, [7])])], [], []),
  (0, 30, 0, 0, 0, 0, [([1], [(1, [0]), (2, [1])]), ([], [(1, [0])]), ([1], [(1, [0]), (1, [1])]), ([], [(1, [0]), (1, [4])]), ([], [(1, [0]), (1, [5])])], [], []),
  (0, 30, 0, 0, 0, 0, [([1], [(1, [0]), (2, [1])]), ([], [(1, [0])]), ([1], [(1, [0]), (1, [1])]), ([], [(1, [0]), (1, [4])]), ([], [(1, [0]), (1, [5])])], [], []),
  (0, 30, 0, 0, 0, 0, [([1], [(1, [0]), (2, [1])]), ([], [(1, [0])]), ([1], [(1, [0]), (1, [1])]), ([], [(1, [0]), (1, [4])]), ([], [(1, [0]), (1, [5])])], [], []),
  (0, 30, 0, 0, 0, 0, [([1], [(1, [0]), (2, [1])]), ([], [(1, [0])]), ([1], [(1, [0]), (1, [1])]), ([], [(1, [0]), (1, [4])]), ([], [(1, [0]), (1, [5])])], [], []),
  (0, 30, 0, 0, 0, 0, [([1], [(1, [0]), (2, [1])]), ([], [(1, [0])]), ([1], [(1, [0]), (1, [1])]), ([], [(1, [0]), (1, [4])]), ([], [(1, [0]), (1, [5])])], [], []),
  (0, 30, 0, 0, 0, 0, [([1], [(1, [0]), (2, [1])]), ([], [(1, [0])]), ([1], [(1, [0]), (1, [1])]), ([], [(1, [0]), (1, [4])]), ([], [(1, [0]), (1, [5])])], [], []),
  (3, 5, 398, 2, 0, 0, [], [], []),
  (0, 7, 0, 0, 0, 0, [([5], [(1, [2]), (1, [0])])], [], []),
  (0, 7, 0, 0, 0, 0, [([5], [(1, [2]), (1, [1])])], [], []),
  (0, 3, 7, 0, 0, 2147483647, [([], [(1, [0]), (1, [1])]), ([7], [(1, [0]), (1, [2])])], [], []),
  (0, 5, 398, 3, 0, 0, [], [], []),
  (0, 7, 0, 0, 0, 0, [([5], [(1, [2]), (1, [0])])], [], []),
  (0, 7, 0, 0, 0, 0, [([5], [(1, [2]), (1, [1])])], [], []),
  (0, 3, 7, 0, 0, 2, [([7], [(1, [0]), (1, [1])]), ([], [(1, [0]), (1, [1])])], [], []),
  (1, 20, 3, 0, 0, 0, [], [], []),
  (0, 30, 0, 0, 0, 0, [([1], [(1, [0]), (2, [1])]), ([], [(1, [0])]), ([1], [(1, [0]), (1, [1])]), ([], [(1, [0]), (1, [6])]), ([], [(1, [0]), (1, [7])])], [], []),
  (0, 30, 0, 0, 0, 0, [([5], [(1, [0]), (2, [1])]), ([], [(1, [0]), (2, [2])]), ([0], [(1, [0]), (1, [6]), (1, [1]), (1, [4])]), ([0], [(1, [0]), (1, [7]), (1, [2]), (1, [3])])], [], []),
  (0, 1, 0, 0, 2, 0, [], [], []),
  (60, 5, 399, 0, 0, 0, [], [], []),
  (0, 3, 6, 0, 0, 2147483647, [([], [(1, [0]), (1, [1])]), ([6], [(1, [0]), (1, [2])])], [], []),
  (0, 5, 399, 1, 0, 0, [], [], []),
  (0, 3, 6, 0, 0, 3, [([6], [(1, [0]), (1, [1])]), ([], [(1, [0]), (1, [1])])], [], []),
  (4, 1, 6, 0, 0, 0, [], [], []),
  (0, 30, 0, 0, 0, 0, [([1], [(1, [0]), (2, [1])]), ([], [(1, [0])]), ([1], [(1, [0]), (1, [1])]), ([], [(1, [0]), (1, [4])]), ([], [(1, [0]), (1, [5])])], [], []),
  (0, 30, 0, 0, 0, 0, [([1], [(1, [0]), (2, [1])]), ([], [(1, [0])]), ([1], [(1, [0]), (1, [1])]), ([], [(1, [0]), (1, [4])]), ([], [(1, [0]), (1, [5])])], [], []),
  (0, 30, 0, 0, 0, 0, [([1], [(1, [0]), (2, [1])]), ([], [(1, [0])]), ([1], [(1, [0]), (1, [1])]), ([], [(1, [0]), (1, [4])]), ([], [(1, [0]), (1, [5])])], [], []),
  (0, 30, 0, 0, 0, 0, [([1], [(1, [0]), (2, [1])]), ([], [(1, [0])]), ([1], [(1, [0]), (1, [1])]), ([], [(1, [0]), (1, [4])]), ([], [(1, [0]), (1, [5])])], [], []),
  (0, 30, 0, 0, 0, 0, [([1], [(1, [0]), (2, [1])]), ([], [(1, [0])]), ([1], [(1, [0]), (1, [1])]), ([], [(1, [0]), (1, [4])]), ([], [(1, [0]), (1, [5])])], [], []),
  (0, 30, 0, 0, 0, 0, [([1], [(1, [0]), (2, [1])]), ([], [(1, [0])]), ([1], [(1, [0]), (1, [1])]), ([], [(1, [0]), (1, [4])]), ([], [(1, [0]), (1, [5])])], [], []),
  (3, 5, 399, 2, 0, 0, [], [], []),
  (0, 7, 0, 0, 0, 0, [([5], [(1, [2]), (1, [0])])], [], []),
  (0, 7, 0, 0, 0, 0, [([5], [(1, [2]), (1, [1])])], [], []),
  (0, 3, 7, 0, 0, 2147483647, [([], [(1, [0]), (1, [1])]), ([7], [(1, [0]), (1, [2])])], [], []),
  (0, 5, 399, 3, 0, 0, [], [], []),
  (0, 7, 0, 0, 0, 0, [([5], [(1, [2]), (1, [0])])], [], []),
  (0, 7, 0, 0, 0, 0, [([5], [(1, [2]), (1, [1])])], [], []),
  (0, 3, 7, 0, 0, 2, [([7], [(1, [0]), (1, [1])]), ([], [(1, [0]), (1, [1])])], [], []),
  (1, 20, 0, 0, 0, 0, [], [], []),
  (0, 30, 0, 0, 0, 0, [([1], [(1, [0]), (2, [1])]), ([], [(1, [0])]), ([1], [(1, [0]), (1, [1])]), ([], [(1, [0]), (1, [6])]), ([], [(1, [0]), (1, [7])])], [], []),
  (0, 1, 6, 0, 1, 0, [], [], []),
  (0, 30, 0, 0, 0, 0, [([1], [(1, [0]), (2, [1])]), ([], [(1, [0])]), ([1], [(1, [0]), (1, [1])]), ([], [(1, [0]), (1, [4])]), ([], [(1, [0]), (1, [5])])], [], []),
  (0, 30, 0, 0, 0, 0, [([1], [(1, [0]), (2, [1])]), ([], [(1, [0])]), ([1], [(1, [0]), (1, [1])]), ([], [(1, [0]), (1, [4])]), ([], [(1, [0]), (1, [5])])], [], []),
  (0, 30, 0, 0, 0, 0, [([1], [(1, [0]), (2, [1])]), ([], [(1, [0])]), ([1], [(1, [0]), (1, [1])]), ([], [(1, [0]), (1, [4])]), ([], [(1, [0]), (1, [5])])], [], []),
  (0, 30, 0, 0, 0, 0, [([1], [(1, [0]), (2, [1])]), ([], [(1, [0])]), ([1], [(1, [0]), (1, [1])]), ([], [(1, [0]), (1, [4])]), ([], [(1, [0]), (1, [5])])], [], []),
  (0, 30, 0, 0, 0, 0, [([1], [(1, [0]), (2, [1])]), ([], [(1, [0])]), ([1], [(1, [0]), (1, [1])]), ([], [(1, [0]), (1, [4])]), ([], [(1, [0]), (1, [5])])], [], []),
  (0, 30, 0, 0, 0, 0, [([1], [(1, [0]), (2, [1])]), ([], [(1, [0])]), ([1], [(1, [0]), (1, [1])]), ([], [(1, [0]), (1, [4])]), ([], [(1, [0]), (1, [5])])], [], []),
  (3, 5, 399, 2, 0, 0, [], [], []),
  (0, 7, 0, 0, 0, 0, [([5], [(1, [2]), (1, [0])])], [], []),
  (0, 7, 0, 0, 0, 0, [([5], [(1, [2]), (1, [1])])], [], []),
  (0, 3, 7, 0, 0, 2147483647, [([], [(1, [0]), (1, [1])]), ([7], [(1, [0]), (1, [2])])], [], []),
  (0, 5, 399, 3, 0, 0, [], [], []),
  (0, 7, 0, 0, 0, 0, [([5], [(1, [2]), (1, [0])])], [], []),
  (0, 7, 0, 0, 0, 0, [([5], [(1, [2]), (1, [1])])], [], []),
  (0, 3, 7, 0, 0, 2, [([7], [(1, [0]), (1, [1])]), ([], [(1, [0]), (1, [1])])], [], []),
  (1, 20, 1, 0, 0, 0, [], [], []),
  (0, 30, 0, 0, 0, 0, [([1], [(1, [0]), (2, [1])]), ([], [(1, [0])]), ([1], [(1, [0]), (1, [1])]), ([], [(1, [0]), (1, [6])]), ([], [(1, [0]), (1, [7])])], [], []),
  (0, 1, 6, 0, 2, 0, [], [], []),
  (0, 30, 0, 0, 0, 0, [([1], [(1, [0]), (2, [1])]), ([], [(1, [0])]), ([1], [(1, [0]), (1, [1])]), ([], [(1, [0]), (1, [4])]), ([], [(1, [0]), (1, [5])])], [], []),
  (0, 30, 0, 0, 0, 0, [([1], [(1, [0]), (2, [1])]), ([], [(1, [0])]), ([1], [(1, [0]), (1, [1])]), ([], [(1, [0]), (1, [4])]), ([], [(1, [0]), (1, [5])])], [], []),
  (0, 30, 0, 0, 0, 0, [([1], [(1, [0]), (2, [1])]), ([], [(1, [0])]), ([1], [(1, [0]), (1, [1])]), ([], [(1, [0]), (1, [4])]), ([], [(1, [0]), (1, [5])])], [], []),
  (0, 30, 0, 0, 0, 0, [([1], [(1, [0]), (2, [1])]), ([], [(1, [0])]), ([1], [(1, [0]), (1, [1])]), ([], [(1, [0]), (1, [4])]), ([], [(1, [0]), (1, [5])])], [], []),
  (0, 30, 0, 0, 0, 0, [([1], [(1, [0]), (2, [1])]), ([], [(1, [0])]), ([1], [(1, [0]), (1, [1])]), ([], [(1, [0]), (1, [4])]), ([], [(1, [0]), (1, [5])])], [], []),
  (0, 30, 0, 0, 0, 0, [([1], [(1, [0]), (2, [1])]), ([], [(1, [0])]), ([1], [(1, [0]), (1, [1])]), ([], [(1, [0]), (1, [4])]), ([], [(1, [0]), (1, [5])])], [], []),
  (3, 5, 399, 2, 0, 0, [], [], []),
  (0, 7, 0, 0, 0, 0, [([5], [(1, [2]), (1, [0])])], [], []),
  (0, 7, 0, 0, 0, 0, [([5], [(1, [2]), (1, [1])])], [], []),
  (0, 3, 7, 0, 0, 2147483647, [([], [(1, [0]), (1, [1])]), ([7], [(1, [0]), (1, [2])])], [], []),
  (0, 5, 399, 3, 0, 0, [], [], [])]
set_option maxRecDepth 100000 in
noncomputable def sz_h578_1_1 : List sy_Hn := [(0, 7, 0, 0, 0, 0, [([5], [(1, [2]), (1, [0])])], [], []),
  (0, 7, 0, 0, 0, 0, [([5], [(1, [2]), (1, [1])])], [], []),
  (0, 3, 7, 0, 0, 2, [([7], [(1, [0]), (1, [1])]), ([], [(1, [0]), (1, [1])])], [], []),
  (1, 20, 2, 0, 0, 0, [], [], []),
  (0, 30, 0, 0, 0, 0, [([1], [(1, [0]), (2, [1])]), ([], [(1, [0])]), ([1], [(1, [0]), (1, [1])]), ([], [(1, [0]), (1, [6])]), ([], [(1, [0]), (1, [7])])], [], []),
  (0, 30, 0, 0, 0, 0, [([1], [(1, [0]), (2, [1])]), ([], [(1, [0])]), ([1], [(1, [0]), (1, [1])]), ([], [(1, [0]), (1, [4])]), ([], [(1, [0]), (1, [5])])], [], []),
  (0, 30, 0, 0, 0, 0, [([1], [(1, [0]), (2, [1])]), ([], [(1, [0])]), ([1], [(1, [0]), (1, [1])]), ([], [(1, [0]), (1, [4])]), ([], [(1, [0]), (1, [5])])], [], []),
  (0, 30, 0, 0, 0, 0, [([1], [(1, [0]), (2, [1])]), ([], [(1, [0])]), ([1], [(1, [0]), (1, [1])]), ([], [(1, [0]), (1, [4])]), ([], [(1, [0]), (1, [5])])], [], []),
  (0, 30, 0, 0, 0, 0, [([1], [(1, [0]), (2, [1])]), ([], [(1, [0])]), ([1], [(1, [0]), (1, [1])]), ([], [(1, [0]), (1, [4])]), ([], [(1, [0]), (1, [5])])], [], []),
  (0, 30, 0, 0, 0, 0, [([1], [(1, [0]), (2, [1])]), ([], [(1, [0])]), ([1], [(1, [0]), (1, [1])]), ([], [(1, [0]), (1, [4])]), ([], [(1, [0]), (1, [5])])], [], []),
  (0, 30, 0, 0, 0, 0, [([1], [(1, [0]), (2, [1])]), ([], [(1, [0])]), ([1], [(1, [0]), (1, [1])]), ([], [(1, [0]), (1, [4])]), ([], [(1, [0]), (1, [5])])], [], []),
  (3, 5, 399, 2, 0, 0, [], [], []),
  (0, 7, 0, 0, 0, 0, [([5], [(1, [2]), (1, [0])])], [], []),
  (0, 7, 0, 0, 0, 0, [([5], [(1, [2]), (1, [1])])], [], []),
  (0, 3, 7, 0, 0, 2147483647, [([], [(1, [0]), (1, [1])]), ([7], [(1, [0]), (1, [2])])], [], []),
  (0, 5, 399, 3, 0, 0, [], [], []),
  (0, 7, 0, 0, 0, 0, [([5], [(1, [2]), (1, [0])])], [], []),
  (0, 7, 0, 0, 0, 0, [([5], [(1, [2]), (1, [1])])], [], []),
  (0, 3, 7, 0, 0, 2, [([7], [(1, [0]), (1, [1])]), ([], [(1, [0]), (1, [1])])], [], []),
  (1, 20, 3, 0, 0, 0, [], [], []),
  (0, 30, 0, 0, 0, 0, [([1], [(1, [0]), (2, [1])]), ([], [(1, [0])]), ([1], [(1, [0]), (1, [1])]), ([], [(1, [0]), (1, [6])]), ([], [(1, [0]), (1, [7])])], [], []),
  (0, 30, 0, 0, 0, 0, [([5], [(1, [0]), (2, [1])]), ([], [(1, [0]), (2, [2])]), ([0], [(1, [0]), (1, [6]), (1, [1]), (1, [4])]), ([0], [(1, [0]), (1, [7]), (1, [2]), (1, [3])])], [], []),
  (0, 1, 0, 0, 3, 0, [], [], []),
  (60, 5, 400, 0, 0, 0, [], [], []),
  (0, 3, 6, 0, 0, 2147483647, [([], [(1, [0]), (1, [1])]), ([6], [(1, [0]), (1, [2])])], [], []),
  (0, 5, 400, 1, 0, 0, [], [], []),
  (0, 3, 6, 0, 0, 3, [([6], [(1, [0]), (1, [1])]), ([], [(1, [0]), (1, [1])])], [], []),
  (4, 1, 6, 0, 0, 0, [], [], []),
  (0, 30, 0, 0, 0, 0, [([1], [(1, [0]), (2, [1])]), ([], [(1, [0])]), ([1], [(1, [0]), (1, [1])]), ([], [(1, [0]), (1, [4])]), ([], [(1, [0]), (1, [5])])], [], []),
  (0, 30, 0, 0, 0, 0, [([1], [(1, [0]), (2, [1])]), ([], [(1, [0])]), ([1], [(1, [0]), (1, [1])]), ([], [(1, [0]), (1, [4])]), ([], [(1, [0]), (1, [5])])], [], []),
  (0, 30, 0, 0, 0, 0, [([1], [(1, [0]), (2, [1])]), ([], [(1, [0])]), ([1], [(1, [0]), (1, [1])]), ([], [(1, [0]), (1, [4])]), ([], [(1, [0]), (1, [5])])], [], []),
  (0, 30, 0, 0, 0, 0, [([1], [(1, [0]), (2, [1])]), ([], [(1, [0])]), ([1], [(1, [0]), (1, [1])]), ([], [(1, [0]), (1, [4])]), ([], [(1, [0]), (1, [5])])], [], []),
  (0, 30, 0, 0, 0, 0, [([1], [(1, [0]), (2, [1])]), ([], [(1, [0])]), ([1], [(1, [0]), (1, [1])]), ([], [(1, [0]), (1, [4])]), ([], [(1, [0]), (1, [5])])], [], []),
  (0, 30, 0, 0, 0, 0, [([1], [(1, [0]), (2, [1])]), ([], [(1, [0])]), ([1], [(1, [0]), (1, [1])]), ([], [(1, [0]), (1, [4])]), ([], [(1, [0]), (1, [5])])], [], []),
  (3, 5, 400, 2, 0, 0, [], [], []),
  (0, 7, 0, 0, 0, 0, [([5], [(1, [2]), (1, [0])])], [], []),
  (0, 7, 0, 0, 0, 0, [([5], [(1, [2]), (1, [1])])], [], []),
  (0, 3, 7, 0, 0, 2147483647, [([], [(1, [0]), (1, [1])]), ([7], [(1, [0]), (1, [2])])], [], []),
  (0, 5, 400, 3, 0, 0, [], [], []),
  (0, 7, 0, 0, 0, 0, [([5], [(1, [2]), (1, [0])])], [], []),
  (0, 7, 0, 0, 0, 0, [([5], [(1, [2]), (1, [1])])], [], []),
  (0, 3, 7, 0, 0, 2, [([7], [(1, [0]), (1, [1])]), ([], [(1, [0]), (1, [1])])], [], []),
  (1, 20, 0, 0, 0, 0, [], [], []),
  (0, 30, 0, 0, 0, 0, [([1], [(1, [0]), (2, [1])]), ([], [(1, [0])]), ([1], [(1, [0]), (1, [1])]), ([], [(1, [0]), (1, [6])]), ([], [(1, [0]), (1, [7])])], [], []),
  (0, 1, 6, 0, 1, 0, [], [], []),
  (0, 30, 0, 0, 0, 0, [([1], [(1, [0]), (2, [1])]), ([], [(1, [0])]), ([1], [(1, [0]), (1, [1])]), ([], [(1, [0]), (1, [4])]), ([], [(1, [0]), (1, [5])])], [], []),
  (0, 30, 0, 0, 0, 0, [([1], [(1, [0]), (2, [1])]), ([], [(1, [0])]), ([1], [(1, [0]), (1, [1])]), ([], [(1, [0]), (1, [4])]), ([], [(1, [0]), (1, [5])])], [], []),
  (0, 30, 0, 0, 0, 0, [([1], [(1, [0]), (2, [1])]), ([], [(1, [0])]), ([1], [(1, [0]), (1, [1])]), ([], [(1, [0]), (1, [4])]), ([], [(1, [0]), (1, [5])])], [], []),
  (0, 30, 0, 0, 0, 0, [([1], [(1, [0]), (2, [1])]), ([], [(1, [0])]), ([1], [(1, [0]), (1, [1])]), ([], [(1, [0]), (1, [4])]), ([], [(1, [0]), (1, [5])])], [], []),
  (0, 30, 0, 0, 0, 0, [([1], [(1, [0]), (2, [1])]), ([], [(1, [0])]), ([1], [(1, [0]), (1, [1])]), ([], [(1, [0]), (1, [4])]), ([], [(1, [0]), (1, [5])])], [], []),
  (0, 30, 0, 0, 0, 0, [([1], [(1, [0]), (2, [1])]), ([], [(1, [0])]), ([1], [(1, [0]), (1, [1])]), ([], [(1, [0]), (1, [4])]), ([], [(1, [0]), (1, [5])])], [], []),
  (3, 5, 400, 2, 0, 0, [], [], []),
  (0, 7, 0, 0, 0, 0, [([5], [(1, [2]), (1, [0])])], [], []),
  (0, 7, 0, 0, 0, 0, [([5], [(1, [2]), (1, [1])])], [], []),
  (0, 3, 7, 0, 0, 2147483647, [([], [(1, [0]), (1, [1])]), ([7], [(1, [0]), (1, [2])])], [], []),
  (0, 5, 400, 3, 0, 0, [], [], []),
  (0, 7, 0, 0, 0, 0, [([5], [(1, [2]), (1, [0])])], [], []),
  (0, 7, 0, 0, 0, 0, [([5], [(1, [2]), (1, [1])])], [], []),
  (0, 3, 7, 0, 0, 2, [([7], [(1, [0]), (1, [1])]), ([], [(1, [0]), (1, [1])])], [], []),
  (1, 20, 1, 0, 0, 0, [], [], []),
  (0, 30, 0, 0, 0, 0, [([1], [(1, [0]), (2, [1])]), ([], [(1, [0])]), ([1], [(1, [0]), (1, [1])]), ([], [(1, [0]), (1, [6])]), ([], [(1, [0]), (1, [7])])], [], []),
  (0, 1, 6, 0, 2, 0, [], [], []),
  (0, 30, 0, 0, 0, 0, [([1], [(1, [0]), (2, [1])]), ([], [(1, [0])]), ([1], [(1, [0]), (1, [1])]), ([], [(1, [0]), (1, [4])]), ([], [(1, [0]), (1, [5])])], [], []),
  (0, 30, 0, 0, 0, 0, [([1], [(1, [0]), (2, [1])]), ([], [(1, [0])]), ([1], [(1, [0]), (1, [1])]), ([], [(1, [0]), (1, [4])]), ([], [(1, [0]), (1, [5])])], [], []),
  (0, 30, 0, 0, 0, 0, [([1], [(1, [0]), (2, [1])]), ([], [(1, [0])]), ([1], [(1, [0]), (1, [1])]), ([], [(1, [0]), (1, [4])]), ([], [(1, [0]), (1, [5])])], [], []),
  (0, 30, 0, 0, 0, 0, [([1], [(1, [0]), (2, [1])]), ([], [(1, [0])]), ([1], [(1, [0]), (1, [1])]), ([], [(1, [0]), (1, [4])]), ([], [(1, [0]), (1, [5])])], [], []),
  (0, 30, 0, 0, 0, 0, [([1], [(1, [0]), (2, [1])]), ([], [(1, [0])]), ([1], [(1, [0]), (1, [1])]), ([], [(1, [0]), (1, [4])]), ([], [(1, [0]), (1, [5])])], [], []),
  (0, 30, 0, 0, 0, 0, [([1], [(1, [0]), (2, [1])]), ([], [(1, [0])]), ([1], [(1, [0]), (1, [1])]), ([], [(1, [0]), (1, [4])]), ([], [(1, [0]), (1, [5])])], [], []),
  (3, 5, 400, 2, 0, 0, [], [], []),
  (0, 7, 0, 0, 0, 0, [([5], [(1, [2]), (1, [0])])], [], []),
  (0, 7, 0, 0, 0, 0, [([5], [(1, [2]), (1, [1])])], [], []),
  (0, 3, 7, 0, 0, 2147483647, [([], [(1, [0]), (1, [1])]), ([7], [(1, [0]), (1, [2])])], [], []),
  (0, 5, 400, 3, 0, 0, [], [], []),
  (0, 7, 0, 0, 0, 0, [([5], [(1, [2]), (1, [0])])], [], []),
  (0, 7, 0, 0, 0, 0, [([5], [(1, [2]), (1, [1])])], [], []),
  (0, 3, 7, 0, 0, 2, [([7], [(1, [0]), (1, [1])]), ([], [(1, [0]), (1, [1])])], [], []),
  (1, 20, 2, 0, 0, 0, [], [], []),
  (0, 30, 0, 0, 0, 0, [([1], [(1, [0]), (2, [1])]), ([], [(1, [0])]), ([1], [(1, [0]), (1, [1])]), ([], [(1, [0]), (1, [6])]), ([], [(1, [0]), (1, [7])])], [], []),
  (0, 30, 0, 0, 0, 0, [([1], [(1, [0]), (2, [1])]), ([], [(1, [0])]), ([1], [(1, [0]), (1, [1])]), ([], [(1, [0]), (1, [4])]), ([], [(1, [0]), (1, [5])])], [], []),
  (0, 30, 0, 0, 0, 0, [([1], [(1, [0]), (2, [1])]), ([], [(1, [0])]), ([1], [(1, [0]), (1, [1])]), ([], [(1, [0]), (1, [4])]), ([], [(1, [0]), (1, [5])])], [], []),
  (0, 30, 0, 0, 0, 0, [([1], [(1, [0]), (2, [1])]), ([], [(1, [0])]), ([1], [(1, [0]), (1, [1])]), ([], [(1, [0]), (1, [4])]), ([], [(1, [0]), (1, [5])])], [], []),
  (0, 30, 0, 0, 0, 0, [([1], [(1, [0]), (2, [1])]), ([], [(1, [0])]), ([1], [(1, [0]), (1, [1])]), ([], [(1, [0]), (1, [4])]), ([], [(1, [0]), (1, [5])])], [], []),
  (0, 30, 0, 0, 0, 0, [([1], [(1, [0]), (2, [1])]), ([], [(1, [0])]), ([1], [(1, [0]), (1, [1])]), ([], [(1, [0]), (1, [4])]), ([], [(1, [0]), (1, [5])])], [], []),
  (0, 30, 0, 0, 0, 0, [([1], [(1, [0]), (2, [1])]), ([], [(1, [0])]), ([1], [(1, [0]), (1, [1])]), ([], [(1, [0]), (1, [4])]), ([], [(1, [0]), (1, [5])])], [], []),
  (3, 5, 400, 2, 0, 0, [], [], []),
  (0, 7, 0, 0, 0, 0, [([5], [(1, [2]), (1, [0])])], [], []),
  (0, 7, 0, 0, 0, 0, [([5], [(1, [2]), (1, [1])])], [], []),
  (0, 3, 7, 0, 0, 2147483647, [([], [(1, [0]), (1, [1])]), ([7], [(1, [0]), (1, [2])])], [], []),
  (0, 5, 400, 3, 0, 0, [], [], []),
  (0, 7, 0, 0, 0, 0, [([5], [(1, [2]), (1, [0])])], [], []),
  (0, 7, 0, 0, 0, 0, [([5], [(1, [2]), (1, [1])])], [], []),
  (0, 3, 7, 0, 0, 2, [([7], [(1, [0]), (1, [1])]), ([], [(1, [0]), (1, [1])])], [], []),
  (1, 20, 3, 0, 0, 0, [], [], []),
  (0, 30, 0, 0, 0, 0, [([1], [(1, [0]), (2, [1])]), ([], [(1, [0])]), ([1], [(1, [0]), (1, [1])]), ([], [(1, [0]), (1, [6])]), ([], [(1, [0]), (1, [7])])], [], []),
  (0, 30, 0, 0, 0, 0, [([5], [(1, [0]), (2, [1])]), ([], [(1, [0]), (2, [2])]), ([0], [(1, [0]), (1, [6]), (1, [1]), (1, [4])]), ([0], [(1, [0]), (1, [7]), (1, [2]), (1, [3])])], [], []),
  (0, 1, 0, 0, 4, 0, [], [], []),
  (60, 5, 401, 0, 0, 0, [], [], []),
  (0, 3, 6, 0, 0, 2147483647, [([], [(1, [0]), (1, [1])]), ([6], [(1, [0]), (1, [2])])], [], []),
  (0, 5, 401, 1, 0, 0, [], [], []),
  (0, 3, 6, 0, 0, 3, [([6], [(1, [0]), (1, [1])]), ([], [(1, [0]), (1, [1])])], [], []),
  (4, 1, 6, 0, 0, 0, [], [], []),
  (0, 30, 0, 0, 0, 0, [([1], [(1, [0]), (2, [1])]), ([], [(1, [0])]), ([1], [(1, [0]), (1, [1])]), ([], [(1, [0]), (1, [4])]), ([], [(1, [0]), (1, [5])])], [], []),
  (0, 30, 0, 0, 0, 0, [([1], [(1, [0]), (2, [1])]), ([], [(1, [0])]), ([1], [(1, [0]), (1, [1])]), ([], [(1, [0]), (1, [4])]), ([], [(1, [0]), (1, [5])])], [], []),
  (0, 30, 0, 0, 0, 0, [([1], [(1, [0]), (2, [1])]), ([], [(1, [0])]), ([1], [(1, [0]), (1, [1])]), ([], [(1, [0]), (1, [4])]), ([], [(1, [0]), (1, [5])])], [], []),
  (0, 30, 0, 0, 0, 0, [([1], [(1, [0]), (2, [1])]), ([], [(1, [0])]), ([1], [(1, [0]), (1, [1])]), ([], [(1, [0]), (1, [4])]), ([], [(1, [0]), (1, [5])])], [], []),
  (0, 30, 0, 0, 0, 0, [([1], [(1, [0]), (2, [1])]), ([], [(1, [0])]), ([1], [(1, [0]), (1, [1])]), ([], [(1, [0]), (1, [4])]), ([], [(1, [0]), (1, [5])])], [], []),
  (0, 30, 0, 0, 0, 0, [([1], [(1, [0]), (2, [1])]), ([], [(1, [0])]), ([1], [(1, [0]), (1, [1])]), ([], [(1, [0]), (1, [4])]), ([], [(1, [0]), (1, [5])])], [], []),
  (3, 5, 401, 2, 0, 0, [], [], []),
  (0, 7, 0, 0, 0, 0, [([5], [(1, [2]), (1, [0])])], [], []),
  (0, 7, 0, 0, 0, 0, [([5], [(1, [2]), (1, [1])])], [], []),
  (0, 3, 7, 0, 0, 2147483647, [([], [(1, [0]), (1, [1])]), ([7], [(1, [0]), (1, [2])])], [], []),
  (0, 5, 401, 3, 0, 0, [], [], []),
  (0, 7, 0, 0, 0, 0, [([5], [(1, [2]), (1, [0])])], [], []),
  (0, 7, 0, 0, 0, 0, [([5], [(1, [2]), (1, [1])])], [], []),
  (0, 3, 7, 0, 0, 2, [([7], [(1, [0]), (1, [1])]), ([], [(1, [0]), (1, [1])])], [], []),
  (1, 20, 0, 0, 0, 0, [], [], []),
  (0, 30, 0, 0, 0, 0, [([1], [(1, [0]), (2, [1])]), ([], [(1, [0])]), ([1], [(1, [0]), (1, [1])]), ([], [(1, [0]), (1, [6])]), ([], [(1, [0]), (1, [7])])], [], []),
  (0, 1, 6, 0, 1, 0, [], [], []),
  (0, 30, 0, 0, 0, 0, [([1], [(1, [0]), (2, [1])]), ([], [(1, [0])]), ([1], [(1, [0]), (1, [1])]), ([], [(1, [0]), (1, [4])]), ([], [(1, [0]), (1, [5])])], [], []),
  (0, 30, 0, 0, 0, 0, [([1], [(1, [0]), (2, [1])]), ([], [(1, [0])]), ([1], [(1, [0]), (1, [1])]), ([], [(1, [0]), (1, [4])]), ([], [(1, [0]), (1, [5])])], [], []),
  (0, 30, 0, 0, 0, 0, [([1], [(1, [0]), (2, [1])]), ([], [(1, [0])]), ([1], [(1, [0]), (1, [1])]), ([], [(1, [0]), (1, [4])]), ([], [(1, [0]), (1, [5])])], [], []),
  (0, 30, 0, 0, 0, 0, [([1], [(1, [0]), (2, [1])]), ([], [(1, [0])]), ([1], [(1, [0]), (1, [1])]), ([], [(1, [0]), (1, [4])]), ([], [(1, [0]), (1, [5])])], [], []),
  (0, 30, 0, 0, 0, 0, [([1], [(1, [0]), (2, [1])]), ([], [(1, [0])]), ([1], [(1, [0]), (1, [1])]), ([], [(1, [0]), (1, [4])]), ([], [(1, [0]), (1, [5])])], [], []),
  (0, 30, 0, 0, 0, 0, [([1], [(1, [0]), (2, [1])]), ([], [(1, [0])]), ([1], [(1, [0]), (1, [1])]), ([], [(1, [0]), (1, [4])]), ([], [(1, [0]), (1, [5])])], [], []),
  (3, 5, 401, 2, 0, 0, [], [], []),
  (0, 7, 0, 0, 0, 0, [([5], [(1, [2]), (1, [0])])], [], []),
  (0, 7, 0, 0, 0, 0, [([5], [(1, [2]), (1, [1])])], [], []),
  (0, 3, 7, 0, 0, 2147483647, [([], [(1, [0]), (1, [1])]), ([7], [(1, [0]), (1, [2])])], [], []),
  (0, 5, 401, 3, 0, 0, [], [], []),
  (0, 7, 0, 0, 0, 0, [([5], [(1, [2]), (1, [0])])], [], []),
  (0, 7, 0, 0, 0, 0, [([5], [(1, [2]), (1, [1])])], [], []),
  (0, 3, 7, 0, 0, 2, [([7], [(1, [0]), (1, [1])]), ([], [(1, [0]), (1, [1])])], [], []),
  (1, 20, 1, 0, 0, 0, [], [], []),
  (0, 30, 0, 0, 0, 0, [([1], [(1, [0]), (2, [1])]), ([], [(1, [0])]), ([1], [(1, [0]), (1, [1])]), ([], [(1, [0]), (1, [6])]), ([], [(1, [0]), (1, [7])])], [], []),
  (0, 1, 6, 0, 2, 0, [], [], []),
  (0, 30, 0, 0, 0, 0, [([1], [(1, [0]), (2, [1])]), ([], [(1, [0])]), ([1], [(1, [0]), (1, [1])]), ([], [(1, [0]), (1, [4])]), ([], [(1, [0]), (1, [5])])], [], []),
  (0, 30, 0, 0, 0, 0, [([1], [(1, [0]), (2, [1])]), ([], [(1, [0])]), ([1], [(1, [0]), (1, [1])]), ([], [(1, [0]), (1, [4])]), ([], [(1, [0]), (1, [5])])], [], []),
  (0, 30, 0, 0, 0, 0, [([1], [(1, [0]), (2, [1])]), ([], [(1, [0])]), ([1], [(1, [0]), (1, [1])]), ([], [(1, [0]), (1, [4])]), ([], [(1, [0]), (1, [5])])], [], []),
  (0, 30, 0, 0, 0, 0, [([1], [(1, [0]), (2, [1])]), ([], [(1, [0])]), ([1], [(1, [0]), (1, [1])]), ([], [(1, [0]), (1, [4])]), ([], [(1, [0]), (1, [5])])], [], []),
  (0, 30, 0, 0, 0, 0, [([1], [(1, [0]), (2, [1])]), ([], [(1, [0])]), ([1], [(1, [0]), (1, [1])]), ([], [(1, [0]), (1, [4])]), ([], [(1, [0]), (1, [5])])], [], []),
  (0, 30, 0, 0, 0, 0, [([1], [(1, [0]), (2, [1])]), ([], [(1, [0])]), ([1], [(1, [0]), (1, [1])]), ([], [(1, [0]), (1, [4])]), ([], [(1, [0]), (1, [5])])], [], []),
  (3, 5, 401, 2, 0, 0, [], [], []),
  (0, 7, 0, 0, 0, 0, [([5], [(1, [2]), (1, [0])])], [], []),
  (0, 7, 0, 0, 0, 0, [([5], [(1, [2]), (1, [1])])], [], []),
  (0, 3, 7, 0, 0, 2147483647, [([], [(1, [0]), (1, [1])]), ([7], [(1, [0]), (1, [2])])], [], []),
  (0, 5, 401, 3, 0, 0, [], [], []),
  (0, 7, 0, 0, 0, 0, [([5], [(1, [2]), (1, [0])])], [], []),
  (0, 7, 0, 0, 0, 0, [([5], [(1, [2]), (1, [1])])], [], []),
  (0, 3, 7, 0, 0, 2, [([7], [(1, [0]), (1, [1])]), ([], [(1, [0]), (1, [1])])], [], []),
  (1, 20, 2, 0, 0, 0, [], [], []),
  (0, 30, 0, 0, 0, 0, [([1], [(1, [0]), (2, [1])]), ([], [(1, [0])]), ([1], [(1, [0]), (1, [1])]), ([], [(1, [0]), (1, [6])]), ([], [(1, [0]), (1, [7])])], [], []),
  (0, 30, 0, 0, 0, 0, [([1], [(1, [0]), (2, [1])]), ([], [(1, [0])]), ([1], [(1, [0]), (1, [1])]), ([], [(1, [0]), (1, [4])]), ([], [(1, [0]), (1, [5])])], [], []),
  (0, 30, 0, 0, 0, 0, [([1], [(1, [0]), (2, [1])]), ([], [(1, [0])]), ([1], [(1, [0]), (1, [1])]), ([], [(1, [0]), (1, [4])]), ([], [(1, [0]), (1, [5])])], [], []),
  (0, 30, 0, 0, 0, 0, [([1], [(1, [0]), (2, [1])]), ([], [(1, [0])]), ([1], [(1, [0]), (1, [1])]), ([], [(1, [0]), (1, [4])]), ([], [(1, [0]), (1, [5])])], [], []),
  (0, 30, 0, 0, 0, 0, [([1], [(1, [0]), (2, [1])]), ([], [(1, [0])]), ([1], [(1, [0]), (1, [1])]), ([], [(1, [0]), (1, [4])]), ([], [(1, [0]), (1, [5])])], [], []),
  (0, 30, 0, 0, 0, 0, [([1], [(1, [0]), (2, [1])]), ([], [(1, [0])]), ([1], [(1, [0]), (1, [1])]), ([], [(1, [0]), (1, [4])]), ([], [(1, [0]), (1, [5])])], [], []),
  (0, 30, 0, 0, 0, 0, [([1], [(1, [0]), (2, [1])]), ([], [(1, [0])]), ([1], [(1, [0]), (1, [1])]), ([], [(1, [0]), (1, [4])]), ([], [(1, [0]), (1, [5])])], [], []),
  (3, 5, 401, 2, 0, 0, [], [], []),
  (0, 7, 0, 0, 0, 0, [([5], [(1, [2]), (1, [0])])], [], []),
  (0, 7, 0, 0, 0, 0, [([5], [(1, [2]), (1, [1])])], [], []),
  (0, 3, 7, 0, 0, 2147483647, [([], [(1, [0]), (1, [1])]), ([7], [(1, [0]), (1, [2])])], [], []),
  (0, 5, 401, 3, 0, 0, [], [], []),
  (0, 7, 0, 0, 0, 0, [([5], [(1, [2]), (1, [0])])], [], []),
  (0, 7, 0, 0, 0, 0, [([5], [(1, [2]), (1, [1])])], [], []),
  (0, 3, 7, 0, 0, 2, [([7], [(1, [0]), (1, [1])]), ([], [(1, [0]), (1, [1])])], [], []),
  (1, 20, 3, 0, 0, 0, [], [], []),
  (0, 30, 0, 0, 0, 0, [([1], [(1, [0]), (2, [1])]), ([], [(1, [0])]), ([1], [(1, [0]), (1, [1])]), ([], [(1, [0]), (1, [6])]), ([], [(1, [0]), (1, [7])])], [], []),
  (0, 30, 0, 0, 0, 0, [([5], [(1, [0]), (2, [1])]), ([], [(1, [0]), (2, [2])]), ([0], [(1, [0]), (1, [6]), (1, [1]), (1, [4])]), ([0], [(1, [0]), (1, [7]), (1, [2]), (1, [3])])], [], []),
  (0, 1, 0, 0, 5, 0, [], [], []),
  (60, 5, 402, 0, 0, 0, [], [], []),
  (0, 3, 6, 0, 0, 2147483647, [([], [(1, [0]), (1, [1])]), ([6], [(1, [0]), (1, [2])])], [], []),
  (0, 5, 402, 1, 0, 0, [], [], []),
  (0, 3, 6, 0, 0, 3, [([6], [(1, [0]), (1, [1])]), ([], [(1, [0]), (1, [1])])], [], []),
  (4, 1, 6, 0, 0, 0, [], [], []),
  (0, 30, 0, 0, 0, 0, [([1], [(1, [0]), (2, [1])]), ([], [(1, [0])]), ([1], [(1, [0]), (1, [1])]), ([], [(1, [0]), (1, [4])]), ([], [(1, [0]), (1, [5])])], [], []),
  (0, 30, 0, 0, 0, 0, [([1], [(1, [0]), (2, [1])]), ([], [(1, [0])]), ([1], [(1, [0]), (1, [1])]), ([], [(1, [0]), (1, [4])]), ([], [(1, [0]), (1, [5])])], [], []),
  (0, 30, 0, 0, 0, 0, [([1], [(1, [0]), (2, [1])]), ([], [(1, [0])]), ([1], [(1, [0]), (1, [1])]), ([], [(1, [0]), (1, [4])]), ([], [(1, [0]), (1, [5])])], [], []),
  (0, 30, 0, 0, 0, 0, [([1], [(1, [0]), (2, [1])]), ([], [(1, [0])]), ([1], [(1, [0]), (1, [1])]), ([], [(1, [0]), (1, [4])]), ([], [(1, [0]), (1, [5])])], [], []),
  (0, 30, 0, 0, 0, 0, [([1], [(1, [0]), (2, [1])]), ([], [(1, [0])]), ([1], [(1, [0]), (1, [1])]), ([], [(1, [0]), (1, [4])]), ([], [(1, [0]), (1, [5])])], [], []),
  (0, 30, 0, 0, 0, 0, [([1], [(1, [0]), (2, [1])]), ([], [(1, [0])]), ([1], [(1, [0]), (1, [1])]), ([], [(1, [0]), (1, [4])]), ([], [(1, [0]), (1, [5])])], [], []),
  (3, 5, 402, 2, 0, 0, [], [], []),
  (0, 7, 0, 0, 0, 0, [([5], [(1, [2]), (1, [0])])], [], []),
  (0, 7, 0, 0, 0, 0, [([5], [(1, [2]), (1, [1])])], [], []),
  (0, 3, 7, 0, 0, 2147483647, [([], [(1, [0]), (1, [1])]), ([7], [(1, [0]), (1, [2])])], [], []),
  (0, 5, 402, 3, 0, 0, [], [], []),
  (0, 7, 0, 0, 0, 0, [([5], [(1, [2]), (1, [0])])], [], []),
  (0, 7, 0, 0, 0, 0, [([5], [(1, [2]), (1, [1])])], [], []),
  (0, 3, 7, 0, 0, 2, [([7], [(1, [0]), (1, [1])]), ([], [(1, [0]), (1, [1])])], [], []),
  (1, 20, 0, 0, 0, 0, [], [], []),
  (0, 30, 0, 0, 0, 0, [([1], [(1, [0]), (2, [1])]), ([], [(1, [0])]), ([1], [(1, [0]), (1, [1])]), ([], [(1, [0]), (1, [6])]), ([], [(1, [0]), (1, [7])])], [], []),
  (0, 1, 6, 0, 1, 0, [], [], []),
  (0, 30, 0, 0, 0, 0, [([1], [(1, [0]), (2, [1])]), ([], [(1, [0])]), ([1], [(1, [0]), (1, [1])]), ([], [(1, [0]), (1, [4])]), ([], [(1, [0]), (1, [5])])], [], []),
  (0, 30, 0, 0, 0, 0, [([1], [(1, [0]), (2, [1])]), ([], [(1, [0])]), ([1], [(1, [0]), (1, [1])]), ([], [(1, [0]), (1, [4])]), ([], [(1, [0]), (1, [5])])], [], []),
  (0, 30, 0, 0, 0, 0, [([1], [(1, [0]), (2, [1])]), ([], [(1, [0])]), ([1], [(1, [0]), (1, [1])]), ([], [(1, [0]), (1, [4])]), ([], [(1, [0]), (1, [5])])], [], []),
  (0, 30, 0, 0, 0, 0, [([1], [(1, [0]), (2, [1])]), ([], [(1, [0])]), ([1], [(1, [0]), (1, [1])]), ([], [(1, [0]), (1, [4])]), ([], [(1, [0]), (1, [5])])], [], []),
  (0, 30, 0, 0, 0, 0, [([1], [(1, [0]), (2, [1])]), ([], [(1, [0])]), ([1], [(1, [0]), (1, [1])]), ([], [(1, [0]), (1, [4])]), ([], [(1, [0]), (1, [5])])], [], []),
  (0, 30, 0, 0, 0, 0, [([1], [(1, [0]), (2, [1])]), ([], [(1, [0])]), ([1], [(1, [0]), (1, [1])]), ([], [(1, [0]), (1, [4])]), ([], [(1, [0]), (1, [5])])], [], []),
  (3, 5, 402, 2, 0, 0, [], [], []),
  (0, 7, 0, 0, 0, 0, [([5], [(1, [2]), (1, [0])])], [], []),
  (0, 7, 0, 0, 0, 0, [([5], [(1, [2]), (1, [1])])], [], [])]
set_option maxRecDepth 100000 in
noncomputable def sz_h578_1_2 : List sy_Hn := [(0, 3, 7, 0, 0, 2147483647, [([], [(1, [0]), (1, [1])]), ([7], [(1, [0]), (1, [2])])], [], []),
  (0, 5, 402, 3, 0, 0, [], [], []),
  (0, 7, 0, 0, 0, 0, [([5], [(1, [2]), (1, [0])])], [], []),
  (0, 7, 0, 0, 0, 0, [([5], [(1, [2]), (1, [1])])], [], []),
  (0, 3, 7, 0, 0, 2, [([7], [(1, [0]), (1, [1])]), ([], [(1, [0]), (1, [1])])], [], []),
  (1, 20, 1, 0, 0, 0, [], [], []),
  (0, 30, 0, 0, 0, 0, [([1], [(1, [0]), (2, [1])]), ([], [(1, [0])]), ([1], [(1, [0]), (1, [1])]), ([], [(1, [0]), (1, [6])]), ([], [(1, [0]), (1, [7])])], [], []),
  (0, 1, 6, 0, 2, 0, [], [], []),
  (0, 30, 0, 0, 0, 0, [([1], [(1, [0]), (2, [1])]), ([], [(1, [0])]), ([1], [(1, [0]), (1, [1])]), ([], [(1, [0]), (1, [4])]), ([], [(1, [0]), (1, [5])])], [], []),
  (0, 30, 0, 0, 0, 0, [([1], [(1, [0]), (2, [1])]), ([], [(1, [0])]), ([1], [(1, [0]), (1, [1])]), ([], [(1, [0]), (1, [4])]), ([], [(1, [0]), (1, [5])])], [], []),
  (0, 30, 0, 0, 0, 0, [([1], [(1, [0]), (2, [1])]), ([], [(1, [0])]), ([1], [(1, [0]), (1, [1])]), ([], [(1, [0]), (1, [4])]), ([], [(1, [0]), (1, [5])])], [], []),
  (0, 30, 0, 0, 0, 0, [([1], [(1, [0]), (2, [1])]), ([], [(1, [0])]), ([1], [(1, [0]), (1, [1])]), ([], [(1, [0]), (1, [4])]), ([], [(1, [0]), (1, [5])])], [], []),
  (0, 30, 0, 0, 0, 0, [([1], [(1, [0]), (2, [1])]), ([], [(1, [0])]), ([1], [(1, [0]), (1, [1])]), ([], [(1, [0]), (1, [4])]), ([], [(1, [0]), (1, [5])])], [], []),
  (0, 30, 0, 0, 0, 0, [([1], [(1, [0]), (2, [1])]), ([], [(1, [0])]), ([1], [(1, [0]), (1, [1])]), ([], [(1, [0]), (1, [4])]), ([], [(1, [0]), (1, [5])])], [], []),
  (3, 5, 402, 2, 0, 0, [], [], []),
  (0, 7, 0, 0, 0, 0, [([5], [(1, [2]), (1, [0])])], [], []),
  (0, 7, 0, 0, 0, 0, [([5], [(1, [2]), (1, [1])])], [], []),
  (0, 3, 7, 0, 0, 2147483647, [([], [(1, [0]), (1, [1])]), ([7], [(1, [0]), (1, [2])])], [], []),
  (0, 5, 402, 3, 0, 0, [], [], []),
  (0, 7, 0, 0, 0, 0, [([5], [(1, [2]), (1, [0])])], [], []),
  (0, 7, 0, 0, 0, 0, [([5], [(1, [2]), (1, [1])])], [], []),
  (0, 3, 7, 0, 0, 2, [([7], [(1, [0]), (1, [1])]), ([], [(1, [0]), (1, [1])])], [], []),
  (1, 20, 2, 0, 0, 0, [], [], []),
  (0, 30, 0, 0, 0, 0, [([1], [(1, [0]), (2, [1])]), ([], [(1, [0])]), ([1], [(1, [0]), (1, [1])]), ([], [(1, [0]), (1, [6])]), ([], [(1, [0]), (1, [7])])], [], []),
  (0, 30, 0, 0, 0, 0, [([1], [(1, [0]), (2, [1])]), ([], [(1, [0])]), ([1], [(1, [0]), (1, [1])]), ([], [(1, [0]), (1, [4])]), ([], [(1, [0]), (1, [5])])], [], []),
  (0, 30, 0, 0, 0, 0, [([1], [(1, [0]), (2, [1])]), ([], [(1, [0])]), ([1], [(1, [0]), (1, [1])]), ([], [(1, [0]), (1, [4])]), ([], [(1, [0]), (1, [5])])], [], []),
  (0, 30, 0, 0, 0, 0, [([1], [(1, [0]), (2, [1])]), ([], [(1, [0])]), ([1], [(1, [0]), (1, [1])]), ([], [(1, [0]), (1, [4])]), ([], [(1, [0]), (1, [5])])], [], []),
  (0, 30, 0, 0, 0, 0, [([1], [(1, [0]), (2, [1])]), ([], [(1, [0])]), ([1], [(1, [0]), (1, [1])]), ([], [(1, [0]), (1, [4])]), ([], [(1, [0]), (1, [5])])], [], []),
  (0, 30, 0, 0, 0, 0, [([1], [(1, [0]), (2, [1])]), ([], [(1, [0])]), ([1], [(1, [0]), (1, [1])]), ([], [(1, [0]), (1, [4])]), ([], [(1, [0]), (1, [5])])], [], []),
  (0, 30, 0, 0, 0, 0, [([1], [(1, [0]), (2, [1])]), ([], [(1, [0])]), ([1], [(1, [0]), (1, [1])]), ([], [(1, [0]), (1, [4])]), ([], [(1, [0]), (1, [5])])], [], []),
  (3, 5, 402, 2, 0, 0, [], [], []),
  (0, 7, 0, 0, 0, 0, [([5], [(1, [2]), (1, [0])])], [], []),
  (0, 7, 0, 0, 0, 0, [([5], [(1, [2]), (1, [1])])], [], []),
  (0, 3, 7, 0, 0, 2147483647, [([], [(1, [0]), (1, [1])]), ([7], [(1, [0]), (1, [2])])], [], []),
  (0, 5, 402, 3, 0, 0, [], [], []),
  (0, 7, 0, 0, 0, 0, [([5], [(1, [2]), (1, [0])])], [], []),
  (0, 7, 0, 0, 0, 0, [([5], [(1, [2]), (1, [1])])], [], []),
  (0, 3, 7, 0, 0, 2, [([7], [(1, [0]), (1, [1])]), ([], [(1, [0]), (1, [1])])], [], []),
  (1, 20, 3, 0, 0, 0, [], [], []),
  (0, 30, 0, 0, 0, 0, [([1], [(1, [0]), (2, [1])]), ([], [(1, [0])]), ([1], [(1, [0]), (1, [1])]), ([], [(1, [0]), (1, [6])]), ([], [(1, [0]), (1, [7])])], [], []),
  (0, 30, 0, 0, 0, 0, [([5], [(1, [0]), (2, [1])]), ([], [(1, [0]), (2, [2])]), ([0], [(1, [0]), (1, [6]), (1, [1]), (1, [4])]), ([0], [(1, [0]), (1, [7]), (1, [2]), (1, [3])])], [], []),
  (0, 1, 0, 0, 6, 0, [], [], []),
  (60, 5, 403, 0, 0, 0, [], [], []),
  (0, 3, 6, 0, 0, 2147483647, [([], [(1, [0]), (1, [1])]), ([6], [(1, [0]), (1, [2])])], [], []),
  (0, 5, 403, 1, 0, 0, [], [], []),
  (0, 3, 6, 0, 0, 3, [([6], [(1, [0]), (1, [1])]), ([], [(1, [0]), (1, [1])])], [], []),
  (4, 1, 6, 0, 0, 0, [], [], []),
  (0, 30, 0, 0, 0, 0, [([1], [(1, [0]), (2, [1])]), ([], [(1, [0])]), ([1], [(1, [0]), (1, [1])]), ([], [(1, [0]), (1, [4])]), ([], [(1, [0]), (1, [5])])], [], []),
  (0, 30, 0, 0, 0, 0, [([1], [(1, [0]), (2, [1])]), ([], [(1, [0])]), ([1], [(1, [0]), (1, [1])]), ([], [(1, [0]), (1, [4])]), ([], [(1, [0]), (1, [5])])], [], []),
  (0, 30, 0, 0, 0, 0, [([1], [(1, [0]), (2, [1])]), ([], [(1, [0])]), ([1], [(1, [0]), (1, [1])]), ([], [(1, [0]), (1, [4])]), ([], [(1, [0]), (1, [5])])], [], []),
  (0, 30, 0, 0, 0, 0, [([1], [(1, [0]), (2, [1])]), ([], [(1, [0])]), ([1], [(1, [0]), (1, [1])]), ([], [(1, [0]), (1, [4])]), ([], [(1, [0]), (1, [5])])], [], []),
  (0, 30, 0, 0, 0, 0, [([1], [(1, [0]), (2, [1])]), ([], [(1, [0])]), ([1], [(1, [0]), (1, [1])]), ([], [(1, [0]), (1, [4])]), ([], [(1, [0]), (1, [5])])], [], []),
  (0, 30, 0, 0, 0, 0, [([1], [(1, [0]), (2, [1])]), ([], [(1, [0])]), ([1], [(1, [0]), (1, [1])]), ([], [(1, [0]), (1, [4])]), ([], [(1, [0]), (1, [5])])], [], []),
  (3, 5, 403, 2, 0, 0, [], [], []),
  (0, 7, 0, 0, 0, 0, [([5], [(1, [2]), (1, [0])])], [], []),
  (0, 7, 0, 0, 0, 0, [([5], [(1, [2]), (1, [1])])], [], []),
  (0, 3, 7, 0, 0, 2147483647, [([], [(1, [0]), (1, [1])]), ([7], [(1, [0]), (1, [2])])], [], []),
  (0, 5, 403, 3, 0, 0, [], [], []),
  (0, 7, 0, 0, 0, 0, [([5], [(1, [2]), (1, [0])])], [], []),
  (0, 7, 0, 0, 0, 0, [([5], [(1, [2]), (1, [1])])], [], []),
  (0, 3, 7, 0, 0, 2, [([7], [(1, [0]), (1, [1])]), ([], [(1, [0]), (1, [1])])], [], []),
  (1, 20, 0, 0, 0, 0, [], [], []),
  (0, 30, 0, 0, 0, 0, [([1], [(1, [0]), (2, [1])]), ([], [(1, [0])]), ([1], [(1, [0]), (1, [1])]), ([], [(1, [0]), (1, [6])]), ([], [(1, [0]), (1, [7])])], [], []),
  (0, 1, 6, 0, 1, 0, [], [], []),
  (0, 30, 0, 0, 0, 0, [([1], [(1, [0]), (2, [1])]), ([], [(1, [0])]), ([1], [(1, [0]), (1, [1])]), ([], [(1, [0]), (1, [4])]), ([], [(1, [0]), (1, [5])])], [], []),
  (0, 30, 0, 0, 0, 0, [([1], [(1, [0]), (2, [1])]), ([], [(1, [0])]), ([1], [(1, [0]), (1, [1])]), ([], [(1, [0]), (1, [4])]), ([], [(1, [0]), (1, [5])])], [], []),
  (0, 30, 0, 0, 0, 0, [([1], [(1, [0]), (2, [1])]), ([], [(1, [0])]), ([1], [(1, [0]), (1, [1])]), ([], [(1, [0]), (1, [4])]), ([], [(1, [0]), (1, [5])])], [], []),
  (0, 30, 0, 0, 0, 0, [([1], [(1, [0]), (2, [1])]), ([], [(1, [0])]), ([1], [(1, [0]), (1, [1])]), ([], [(1, [0]), (1, [4])]), ([], [(1, [0]), (1, [5])])], [], []),
  (0, 30, 0, 0, 0, 0, [([1], [(1, [0]), (2, [1])]), ([], [(1, [0])]), ([1], [(1, [0]), (1, [1])]), ([], [(1, [0]), (1, [4])]), ([], [(1, [0]), (1, [5])])], [], []),
  (0, 30, 0, 0, 0, 0, [([1], [(1, [0]), (2, [1])]), ([], [(1, [0])]), ([1], [(1, [0]), (1, [1])]), ([], [(1, [0]), (1, [4])]), ([], [(1, [0]), (1, [5])])], [], []),
  (3, 5, 403, 2, 0, 0, [], [], []),
  (0, 7, 0, 0, 0, 0, [([5], [(1, [2]), (1, [0])])], [], []),
  (0, 7, 0, 0, 0, 0, [([5], [(1, [2]), (1, [1])])], [], []),
  (0, 3, 7, 0, 0, 2147483647, [([], [(1, [0]), (1, [1])]), ([7], [(1, [0]), (1, [2])])], [], []),
  (0, 5, 403, 3, 0, 0, [], [], []),
  (0, 7, 0, 0, 0, 0, [([5], [(1, [2]), (1, [0])])], [], []),
  (0, 7, 0, 0, 0, 0, [([5], [(1, [2]), (1, [1])])], [], []),
  (0, 3, 7, 0, 0, 2, [([7], [(1, [0]), (1, [1])]), ([], [(1, [0]), (1, [1])])], [], []),
  (1, 20, 1, 0, 0, 0, [], [], []),
  (0, 30, 0, 0, 0, 0, [([1], [(1, [0]), (2, [1])]), ([], [(1, [0])]), ([1], [(1, [0]), (1, [1])]), ([], [(1, [0]), (1, [6])]), ([], [(1, [0]), (1, [7])])], [], []),
  (0, 1, 6, 0, 2, 0, [], [], []),
  (0, 30, 0, 0, 0, 0, [([1], [(1, [0]), (2, [1])]), ([], [(1, [0])]), ([1], [(1, [0]), (1, [1])]), ([], [(1, [0]), (1, [4])]), ([], [(1, [0]), (1, [5])])], [], []),
  (0, 30, 0, 0, 0, 0, [([1], [(1, [0]), (2, [1])]), ([], [(1, [0])]), ([1], [(1, [0]), (1, [1])]), ([], [(1, [0]), (1, [4])]), ([], [(1, [0]), (1, [5])])], [], []),
  (0, 30, 0, 0, 0, 0, [([1], [(1, [0]), (2, [1])]), ([], [(1, [0])]), ([1], [(1, [0]), (1, [1])]), ([], [(1, [0]), (1, [4])]), ([], [(1, [0]), (1, [5])])], [], []),
  (0, 30, 0, 0, 0, 0, [([1], [(1, [0]), (2, [1])]), ([], [(1, [0])]), ([1], [(1, [0]), (1, [1])]), ([], [(1, [0]), (1, [4])]), ([], [(1, [0]), (1, [5])])], [], []),
  (0, 30, 0, 0, 0, 0, [([1], [(1, [0]), (2, [1])]), ([], [(1, [0])]), ([1], [(1, [0]), (1, [1])]), ([], [(1, [0]), (1, [4])]), ([], [(1, [0]), (1, [5])])], [], []),
  (0, 30, 0, 0, 0, 0, [([1], [(1, [0]), (2, [1])]), ([], [(1, [0])]), ([1], [(1, [0]), (1, [1])]), ([], [(1, [0]), (1, [4])]), ([], [(1, [0]), (1, [5])])], [], []),
  (3, 5, 403, 2, 0, 0, [], [], []),
  (0, 7, 0, 0, 0, 0, [([5], [(1, [2]), (1, [0])])], [], []),
  (0, 7, 0, 0, 0, 0, [([5], [(1, [2]), (1, [1])])], [], []),
  (0, 3, 7, 0, 0, 2147483647, [([], [(1, [0]), (1, [1])]), ([7], [(1, [0]), (1, [2])])], [], []),
  (0, 5, 403, 3, 0, 0, [], [], []),
  (0, 7, 0, 0, 0, 0, [([5], [(1, [2]), (1, [0])])], [], []),
  (0, 7, 0, 0, 0, 0, [([5], [(1, [2]), (1, [1])])], [], []),
  (0, 3, 7, 0, 0, 2, [([7], [(1, [0]), (1, [1])]), ([], [(1, [0]), (1, [1])])], [], []),
  (1, 20, 2, 0, 0, 0, [], [], []),
  (0, 30, 0, 0, 0, 0, [([1], [(1, [0]), (2, [1])]), ([], [(1, [0])]), ([1], [(1, [0]), (1, [1])]), ([], [(1, [0]), (1, [6])]), ([], [(1, [0]), (1, [7])])], [], []),
  (0, 30, 0, 0, 0, 0, [([1], [(1, [0]), (2, [1])]), ([], [(1, [0])]), ([1], [(1, [0]), (1, [1])]), ([], [(1, [0]), (1, [4])]), ([], [(1, [0]), (1, [5])])], [], []),
  (0, 30, 0, 0, 0, 0, [([1], [(1, [0]), (2, [1])]), ([], [(1, [0])]), ([1], [(1, [0]), (1, [1])]), ([], [(1, [0]), (1, [4])]), ([], [(1, [0]), (1, [5])])], [], []),
  (0, 30, 0, 0, 0, 0, [([1], [(1, [0]), (2, [1])]), ([], [(1, [0])]), ([1], [(1, [0]), (1, [1])]), ([], [(1, [0]), (1, [4])]), ([], [(1, [0]), (1, [5])])], [], []),
  (0, 30, 0, 0, 0, 0, [([1], [(1, [0]), (2, [1])]), ([], [(1, [0])]), ([1], [(1, [0]), (1, [1])]), ([], [(1, [0]), (1, [4])]), ([], [(1, [0]), (1, [5])])], [], []),
  (0, 30, 0, 0, 0, 0, [([1], [(1, [0]), (2, [1])]), ([], [(1, [0])]), ([1], [(1, [0]), (1, [1])]), ([], [(1, [0]), (1, [4])]), ([], [(1, [0]), (1, [5])])], [], []),
  (0, 30, 0, 0, 0, 0, [([1], [(1, [0]), (2, [1])]), ([], [(1, [0])]), ([1], [(1, [0]), (1, [1])]), ([], [(1, [0]), (1, [4])]), ([], [(1, [0]), (1, [5])])], [], []),
  (3, 5, 403, 2, 0, 0, [], [], []),
  (0, 7, 0, 0, 0, 0, [([5], [(1, [2]), (1, [0])])], [], []),
  (0, 7, 0, 0, 0, 0, [([5], [(1, [2]), (1, [1])])], [], []),
  (0, 3, 7, 0, 0, 2147483647, [([], [(1, [0]), (1, [1])]), ([7], [(1, [0]), (1, [2])])], [], []),
  (0, 5, 403, 3, 0, 0, [], [], []),
  (0, 7, 0, 0, 0, 0, [([5], [(1, [2]), (1, [0])])], [], []),
  (0, 7, 0, 0, 0, 0, [([5], [(1, [2]), (1, [1])])], [], []),
  (0, 3, 7, 0, 0, 2, [([7], [(1, [0]), (1, [1])]), ([], [(1, [0]), (1, [1])])], [], []),
  (1, 20, 3, 0, 0, 0, [], [], []),
  (0, 30, 0, 0, 0, 0, [([1], [(1, [0]), (2, [1])]), ([], [(1, [0])]), ([1], [(1, [0]), (1, [1])]), ([], [(1, [0]), (1, [6])]), ([], [(1, [0]), (1, [7])])], [], []),
  (0, 30, 0, 0, 0, 0, [([5], [(1, [0]), (2, [1])]), ([], [(1, [0]), (2, [2])]), ([0], [(1, [0]), (1, [6]), (1, [1]), (1, [4])]), ([0], [(1, [0]), (1, [7]), (1, [2]), (1, [3])])], [], []),
  (60, 5, 404, 0, 0, 0, [], [], []),
  (0, 3, 6, 0, 0, 2147483647, [([], [(1, [0]), (1, [1])]), ([6], [(1, [0]), (1, [2])])], [], []),
  (0, 5, 404, 1, 0, 0, [], [], []),
  (0, 3, 6, 0, 0, 3, [([6], [(1, [0]), (1, [1])]), ([], [(1, [0]), (1, [1])])], [], []),
  (4, 1, 6, 0, 0, 0, [], [], []),
  (0, 30, 0, 0, 0, 0, [([1], [(1, [0]), (2, [1])]), ([], [(1, [0])]), ([1], [(1, [0]), (1, [1])]), ([], [(1, [0]), (1, [4])]), ([], [(1, [0]), (1, [5])])], [], []),
  (0, 30, 0, 0, 0, 0, [([1], [(1, [0]), (2, [1])]), ([], [(1, [0])]), ([1], [(1, [0]), (1, [1])]), ([], [(1, [0]), (1, [4])]), ([], [(1, [0]), (1, [5])])], [], []),
  (0, 30, 0, 0, 0, 0, [([1], [(1, [0]), (2, [1])]), ([], [(1, [0])]), ([1], [(1, [0]), (1, [1])]), ([], [(1, [0]), (1, [4])]), ([], [(1, [0]), (1, [5])])], [], []),
  (0, 30, 0, 0, 0, 0, [([1], [(1, [0]), (2, [1])]), ([], [(1, [0])]), ([1], [(1, [0]), (1, [1])]), ([], [(1, [0]), (1, [4])]), ([], [(1, [0]), (1, [5])])], [], []),
  (0, 30, 0, 0, 0, 0, [([1], [(1, [0]), (2, [1])]), ([], [(1, [0])]), ([1], [(1, [0]), (1, [1])]), ([], [(1, [0]), (1, [4])]), ([], [(1, [0]), (1, [5])])], [], []),
  (0, 30, 0, 0, 0, 0, [([1], [(1, [0]), (2, [1])]), ([], [(1, [0])]), ([1], [(1, [0]), (1, [1])]), ([], [(1, [0]), (1, [4])]), ([], [(1, [0]), (1, [5])])], [], []),
  (3, 5, 404, 2, 0, 0, [], [], []),
  (0, 7, 0, 0, 0, 0, [([5], [(1, [2]), (1, [0])])], [], []),
  (0, 7, 0, 0, 0, 0, [([5], [(1, [2]), (1, [1])])], [], []),
  (0, 3, 7, 0, 0, 2147483647, [([], [(1, [0]), (1, [1])]), ([7], [(1, [0]), (1, [2])])], [], []),
  (0, 5, 404, 3, 0, 0, [], [], []),
  (0, 7, 0, 0, 0, 0, [([5], [(1, [2]), (1, [0])])], [], []),
  (0, 7, 0, 0, 0, 0, [([5], [(1, [2]), (1, [1])])], [], []),
  (0, 3, 7, 0, 0, 2, [([7], [(1, [0]), (1, [1])]), ([], [(1, [0]), (1, [1])])], [], []),
  (1, 20, 0, 0, 0, 0, [], [], []),
  (0, 30, 0, 0, 0, 0, [([1], [(1, [0]), (2, [1])]), ([], [(1, [0])]), ([1], [(1, [0]), (1, [1])]), ([], [(1, [0]), (1, [6])]), ([], [(1, [0]), (1, [7])])], [], []),
  (0, 1, 6, 0, 1, 0, [], [], []),
  (0, 30, 0, 0, 0, 0, [([1], [(1, [0]), (2, [1])]), ([], [(1, [0])]), ([1], [(1, [0]), (1, [1])]), ([], [(1, [0]), (1, [4])]), ([], [(1, [0]), (1, [5])])], [], []),
  (0, 30, 0, 0, 0, 0, [([1], [(1, [0]), (2, [1])]), ([], [(1, [0])]), ([1], [(1, [0]), (1, [1])]), ([], [(1, [0]), (1, [4])]), ([], [(1, [0]), (1, [5])])], [], []),
  (0, 30, 0, 0, 0, 0, [([1], [(1, [0]), (2, [1])]), ([], [(1, [0])]), ([1], [(1, [0]), (1, [1])]), ([], [(1, [0]), (1, [4])]), ([], [(1, [0]), (1, [5])])], [], []),
  (0, 30, 0, 0, 0, 0, [([1], [(1, [0]), (2, [1])]), ([], [(1, [0])]), ([1], [(1, [0]), (1, [1])]), ([], [(1, [0]), (1, [4])]), ([], [(1, [0]), (1, [5])])], [], []),
  (0, 30, 0, 0, 0, 0, [([1], [(1, [0]), (2, [1])]), ([], [(1, [0])]), ([1], [(1, [0]), (1, [1])]), ([], [(1, [0]), (1, [4])]), ([], [(1, [0]), (1, [5])])], [], []),
  (0, 30, 0, 0, 0, 0, [([1], [(1, [0]), (2, [1])]), ([], [(1, [0])]), ([1], [(1, [0]), (1, [1])]), ([], [(1, [0]), (1, [4])]), ([], [(1, [0]), (1, [5])])], [], []),
  (3, 5, 404, 2, 0, 0, [], [], []),
  (0, 7, 0, 0, 0, 0, [([5], [(1, [2]), (1, [0])])], [], []),
  (0, 7, 0, 0, 0, 0, [([5], [(1, [2]), (1, [1])])], [], []),
  (0, 3, 7, 0, 0, 2147483647, [([], [(1, [0]), (1, [1])]), ([7], [(1, [0]), (1, [2])])], [], []),
  (0, 5, 404, 3, 0, 0, [], [], []),
  (0, 7, 0, 0, 0, 0, [([5], [(1, [2]), (1, [0])])], [], []),
  (0, 7, 0, 0, 0, 0, [([5], [(1, [2]), (1, [1])])], [], []),
  (0, 3, 7, 0, 0, 2, [([7], [(1, [0]), (1, [1])]), ([], [(1, [0]), (1, [1])])], [], []),
  (1, 20, 1, 0, 0, 0, [], [], []),
  (0, 30, 0, 0, 0, 0, [([1], [(1, [0]), (2, [1])]), ([], [(1, [0])]), ([1], [(1, [0]), (1, [1])]), ([], [(1, [0]), (1, [6])]), ([], [(1, [0]), (1, [7])])], [], []),
  (0, 1, 6, 0, 2, 0, [], [], []),
  (0, 30, 0, 0, 0, 0, [([1], [(1, [0]), (2, [1])]), ([], [(1, [0])]), ([1], [(1, [0]), (1, [1])]), ([], [(1, [0]), (1, [4])]), ([], [(1, [0]), (1, [5])])], [], []),
  (0, 30, 0, 0, 0, 0, [([1], [(1, [0]), (2, [1])]), ([], [(1, [0])]), ([1], [(1, [0]), (1, [1])]), ([], [(1, [0]), (1, [4])]), ([], [(1, [0]), (1, [5])])], [], []),
  (0, 30, 0, 0, 0, 0, [([1], [(1, [0]), (2, [1])]), ([], [(1, [0])]), ([1], [(1, [0]), (1, [1])]), ([], [(1, [0]), (1, [4])]), ([], [(1, [0]), (1, [5])])], [], []),
  (0, 30, 0, 0, 0, 0, [([1], [(1, [0]), (2, [1])]), ([], [(1, [0])]), ([1], [(1, [0]), (1, [1])]), ([], [(1, [0]), (1, [4])]), ([], [(1, [0]), (1, [5])])], [], []),
  (0, 30, 0, 0, 0, 0, [([1], [(1, [0]), (2, [1])]), ([], [(1, [0])]), ([1], [(1, [0]), (1, [1])]), ([], [(1, [0]), (1, [4])]), ([], [(1, [0]), (1, [5])])], [], []),
  (0, 30, 0, 0, 0, 0, [([1], [(1, [0]), (2, [1])]), ([], [(1, [0])]), ([1], [(1, [0]), (1, [1])]), ([], [(1, [0]), (1, [4])]), ([], [(1, [0]), (1, [5])])], [], []),
  (3, 5, 404, 2, 0, 0, [], [], []),
  (0, 7, 0, 0, 0, 0, [([5], [(1, [2]), (1, [0])])], [], []),
  (0, 7, 0, 0, 0, 0, [([5], [(1, [2]), (1, [1])])], [], []),
  (0, 3, 7, 0, 0, 2147483647, [([], [(1, [0]), (1, [1])]), ([7], [(1, [0]), (1, [2])])], [], []),
  (0, 5, 404, 3, 0, 0, [], [], []),
  (0, 7, 0, 0, 0, 0, [([5], [(1, [2]), (1, [0])])], [], []),
  (0, 7, 0, 0, 0, 0, [([5], [(1, [2]), (1, [1])])], [], []),
  (0, 3, 7, 0, 0, 2, [([7], [(1, [0]), (1, [1])]), ([], [(1, [0]), (1, [1])])], [], []),
  (1, 20, 2, 0, 0, 0, [], [], []),
  (0, 30, 0, 0, 0, 0, [([1], [(1, [0]), (2, [1])]), ([], [(1, [0])]), ([1], [(1, [0]), (1, [1])]), ([], [(1, [0]), (1, [6])]), ([], [(1, [0]), (1, [7])])], [], []),
  (0, 30, 0, 0, 0, 0, [([1], [(1, [0]), (2, [1])]), ([], [(1, [0])]), ([1], [(1, [0]), (1, [1])]), ([], [(1, [0]), (1, [4])]), ([], [(1, [0]), (1, [5])])], [], []),
  (0, 30, 0, 0, 0, 0, [([1], [(1, [0]), (2, [1])]), ([], [(1, [0])]), ([1], [(1, [0]), (1, [1])]), ([], [(1, [0]), (1, [4])]), ([], [(1, [0]), (1, [5])])], [], []),
  (0, 30, 0, 0, 0, 0, [([1], [(1, [0]), (2, [1])]), ([], [(1, [0])]), ([1], [(1, [0]), (1, [1])]), ([], [(1, [0]), (1, [4])]), ([], [(1, [0]), (1, [5])])], [], []),
  (0, 30, 0, 0, 0, 0, [([1], [(1, [0]), (2, [1])]), ([], [(1, [0])]), ([1], [(1, [0]), (1, [1])]), ([], [(1, [0]), (1, [4])]), ([], [(1, [0]), (1, [5])])], [], []),
  (0, 30, 0, 0, 0, 0, [([1], [(1, [0]), (2, [1])]), ([], [(1, [0])]), ([1], [(1, [0]), (1, [1])]), ([], [(1, [0]), (1, [4])]), ([], [(1, [0]), (1, [5])])], [], []),
  (0, 30, 0, 0, 0, 0, [([1], [(1, [0]), (2, [1])]), ([], [(1, [0])]), ([1], [(1, [0]), (1, [1])]), ([], [(1, [0]), (1, [4])]), ([], [(1, [0]), (1, [5])])], [], []),
  (3, 5, 404, 2, 0, 0, [], [], []),
  (0, 7, 0, 0, 0, 0, [([5], [(1, [2]), (1, [0])])], [], []),
  (0, 7, 0, 0, 0, 0, [([5], [(1, [2]), (1, [1])])], [], []),
  (0, 3, 7, 0, 0, 2147483647, [([], [(1, [0]), (1, [1])]), ([7], [(1, [0]), (1, [2])])], [], []),
  (0, 5, 404, 3, 0, 0, [], [], []),
  (0, 7, 0, 0, 0, 0, [([5], [(1, [2]), (1, [0])])], [], []),
  (0, 7, 0, 0, 0, 0, [([5], [(1, [2]), (1, [1])])], [], []),
  (0, 3, 7, 0, 0, 2, [([7], [(1, [0]), (1, [1])]), ([], [(1, [0]), (1, [1])])], [], []),
  (1, 20, 3, 0, 0, 0, [], [], []),
  (0, 30, 0, 0, 0, 0, [([1], [(1, [0]), (2, [1])]), ([], [(1, [0])]), ([1], [(1, [0]), (1, [1])]), ([], [(1, [0]), (1, [6])]), ([], [(1, [0]), (1, [7])])], [], []),
  (0, 30, 0, 0, 0, 0, [([5], [(1, [0]), (2, [1])]), ([], [(1, [0]), (2, [2])]), ([0], [(1, [0]), (1, [6]), (1, [1]), (1, [4])]), ([2, 5], [(1, [0]), (1, [2]), (1, [3])])], [], [])]
noncomputable def sz_h578_1 : List sy_Hn := sz_h578_1_0 ++ (sz_h578_1_1 ++ (sz_h578_1_2))
set_option maxRecDepth 100000 in
theorem sz_s578_1 : sy_seg sz_E sz_T sz_RU [sz_c574, sz_c575, sz_c576, sz_c577] sz_c578 sz_u578 ri_m_X0_happen 3267 (some ((6, [(0, (3, .inr 59, .inl 0)), (1, (0, .inr 0, .inl 0)), (2, (0, .inr 1, .inl 0))], ([(0, 8), (0, 8), (0, 8)], [[((-1), [0]), ((-1), [1]), (1, [2])], [(1, [0]), (1, [1]), ((-1), [2])]]), [((61, 2), (0, .inr 2, .inl 0))], [], [(2, [1])]))) sz_h578_1 = true := by decide +kernel
set_option maxRecDepth 100000 in
noncomputable def sz_h578_2 : List sy_Hn := [(0, 3, 2, 0, 1, 8, [([0, 1], [(1, [0]), (1, [6]), (1, [1]), (1, [3])]), ([2], [(1, [0]), (1, [2])])], [], []),
  (0, 1, 0, 0, 0, 0, [], [], []),
  (3, 1, 2, 0, 1, 0, [], [], []),
  (0, 30, 0, 0, 0, 0, [([3], [(1, [0]), (2, [1])]), ([], [(1, [0]), (2, [2])]), ([2], [(1, [0]), (1, [6]), (1, [4]), (1, [2])]), ([0, 3], [(1, [0]), (1, [1]), (1, [3])])], [], []),
  (0, 1, 2, 0, 2, 0, [], [], []),
  (0, 30, 0, 0, 0, 0, [([3], [(1, [0]), (2, [1])]), ([], [(1, [0]), (2, [2])]), ([2], [(1, [0]), (1, [6]), (1, [4]), (1, [2])]), ([2], [(1, [0]), (1, [7]), (1, [3]), (1, [1])])], [], []),
  (0, 1, 2, 0, 3, 0, [], [], []),
  (0, 30, 0, 0, 0, 0, [([3], [(1, [0]), (2, [1])]), ([], [(1, [0]), (2, [2])]), ([2], [(1, [0]), (1, [6]), (1, [4]), (1, [2])]), ([2], [(1, [0]), (1, [7]), (1, [3]), (1, [1])])], [], []),
  (0, 1, 2, 0, 4, 0, [], [], []),
  (0, 30, 0, 0, 0, 0, [([3], [(1, [0]), (2, [1])]), ([], [(1, [0]), (2, [2])]), ([2], [(1, [0]), (1, [6]), (1, [4]), (1, [2])]), ([2], [(1, [0]), (1, [7]), (1, [3]), (1, [1])])], [], []),
  (0, 1, 2, 0, 5, 0, [], [], []),
  (0, 30, 0, 0, 0, 0, [([3], [(1, [0]), (2, [1])]), ([], [(1, [0]), (2, [2])]), ([2], [(1, [0]), (1, [6]), (1, [4]), (1, [2])]), ([2], [(1, [0]), (1, [7]), (1, [3]), (1, [1])])], [], []),
  (0, 1, 2, 0, 6, 0, [], [], []),
  (0, 30, 0, 0, 0, 0, [([3], [(1, [0]), (2, [1])]), ([], [(1, [0]), (2, [2])]), ([2], [(1, [0]), (1, [6]), (1, [4]), (1, [2])]), ([2], [(1, [0]), (1, [7]), (1, [3]), (1, [1])])], [], []),
  (0, 1, 2, 0, 7, 0, [], [], []),
  (0, 30, 0, 0, 0, 0, [([3], [(1, [0]), (2, [1])]), ([], [(1, [0]), (2, [2])]), ([2], [(1, [0]), (1, [6]), (1, [4]), (1, [2])]), ([2], [(1, [0]), (1, [7]), (1, [3]), (1, [1])])], [], []),
  (0, 30, 0, 0, 0, 0, [([3], [(1, [0]), (2, [1])]), ([], [(1, [0]), (2, [2])]), ([0, 3], [(1, [0]), (1, [2]), (1, [4])]), ([2], [(1, [0]), (1, [7]), (1, [3]), (1, [1])])], [], []),
  (0, 1, 0, 0, 1, 0, [], [], []),
  (0, 3, 2, 0, 2, 8, [([0, 1], [(1, [0]), (1, [6]), (1, [1]), (1, [3])]), ([2], [(1, [0]), (1, [2])])], [], []),
  (3, 1, 2, 0, 2, 0, [], [], []),
  (0, 30, 0, 0, 0, 0, [([3], [(1, [0]), (2, [1])]), ([], [(1, [0]), (2, [2])]), ([2], [(1, [0]), (1, [6]), (1, [4]), (1, [2])]), ([0, 3], [(1, [0]), (1, [1]), (1, [3])])], [], []),
  (0, 1, 2, 0, 3, 0, [], [], []),
  (0, 30, 0, 0, 0, 0, [([3], [(1, [0]), (2, [1])]), ([], [(1, [0]), (2, [2])]), ([2], [(1, [0]), (1, [6]), (1, [4]), (1, [2])]), ([2], [(1, [0]), (1, [7]), (1, [3]), (1, [1])])], [], []),
  (0, 1, 2, 0, 4, 0, [], [], []),
  (0, 30, 0, 0, 0, 0, [([3], [(1, [0]), (2, [1])]), ([], [(1, [0]), (2, [2])]), ([2], [(1, [0]), (1, [6]), (1, [4]), (1, [2])]), ([2], [(1, [0]), (1, [7]), (1, [3]), (1, [1])])], [], []),
  (0, 1, 2, 0, 5, 0, [], [], []),
  (0, 30, 0, 0, 0, 0, [([3], [(1, [0]), (2, [1])]), ([], [(1, [0]), (2, [2])]), ([2], [(1, [0]), (1, [6]), (1, [4]), (1, [2])]), ([2], [(1, [0]), (1, [7]), (1, [3]), (1, [1])])], [], []),
  (0, 1, 2, 0, 6, 0, [], [], []),
  (0, 30, 0, 0, 0, 0, [([3], [(1, [0]), (2, [1])]), ([], [(1, [0]), (2, [2])]), ([2], [(1, [0]), (1, [6]), (1, [4]), (1, [2])]), ([2], [(1, [0]), (1, [7]), (1, [3]), (1, [1])])], [], []),
  (0, 1, 2, 0, 7, 0, [], [], []),
  (0, 30, 0, 0, 0, 0, [([3], [(1, [0]), (2, [1])]), ([], [(1, [0]), (2, [2])]), ([2], [(1, [0]), (1, [6]), (1, [4]), (1, [2])]), ([2], [(1, [0]), (1, [7]), (1, [3]), (1, [1])])], [], []),
  (0, 30, 0, 0, 0, 0, [([3], [(1, [0]), (2, [1])]), ([], [(1, [0]), (2, [2])]), ([2], [(1, [0]), (1, [6]), (1, [4]), (1, [2])]), ([2], [(1, [0]), (1, [7]), (1, [3]), (1, [1])])], [], []),
  (0, 1, 0, 0, 2, 0, [], [], []),
  (0, 3, 2, 0, 3, 8, [([0, 1], [(1, [0]), (1, [6]), (1, [1]), (1, [3])]), ([2], [(1, [0]), (1, [2])])], [], []),
  (3, 1, 2, 0, 3, 0, [], [], []),
  (0, 30, 0, 0, 0, 0, [([3], [(1, [0]), (2, [1])]), ([], [(1, [0]), (2, [2])]), ([2], [(1, [0]), (1, [6]), (1, [4]), (1, [2])]), ([0, 3], [(1, [0]), (1, [1]), (1, [3])])], [], []),
  (0, 1, 2, 0, 4, 0, [], [], []),
  (0, 30, 0, 0, 0, 0, [([3], [(1, [0]), (2, [1])]), ([], [(1, [0]), (2, [2])]), ([2], [(1, [0]), (1, [6]), (1, [4]), (1, [2])]), ([2], [(1, [0]), (1, [7]), (1, [3]), (1, [1])])], [], []),
  (0, 1, 2, 0, 5, 0, [], [], []),
  (0, 30, 0, 0, 0, 0, [([3], [(1, [0]), (2, [1])]), ([], [(1, [0]), (2, [2])]), ([2], [(1, [0]), (1, [6]), (1, [4]), (1, [2])]), ([2], [(1, [0]), (1, [7]), (1, [3]), (1, [1])])], [], []),
  (0, 1, 2, 0, 6, 0, [], [], []),
  (0, 30, 0, 0, 0, 0, [([3], [(1, [0]), (2, [1])]), ([], [(1, [0]), (2, [2])]), ([2], [(1, [0]), (1, [6]), (1, [4]), (1, [2])]), ([2], [(1, [0]), (1, [7]), (1, [3]), (1, [1])])], [], []),
  (0, 1, 2, 0, 7, 0, [], [], []),
  (0, 30, 0, 0, 0, 0, [([3], [(1, [0]), (2, [1])]), ([], [(1, [0]), (2, [2])]), ([2], [(1, [0]), (1, [6]), (1, [4]), (1, [2])]), ([2], [(1, [0]), (1, [7]), (1, [3]), (1, [1])])], [], []),
  (0, 30, 0, 0, 0, 0, [([3], [(1, [0]), (2, [1])]), ([], [(1, [0]), (2, [2])]), ([2], [(1, [0]), (1, [6]), (1, [4]), (1, [2])]), ([2], [(1, [0]), (1, [7]), (1, [3]), (1, [1])])], [], []),
  (0, 1, 0, 0, 3, 0, [], [], []),
  (0, 3, 2, 0, 4, 8, [([0, 1], [(1, [0]), (1, [6]), (1, [1]), (1, [3])]), ([2], [(1, [0]), (1, [2])])], [], []),
  (3, 1, 2, 0, 4, 0, [], [], []),
  (0, 30, 0, 0, 0, 0, [([3], [(1, [0]), (2, [1])]), ([], [(1, [0]), (2, [2])]), ([2], [(1, [0]), (1, [6]), (1, [4]), (1, [2])]), ([0, 3], [(1, [0]), (1, [1]), (1, [3])])], [], []),
  (0, 1, 2, 0, 5, 0, [], [], []),
  (0, 30, 0, 0, 0, 0, [([3], [(1, [0]), (2, [1])]), ([], [(1, [0]), (2, [2])]), ([2], [(1, [0]), (1, [6]), (1, [4]), (1, [2])]), ([2], [(1, [0]), (1, [7]), (1, [3]), (1, [1])])], [], []),
  (0, 1, 2, 0, 6, 0, [], [], []),
  (0, 30, 0, 0, 0, 0, [([3], [(1, [0]), (2, [1])]), ([], [(1, [0]), (2, [2])]), ([2], [(1, [0]), (1, [6]), (1, [4]), (1, [2])]), ([2], [(1, [0]), (1, [7]), (1, [3]), (1, [1])])], [], []),
  (0, 1, 2, 0, 7, 0, [], [], []),
  (0, 30, 0, 0, 0, 0, [([3], [(1, [0]), (2, [1])]), ([], [(1, [0]), (2, [2])]), ([2], [(1, [0]), (1, [6]), (1, [4]), (1, [2])]), ([2], [(1, [0]), (1, [7]), (1, [3]), (1, [1])])], [], []),
  (0, 30, 0, 0, 0, 0, [([3], [(1, [0]), (2, [1])]), ([], [(1, [0]), (2, [2])]), ([2], [(1, [0]), (1, [6]), (1, [4]), (1, [2])]), ([2], [(1, [0]), (1, [7]), (1, [3]), (1, [1])])], [], []),
  (0, 1, 0, 0, 4, 0, [], [], []),
  (0, 3, 2, 0, 5, 8, [([0, 1], [(1, [0]), (1, [6]), (1, [1]), (1, [3])]), ([2], [(1, [0]), (1, [2])])], [], []),
  (3, 1, 2, 0, 5, 0, [], [], []),
  (0, 30, 0, 0, 0, 0, [([3], [(1, [0]), (2, [1])]), ([], [(1, [0]), (2, [2])]), ([2], [(1, [0]), (1, [6]), (1, [4]), (1, [2])]), ([0, 3], [(1, [0]), (1, [1]), (1, [3])])], [], []),
  (0, 1, 2, 0, 6, 0, [], [], []),
  (0, 30, 0, 0, 0, 0, [([3], [(1, [0]), (2, [1])]), ([], [(1, [0]), (2, [2])]), ([2], [(1, [0]), (1, [6]), (1, [4]), (1, [2])]), ([2], [(1, [0]), (1, [7]), (1, [3]), (1, [1])])], [], []),
  (0, 1, 2, 0, 7, 0, [], [], []),
  (0, 30, 0, 0, 0, 0, [([3], [(1, [0]), (2, [1])]), ([], [(1, [0]), (2, [2])]), ([2], [(1, [0]), (1, [6]), (1, [4]), (1, [2])]), ([2], [(1, [0]), (1, [7]), (1, [3]), (1, [1])])], [], []),
  (0, 30, 0, 0, 0, 0, [([3], [(1, [0]), (2, [1])]), ([], [(1, [0]), (2, [2])]), ([2], [(1, [0]), (1, [6]), (1, [4]), (1, [2])]), ([2], [(1, [0]), (1, [7]), (1, [3]), (1, [1])])], [], []),
  (0, 1, 0, 0, 5, 0, [], [], []),
  (0, 3, 2, 0, 6, 8, [([0, 1], [(1, [0]), (1, [6]), (1, [1]), (1, [3])]), ([2], [(1, [0]), (1, [2])])], [], []),
  (3, 1, 2, 0, 6, 0, [], [], []),
  (0, 30, 0, 0, 0, 0, [([3], [(1, [0]), (2, [1])]), ([], [(1, [0]), (2, [2])]), ([2], [(1, [0]), (1, [6]), (1, [4]), (1, [2])]), ([0, 3], [(1, [0]), (1, [1]), (1, [3])])], [], []),
  (0, 1, 2, 0, 7, 0, [], [], []),
  (0, 30, 0, 0, 0, 0, [([3], [(1, [0]), (2, [1])]), ([], [(1, [0]), (2, [2])]), ([2], [(1, [0]), (1, [6]), (1, [4]), (1, [2])]), ([2], [(1, [0]), (1, [7]), (1, [3]), (1, [1])])], [], []),
  (0, 30, 0, 0, 0, 0, [([3], [(1, [0]), (2, [1])]), ([], [(1, [0]), (2, [2])]), ([2], [(1, [0]), (1, [6]), (1, [4]), (1, [2])]), ([2], [(1, [0]), (1, [7]), (1, [3]), (1, [1])])], [], []),
  (0, 1, 0, 0, 6, 0, [], [], []),
  (0, 3, 2, 0, 7, 8, [([0, 1], [(1, [0]), (1, [6]), (1, [1]), (1, [3])]), ([2], [(1, [0]), (1, [2])])], [], []),
  (3, 1, 2, 0, 7, 0, [], [], []),
  (0, 30, 0, 0, 0, 0, [([3], [(1, [0]), (2, [1])]), ([], [(1, [0]), (2, [2])]), ([2], [(1, [0]), (1, [6]), (1, [4]), (1, [2])]), ([0, 3], [(1, [0]), (1, [1]), (1, [3])])], [], []),
  (0, 30, 0, 0, 0, 0, [([3], [(1, [0]), (2, [1])]), ([], [(1, [0]), (2, [2])]), ([2], [(1, [0]), (1, [6]), (1, [4]), (1, [2])]), ([2], [(1, [0]), (1, [7]), (1, [3]), (1, [1])])], [], []),
  (0, 3, 2, 0, 8, 8, [([0, 1], [(1, [0]), (1, [6]), (1, [1]), (1, [3])]), ([2], [(1, [0]), (1, [2])])], [], []),
  (0, 30, 0, 0, 0, 0, [([3], [(1, [0]), (2, [1])]), ([], [(1, [0]), (2, [2])]), ([2], [(1, [0]), (1, [6]), (1, [4]), (1, [2])]), ([0, 3], [(1, [0]), (1, [1]), (1, [3])])], [], [])]
set_option maxRecDepth 100000 in
theorem sz_s578_2 : sy_seg sz_E sz_T sz_RU [sz_c574, sz_c575, sz_c576, sz_c577] sz_c578 sz_u578 ri_m_X0_happen 1233 (some ((35, [(0, (3, .inr 59, .inl 0)), (1, (0, .inr 0, .inl 0)), (2, (0, .inr 1, .inl 0))], ([(0, 8), (1, 8), (0, 7)], [[(1, [1]), ((-1), [])], [((-1), [0]), ((-1), [1]), (1, [2])], [(1, [0]), (1, [1]), ((-1), [2])]]), [((61, 2), (0, .inr 2, .inl 0))], [], [(2, [1]), ((-1), [])]))) sz_h578_2 = true := by decide +kernel
theorem sz_ok578 (xs : Nat → Value) (L : Nat) : sy_Cok (sz_env xs L) sz_T sz_RU sz_c578 := sy_chk_ok (CT := [sz_c574, sz_c575, sz_c576, sz_c577]) (CU := sz_u578) (M := ri_m_X0_happen) (List.forall_mem_cons.mpr ⟨sz_ok574 xs L, List.forall_mem_cons.mpr ⟨sz_ok575 xs L, List.forall_mem_cons.mpr ⟨sz_ok576 xs L, List.forall_mem_cons.mpr ⟨sz_ok577 xs L, fun _ h => absurd h List.not_mem_nil⟩⟩⟩⟩) rfl ⟨_, _, sz_s578_0⟩ (List.forall_mem_cons.mpr ⟨⟨_, _, sz_s578_1⟩, List.forall_mem_cons.mpr ⟨⟨_, _, sz_s578_2⟩, fun _ h => absurd h List.not_mem_nil⟩⟩)

/-! X10_ticks [0, 0] -/
set_option maxRecDepth 100000 in
noncomputable def sz_c579 : sy_Ct := (98, 7, 136, [(3, .inr 0, .inl 0), (0, .inr 0, .inl 0)], ([((-2147483648), 2147483647)], []), [], [], [(59, 3, 3), (61, 2, 2), (62, 0, 32), (63, 2, 2), (64, 0, 240), (65, 0, 3), (66, 0, 3), (67, 5, 14), (67, 16, 18), (68, 4, 6), (69, 0, 9), (70, 3, 3), (77, 3, 8), (78, 0, 4), (79, 5, 14), (79, 16, 18), (80, 4, 6), (81, 0, 9), (82, 3, 3), (89, 3, 8), (90, 0, 4), (91, 5, 14), (91, 16, 18), (92, 4, 6), (93, 0, 9), (94, 3, 3), (101, 3, 8), (102, 0, 4), (103, 5, 14), (103, 16, 18), (104, 4, 6), (105, 0, 9), (106, 3, 3), (113, 3, 8), (114, 0, 4)], [(.inl (some (0, .inr 1, .inl 0)), 0, 0, ([((-2147483648), 2147483647), ((-2147483648), 2147483647)], []), [], []), (.inr 0, 1, 6, ([((-2147483648), 2147483647)], []), [], [])])
set_option maxRecDepth 100000 in
noncomputable def sz_u579 : List sy_Cut := [(8, [(0, (3, .inr 0, .inl 0)), (1, (0, .inr 0, .inl 0)), (2, (0, .inr 1, .inl 0)), (3, (0, .inr 2, .inl 0))], ([(0, 60), ((-2147483648), 2147483647), (1, 60)], []), [], [], [(60, []), ((-1), [2])])]
set_option maxRecDepth 100000 in
noncomputable def sz_h579_0 : List sy_Hn := [(0, 31, 1, 0, 0, 0, [], [], []),
  (0, 30, 0, 0, 0, 0, [([], [(1, [0])]), ([], [])], [], []),
  (0, 31, 1, 0, 0, 0, [], [], [])]
set_option maxRecDepth 100000 in
theorem sz_s579_0 : sy_seg sz_E sz_T sz_RU [sz_c413, sz_c578] sz_c579 sz_u579 ri_m_X10_ticks 26 none sz_h579_0 = true := by decide +kernel
set_option maxRecDepth 100000 in
noncomputable def sz_h579_1 : List sy_Hn := [(0, 31, 0, 0, 0, 0, [], [], []),
  (3, 20, 1, 0, 0, 0, [], [], []),
  (4, 20, 0, 0, 0, 0, [], [], []),
  (0, 30, 0, 0, 0, 0, [([5], [(1, [0]), (1, [2])]), ([], [(1, [0]), (1, [1])])], [], [])]
set_option maxRecDepth 100000 in
theorem sz_s579_1 : sy_seg sz_E sz_T sz_RU [sz_c413, sz_c578] sz_c579 sz_u579 ri_m_X10_ticks 69 (some ((8, [(0, (3, .inr 0, .inl 0)), (1, (0, .inr 0, .inl 0)), (2, (0, .inr 1, .inl 0)), (3, (0, .inr 2, .inl 0))], ([(0, 60), ((-2147483648), 2147483647), (1, 60)], []), [], [], [(60, []), ((-1), [2])]))) sz_h579_1 = true := by decide +kernel
theorem sz_ok579 (xs : Nat → Value) (L : Nat) : sy_Cok (sz_env xs L) sz_T sz_RU sz_c579 := sy_chk_ok (CT := [sz_c413, sz_c578]) (CU := sz_u579) (M := ri_m_X10_ticks) (List.forall_mem_cons.mpr ⟨sz_ok413 xs L, List.forall_mem_cons.mpr ⟨sz_ok578 xs L, fun _ h => absurd h List.not_mem_nil⟩⟩) rfl ⟨_, _, sz_s579_0⟩ (List.forall_mem_cons.mpr ⟨⟨_, _, sz_s579_1⟩, fun _ h => absurd h List.not_mem_nil⟩)

/-! X7_copyFrom [173, 61] -/
set_option maxRecDepth 100000 in
noncomputable def sz_c580 : sy_Ct := (202, 1, 18, [(3, .inr 173, .inl 0), (3, .inr 61, .inl 0)], ([], []), [], [], [(173, 2, 2), (174, 0, 32)], [(.inl none, 0, 0, ([], []), [], [])])
set_option maxRecDepth 100000 in
noncomputable def sz_u580 : List sy_Cut := []
set_option maxRecDepth 100000 in
noncomputable def sz_h580_0 : List sy_Hn := [(0, 4, 61, 2, 0, 0, [], [], []),
  (0, 1, 0, 0, 0, 0, [], [], []),
  (0, 31, 0, 0, 0, 0, [], [], []),
  (0, 1, 0, 0, 1, 0, [], [], []),
  (0, 31, 0, 0, 0, 0, [], [], []),
  (0, 1, 0, 0, 2, 0, [], [], []),
  (0, 31, 0, 0, 0, 0, [], [], []),
  (0, 1, 0, 0, 3, 0, [], [], []),
  (0, 31, 0, 0, 0, 0, [], [], []),
  (0, 1, 0, 0, 4, 0, [], [], []),
  (0, 31, 0, 0, 0, 0, [], [], []),
  (0, 1, 0, 0, 5, 0, [], [], []),
  (0, 31, 0, 0, 0, 0, [], [], []),
  (0, 1, 0, 0, 6, 0, [], [], []),
  (0, 31, 0, 0, 0, 0, [], [], []),
  (0, 1, 0, 0, 7, 0, [], [], []),
  (0, 31, 0, 0, 0, 0, [], [], []),
  (0, 31, 0, 0, 0, 0, [], [], [])]
set_option maxRecDepth 100000 in
theorem sz_s580_0 : sy_seg sz_E sz_T sz_RU [] sz_c580 sz_u580 ri_m_X7_copyFrom 168 none sz_h580_0 = true := by decide +kernel
theorem sz_ok580 (xs : Nat → Value) (L : Nat) : sy_Cok (sz_env xs L) sz_T sz_RU sz_c580 := sy_chk_ok (CT := []) (CU := sz_u580) (M := ri_m_X7_copyFrom) (fun _ h => absurd h List.not_mem_nil) rfl ⟨_, _, sz_s580_0⟩ (fun _ h => absurd h List.not_mem_nil)

/-! X7_copyFrom [175, 63] -/
set_option maxRecDepth 100000 in
noncomputable def sz_c581 : sy_Ct := (202, 1, 18, [(3, .inr 175, .inl 0), (3, .inr 63, .inl 0)], ([], []), [], [], [(175, 2, 2), (176, 0, 240)], [(.inl none, 0, 0, ([], []), [], [])])
set_option maxRecDepth 100000 in
noncomputable def sz_u581 : List sy_Cut := []
set_option maxRecDepth 100000 in
noncomputable def sz_h581_0 : List sy_Hn := [(0, 31, 0, 0, 0, 0, [], [], [])]
set_option maxRecDepth 100000 in
theorem sz_s581_0 : sy_seg sz_E sz_T sz_RU [] sz_c581 sz_u581 ri_m_X7_copyFrom 22 none sz_h581_0 = true := by decide +kernel
theorem sz_ok581 (xs : Nat → Value) (L : Nat) : sy_Cok (sz_env xs L) sz_T sz_RU sz_c581 := sy_chk_ok (CT := []) (CU := sz_u581) (M := ri_m_X7_copyFrom) (fun _ h => absurd h List.not_mem_nil) rfl ⟨_, _, sz_s581_0⟩ (fun _ h => absurd h List.not_mem_nil)

/-! X2_copyFrom [179, 67] -/
set_option maxRecDepth 100000 in
noncomputable def sz_c582 : sy_Ct := (201, 2, 39, [(3, .inr 179, .inl 0), (3, .inr 67, .inl 0)], ([(1, 3)], []), [((72, 5), (0, .inr 0, .inl 0))], [457, 458, 459, 460], [(179, 4, 14), (179, 16, 18), (180, 0, 6), (181, 0, 9), (182, 0, 4), (183, 0, 8), (184, 0, 5), (185, 0, 3), (186, 0, 3), (187, 0, 3), (188, 0, 3), (189, 0, 8), (190, 0, 4)], [(.inl none, 0, 0, ([(1, 3), (1, 3)], []), [((184, 5), (0, .inr 1, .inl 0))], [457, 458, 459, 460])])
set_option maxRecDepth 100000 in
noncomputable def sz_u582 : List sy_Cut := []
set_option maxRecDepth 100000 in
noncomputable def sz_h582_0 : List sy_Hn := [(244, 9, 373, 437, 0, 0, [], [], []),
  (0, 9, 374, 438, 0, 0, [], [], []),
  (0, 9, 375, 439, 0, 0, [], [], []),
  (0, 9, 376, 440, 0, 0, [], [], []),
  (0, 9, 377, 441, 0, 0, [], [], []),
  (0, 31, 0, 0, 0, 0, [], [], [])]
set_option maxRecDepth 100000 in
theorem sz_s582_0 : sy_seg sz_E sz_T sz_RU [] sz_c582 sz_u582 ri_m_X2_copyFrom 256 none sz_h582_0 = true := by decide +kernel
theorem sz_ok582 (xs : Nat → Value) (L : Nat) : sy_Cok (sz_env xs L) sz_T sz_RU sz_c582 := sy_chk_ok (CT := []) (CU := sz_u582) (M := ri_m_X2_copyFrom) (fun _ h => absurd h List.not_mem_nil) rfl ⟨_, _, sz_s582_0⟩ (fun _ h => absurd h List.not_mem_nil)

/-! X2_copyFrom [191, 79] -/
set_option maxRecDepth 100000 in
noncomputable def sz_c583 : sy_Ct := (201, 2, 39, [(3, .inr 191, .inl 0), (3, .inr 79, .inl 0)], ([(1, 3)], []), [((84, 5), (0, .inr 0, .inl 0))], [457, 458, 459, 460], [(191, 4, 14), (191, 16, 18), (192, 0, 6), (193, 0, 9), (194, 0, 4), (195, 0, 8), (196, 0, 5), (197, 0, 3), (198, 0, 3), (199, 0, 3), (200, 0, 3), (201, 0, 8), (202, 0, 4)], [(.inl none, 0, 0, ([(1, 3), (1, 3)], []), [((196, 5), (0, .inr 1, .inl 0))], [457, 458, 459, 460])])
set_option maxRecDepth 100000 in
noncomputable def sz_u583 : List sy_Cut := []
set_option maxRecDepth 100000 in
noncomputable def sz_h583_0 : List sy_Hn := [(244, 9, 378, 442, 0, 0, [], [], []),
  (0, 9, 379, 443, 0, 0, [], [], []),
  (0, 9, 380, 444, 0, 0, [], [], []),
  (0, 9, 381, 445, 0, 0, [], [], []),
  (0, 9, 382, 446, 0, 0, [], [], []),
  (0, 31, 0, 0, 0, 0, [], [], [])]
set_option maxRecDepth 100000 in
theorem sz_s583_0 : sy_seg sz_E sz_T sz_RU [] sz_c583 sz_u583 ri_m_X2_copyFrom 256 none sz_h583_0 = true := by decide +kernel
theorem sz_ok583 (xs : Nat → Value) (L : Nat) : sy_Cok (sz_env xs L) sz_T sz_RU sz_c583 := sy_chk_ok (CT := []) (CU := sz_u583) (M := ri_m_X2_copyFrom) (fun _ h => absurd h List.not_mem_nil) rfl ⟨_, _, sz_s583_0⟩ (fun _ h => absurd h List.not_mem_nil)

/-! X2_copyFrom [203, 91] -/
set_option maxRecDepth 100000 in
noncomputable def sz_c584 : sy_Ct := (201, 2, 39, [(3, .inr 203, .inl 0), (3, .inr 91, .inl 0)], ([(1, 3)], []), [((96, 5), (0, .inr 0, .inl 0))], [457, 458, 459, 460], [(203, 4, 14), (203, 16, 18), (204, 0, 6), (205, 0, 9), (206, 0, 4), (207, 0, 8), (208, 0, 5), (209, 0, 3), (210, 0, 3), (211, 0, 3), (212, 0, 3), (213, 0, 8), (214, 0, 4)], [(.inl none, 0, 0, ([(1, 3), (1, 3)], []), [((208, 5), (0, .inr 1, .inl 0))], [457, 458, 459, 460])])
set_option maxRecDepth 100000 in
noncomputable def sz_u584 : List sy_Cut := []
set_option maxRecDepth 100000 in
noncomputable def sz_h584_0 : List sy_Hn := [(244, 9, 383, 447, 0, 0, [], [], []),
  (0, 9, 384, 448, 0, 0, [], [], []),
  (0, 9, 385, 449, 0, 0, [], [], []),
  (0, 9, 386, 450, 0, 0, [], [], []),
  (0, 9, 387, 451, 0, 0, [], [], []),
  (0, 31, 0, 0, 0, 0, [], [], [])]
set_option maxRecDepth 100000 in
theorem sz_s584_0 : sy_seg sz_E sz_T sz_RU [] sz_c584 sz_u584 ri_m_X2_copyFrom 256 none sz_h584_0 = true := by decide +kernel
theorem sz_ok584 (xs : Nat → Value) (L : Nat) : sy_Cok (sz_env xs L) sz_T sz_RU sz_c584 := sy_chk_ok (CT := []) (CU := sz_u584) (M := ri_m_X2_copyFrom) (fun _ h => absurd h List.not_mem_nil) rfl ⟨_, _, sz_s584_0⟩ (fun _ h => absurd h List.not_mem_nil)

/-! X2_copyFrom [215, 103] -/
set_option maxRecDepth 100000 in
noncomputable def sz_c585 : sy_Ct := (201, 2, 39, [(3, .inr 215, .inl 0), (3, .inr 103, .inl 0)], ([(1, 3)], []), [((108, 5), (0, .inr 0, .inl 0))], [457, 458, 459, 460], [(215, 4, 14), (215, 16, 18), (216, 0, 6), (217, 0, 9), (218, 0, 4), (219, 0, 8), (220, 0, 5), (221, 0, 3), (222, 0, 3), (223, 0, 3), (224, 0, 3), (225, 0, 8), (226, 0, 4)], [(.inl none, 0, 0, ([(1, 3), (1, 3)], []), [((220, 5), (0, .inr 1, .inl 0))], [457, 458, 459, 460])])
set_option maxRecDepth 100000 in
noncomputable def sz_u585 : List sy_Cut := []
set_option maxRecDepth 100000 in
noncomputable def sz_h585_0 : List sy_Hn := [(244, 9, 388, 452, 0, 0, [], [], []),
  (0, 9, 389, 453, 0, 0, [], [], []),
  (0, 9, 390, 454, 0, 0, [], [], []),
  (0, 9, 391, 455, 0, 0, [], [], []),
  (0, 9, 392, 456, 0, 0, [], [], []),
  (0, 31, 0, 0, 0, 0, [], [], [])]
set_option maxRecDepth 100000 in
theorem sz_s585_0 : sy_seg sz_E sz_T sz_RU [] sz_c585 sz_u585 ri_m_X2_copyFrom 256 none sz_h585_0 = true := by decide +kernel
theorem sz_ok585 (xs : Nat → Value) (L : Nat) : sy_Cok (sz_env xs L) sz_T sz_RU sz_c585 := sy_chk_ok (CT := []) (CU := sz_u585) (M := ri_m_X2_copyFrom) (fun _ h => absurd h List.not_mem_nil) rfl ⟨_, _, sz_s585_0⟩ (fun _ h => absurd h List.not_mem_nil)

/-! X0_copyFrom [171, 59] -/
set_option maxRecDepth 100000 in
noncomputable def sz_c586 : sy_Ct := (147, 3, 60, [(3, .inr 171, .inl 0), (3, .inr 59, .inl 0)], ([(0, 12)], []), [((59, 2), (0, .inr 0, .inl 0))], [], [(171, 1, 3), (173, 2, 2), (174, 0, 32), (175, 2, 2), (176, 0, 240), (179, 4, 14), (179, 16, 18), (180, 0, 6), (181, 0, 9), (182, 0, 4), (183, 0, 8), (184, 0, 5), (185, 0, 3), (186, 0, 3), (187, 0, 3), (188, 0, 3), (189, 0, 8), (190, 0, 4), (191, 4, 14), (191, 16, 18), (192, 0, 6), (193, 0, 9), (194, 0, 4), (195, 0, 8), (196, 0, 5), (197, 0, 3), (198, 0, 3), (199, 0, 3), (200, 0, 3), (201, 0, 8), (202, 0, 4), (203, 4, 14), (203, 16, 18), (204, 0, 6), (205, 0, 9), (206, 0, 4), (207, 0, 8), (208, 0, 5), (209, 0, 3), (210, 0, 3), (211, 0, 3), (212, 0, 3), (213, 0, 8), (214, 0, 4), (215, 4, 14), (215, 16, 18), (216, 0, 6), (217, 0, 9), (218, 0, 4), (219, 0, 8), (220, 0, 5), (221, 0, 3), (222, 0, 3), (223, 0, 3), (224, 0, 3), (225, 0, 8), (226, 0, 4)], [(.inl none, 0, 0, ([(0, 12), (0, 12)], [[((-1), [1]), (1, [0])], [(1, [1]), ((-1), [0])]]), [((171, 2), (0, .inr 1, .inl 0))], [])])
set_option maxRecDepth 100000 in
noncomputable def sz_u586 : List sy_Cut := []
set_option maxRecDepth 100000 in
noncomputable def sz_h586_0 : List sy_Hn := [(22, 4, 184, 5, 0, 0, [], [], []),
  (0, 6, 457, 0, 0, 0, [([1], [(1, [0]), (1, [2])])], [], [0]),
  (0, 4, 196, 5, 0, 0, [], [], []),
  (0, 6, 458, 0, 0, 0, [([1], [(1, [0]), (1, [2])])], [], [0]),
  (0, 4, 208, 5, 0, 0, [], [], []),
  (0, 6, 459, 0, 0, 0, [([1], [(1, [0]), (1, [2])])], [], [0]),
  (0, 4, 220, 5, 0, 0, [], [], []),
  (0, 6, 460, 0, 0, 0, [([1], [(1, [0]), (1, [2])])], [], [0]),
  (1, 20, 0, 0, 0, 0, [], [], []),
  (5, 20, 1, 0, 0, 0, [], [], []),
  (0, 31, 0, 0, 0, 0, [([], [(1, [0])]), ([], [(1, [0])])], [], []),
  (8, 4, 72, 5, 0, 0, [], [], []),
  (0, 5, 393, 0, 0, 0, [], [], []),
  (0, 7, 0, 0, 0, 0, [([1], [(1, [2]), (1, [0])])], [], []),
  (0, 3, 3, 0, 1, 3, [([], [(1, [0]), (1, [1])]), ([3], [(1, [0]), (1, [2])])], [], []),
  (1, 20, 2, 0, 0, 0, [], [], []),
  (10, 6, 457, 0, 0, 0, [([4], [(1, [0]), (1, [1])])], [], [1]),
  (0, 4, 196, 5, 0, 0, [], [], []),
  (0, 6, 458, 0, 0, 0, [([1], [(1, [0]), (1, [2])])], [], [0]),
  (0, 4, 208, 5, 0, 0, [], [], []),
  (0, 6, 459, 0, 0, 0, [([1], [(1, [0]), (1, [2])])], [], [0]),
  (0, 4, 220, 5, 0, 0, [], [], []),
  (0, 6, 460, 0, 0, 0, [([1], [(1, [0]), (1, [2])])], [], [0]),
  (1, 20, 0, 0, 0, 0, [], [], []),
  (5, 20, 1, 0, 0, 0, [], [], []),
  (0, 31, 0, 0, 0, 0, [([], [(1, [0])]), ([], [(1, [0])])], [], []),
  (8, 4, 84, 5, 0, 0, [], [], []),
  (0, 5, 394, 0, 0, 0, [], [], []),
  (0, 7, 0, 0, 0, 0, [([1], [(1, [2]), (1, [0])])], [], []),
  (0, 3, 5, 0, 1, 3, [([], [(1, [0]), (1, [1])]), ([5], [(1, [0]), (1, [2])])], [], []),
  (1, 20, 3, 0, 0, 0, [], [], []),
  (10, 6, 457, 0, 0, 0, [([4], [(1, [0]), (1, [1])])], [], [1]),
  (0, 6, 458, 0, 0, 0, [([6], [(1, [0]), (1, [1])])], [], [1]),
  (0, 4, 208, 5, 0, 0, [], [], []),
  (0, 6, 459, 0, 0, 0, [([1], [(1, [0]), (1, [2])])], [], [0]),
  (0, 4, 220, 5, 0, 0, [], [], []),
  (0, 6, 460, 0, 0, 0, [([1], [(1, [0]), (1, [2])])], [], [0]),
  (1, 20, 0, 0, 0, 0, [], [], []),
  (5, 20, 1, 0, 0, 0, [], [], []),
  (0, 31, 0, 0, 0, 0, [([], [(1, [0])]), ([], [(1, [0])])], [], []),
  (8, 4, 96, 5, 0, 0, [], [], []),
  (0, 5, 395, 0, 0, 0, [], [], []),
  (0, 7, 0, 0, 0, 0, [([1], [(1, [2]), (1, [0])])], [], []),
  (0, 3, 7, 0, 1, 3, [([], [(1, [0]), (1, [1])]), ([7], [(1, [0]), (1, [2])])], [], []),
  (1, 20, 4, 0, 0, 0, [], [], []),
  (10, 6, 457, 0, 0, 0, [([4], [(1, [0]), (1, [1])])], [], [1]),
  (0, 6, 458, 0, 0, 0, [([6], [(1, [0]), (1, [1])])], [], [1]),
  (0, 6, 459, 0, 0, 0, [([8], [(1, [0]), (1, [1])])], [], [1]),
  (0, 4, 220, 5, 0, 0, [], [], []),
  (0, 6, 460, 0, 0, 0, [([1], [(1, [0]), (1, [2])])], [], [0]),
  (1, 20, 0, 0, 0, 0, [], [], []),
  (5, 20, 1, 0, 0, 0, [], [], []),
  (0, 31, 0, 0, 0, 0, [([], [(1, [0])]), ([], [(1, [0])])], [], []),
  (8, 4, 108, 5, 0, 0, [], [], []),
  (0, 5, 396, 0, 0, 0, [], [], []),
  (0, 7, 0, 0, 0, 0, [([1], [(1, [2]), (1, [0])])], [], []),
  (0, 3, 9, 0, 1, 3, [([], [(1, [0]), (1, [1])]), ([9], [(1, [0]), (1, [2])])], [], []),
  (1, 20, 5, 0, 0, 0, [], [], []),
  (10, 6, 457, 0, 0, 0, [([4], [(1, [0]), (1, [1])])], [], [1]),
  (0, 6, 458, 0, 0, 0, [([6], [(1, [0]), (1, [1])])], [], [1]),
  (0, 6, 459, 0, 0, 0, [([8], [(1, [0]), (1, [1])])], [], [1]),
  (0, 6, 460, 0, 0, 0, [([10], [(1, [0]), (1, [1])])], [], [1]),
  (1, 20, 0, 0, 0, 0, [], [], []),
  (5, 20, 1, 0, 0, 0, [], [], []),
  (0, 31, 0, 0, 0, 0, [([], [(1, [0])]), ([], [(1, [0])])], [], [])]
set_option maxRecDepth 100000 in
theorem sz_s586_0 : sy_seg sz_E sz_T sz_RU [sz_c580, sz_c581, sz_c582, sz_c583, sz_c584, sz_c585] sz_c586 sz_u586 ri_m_X0_copyFrom 211 none sz_h586_0 = true := by decide +kernel
theorem sz_ok586 (xs : Nat → Value) (L : Nat) : sy_Cok (sz_env xs L) sz_T sz_RU sz_c586 := sy_chk_ok (CT := [sz_c580, sz_c581, sz_c582, sz_c583, sz_c584, sz_c585]) (CU := sz_u586) (M := ri_m_X0_copyFrom) (List.forall_mem_cons.mpr ⟨sz_ok580 xs L, List.forall_mem_cons.mpr ⟨sz_ok581 xs L, List.forall_mem_cons.mpr ⟨sz_ok582 xs L, List.forall_mem_cons.mpr ⟨sz_ok583 xs L, List.forall_mem_cons.mpr ⟨sz_ok584 xs L, List.forall_mem_cons.mpr ⟨sz_ok585 xs L, fun _ h => absurd h List.not_mem_nil⟩⟩⟩⟩⟩⟩) rfl ⟨_, _, sz_s586_0⟩ (fun _ h => absurd h List.not_mem_nil)

/-! X0_tellMode [171, 0, 0] -/
set_option maxRecDepth 100000 in
noncomputable def sz_c587 : sy_Ct := (169, 3, 67, [(3, .inr 171, .inl 0), (0, .inl 0, .inl 0), (0, .inr 0, .inl 0)], ([(0, 1)], []), [], [], [(175, 2, 2), (176, 0, 240), (179, 5, 5), (179, 8, 8), (179, 12, 13), (179, 16, 16)], [(.inl none, 0, 0, ([(0, 1)], []), [], [])])
set_option maxRecDepth 100000 in
noncomputable def sz_u587 : List sy_Cut := []
set_option maxRecDepth 100000 in
noncomputable def sz_h587_0 : List sy_Hn := [(27, 4, 182, 0, 0, 0, [], [], []),
  (0, 4, 182, 1, 0, 0, [], [], []),
  (0, 4, 189, 2, 0, 0, [], [], []),
  (0, 4, 189, 0, 0, 0, [], [], []),
  (0, 6, 440, 0, 0, 0, [([0], [(1, [0]), (1, [2])]), ([0], [(1, [0]), (1, [2])])], [], [0, 0]),
  (0, 4, 189, 5, 0, 0, [], [], []),
  (0, 4, 189, 6, 0, 0, [], [], []),
  (0, 6, 441, 0, 0, 0, [([0], [(1, [0]), (1, [2])]), ([0], [(1, [0]), (1, [2])])], [], [0, 0]),
  (1, 20, 1, 0, 0, 0, [], [], []),
  (8, 20, 0, 0, 0, 0, [], [], []),
  (0, 31, 0, 0, 0, 0, [], [], []),
  (24, 4, 182, 0, 0, 0, [], [], []),
  (0, 4, 182, 1, 0, 0, [], [], []),
  (0, 4, 189, 2, 0, 0, [], [], []),
  (0, 4, 189, 0, 0, 0, [], [], []),
  (0, 6, 440, 0, 0, 0, [([0], [(1, [0]), (1, [2])]), ([0], [(1, [0]), (1, [2])])], [], [0, 0]),
  (0, 4, 189, 5, 0, 0, [], [], []),
  (0, 4, 189, 6, 0, 0, [], [], []),
  (0, 6, 441, 0, 0, 0, [([0], [(1, [0]), (1, [2])]), ([0], [(1, [0]), (1, [2])])], [], [0, 0]),
  (1, 20, 0, 0, 0, 0, [], [], []),
  (0, 31, 0, 0, 0, 0, [], [], []),
  (1, 4, 182, 0, 0, 0, [], [], []),
  (0, 4, 182, 1, 0, 0, [], [], []),
  (0, 4, 189, 2, 0, 0, [], [], []),
  (0, 4, 189, 0, 0, 0, [], [], []),
  (0, 6, 440, 0, 0, 0, [([0], [(1, [0]), (1, [2])]), ([0], [(1, [0]), (1, [2])])], [], [0, 0]),
  (0, 4, 189, 5, 0, 0, [], [], []),
  (0, 4, 189, 6, 0, 0, [], [], []),
  (0, 6, 441, 0, 0, 0, [([0], [(1, [0]), (1, [2])]), ([0], [(1, [0]), (1, [2])])], [], [0, 0]),
  (1, 20, 1, 0, 0, 0, [], [], []),
  (8, 20, 0, 0, 0, 0, [], [], []),
  (0, 31, 0, 0, 0, 0, [], [], []),
  (0, 31, 0, 0, 0, 0, [], [], [])]
set_option maxRecDepth 100000 in
theorem sz_s587_0 : sy_seg sz_E sz_T sz_RU [sz_c264, sz_c283] sz_c587 sz_u587 ri_m_X0_tellMode 113 none sz_h587_0 = true := by decide +kernel
theorem sz_ok587 (xs : Nat → Value) (L : Nat) : sy_Cok (sz_env xs L) sz_T sz_RU sz_c587 := sy_chk_ok (CT := [sz_c264, sz_c283]) (CU := sz_u587) (M := ri_m_X0_tellMode) (List.forall_mem_cons.mpr ⟨sz_ok264 xs L, List.forall_mem_cons.mpr ⟨sz_ok283 xs L, fun _ h => absurd h List.not_mem_nil⟩⟩) rfl ⟨_, _, sz_s587_0⟩ (fun _ h => absurd h List.not_mem_nil)

/-! X0_tellMode [171, 0, 2] -/
set_option maxRecDepth 100000 in
noncomputable def sz_c588 : sy_Ct := (169, 3, 67, [(3, .inr 171, .inl 0), (0, .inl 0, .inl 0), (0, .inl 2, .inl 0)], ([], []), [], [], [(175, 2, 2), (176, 0, 240), (179, 5, 6), (179, 8, 8), (179, 12, 13), (179, 16, 16)], [(.inl none, 0, 0, ([], []), [], [])])
set_option maxRecDepth 100000 in
noncomputable def sz_u588 : List sy_Cut := []
set_option maxRecDepth 100000 in
noncomputable def sz_h588_0 : List sy_Hn := [(26, 4, 182, 0, 0, 0, [], [], []),
  (0, 4, 182, 1, 0, 0, [], [], []),
  (0, 4, 189, 2, 0, 0, [], [], []),
  (0, 4, 189, 0, 0, 0, [], [], []),
  (0, 6, 440, 0, 0, 0, [([], [(1, [0])]), ([], [(1, [0])])], [], [0, 0]),
  (0, 4, 189, 5, 0, 0, [], [], []),
  (0, 4, 189, 6, 0, 0, [], [], []),
  (0, 6, 441, 0, 0, 0, [([], [(1, [0])]), ([], [(1, [0])])], [], [0, 0]),
  (1, 20, 1, 0, 0, 0, [], [], []),
  (4, 20, 2, 0, 0, 0, [], [], []),
  (8, 20, 0, 0, 0, 0, [], [], []),
  (0, 31, 0, 0, 0, 0, [], [], []),
  (2, 4, 182, 0, 0, 0, [], [], []),
  (0, 4, 182, 1, 0, 0, [], [], []),
  (0, 4, 189, 2, 0, 0, [], [], []),
  (0, 4, 189, 0, 0, 0, [], [], []),
  (0, 5, 440, 0, 0, 0, [], [], []),
  (0, 7, 0, 0, 0, 0, [([0], [(1, [2]), (1, [0])])], [], []),
  (0, 5, 440, 1, 0, 0, [], [], []),
  (0, 7, 0, 0, 0, 0, [([0], [(1, [2]), (1, [0])])], [], []),
  (0, 4, 189, 5, 0, 0, [], [], []),
  (0, 4, 189, 6, 0, 0, [], [], []),
  (0, 5, 441, 0, 0, 0, [], [], []),
  (0, 7, 0, 0, 0, 0, [([0], [(1, [2]), (1, [0])])], [], []),
  (0, 3, 5, 0, 0, 239, [([5], [(1, [0]), (1, [1])]), ([], [(1, [0]), (1, [1])])], [], []),
  (0, 5, 441, 1, 0, 0, [], [], []),
  (0, 7, 0, 0, 0, 0, [([0], [(1, [2]), (1, [0])])], [], []),
  (15, 6, 440, 0, 0, 0, [([], [(1, [0])]), ([], [(1, [0])])], [], [0, 0]),
  (0, 6, 441, 0, 0, 0, [([], [(1, [0])]), ([], [(1, [0])])], [], [0, 0]),
  (1, 20, 1, 0, 0, 0, [], [], []),
  (4, 20, 2, 0, 0, 0, [], [], []),
  (8, 20, 0, 0, 0, 0, [], [], []),
  (0, 31, 0, 0, 0, 0, [], [], []),
  (0, 31, 0, 0, 0, 0, [], [], [])]
set_option maxRecDepth 100000 in
theorem sz_s588_0 : sy_seg sz_E sz_T sz_RU [sz_c264, sz_c272, sz_c283] sz_c588 sz_u588 ri_m_X0_tellMode 115 none sz_h588_0 = true := by decide +kernel
theorem sz_ok588 (xs : Nat → Value) (L : Nat) : sy_Cok (sz_env xs L) sz_T sz_RU sz_c588 := sy_chk_ok (CT := [sz_c264, sz_c272, sz_c283]) (CU := sz_u588) (M := ri_m_X0_tellMode) (List.forall_mem_cons.mpr ⟨sz_ok264 xs L, List.forall_mem_cons.mpr ⟨sz_ok272 xs L, List.forall_mem_cons.mpr ⟨sz_ok283 xs L, fun _ h => absurd h List.not_mem_nil⟩⟩⟩) rfl ⟨_, _, sz_s588_0⟩ (fun _ h => absurd h List.not_mem_nil)

/-! X0_tellMode [171, 1, 0] -/
set_option maxRecDepth 100000 in
noncomputable def sz_c589 : sy_Ct := (169, 3, 67, [(3, .inr 171, .inl 0), (0, .inl 1, .inl 0), (0, .inr 0, .inl 0)], ([(0, 1)], []), [], [], [(175, 2, 2), (176, 0, 240), (191, 5, 5), (191, 8, 8), (191, 12, 13), (191, 16, 16)], [(.inl none, 0, 0, ([(0, 1)], []), [], [])])
set_option maxRecDepth 100000 in
noncomputable def sz_u589 : List sy_Cut := []
set_option maxRecDepth 100000 in
noncomputable def sz_h589_0 : List sy_Hn := [(27, 4, 194, 0, 0, 0, [], [], []),
  (0, 4, 194, 1, 0, 0, [], [], []),
  (0, 4, 201, 2, 0, 0, [], [], []),
  (0, 4, 201, 0, 0, 0, [], [], []),
  (0, 6, 445, 0, 0, 0, [([0], [(1, [0]), (1, [2])]), ([0], [(1, [0]), (1, [2])])], [], [0, 0]),
  (0, 4, 201, 5, 0, 0, [], [], []),
  (0, 4, 201, 6, 0, 0, [], [], []),
  (0, 6, 446, 0, 0, 0, [([0], [(1, [0]), (1, [2])]), ([0], [(1, [0]), (1, [2])])], [], [0, 0]),
  (1, 20, 1, 0, 0, 0, [], [], []),
  (8, 20, 0, 0, 0, 0, [], [], []),
  (0, 31, 0, 0, 0, 0, [], [], []),
  (24, 4, 194, 0, 0, 0, [], [], []),
  (0, 4, 194, 1, 0, 0, [], [], []),
  (0, 4, 201, 2, 0, 0, [], [], []),
  (0, 4, 201, 0, 0, 0, [], [], []),
  (0, 6, 445, 0, 0, 0, [([0], [(1, [0]), (1, [2])]), ([0], [(1, [0]), (1, [2])])], [], [0, 0]),
  (0, 4, 201, 5, 0, 0, [], [], []),
  (0, 4, 201, 6, 0, 0, [], [], []),
  (0, 6, 446, 0, 0, 0, [([0], [(1, [0]), (1, [2])]), ([0], [(1, [0]), (1, [2])])], [], [0, 0]),
  (1, 20, 0, 0, 0, 0, [], [], []),
  (0, 31, 0, 0, 0, 0, [], [], []),
  (1, 4, 194, 0, 0, 0, [], [], []),
  (0, 4, 194, 1, 0, 0, [], [], []),
  (0, 4, 201, 2, 0, 0, [], [], []),
  (0, 4, 201, 0, 0, 0, [], [], []),
  (0, 6, 445, 0, 0, 0, [([0], [(1, [0]), (1, [2])]), ([0], [(1, [0]), (1, [2])])], [], [0, 0]),
  (0, 4, 201, 5, 0, 0, [], [], []),
  (0, 4, 201, 6, 0, 0, [], [], []),
  (0, 6, 446, 0, 0, 0, [([0], [(1, [0]), (1, [2])]), ([0], [(1, [0]), (1, [2])])], [], [0, 0]),
  (1, 20, 1, 0, 0, 0, [], [], []),
  (8, 20, 0, 0, 0, 0, [], [], []),
  (0, 31, 0, 0, 0, 0, [], [], []),
  (0, 31, 0, 0, 0, 0, [], [], [])]
set_option maxRecDepth 100000 in
theorem sz_s589_0 : sy_seg sz_E sz_T sz_RU [sz_c264, sz_c301] sz_c589 sz_u589 ri_m_X0_tellMode 113 none sz_h589_0 = true := by decide +kernel
theorem sz_ok589 (xs : Nat → Value) (L : Nat) : sy_Cok (sz_env xs L) sz_T sz_RU sz_c589 := sy_chk_ok (CT := [sz_c264, sz_c301]) (CU := sz_u589) (M := ri_m_X0_tellMode) (List.forall_mem_cons.mpr ⟨sz_ok264 xs L, List.forall_mem_cons.mpr ⟨sz_ok301 xs L, fun _ h => absurd h List.not_mem_nil⟩⟩) rfl ⟨_, _, sz_s589_0⟩ (fun _ h => absurd h List.not_mem_nil)

/-! X0_tellMode [171, 1, 2] -/
set_option maxRecDepth 100000 in
noncomputable def sz_c590 : sy_Ct := (169, 3, 67, [(3, .inr 171, .inl 0), (0, .inl 1, .inl 0), (0, .inl 2, .inl 0)], ([], []), [], [], [(175, 2, 2), (176, 0, 240), (191, 5, 6), (191, 8, 8), (191, 12, 13), (191, 16, 16)], [(.inl none, 0, 0, ([], []), [], [])])
set_option maxRecDepth 100000 in
noncomputable def sz_u590 : List sy_Cut := []
set_option maxRecDepth 100000 in
noncomputable def sz_h590_0 : List sy_Hn := [(26, 4, 194, 0, 0, 0, [], [], []),
  (0, 4, 194, 1, 0, 0, [], [], []),
  (0, 4, 201, 2, 0, 0, [], [], []),
  (0, 4, 201, 0, 0, 0, [], [], []),
  (0, 6, 445, 0, 0, 0, [([], [(1, [0])]), ([], [(1, [0])])], [], [0, 0]),
  (0, 4, 201, 5, 0, 0, [], [], []),
  (0, 4, 201, 6, 0, 0, [], [], []),
  (0, 6, 446, 0, 0, 0, [([], [(1, [0])]), ([], [(1, [0])])], [], [0, 0]),
  (1, 20, 1, 0, 0, 0, [], [], []),
  (4, 20, 2, 0, 0, 0, [], [], []),
  (8, 20, 0, 0, 0, 0, [], [], []),
  (0, 31, 0, 0, 0, 0, [], [], []),
  (2, 4, 194, 0, 0, 0, [], [], []),
  (0, 4, 194, 1, 0, 0, [], [], []),
  (0, 4, 201, 2, 0, 0, [], [], []),
  (0, 4, 201, 0, 0, 0, [], [], []),
  (0, 5, 445, 0, 0, 0, [], [], []),
  (0, 7, 0, 0, 0, 0, [([0], [(1, [2]), (1, [0])])], [], []),
  (0, 5, 445, 1, 0, 0, [], [], []),
  (0, 7, 0, 0, 0, 0, [([0], [(1, [2]), (1, [0])])], [], []),
  (0, 4, 201, 5, 0, 0, [], [], []),
  (0, 4, 201, 6, 0, 0, [], [], []),
  (0, 5, 446, 0, 0, 0, [], [], []),
  (0, 7, 0, 0, 0, 0, [([0], [(1, [2]), (1, [0])])], [], []),
  (0, 3, 5, 0, 0, 239, [([5], [(1, [0]), (1, [1])]), ([], [(1, [0]), (1, [1])])], [], []),
  (0, 5, 446, 1, 0, 0, [], [], []),
  (0, 7, 0, 0, 0, 0, [([0], [(1, [2]), (1, [0])])], [], []),
  (15, 6, 445, 0, 0, 0, [([], [(1, [0])]), ([], [(1, [0])])], [], [0, 0]),
  (0, 6, 446, 0, 0, 0, [([], [(1, [0])]), ([], [(1, [0])])], [], [0, 0]),
  (1, 20, 1, 0, 0, 0, [], [], []),
  (4, 20, 2, 0, 0, 0, [], [], []),
  (8, 20, 0, 0, 0, 0, [], [], []),
  (0, 31, 0, 0, 0, 0, [], [], []),
  (0, 31, 0, 0, 0, 0, [], [], [])]
set_option maxRecDepth 100000 in
theorem sz_s590_0 : sy_seg sz_E sz_T sz_RU [sz_c264, sz_c293, sz_c301] sz_c590 sz_u590 ri_m_X0_tellMode 115 none sz_h590_0 = true := by decide +kernel
theorem sz_ok590 (xs : Nat → Value) (L : Nat) : sy_Cok (sz_env xs L) sz_T sz_RU sz_c590 := sy_chk_ok (CT := [sz_c264, sz_c293, sz_c301]) (CU := sz_u590) (M := ri_m_X0_tellMode) (List.forall_mem_cons.mpr ⟨sz_ok264 xs L, List.forall_mem_cons.mpr ⟨sz_ok293 xs L, List.forall_mem_cons.mpr ⟨sz_ok301 xs L, fun _ h => absurd h List.not_mem_nil⟩⟩⟩) rfl ⟨_, _, sz_s590_0⟩ (fun _ h => absurd h List.not_mem_nil)

/-! X0_tellMode [171, 2, 0] -/
set_option maxRecDepth 100000 in
noncomputable def sz_c591 : sy_Ct := (169, 3, 67, [(3, .inr 171, .inl 0), (0, .inl 2, .inl 0), (0, .inr 0, .inl 0)], ([(0, 1)], []), [], [], [(175, 2, 2), (176, 0, 240), (203, 5, 5), (203, 8, 8), (203, 12, 13), (203, 16, 16)], [(.inl none, 0, 0, ([(0, 1)], []), [], [])])
set_option maxRecDepth 100000 in
noncomputable def sz_u591 : List sy_Cut := []
set_option maxRecDepth 100000 in
noncomputable def sz_h591_0 : List sy_Hn := [(27, 4, 206, 0, 0, 0, [], [], []),
  (0, 4, 206, 1, 0, 0, [], [], []),
  (0, 4, 213, 2, 0, 0, [], [], []),
  (0, 4, 213, 0, 0, 0, [], [], []),
  (0, 6, 450, 0, 0, 0, [([0], [(1, [0]), (1, [2])]), ([0], [(1, [0]), (1, [2])])], [], [0, 0]),
  (0, 4, 213, 5, 0, 0, [], [], []),
  (0, 4, 213, 6, 0, 0, [], [], []),
  (0, 6, 451, 0, 0, 0, [([0], [(1, [0]), (1, [2])]), ([0], [(1, [0]), (1, [2])])], [], [0, 0]),
  (1, 20, 1, 0, 0, 0, [], [], []),
  (8, 20, 0, 0, 0, 0, [], [], []),
  (0, 31, 0, 0, 0, 0, [], [], []),
  (24, 4, 206, 0, 0, 0, [], [], []),
  (0, 4, 206, 1, 0, 0, [], [], []),
  (0, 4, 213, 2, 0, 0, [], [], []),
  (0, 4, 213, 0, 0, 0, [], [], []),
  (0, 6, 450, 0, 0, 0, [([0], [(1, [0]), (1, [2])]), ([0], [(1, [0]), (1, [2])])], [], [0, 0]),
  (0, 4, 213, 5, 0, 0, [], [], []),
  (0, 4, 213, 6, 0, 0, [], [], []),
  (0, 6, 451, 0, 0, 0, [([0], [(1, [0]), (1, [2])]), ([0], [(1, [0]), (1, [2])])], [], [0, 0]),
  (1, 20, 0, 0, 0, 0, [], [], []),
  (0, 31, 0, 0, 0, 0, [], [], []),
  (1, 4, 206, 0, 0, 0, [], [], []),
  (0, 4, 206, 1, 0, 0, [], [], []),
  (0, 4, 213, 2, 0, 0, [], [], []),
  (0, 4, 213, 0, 0, 0, [], [], []),
  (0, 6, 450, 0, 0, 0, [([0], [(1, [0]), (1, [2])]), ([0], [(1, [0]), (1, [2])])], [], [0, 0]),
  (0, 4, 213, 5, 0, 0, [], [], []),
  (0, 4, 213, 6, 0, 0, [], [], []),
  (0, 6, 451, 0, 0, 0, [([0], [(1, [0]), (1, [2])]), ([0], [(1, [0]), (1, [2])])], [], [0, 0]),
  (1, 20, 1, 0, 0, 0, [], [], []),
  (8, 20, 0, 0, 0, 0, [], [], []),
  (0, 31, 0, 0, 0, 0, [], [], []),
  (0, 31, 0, 0, 0, 0, [], [], [])]
set_option maxRecDepth 100000 in
theorem sz_s591_0 : sy_seg sz_E sz_T sz_RU [sz_c264, sz_c320] sz_c591 sz_u591 ri_m_X0_tellMode 113 none sz_h591_0 = true := by decide +kernel
theorem sz_ok591 (xs : Nat → Value) (L : Nat) : sy_Cok (sz_env xs L) sz_T sz_RU sz_c591 := sy_chk_ok (CT := [sz_c264, sz_c320]) (CU := sz_u591) (M := ri_m_X0_tellMode) (List.forall_mem_cons.mpr ⟨sz_ok264 xs L, List.forall_mem_cons.mpr ⟨sz_ok320 xs L, fun _ h => absurd h List.not_mem_nil⟩⟩) rfl ⟨_, _, sz_s591_0⟩ (fun _ h => absurd h List.not_mem_nil)

/-! X0_tellMode [171, 2, 2] -/
set_option maxRecDepth 100000 in
noncomputable def sz_c592 : sy_Ct := (169, 3, 67, [(3, .inr 171, .inl 0), (0, .inl 2, .inl 0), (0, .inl 2, .inl 0)], ([], []), [], [], [(175, 2, 2), (176, 0, 240), (203, 5, 6), (203, 8, 8), (203, 12, 13), (203, 16, 16)], [(.inl none, 0, 0, ([], []), [], [])])
set_option maxRecDepth 100000 in
noncomputable def sz_u592 : List sy_Cut := []
set_option maxRecDepth 100000 in
noncomputable def sz_h592_0 : List sy_Hn := [(26, 4, 206, 0, 0, 0, [], [], []),
  (0, 4, 206, 1, 0, 0, [], [], []),
  (0, 4, 213, 2, 0, 0, [], [], []),
  (0, 4, 213, 0, 0, 0, [], [], []),
  (0, 6, 450, 0, 0, 0, [([], [(1, [0])]), ([], [(1, [0])])], [], [0, 0]),
  (0, 4, 213, 5, 0, 0, [], [], []),
  (0, 4, 213, 6, 0, 0, [], [], []),
  (0, 6, 451, 0, 0, 0, [([], [(1, [0])]), ([], [(1, [0])])], [], [0, 0]),
  (1, 20, 1, 0, 0, 0, [], [], []),
  (4, 20, 2, 0, 0, 0, [], [], []),
  (8, 20, 0, 0, 0, 0, [], [], []),
  (0, 31, 0, 0, 0, 0, [], [], []),
  (2, 4, 206, 0, 0, 0, [], [], []),
  (0, 4, 206, 1, 0, 0, [], [], []),
  (0, 4, 213, 2, 0, 0, [], [], []),
  (0, 4, 213, 0, 0, 0, [], [], []),
  (0, 5, 450, 0, 0, 0, [], [], []),
  (0, 7, 0, 0, 0, 0, [([0], [(1, [2]), (1, [0])])], [], []),
  (0, 5, 450, 1, 0, 0, [], [], []),
  (0, 7, 0, 0, 0, 0, [([0], [(1, [2]), (1, [0])])], [], []),
  (0, 4, 213, 5, 0, 0, [], [], []),
  (0, 4, 213, 6, 0, 0, [], [], []),
  (0, 5, 451, 0, 0, 0, [], [], []),
  (0, 7, 0, 0, 0, 0, [([0], [(1, [2]), (1, [0])])], [], []),
  (0, 3, 5, 0, 0, 239, [([5], [(1, [0]), (1, [1])]), ([], [(1, [0]), (1, [1])])], [], []),
  (0, 5, 451, 1, 0, 0, [], [], []),
  (0, 7, 0, 0, 0, 0, [([0], [(1, [2]), (1, [0])])], [], []),
  (15, 6, 450, 0, 0, 0, [([], [(1, [0])]), ([], [(1, [0])])], [], [0, 0]),
  (0, 6, 451, 0, 0, 0, [([], [(1, [0])]), ([], [(1, [0])])], [], [0, 0]),
  (1, 20, 1, 0, 0, 0, [], [], []),
  (4, 20, 2, 0, 0, 0, [], [], []),
  (8, 20, 0, 0, 0, 0, [], [], []),
  (0, 31, 0, 0, 0, 0, [], [], []),
  (0, 31, 0, 0, 0, 0, [], [], [])]
set_option maxRecDepth 100000 in
theorem sz_s592_0 : sy_seg sz_E sz_T sz_RU [sz_c264, sz_c312, sz_c320] sz_c592 sz_u592 ri_m_X0_tellMode 115 none sz_h592_0 = true := by decide +kernel
theorem sz_ok592 (xs : Nat → Value) (L : Nat) : sy_Cok (sz_env xs L) sz_T sz_RU sz_c592 := sy_chk_ok (CT := [sz_c264, sz_c312, sz_c320]) (CU := sz_u592) (M := ri_m_X0_tellMode) (List.forall_mem_cons.mpr ⟨sz_ok264 xs L, List.forall_mem_cons.mpr ⟨sz_ok312 xs L, List.forall_mem_cons.mpr ⟨sz_ok320 xs L, fun _ h => absurd h List.not_mem_nil⟩⟩⟩) rfl ⟨_, _, sz_s592_0⟩ (fun _ h => absurd h List.not_mem_nil)

/-! X0_tellMode [171, 3, 0] -/
set_option maxRecDepth 100000 in
noncomputable def sz_c593 : sy_Ct := (169, 3, 67, [(3, .inr 171, .inl 0), (0, .inl 3, .inl 0), (0, .inr 0, .inl 0)], ([(0, 1)], []), [], [], [(175, 2, 2), (176, 0, 240), (215, 5, 5), (215, 8, 8), (215, 12, 13), (215, 16, 16)], [(.inl none, 0, 0, ([(0, 1)], []), [], [])])
set_option maxRecDepth 100000 in
noncomputable def sz_u593 : List sy_Cut := []
set_option maxRecDepth 100000 in
noncomputable def sz_h593_0 : List sy_Hn := [(27, 4, 218, 0, 0, 0, [], [], []),
  (0, 4, 218, 1, 0, 0, [], [], []),
  (0, 4, 225, 2, 0, 0, [], [], []),
  (0, 4, 225, 0, 0, 0, [], [], []),
  (0, 6, 455, 0, 0, 0, [([0], [(1, [0]), (1, [2])]), ([0], [(1, [0]), (1, [2])])], [], [0, 0]),
  (0, 4, 225, 5, 0, 0, [], [], []),
  (0, 4, 225, 6, 0, 0, [], [], []),
  (0, 6, 456, 0, 0, 0, [([0], [(1, [0]), (1, [2])]), ([0], [(1, [0]), (1, [2])])], [], [0, 0]),
  (1, 20, 1, 0, 0, 0, [], [], []),
  (8, 20, 0, 0, 0, 0, [], [], []),
  (0, 31, 0, 0, 0, 0, [], [], []),
  (24, 4, 218, 0, 0, 0, [], [], []),
  (0, 4, 218, 1, 0, 0, [], [], []),
  (0, 4, 225, 2, 0, 0, [], [], []),
  (0, 4, 225, 0, 0, 0, [], [], []),
  (0, 6, 455, 0, 0, 0, [([0], [(1, [0]), (1, [2])]), ([0], [(1, [0]), (1, [2])])], [], [0, 0]),
  (0, 4, 225, 5, 0, 0, [], [], []),
  (0, 4, 225, 6, 0, 0, [], [], []),
  (0, 6, 456, 0, 0, 0, [([0], [(1, [0]), (1, [2])]), ([0], [(1, [0]), (1, [2])])], [], [0, 0]),
  (1, 20, 0, 0, 0, 0, [], [], []),
  (0, 31, 0, 0, 0, 0, [], [], []),
  (1, 4, 218, 0, 0, 0, [], [], []),
  (0, 4, 218, 1, 0, 0, [], [], []),
  (0, 4, 225, 2, 0, 0, [], [], []),
  (0, 4, 225, 0, 0, 0, [], [], []),
  (0, 6, 455, 0, 0, 0, [([0], [(1, [0]), (1, [2])]), ([0], [(1, [0]), (1, [2])])], [], [0, 0]),
  (0, 4, 225, 5, 0, 0, [], [], []),
  (0, 4, 225, 6, 0, 0, [], [], []),
  (0, 6, 456, 0, 0, 0, [([0], [(1, [0]), (1, [2])]), ([0], [(1, [0]), (1, [2])])], [], [0, 0]),
  (1, 20, 1, 0, 0, 0, [], [], []),
  (8, 20, 0, 0, 0, 0, [], [], []),
  (0, 31, 0, 0, 0, 0, [], [], []),
  (0, 31, 0, 0, 0, 0, [], [], [])]
set_option maxRecDepth 100000 in
theorem sz_s593_0 : sy_seg sz_E sz_T sz_RU [sz_c264, sz_c337] sz_c593 sz_u593 ri_m_X0_tellMode 113 none sz_h593_0 = true := by decide +kernel
theorem sz_ok593 (xs : Nat → Value) (L : Nat) : sy_Cok (sz_env xs L) sz_T sz_RU sz_c593 := sy_chk_ok (CT := [sz_c264, sz_c337]) (CU := sz_u593) (M := ri_m_X0_tellMode) (List.forall_mem_cons.mpr ⟨sz_ok264 xs L, List.forall_mem_cons.mpr ⟨sz_ok337 xs L, fun _ h => absurd h List.not_mem_nil⟩⟩) rfl ⟨_, _, sz_s593_0⟩ (fun _ h => absurd h List.not_mem_nil)

/-! X0_tellMode [171, 3, 2] -/
set_option maxRecDepth 100000 in
noncomputable def sz_c594 : sy_Ct := (169, 3, 67, [(3, .inr 171, .inl 0), (0, .inl 3, .inl 0), (0, .inl 2, .inl 0)], ([], []), [], [], [(175, 2, 2), (176, 0, 240), (215, 5, 6), (215, 8, 8), (215, 12, 13), (215, 16, 16)], [(.inl none, 0, 0, ([], []), [], [])])
set_option maxRecDepth 100000 in
noncomputable def sz_u594 : List sy_Cut := []
set_option maxRecDepth 100000 in
noncomputable def sz_h594_0 : List sy_Hn := [(26, 4, 218, 0, 0, 0, [], [], []),
  (0, 4, 218, 1, 0, 0, [], [], []),
  (0, 4, 225, 2, 0, 0, [], [], []),
  (0, 4, 225, 0, 0, 0, [], [], []),
  (0, 6, 455, 0, 0, 0, [([], [(1, [0])]), ([], [(1, [0])])], [], [0, 0]),
  (0, 4, 225, 5, 0, 0, [], [], []),
  (0, 4, 225, 6, 0, 0, [], [], []),
  (0, 6, 456, 0, 0, 0, [([], [(1, [0])]), ([], [(1, [0])])], [], [0, 0]),
  (1, 20, 1, 0, 0, 0, [], [], []),
  (4, 20, 2, 0, 0, 0, [], [], []),
  (8, 20, 0, 0, 0, 0, [], [], []),
  (0, 31, 0, 0, 0, 0, [], [], []),
  (2, 4, 218, 0, 0, 0, [], [], []),
  (0, 4, 218, 1, 0, 0, [], [], []),
  (0, 4, 225, 2, 0, 0, [], [], []),
  (0, 4, 225, 0, 0, 0, [], [], []),
  (0, 5, 455, 0, 0, 0, [], [], []),
  (0, 7, 0, 0, 0, 0, [([0], [(1, [2]), (1, [0])])], [], []),
  (0, 5, 455, 1, 0, 0, [], [], []),
  (0, 7, 0, 0, 0, 0, [([0], [(1, [2]), (1, [0])])], [], []),
  (0, 4, 225, 5, 0, 0, [], [], []),
  (0, 4, 225, 6, 0, 0, [], [], []),
  (0, 5, 456, 0, 0, 0, [], [], []),
  (0, 7, 0, 0, 0, 0, [([0], [(1, [2]), (1, [0])])], [], []),
  (0, 3, 5, 0, 0, 239, [([5], [(1, [0]), (1, [1])]), ([], [(1, [0]), (1, [1])])], [], []),
  (0, 5, 456, 1, 0, 0, [], [], []),
  (0, 7, 0, 0, 0, 0, [([0], [(1, [2]), (1, [0])])], [], []),
  (15, 6, 455, 0, 0, 0, [([], [(1, [0])]), ([], [(1, [0])])], [], [0, 0]),
  (0, 6, 456, 0, 0, 0, [([], [(1, [0])]), ([], [(1, [0])])], [], [0, 0]),
  (1, 20, 1, 0, 0, 0, [], [], []),
  (4, 20, 2, 0, 0, 0, [], [], []),
  (8, 20, 0, 0, 0, 0, [], [], []),
  (0, 31, 0, 0, 0, 0, [], [], []),
  (0, 31, 0, 0, 0, 0, [], [], [])]
set_option maxRecDepth 100000 in
theorem sz_s594_0 : sy_seg sz_E sz_T sz_RU [sz_c264, sz_c329, sz_c337] sz_c594 sz_u594 ri_m_X0_tellMode 115 none sz_h594_0 = true := by decide +kernel
theorem sz_ok594 (xs : Nat → Value) (L : Nat) : sy_Cok (sz_env xs L) sz_T sz_RU sz_c594 := sy_chk_ok (CT := [sz_c264, sz_c329, sz_c337]) (CU := sz_u594) (M := ri_m_X0_tellMode) (List.forall_mem_cons.mpr ⟨sz_ok264 xs L, List.forall_mem_cons.mpr ⟨sz_ok329 xs L, List.forall_mem_cons.mpr ⟨sz_ok337 xs L, fun _ h => absurd h List.not_mem_nil⟩⟩⟩) rfl ⟨_, _, sz_s594_0⟩ (fun _ h => absurd h List.not_mem_nil)

/-! X10_bump [0, 0, 1] -/
set_option maxRecDepth 100000 in
noncomputable def sz_c595 : sy_Ct := (115, 8, 124, [(3, .inr 0, .inl 0), (0, .inr 0, .inl 0), (0, .inr 1, .inl 0)], ([((-2147483648), 2147483647), ((-2147483648), 2147483647)], []), [], [], [(171, 1, 3), (173, 2, 2), (174, 0, 32), (175, 2, 2), (176, 0, 240), (177, 0, 3), (178, 0, 3), (179, 4, 14), (179, 16, 18), (180, 0, 6), (181, 0, 9), (182, 0, 4), (183, 0, 8), (184, 0, 5), (185, 0, 3), (186, 0, 3), (187, 0, 3), (188, 0, 3), (189, 0, 8), (190, 0, 4), (191, 4, 14), (191, 16, 18), (192, 0, 6), (193, 0, 9), (194, 0, 4), (195, 0, 8), (196, 0, 5), (197, 0, 3), (198, 0, 3), (199, 0, 3), (200, 0, 3), (201, 0, 8), (202, 0, 4), (203, 4, 14), (203, 16, 18), (204, 0, 6), (205, 0, 9), (206, 0, 4), (207, 0, 8), (208, 0, 5), (209, 0, 3), (210, 0, 3), (211, 0, 3), (212, 0, 3), (213, 0, 8), (214, 0, 4), (215, 4, 14), (215, 16, 18), (216, 0, 6), (217, 0, 9), (218, 0, 4), (219, 0, 8), (220, 0, 5), (221, 0, 3), (222, 0, 3), (223, 0, 3), (224, 0, 3), (225, 0, 8), (226, 0, 4)], [(.inl (some (0, .inr 2, .inl 0)), 0, 0, ([(0, 61600), ((-2147483648), 2147483647), ((-2147483648), 2147483647)], []), [], []), (.inr 0, 1, 6, ([((-2147483648), 2147483647), ((-2147483648), 2147483647)], []), [], []), (.inr 2, 1, 6, ([((-2147483648), 2147483647), ((-2147483648), 2147483647)], []), [], []), (.inr 4, 1, 6, ([((-2147483648), 2147483647), ((-2147483648), 2147483647)], []), [], [])])
set_option maxRecDepth 100000 in
noncomputable def sz_u595 : List sy_Cut := []
set_option maxRecDepth 100000 in
noncomputable def sz_h595_0 : List sy_Hn := [(0, 31, 2, 0, 0, 0, [], [], []),
  (9, 1, 0, 0, 0, 0, [], [], []),
  (0, 31, 1, 0, 0, 0, [], [], []),
  (12, 4, 59, 2, 0, 0, [], [], []),
  (1, 20, 1, 0, 0, 0, [], [], []),
  (5, 20, 2, 0, 0, 0, [], [], []),
  (3, 20, 0, 0, 0, 0, [], [], []),
  (0, 31, 0, 0, 0, 0, [], [], []),
  (0, 31, 0, 0, 0, 0, [], [], []),
  (9, 4, 59, 2, 0, 0, [], [], []),
  (1, 20, 1, 0, 0, 0, [], [], []),
  (5, 20, 3, 0, 0, 0, [], [], []),
  (3, 20, 0, 0, 0, 0, [], [], []),
  (0, 31, 0, 0, 0, 0, [], [], []),
  (0, 31, 0, 0, 0, 0, [], [], []),
  (0, 31, 3, 0, 0, 0, [], [], []),
  (0, 31, 1, 0, 0, 0, [], [], []),
  (0, 1, 0, 0, 1, 0, [], [], []),
  (0, 31, 1, 0, 0, 0, [], [], []),
  (12, 4, 59, 2, 0, 0, [], [], []),
  (1, 20, 1, 0, 0, 0, [], [], []),
  (5, 20, 4, 0, 0, 0, [], [], []),
  (3, 20, 0, 0, 0, 0, [], [], []),
  (0, 31, 0, 0, 0, 0, [], [], []),
  (0, 31, 0, 0, 0, 0, [], [], []),
  (9, 4, 59, 2, 0, 0, [], [], []),
  (1, 20, 1, 0, 0, 0, [], [], []),
  (5, 20, 5, 0, 0, 0, [], [], []),
  (3, 20, 0, 0, 0, 0, [], [], []),
  (0, 31, 0, 0, 0, 0, [], [], []),
  (0, 31, 0, 0, 0, 0, [], [], []),
  (0, 31, 3, 0, 0, 0, [], [], []),
  (0, 31, 1, 0, 0, 0, [], [], []),
  (0, 1, 0, 0, 2, 0, [], [], []),
  (0, 31, 1, 0, 0, 0, [], [], []),
  (12, 4, 59, 2, 0, 0, [], [], []),
  (1, 20, 1, 0, 0, 0, [], [], []),
  (5, 20, 6, 0, 0, 0, [], [], []),
  (3, 20, 0, 0, 0, 0, [], [], []),
  (0, 31, 0, 0, 0, 0, [], [], []),
  (0, 31, 0, 0, 0, 0, [], [], []),
  (9, 4, 59, 2, 0, 0, [], [], []),
  (1, 20, 1, 0, 0, 0, [], [], []),
  (5, 20, 7, 0, 0, 0, [], [], []),
  (3, 20, 0, 0, 0, 0, [], [], []),
  (0, 31, 0, 0, 0, 0, [], [], []),
  (0, 31, 0, 0, 0, 0, [], [], []),
  (0, 31, 3, 0, 0, 0, [], [], []),
  (0, 31, 1, 0, 0, 0, [], [], []),
  (0, 31, 1, 0, 0, 0, [], [], []),
  (12, 4, 59, 2, 0, 0, [], [], []),
  (1, 20, 1, 0, 0, 0, [], [], []),
  (5, 20, 8, 0, 0, 0, [], [], []),
  (3, 20, 0, 0, 0, 0, [], [], []),
  (0, 31, 0, 0, 0, 0, [], [], []),
  (0, 31, 0, 0, 0, 0, [], [], []),
  (9, 4, 59, 2, 0, 0, [], [], []),
  (1, 20, 1, 0, 0, 0, [], [], []),
  (5, 20, 9, 0, 0, 0, [], [], []),
  (3, 20, 0, 0, 0, 0, [], [], []),
  (0, 31, 0, 0, 0, 0, [], [], []),
  (0, 31, 0, 0, 0, 0, [], [], []),
  (0, 31, 3, 0, 0, 0, [], [], []),
  (0, 31, 1, 0, 0, 0, [], [], []),
  (0, 31, 2, 0, 0, 0, [], [], [])]
set_option maxRecDepth 100000 in
theorem sz_s595_0 : sy_seg sz_E sz_T sz_RU [sz_c339, sz_c586, sz_c587, sz_c588, sz_c589, sz_c590, sz_c591, sz_c592, sz_c593, sz_c594] sz_c595 sz_u595 ri_m_X10_bump 477 none sz_h595_0 = true := by decide +kernel
theorem sz_ok595 (xs : Nat → Value) (L : Nat) : sy_Cok (sz_env xs L) sz_T sz_RU sz_c595 := sy_chk_ok (CT := [sz_c339, sz_c586, sz_c587, sz_c588, sz_c589, sz_c590, sz_c591, sz_c592, sz_c593, sz_c594]) (CU := sz_u595) (M := ri_m_X10_bump) (List.forall_mem_cons.mpr ⟨sz_ok339 xs L, List.forall_mem_cons.mpr ⟨sz_ok586 xs L, List.forall_mem_cons.mpr ⟨sz_ok587 xs L, List.forall_mem_cons.mpr ⟨sz_ok588 xs L, List.forall_mem_cons.mpr ⟨sz_ok589 xs L, List.forall_mem_cons.mpr ⟨sz_ok590 xs L, List.forall_mem_cons.mpr ⟨sz_ok591 xs L, List.forall_mem_cons.mpr ⟨sz_ok592 xs L, List.forall_mem_cons.mpr ⟨sz_ok593 xs L, List.forall_mem_cons.mpr ⟨sz_ok594 xs L, fun _ h => absurd h List.not_mem_nil⟩⟩⟩⟩⟩⟩⟩⟩⟩⟩) rfl ⟨_, _, sz_s595_0⟩ (fun _ h => absurd h List.not_mem_nil)

/-! X10_goAhead [0, 0] -/
set_option maxRecDepth 100000 in
noncomputable def sz_c596 : sy_Ct := (197, 7, 122, [(3, .inr 0, .inl 0), (0, .inr 0, .inl 0)], ([((-2147483648), 2147483647)], []), [], [], [(171, 1, 3), (173, 2, 2), (174, 0, 32), (175, 2, 2), (176, 0, 240), (177, 0, 3), (178, 0, 3), (179, 4, 14), (179, 16, 18), (180, 0, 6), (181, 0, 9), (182, 0, 4), (183, 0, 8), (184, 0, 5), (185, 0, 3), (186, 0, 3), (187, 0, 3), (188, 0, 3), (189, 0, 8), (190, 0, 4), (191, 4, 14), (191, 16, 18), (192, 0, 6), (193, 0, 9), (194, 0, 4), (195, 0, 8), (196, 0, 5), (197, 0, 3), (198, 0, 3), (199, 0, 3), (200, 0, 3), (201, 0, 8), (202, 0, 4), (203, 4, 14), (203, 16, 18), (204, 0, 6), (205, 0, 9), (206, 0, 4), (207, 0, 8), (208, 0, 5), (209, 0, 3), (210, 0, 3), (211, 0, 3), (212, 0, 3), (213, 0, 8), (214, 0, 4), (215, 4, 14), (215, 16, 18), (216, 0, 6), (217, 0, 9), (218, 0, 4), (219, 0, 8), (220, 0, 5), (221, 0, 3), (222, 0, 3), (223, 0, 3), (224, 0, 3), (225, 0, 8), (226, 0, 4)], [(.inl none, 0, 0, ([((-2147483648), 2147483647)], []), [], []), (.inr 0, 1, 6, ([((-2147483648), 2147483647)], []), [], [])])
set_option maxRecDepth 100000 in
noncomputable def sz_u596 : List sy_Cut := [(11, [(0, (3, .inr 0, .inl 0)), (1, (0, .inr 0, .inl 0)), (2, (0, .inr 1, .inl 0))], ([(0, 60), (0, 60)], []), [], [], [(60, []), ((-1), [1])])]
set_option maxRecDepth 100000 in
noncomputable def sz_h596_0 : List sy_Hn := [(0, 31, 1, 0, 0, 0, [], [], []),
  (8, 4, 59, 2, 0, 0, [], [], []),
  (1, 20, 1, 0, 0, 0, [], [], []),
  (0, 30, 0, 0, 0, 0, [([], [(1, [0])]), ([], [])], [], []),
  (0, 31, 1, 0, 0, 0, [], [], [])]
set_option maxRecDepth 100000 in
theorem sz_s596_0 : sy_seg sz_E sz_T sz_RU [sz_c339, sz_c586] sz_c596 sz_u596 ri_m_X10_goAhead 31 none sz_h596_0 = true := by decide +kernel
set_option maxRecDepth 100000 in
noncomputable def sz_h596_1 : List sy_Hn := [(0, 31, 0, 0, 0, 0, [], [], []),
  (3, 20, 0, 0, 0, 0, [], [], []),
  (0, 30, 0, 0, 0, 0, [([3], [(1, [0]), (1, [2])]), ([], [(1, [0]), (1, [1])])], [], [])]
set_option maxRecDepth 100000 in
theorem sz_s596_1 : sy_seg sz_E sz_T sz_RU [sz_c339, sz_c586] sz_c596 sz_u596 ri_m_X10_goAhead 19 (some ((11, [(0, (3, .inr 0, .inl 0)), (1, (0, .inr 0, .inl 0)), (2, (0, .inr 1, .inl 0))], ([(0, 60), (0, 60)], []), [], [], [(60, []), ((-1), [1])]))) sz_h596_1 = true := by decide +kernel
theorem sz_ok596 (xs : Nat → Value) (L : Nat) : sy_Cok (sz_env xs L) sz_T sz_RU sz_c596 := sy_chk_ok (CT := [sz_c339, sz_c586]) (CU := sz_u596) (M := ri_m_X10_goAhead) (List.forall_mem_cons.mpr ⟨sz_ok339 xs L, List.forall_mem_cons.mpr ⟨sz_ok586 xs L, fun _ h => absurd h List.not_mem_nil⟩⟩) rfl ⟨_, _, sz_s596_0⟩ (List.forall_mem_cons.mpr ⟨⟨_, _, sz_s596_1⟩, fun _ h => absurd h List.not_mem_nil⟩)

/-! X10_ahead [0, 0, 1, 2] -/
set_option maxRecDepth 100000 in
noncomputable def sz_c597 : sy_Ct := (135, 8, 144, [(3, .inr 0, .inl 0), (0, .inr 0, .inl 0), (0, .inr 1, .inl 0), (0, .inr 2, .inl 0)], ([(0, 1), ((-2147483648), 2147483647), ((-2147483648), 2147483647)], []), [], [], [(171, 1, 3), (173, 2, 2), (174, 0, 32), (175, 2, 2), (176, 0, 240), (177, 0, 3), (178, 0, 3), (179, 4, 14), (179, 16, 18), (180, 0, 6), (181, 0, 9), (182, 0, 4), (183, 0, 8), (184, 0, 5), (185, 0, 3), (186, 0, 3), (187, 0, 3), (188, 0, 3), (189, 0, 8), (190, 0, 4), (191, 4, 14), (191, 16, 18), (192, 0, 6), (193, 0, 9), (194, 0, 4), (195, 0, 8), (196, 0, 5), (197, 0, 3), (198, 0, 3), (199, 0, 3), (200, 0, 3), (201, 0, 8), (202, 0, 4), (203, 4, 14), (203, 16, 18), (204, 0, 6), (205, 0, 9), (206, 0, 4), (207, 0, 8), (208, 0, 5), (209, 0, 3), (210, 0, 3), (211, 0, 3), (212, 0, 3), (213, 0, 8), (214, 0, 4), (215, 4, 14), (215, 16, 18), (216, 0, 6), (217, 0, 9), (218, 0, 4), (219, 0, 8), (220, 0, 5), (221, 0, 3), (222, 0, 3), (223, 0, 3), (224, 0, 3), (225, 0, 8), (226, 0, 4)], [(.inl (some (0, .inr 3, .inl 0)), 0, 0, ([((-2147483648), 2147483647), (0, 1), ((-2147483648), 2147483647), ((-2147483648), 2147483647)], []), [], []), (.inr 0, 1, 6, ([(0, 1), ((-2147483648), 2147483647), ((-2147483648), 2147483647)], []), [], []), (.inr 2, 1, 6, ([(0, 1), ((-2147483648), 2147483647), ((-2147483648), 2147483647)], []), [], [])])
set_option maxRecDepth 100000 in
noncomputable def sz_u597 : List sy_Cut := []
set_option maxRecDepth 100000 in
noncomputable def sz_h597_0 : List sy_Hn := [(0, 31, 2, 0, 0, 0, [], [], []),
  (9, 1, 0, 0, 0, 0, [], [], []),
  (6, 20, 0, 0, 0, 0, [], [], []),
  (0, 31, 0, 0, 0, 0, [], [], []),
  (0, 31, 0, 0, 0, 0, [], [], []),
  (0, 31, 1, 0, 0, 0, [], [], []),
  (0, 1, 0, 0, 1, 0, [], [], []),
  (6, 20, 0, 0, 0, 0, [], [], []),
  (0, 31, 0, 0, 0, 0, [], [], []),
  (0, 31, 0, 0, 0, 0, [], [], []),
  (0, 31, 1, 0, 0, 0, [], [], []),
  (0, 1, 0, 0, 2, 0, [], [], []),
  (6, 20, 0, 0, 0, 0, [], [], []),
  (0, 31, 0, 0, 0, 0, [], [], []),
  (0, 31, 0, 0, 0, 0, [], [], []),
  (0, 31, 1, 0, 0, 0, [], [], []),
  (6, 20, 0, 0, 0, 0, [], [], []),
  (0, 31, 0, 0, 0, 0, [], [], []),
  (0, 31, 0, 0, 0, 0, [], [], []),
  (0, 31, 1, 0, 0, 0, [], [], []),
  (0, 31, 2, 0, 0, 0, [], [], [])]
set_option maxRecDepth 100000 in
theorem sz_s597_0 : sy_seg sz_E sz_T sz_RU [sz_c596] sz_c597 sz_u597 ri_m_X10_ahead 153 none sz_h597_0 = true := by decide +kernel
theorem sz_ok597 (xs : Nat → Value) (L : Nat) : sy_Cok (sz_env xs L) sz_T sz_RU sz_c597 := sy_chk_ok (CT := [sz_c596]) (CU := sz_u597) (M := ri_m_X10_ahead) (List.forall_mem_cons.mpr ⟨sz_ok596 xs L, fun _ h => absurd h List.not_mem_nil⟩) rfl ⟨_, _, sz_s597_0⟩ (fun _ h => absurd h List.not_mem_nil)

/-! X10_peak [0, 0, 1] -/
set_option maxRecDepth 100000 in
noncomputable def sz_c598 : sy_Ct := (136, 7, 122, [(3, .inr 0, .inl 0), (0, .inr 0, .inl 0), (0, .inr 1, .inl 0)], ([((-2147483648), 2147483647), ((-2147483648), 2147483647)], []), [], [], [(171, 1, 3), (173, 2, 2), (174, 0, 32), (175, 2, 2), (176, 0, 240), (177, 0, 3), (178, 0, 3), (179, 4, 14), (179, 16, 18), (180, 0, 6), (181, 0, 9), (182, 0, 4), (183, 0, 8), (184, 0, 5), (185, 0, 3), (186, 0, 3), (187, 0, 3), (188, 0, 3), (189, 0, 8), (190, 0, 4), (191, 4, 14), (191, 16, 18), (192, 0, 6), (193, 0, 9), (194, 0, 4), (195, 0, 8), (196, 0, 5), (197, 0, 3), (198, 0, 3), (199, 0, 3), (200, 0, 3), (201, 0, 8), (202, 0, 4), (203, 4, 14), (203, 16, 18), (204, 0, 6), (205, 0, 9), (206, 0, 4), (207, 0, 8), (208, 0, 5), (209, 0, 3), (210, 0, 3), (211, 0, 3), (212, 0, 3), (213, 0, 8), (214, 0, 4), (215, 4, 14), (215, 16, 18), (216, 0, 6), (217, 0, 9), (218, 0, 4), (219, 0, 8), (220, 0, 5), (221, 0, 3), (222, 0, 3), (223, 0, 3), (224, 0, 3), (225, 0, 8), (226, 0, 4)], [(.inl (some (1, .inr 2, .inl 0)), 0, 0, ([(0, 9223372036854775807), ((-2147483648), 2147483647), ((-2147483648), 2147483647)], []), [], []), (.inr 0, 1, 6, ([((-2147483648), 2147483647), ((-2147483648), 2147483647)], []), [], []), (.inr 2, 1, 6, ([((-2147483648), 2147483647), ((-2147483648), 2147483647)], []), [], [])])
set_option maxRecDepth 100000 in
noncomputable def sz_u598 : List sy_Cut := [(17, [(0, (3, .inr 0, .inl 0)), (1, (0, .inr 0, .inl 0)), (2, (0, .inr 1, .inl 0)), (3, (1, .inr 2, .inl 0)), (5, (0, .inr 3, .inl 0))], ([(0, 60), (0, 9223372036854775807), (0, 60), (0, 3)], []), [], [], [(60, []), ((-1), [3])])]
set_option maxRecDepth 100000 in
noncomputable def sz_h598_0 : List sy_Hn := [(0, 31, 2, 0, 0, 0, [], [], []),
  (9, 1, 0, 0, 0, 0, [], [], []),
  (0, 31, 1, 0, 0, 0, [], [], []),
  (8, 4, 59, 2, 0, 0, [], [], []),
  (1, 20, 1, 0, 0, 0, [], [], []),
  (0, 30, 0, 0, 0, 0, [([], [(1, [0])]), ([], [])], [], []),
  (0, 31, 1, 0, 0, 0, [], [], []),
  (0, 1, 0, 0, 1, 0, [], [], []),
  (0, 31, 1, 0, 0, 0, [], [], []),
  (8, 4, 59, 2, 0, 0, [], [], []),
  (1, 20, 1, 0, 0, 0, [], [], []),
  (0, 30, 0, 0, 0, 0, [([], [(1, [0])]), ([], [])], [], []),
  (0, 31, 1, 0, 0, 0, [], [], []),
  (0, 1, 0, 0, 2, 0, [], [], []),
  (0, 31, 1, 0, 0, 0, [], [], []),
  (8, 4, 59, 2, 0, 0, [], [], []),
  (1, 20, 1, 0, 0, 0, [], [], []),
  (0, 30, 0, 0, 0, 0, [([], [(1, [0])]), ([], [])], [], []),
  (0, 31, 1, 0, 0, 0, [], [], []),
  (0, 31, 1, 0, 0, 0, [], [], []),
  (8, 4, 59, 2, 0, 0, [], [], []),
  (1, 20, 1, 0, 0, 0, [], [], []),
  (0, 30, 0, 0, 0, 0, [([], [(1, [0])]), ([], [])], [], []),
  (0, 31, 1, 0, 0, 0, [], [], []),
  (0, 31, 2, 0, 0, 0, [], [], [])]
set_option maxRecDepth 100000 in
theorem sz_s598_0 : sy_seg sz_E sz_T sz_RU [sz_c339, sz_c586] sz_c598 sz_u598 ri_m_X10_peak 153 none sz_h598_0 = true := by decide +kernel
set_option maxRecDepth 100000 in
noncomputable def sz_h598_1 : List sy_Hn := [(0, 31, 0, 0, 0, 0, [], [], []),
  (3, 20, 0, 0, 0, 0, [], [], []),
  (0, 30, 0, 0, 0, 0, [([6], [(1, [0]), (1, [2])]), ([], [(1, [0]), (1, [1])])], [], []),
  (0, 30, 0, 0, 0, 0, [([6], [(1, [0]), (1, [2])]), ([], [(1, [0]), (1, [1])])], [], [])]
set_option maxRecDepth 100000 in
theorem sz_s598_1 : sy_seg sz_E sz_T sz_RU [sz_c339, sz_c586] sz_c598 sz_u598 ri_m_X10_peak 42 (some ((17, [(0, (3, .inr 0, .inl 0)), (1, (0, .inr 0, .inl 0)), (2, (0, .inr 1, .inl 0)), (3, (1, .inr 2, .inl 0)), (5, (0, .inr 3, .inl 0))], ([(0, 60), (0, 9223372036854775807), (0, 60), (0, 3)], []), [], [], [(60, []), ((-1), [3])]))) sz_h598_1 = true := by decide +kernel
theorem sz_ok598 (xs : Nat → Value) (L : Nat) : sy_Cok (sz_env xs L) sz_T sz_RU sz_c598 := sy_chk_ok (CT := [sz_c339, sz_c586]) (CU := sz_u598) (M := ri_m_X10_peak) (List.forall_mem_cons.mpr ⟨sz_ok339 xs L, List.forall_mem_cons.mpr ⟨sz_ok586 xs L, fun _ h => absurd h List.not_mem_nil⟩⟩) rfl ⟨_, _, sz_s598_0⟩ (List.forall_mem_cons.mpr ⟨⟨_, _, sz_s598_1⟩, fun _ h => absurd h List.not_mem_nil⟩)

/-! X10_worst [0, 0] -/
set_option maxRecDepth 100000 in
noncomputable def sz_c599 : sy_Ct := (140, 8, 144, [(3, .inr 0, .inl 0), (0, .inr 0, .inl 0)], ([((-2147483648), 2147483647)], []), [], [], [(171, 1, 3), (173, 2, 2), (174, 0, 32), (175, 2, 2), (176, 0, 240), (177, 0, 3), (178, 0, 3), (179, 4, 14), (179, 16, 18), (180, 0, 6), (181, 0, 9), (182, 0, 4), (183, 0, 8), (184, 0, 5), (185, 0, 3), (186, 0, 3), (187, 0, 3), (188, 0, 3), (189, 0, 8), (190, 0, 4), (191, 4, 14), (191, 16, 18), (192, 0, 6), (193, 0, 9), (194, 0, 4), (195, 0, 8), (196, 0, 5), (197, 0, 3), (198, 0, 3), (199, 0, 3), (200, 0, 3), (201, 0, 8), (202, 0, 4), (203, 4, 14), (203, 16, 18), (204, 0, 6), (205, 0, 9), (206, 0, 4), (207, 0, 8), (208, 0, 5), (209, 0, 3), (210, 0, 3), (211, 0, 3), (212, 0, 3), (213, 0, 8), (214, 0, 4), (215, 4, 14), (215, 16, 18), (216, 0, 6), (217, 0, 9), (218, 0, 4), (219, 0, 8), (220, 0, 5), (221, 0, 3), (222, 0, 3), (223, 0, 3), (224, 0, 3), (225, 0, 8), (226, 0, 4)], [(.inl (some (0, .inr 1, .inl 0)), 0, 0, ([((-1), 3), ((-2147483648), 2147483647)], []), [], []), (.inr 0, 1, 6, ([((-2147483648), 2147483647)], []), [], [])])
set_option maxRecDepth 100000 in
noncomputable def sz_u599 : List sy_Cut := [(9, [(0, (3, .inr 0, .inl 0)), (1, (0, .inr 0, .inl 0)), (2, (0, .inr 1, .inl 0)), (3, (0, .inr 2, .inl 0)), (4, (0, .inr 3, .inl 0))], ([(0, 4), ((-1), 2147483647), ((-1), 3), ((-2147483648), 2147483647)], []), [], [], [(4, []), ((-1), [3])])]
set_option maxRecDepth 100000 in
noncomputable def sz_h599_0 : List sy_Hn := [(3, 20, 0, 0, 0, 0, [], [], []),
  (0, 30, 0, 0, 0, 0, [([], [(1, [0])]), ([], [])], [], []),
  (0, 31, 1, 0, 0, 0, [], [], [])]
set_option maxRecDepth 100000 in
theorem sz_s599_0 : sy_seg sz_E sz_T sz_RU [sz_c596] sz_c599 sz_u599 ri_m_X10_worst 18 none sz_h599_0 = true := by decide +kernel
set_option maxRecDepth 100000 in
noncomputable def sz_h599_1 : List sy_Hn := [(0, 31, 0, 0, 0, 0, [], [], []),
  (4, 1, 3, 0, 0, 0, [], [], []),
  (0, 30, 0, 0, 0, 0, [([], [(1, [0])]), ([3], [(1, [0]), (1, [2])])], [], []),
  (0, 30, 0, 0, 0, 0, [([], [(1, [0])]), ([3], [(1, [0]), (1, [2])])], [], []),
  (0, 30, 0, 0, 0, 0, [([], [(1, [0])]), ([3], [(1, [0]), (1, [2])])], [], []),
  (0, 30, 0, 0, 0, 0, [([], [(1, [0])]), ([3], [(1, [0]), (1, [2])])], [], []),
  (0, 1, 3, 0, 1, 0, [], [], []),
  (0, 30, 0, 0, 0, 0, [([], [(1, [0])]), ([3], [(1, [0]), (1, [2])])], [], []),
  (0, 30, 0, 0, 0, 0, [([], [(1, [0])]), ([3], [(1, [0]), (1, [2])])], [], []),
  (0, 30, 0, 0, 0, 0, [([], [(1, [0])]), ([3], [(1, [0]), (1, [2])])], [], []),
  (0, 30, 0, 0, 0, 0, [([], [(1, [0])]), ([3], [(1, [0]), (1, [2])])], [], []),
  (0, 1, 3, 0, 2, 0, [], [], []),
  (0, 30, 0, 0, 0, 0, [([], [(1, [0])]), ([3], [(1, [0]), (1, [2])])], [], []),
  (0, 30, 0, 0, 0, 0, [([], [(1, [0])]), ([3], [(1, [0]), (1, [2])])], [], []),
  (0, 30, 0, 0, 0, 0, [([], [(1, [0])]), ([3], [(1, [0]), (1, [2])])], [], []),
  (0, 30, 0, 0, 0, 0, [([], [(1, [0])]), ([3], [(1, [0]), (1, [2])])], [], []),
  (0, 30, 0, 0, 0, 0, [([], [(1, [0])]), ([3], [(1, [0]), (1, [2])])], [], []),
  (0, 30, 0, 0, 0, 0, [([], [(1, [0])]), ([3], [(1, [0]), (1, [2])])], [], []),
  (0, 30, 0, 0, 0, 0, [([], [(1, [0])]), ([3], [(1, [0]), (1, [2])])], [], []),
  (0, 30, 0, 0, 0, 0, [([], [(1, [0])]), ([3], [(1, [0]), (1, [2])])], [], [])]
set_option maxRecDepth 100000 in
theorem sz_s599_1 : sy_seg sz_E sz_T sz_RU [sz_c596] sz_c599 sz_u599 ri_m_X10_worst 247 (some ((9, [(0, (3, .inr 0, .inl 0)), (1, (0, .inr 0, .inl 0)), (2, (0, .inr 1, .inl 0)), (3, (0, .inr 2, .inl 0)), (4, (0, .inr 3, .inl 0))], ([(0, 4), ((-1), 2147483647), ((-1), 3), ((-2147483648), 2147483647)], []), [], [], [(4, []), ((-1), [3])]))) sz_h599_1 = true := by decide +kernel
theorem sz_ok599 (xs : Nat → Value) (L : Nat) : sy_Cok (sz_env xs L) sz_T sz_RU sz_c599 := sy_chk_ok (CT := [sz_c596]) (CU := sz_u599) (M := ri_m_X10_worst) (List.forall_mem_cons.mpr ⟨sz_ok596 xs L, fun _ h => absurd h List.not_mem_nil⟩) rfl ⟨_, _, sz_s599_0⟩ (List.forall_mem_cons.mpr ⟨⟨_, _, sz_s599_1⟩, fun _ h => absurd h List.not_mem_nil⟩)

/-! X10_stepAnswer [0, 0, 0, 1] -/
set_option maxRecDepth 100000 in
noncomputable def sz_c600 : sy_Ct := (189, 5, 122, [(3, .inr 0, .inl 0), (0, .inl 0, .inl 0), (0, .inr 0, .inl 0), (0, .inr 1, .inl 0)], ([(0, 3), ((-9999), 999)], []), [], [], [(171, 1, 3), (173, 2, 2), (174, 0, 32), (175, 2, 2), (176, 0, 240), (177, 0, 3), (178, 0, 3), (179, 4, 14), (179, 16, 18), (180, 0, 6), (181, 0, 9), (182, 0, 4), (183, 0, 8), (184, 0, 5), (185, 0, 3), (186, 0, 3), (187, 0, 3), (188, 0, 3), (189, 0, 8), (190, 0, 4), (191, 4, 14), (191, 16, 18), (192, 0, 6), (193, 0, 9), (194, 0, 4), (195, 0, 8), (196, 0, 5), (197, 0, 3), (198, 0, 3), (199, 0, 3), (200, 0, 3), (201, 0, 8), (202, 0, 4), (203, 4, 14), (203, 16, 18), (204, 0, 6), (205, 0, 9), (206, 0, 4), (207, 0, 8), (208, 0, 5), (209, 0, 3), (210, 0, 3), (211, 0, 3), (212, 0, 3), (213, 0, 8), (214, 0, 4), (215, 4, 14), (215, 16, 18), (216, 0, 6), (217, 0, 9), (218, 0, 4), (219, 0, 8), (220, 0, 5), (221, 0, 3), (222, 0, 3), (223, 0, 3), (224, 0, 3), (225, 0, 8), (226, 0, 4)], [(.inl (some (0, .inr 2, .inl 0)), 0, 0, ([((-2147483648), 2147483647), (0, 3), ((-9999), 999)], []), [], [])])
set_option maxRecDepth 100000 in
noncomputable def sz_u600 : List sy_Cut := [(33, [(0, (3, .inr 0, .inl 0)), (1, (0, .inl 0, .inl 0)), (2, (0, .inr 0, .inl 0)), (3, (0, .inr 1, .inl 0)), (4, (3, .inr 179, .inl 0)), (5, (0, .inr 2, .inl 0)), (6, (0, .inr 3, .inl 0)), (7, (0, .inr 4, .inl 0)), (8, (0, .inr 5, .inl 0)), (9, (0, .inr 6, .inl 0))], ([(1, 101), ((-2147483648), 2147483647), ((-1), 100), ((-1), 100), (0, 2147483647), (0, 3), ((-9999), 999)], []), [], [], [(101, []), ((-1), [6])])]
set_option maxRecDepth 100000 in
noncomputable def sz_h600_0 : List sy_Hn := [(4, 4, 59, 2, 0, 0, [], [], []),
  (1, 20, 1, 0, 0, 0, [], [], []),
  (0, 30, 0, 0, 0, 0, [([], [(1, [0])]), ([], [])], [], []),
  (0, 30, 0, 0, 0, 0, [([], [(1, [0])]), ([], [])], [], []),
  (0, 30, 0, 0, 0, 0, [([], [(1, [0])]), ([], [])], [], [])]
set_option maxRecDepth 100000 in
theorem sz_s600_0 : sy_seg sz_E sz_T sz_RU [sz_c339, sz_c586] sz_c600 sz_u600 ri_m_X10_stepAnswer 86 none sz_h600_0 = true := by decide +kernel
set_option maxRecDepth 100000 in
noncomputable def sz_h600_1 : List sy_Hn := [(0, 31, 0, 0, 0, 0, [], [], []),
  (0, 31, 0, 0, 0, 0, [], [], []),
  (0, 31, 0, 0, 0, 0, [], [], []),
  (0, 31, 0, 0, 0, 0, [], [], []),
  (3, 20, 0, 0, 0, 0, [], [], []),
  (0, 30, 0, 0, 0, 0, [([15], [(1, [0]), (1, [2])]), ([], [(1, [0]), (1, [1])])], [], []),
  (0, 30, 0, 0, 0, 0, [([15], [(1, [0]), (1, [2])]), ([], [(1, [0]), (1, [1])])], [], []),
  (0, 30, 0, 0, 0, 0, [([16], [(1, [0]), (1, [2])]), ([], [(1, [0]), (1, [1])])], [], []),
  (0, 30, 0, 0, 0, 0, [([16], [(1, [0]), (1, [2])]), ([], [(1, [0]), (1, [1])])], [], []),
  (0, 30, 0, 0, 0, 0, [([16], [(1, [0]), (1, [2])]), ([], [(1, [0]), (1, [1])])], [], []),
  (0, 30, 0, 0, 0, 0, [([17], [(1, [0]), (1, [2])]), ([], [(1, [0]), (1, [1])])], [], []),
  (0, 30, 0, 0, 0, 0, [([17], [(1, [0]), (1, [2])]), ([], [(1, [0]), (1, [1])])], [], []),
  (0, 30, 0, 0, 0, 0, [([17], [(1, [0]), (1, [2])]), ([], [(1, [0]), (1, [1])])], [], []),
  (0, 30, 0, 0, 0, 0, [([15], [(1, [0]), (1, [2])]), ([], [(1, [0]), (1, [1])])], [], []),
  (0, 30, 0, 0, 0, 0, [([15], [(1, [0]), (1, [2])]), ([], [(1, [0]), (1, [1])])], [], []),
  (0, 30, 0, 0, 0, 0, [([16], [(1, [0]), (1, [2])]), ([], [(1, [0]), (1, [1])])], [], []),
  (0, 30, 0, 0, 0, 0, [([16], [(1, [0]), (1, [2])]), ([], [(1, [0]), (1, [1])])], [], []),
  (0, 30, 0, 0, 0, 0, [([16], [(1, [0]), (1, [2])]), ([], [(1, [0]), (1, [1])])], [], []),
  (0, 30, 0, 0, 0, 0, [([17], [(1, [0]), (1, [2])]), ([], [(1, [0]), (1, [1])])], [], []),
  (0, 30, 0, 0, 0, 0, [([17], [(1, [0]), (1, [2])]), ([], [(1, [0]), (1, [1])])], [], []),
  (0, 30, 0, 0, 0, 0, [([17], [(1, [0]), (1, [2])]), ([], [(1, [0]), (1, [1])])], [], []),
  (0, 30, 0, 0, 0, 0, [([15], [(1, [0]), (1, [2])]), ([], [(1, [0]), (1, [1])])], [], []),
  (0, 30, 0, 0, 0, 0, [([15], [(1, [0]), (1, [2])]), ([], [(1, [0]), (1, [1])])], [], []),
  (0, 30, 0, 0, 0, 0, [([16], [(1, [0]), (1, [2])]), ([], [(1, [0]), (1, [1])])], [], []),
  (0, 30, 0, 0, 0, 0, [([16], [(1, [0]), (1, [2])]), ([], [(1, [0]), (1, [1])])], [], []),
  (0, 30, 0, 0, 0, 0, [([16], [(1, [0]), (1, [2])]), ([], [(1, [0]), (1, [1])])], [], []),
  (0, 30, 0, 0, 0, 0, [([17], [(1, [0]), (1, [2])]), ([], [(1, [0]), (1, [1])])], [], []),
  (0, 30, 0, 0, 0, 0, [([17], [(1, [0]), (1, [2])]), ([], [(1, [0]), (1, [1])])], [], []),
  (0, 30, 0, 0, 0, 0, [([17], [(1, [0]), (1, [2])]), ([], [(1, [0]), (1, [1])])], [], []),
  (0, 30, 0, 0, 0, 0, [([15], [(1, [0]), (1, [2])]), ([], [(1, [0]), (1, [1])])], [], []),
  (0, 30, 0, 0, 0, 0, [([15], [(1, [0]), (1, [2])]), ([], [(1, [0]), (1, [1])])], [], []),
  (0, 30, 0, 0, 0, 0, [([16], [(1, [0]), (1, [2])]), ([], [(1, [0]), (1, [1])])], [], []),
  (0, 30, 0, 0, 0, 0, [([16], [(1, [0]), (1, [2])]), ([], [(1, [0]), (1, [1])])], [], []),
  (0, 30, 0, 0, 0, 0, [([16], [(1, [0]), (1, [2])]), ([], [(1, [0]), (1, [1])])], [], []),
  (0, 30, 0, 0, 0, 0, [([17], [(1, [0]), (1, [2])]), ([], [(1, [0]), (1, [1])])], [], []),
  (0, 30, 0, 0, 0, 0, [([17], [(1, [0]), (1, [2])]), ([], [(1, [0]), (1, [1])])], [], []),
  (0, 30, 0, 0, 0, 0, [([17], [(1, [0]), (1, [2])]), ([], [(1, [0]), (1, [1])])], [], []),
  (0, 30, 0, 0, 0, 0, [([15], [(1, [0]), (1, [2])]), ([], [(1, [0]), (1, [1])])], [], []),
  (0, 30, 0, 0, 0, 0, [([15], [(1, [0]), (1, [2])]), ([], [(1, [0]), (1, [1])])], [], []),
  (0, 30, 0, 0, 0, 0, [([16], [(1, [0]), (1, [2])]), ([], [(1, [0]), (1, [1])])], [], []),
  (0, 30, 0, 0, 0, 0, [([16], [(1, [0]), (1, [2])]), ([], [(1, [0]), (1, [1])])], [], []),
  (0, 30, 0, 0, 0, 0, [([16], [(1, [0]), (1, [2])]), ([], [(1, [0]), (1, [1])])], [], []),
  (0, 30, 0, 0, 0, 0, [([17], [(1, [0]), (1, [2])]), ([], [(1, [0]), (1, [1])])], [], []),
  (0, 30, 0, 0, 0, 0, [([17], [(1, [0]), (1, [2])]), ([], [(1, [0]), (1, [1])])], [], []),
  (0, 30, 0, 0, 0, 0, [([17], [(1, [0]), (1, [2])]), ([], [(1, [0]), (1, [1])])], [], []),
  (0, 30, 0, 0, 0, 0, [([15], [(1, [0]), (1, [2])]), ([], [(1, [0]), (1, [1])])], [], []),
  (0, 30, 0, 0, 0, 0, [([15], [(1, [0]), (1, [2])]), ([], [(1, [0]), (1, [1])])], [], []),
  (0, 30, 0, 0, 0, 0, [([16], [(1, [0]), (1, [2])]), ([], [(1, [0]), (1, [1])])], [], []),
  (0, 30, 0, 0, 0, 0, [([16], [(1, [0]), (1, [2])]), ([], [(1, [0]), (1, [1])])], [], []),
  (0, 30, 0, 0, 0, 0, [([16], [(1, [0]), (1, [2])]), ([], [(1, [0]), (1, [1])])], [], []),
  (0, 30, 0, 0, 0, 0, [([15], [(1, [0]), (1, [2])]), ([], [(1, [0]), (1, [1])])], [], []),
  (0, 30, 0, 0, 0, 0, [([15], [(1, [0]), (1, [2])]), ([], [(1, [0]), (1, [1])])], [], []),
  (0, 30, 0, 0, 0, 0, [([16], [(1, [0]), (1, [2])]), ([], [(1, [0]), (1, [1])])], [], []),
  (0, 30, 0, 0, 0, 0, [([16], [(1, [0]), (1, [2])]), ([], [(1, [0]), (1, [1])])], [], []),
  (0, 30, 0, 0, 0, 0, [([16], [(1, [0]), (1, [2])]), ([], [(1, [0]), (1, [1])])], [], []),
  (0, 30, 0, 0, 0, 0, [([15], [(1, [0]), (1, [2])]), ([], [(1, [0]), (1, [1])])], [], []),
  (0, 30, 0, 0, 0, 0, [([15], [(1, [0]), (1, [2])]), ([], [(1, [0]), (1, [1])])], [], []),
  (0, 30, 0, 0, 0, 0, [([16], [(1, [0]), (1, [2])]), ([], [(1, [0]), (1, [1])])], [], []),
  (0, 30, 0, 0, 0, 0, [([16], [(1, [0]), (1, [2])]), ([], [(1, [0]), (1, [1])])], [], []),
  (0, 30, 0, 0, 0, 0, [([16], [(1, [0]), (1, [2])]), ([], [(1, [0]), (1, [1])])], [], []),
  (0, 30, 0, 0, 0, 0, [([15], [(1, [0]), (1, [2])]), ([], [(1, [0]), (1, [1])])], [], []),
  (0, 30, 0, 0, 0, 0, [([15], [(1, [0]), (1, [2])]), ([], [(1, [0]), (1, [1])])], [], []),
  (0, 30, 0, 0, 0, 0, [([16], [(1, [0]), (1, [2])]), ([], [(1, [0]), (1, [1])])], [], []),
  (0, 30, 0, 0, 0, 0, [([16], [(1, [0]), (1, [2])]), ([], [(1, [0]), (1, [1])])], [], []),
  (0, 30, 0, 0, 0, 0, [([16], [(1, [0]), (1, [2])]), ([], [(1, [0]), (1, [1])])], [], []),
  (0, 30, 0, 0, 0, 0, [([15], [(1, [0]), (1, [2])]), ([], [(1, [0]), (1, [1])])], [], []),
  (0, 30, 0, 0, 0, 0, [([15], [(1, [0]), (1, [2])]), ([], [(1, [0]), (1, [1])])], [], []),
  (0, 30, 0, 0, 0, 0, [([16], [(1, [0]), (1, [2])]), ([], [(1, [0]), (1, [1])])], [], []),
  (0, 30, 0, 0, 0, 0, [([16], [(1, [0]), (1, [2])]), ([], [(1, [0]), (1, [1])])], [], []),
  (0, 30, 0, 0, 0, 0, [([16], [(1, [0]), (1, [2])]), ([], [(1, [0]), (1, [1])])], [], []),
  (0, 30, 0, 0, 0, 0, [([16], [(1, [0]), (1, [2])]), ([], [(1, [0]), (1, [1])])], [], []),
  (0, 30, 0, 0, 0, 0, [([16], [(1, [0]), (1, [2])]), ([], [(1, [0]), (1, [1])])], [], []),
  (0, 30, 0, 0, 0, 0, [([17], [(1, [0]), (1, [2])]), ([], [(1, [0]), (1, [1])])], [], []),
  (0, 30, 0, 0, 0, 0, [([17], [(1, [0]), (1, [2])]), ([], [(1, [0]), (1, [1])])], [], []),
  (0, 30, 0, 0, 0, 0, [([17], [(1, [0]), (1, [2])]), ([], [(1, [0]), (1, [1])])], [], []),
  (0, 30, 0, 0, 0, 0, [([18], [(1, [0]), (1, [2])]), ([], [(1, [0]), (1, [1])])], [], []),
  (0, 30, 0, 0, 0, 0, [([18], [(1, [0]), (1, [2])]), ([], [(1, [0]), (1, [1])])], [], []),
  (0, 30, 0, 0, 0, 0, [([18], [(1, [0]), (1, [2])]), ([], [(1, [0]), (1, [1])])], [], []),
  (0, 30, 0, 0, 0, 0, [([16], [(1, [0]), (1, [2])]), ([], [(1, [0]), (1, [1])])], [], []),
  (0, 30, 0, 0, 0, 0, [([16], [(1, [0]), (1, [2])]), ([], [(1, [0]), (1, [1])])], [], []),
  (0, 30, 0, 0, 0, 0, [([17], [(1, [0]), (1, [2])]), ([], [(1, [0]), (1, [1])])], [], []),
  (0, 30, 0, 0, 0, 0, [([17], [(1, [0]), (1, [2])]), ([], [(1, [0]), (1, [1])])], [], []),
  (0, 30, 0, 0, 0, 0, [([17], [(1, [0]), (1, [2])]), ([], [(1, [0]), (1, [1])])], [], []),
  (0, 30, 0, 0, 0, 0, [([18], [(1, [0]), (1, [2])]), ([], [(1, [0]), (1, [1])])], [], []),
  (0, 30, 0, 0, 0, 0, [([18], [(1, [0]), (1, [2])]), ([], [(1, [0]), (1, [1])])], [], []),
  (0, 30, 0, 0, 0, 0, [([18], [(1, [0]), (1, [2])]), ([], [(1, [0]), (1, [1])])], [], []),
  (0, 30, 0, 0, 0, 0, [([16], [(1, [0]), (1, [2])]), ([], [(1, [0]), (1, [1])])], [], []),
  (0, 30, 0, 0, 0, 0, [([16], [(1, [0]), (1, [2])]), ([], [(1, [0]), (1, [1])])], [], []),
  (0, 30, 0, 0, 0, 0, [([17], [(1, [0]), (1, [2])]), ([], [(1, [0]), (1, [1])])], [], []),
  (0, 30, 0, 0, 0, 0, [([17], [(1, [0]), (1, [2])]), ([], [(1, [0]), (1, [1])])], [], []),
  (0, 30, 0, 0, 0, 0, [([17], [(1, [0]), (1, [2])]), ([], [(1, [0]), (1, [1])])], [], []),
  (0, 30, 0, 0, 0, 0, [([18], [(1, [0]), (1, [2])]), ([], [(1, [0]), (1, [1])])], [], []),
  (0, 30, 0, 0, 0, 0, [([18], [(1, [0]), (1, [2])]), ([], [(1, [0]), (1, [1])])], [], []),
  (0, 30, 0, 0, 0, 0, [([18], [(1, [0]), (1, [2])]), ([], [(1, [0]), (1, [1])])], [], []),
  (0, 30, 0, 0, 0, 0, [([16], [(1, [0]), (1, [2])]), ([], [(1, [0]), (1, [1])])], [], []),
  (0, 30, 0, 0, 0, 0, [([16], [(1, [0]), (1, [2])]), ([], [(1, [0]), (1, [1])])], [], []),
  (0, 30, 0, 0, 0, 0, [([17], [(1, [0]), (1, [2])]), ([], [(1, [0]), (1, [1])])], [], []),
  (0, 30, 0, 0, 0, 0, [([17], [(1, [0]), (1, [2])]), ([], [(1, [0]), (1, [1])])], [], []),
  (0, 30, 0, 0, 0, 0, [([17], [(1, [0]), (1, [2])]), ([], [(1, [0]), (1, [1])])], [], []),
  (0, 30, 0, 0, 0, 0, [([18], [(1, [0]), (1, [2])]), ([], [(1, [0]), (1, [1])])], [], []),
  (0, 30, 0, 0, 0, 0, [([18], [(1, [0]), (1, [2])]), ([], [(1, [0]), (1, [1])])], [], []),
  (0, 30, 0, 0, 0, 0, [([18], [(1, [0]), (1, [2])]), ([], [(1, [0]), (1, [1])])], [], []),
  (0, 30, 0, 0, 0, 0, [([16], [(1, [0]), (1, [2])]), ([], [(1, [0]), (1, [1])])], [], []),
  (0, 30, 0, 0, 0, 0, [([16], [(1, [0]), (1, [2])]), ([], [(1, [0]), (1, [1])])], [], []),
  (0, 30, 0, 0, 0, 0, [([17], [(1, [0]), (1, [2])]), ([], [(1, [0]), (1, [1])])], [], []),
  (0, 30, 0, 0, 0, 0, [([17], [(1, [0]), (1, [2])]), ([], [(1, [0]), (1, [1])])], [], []),
  (0, 30, 0, 0, 0, 0, [([17], [(1, [0]), (1, [2])]), ([], [(1, [0]), (1, [1])])], [], []),
  (0, 30, 0, 0, 0, 0, [([18], [(1, [0]), (1, [2])]), ([], [(1, [0]), (1, [1])])], [], []),
  (0, 30, 0, 0, 0, 0, [([18], [(1, [0]), (1, [2])]), ([], [(1, [0]), (1, [1])])], [], []),
  (0, 30, 0, 0, 0, 0, [([18], [(1, [0]), (1, [2])]), ([], [(1, [0]), (1, [1])])], [], []),
  (0, 30, 0, 0, 0, 0, [([16], [(1, [0]), (1, [2])]), ([], [(1, [0]), (1, [1])])], [], []),
  (0, 30, 0, 0, 0, 0, [([16], [(1, [0]), (1, [2])]), ([], [(1, [0]), (1, [1])])], [], []),
  (0, 30, 0, 0, 0, 0, [([17], [(1, [0]), (1, [2])]), ([], [(1, [0]), (1, [1])])], [], []),
  (0, 30, 0, 0, 0, 0, [([17], [(1, [0]), (1, [2])]), ([], [(1, [0]), (1, [1])])], [], []),
  (0, 30, 0, 0, 0, 0, [([17], [(1, [0]), (1, [2])]), ([], [(1, [0]), (1, [1])])], [], []),
  (0, 30, 0, 0, 0, 0, [([16], [(1, [0]), (1, [2])]), ([], [(1, [0]), (1, [1])])], [], []),
  (0, 30, 0, 0, 0, 0, [([16], [(1, [0]), (1, [2])]), ([], [(1, [0]), (1, [1])])], [], []),
  (0, 30, 0, 0, 0, 0, [([17], [(1, [0]), (1, [2])]), ([], [(1, [0]), (1, [1])])], [], []),
  (0, 30, 0, 0, 0, 0, [([17], [(1, [0]), (1, [2])]), ([], [(1, [0]), (1, [1])])], [], []),
  (0, 30, 0, 0, 0, 0, [([17], [(1, [0]), (1, [2])]), ([], [(1, [0]), (1, [1])])], [], []),
  (0, 30, 0, 0, 0, 0, [([16], [(1, [0]), (1, [2])]), ([], [(1, [0]), (1, [1])])], [], []),
  (0, 30, 0, 0, 0, 0, [([16], [(1, [0]), (1, [2])]), ([], [(1, [0]), (1, [1])])], [], []),
  (0, 30, 0, 0, 0, 0, [([17], [(1, [0]), (1, [2])]), ([], [(1, [0]), (1, [1])])], [], []),
  (0, 30, 0, 0, 0, 0, [([17], [(1, [0]), (1, [2])]), ([], [(1, [0]), (1, [1])])], [], []),
  (0, 30, 0, 0, 0, 0, [([17], [(1, [0]), (1, [2])]), ([], [(1, [0]), (1, [1])])], [], []),
  (0, 30, 0, 0, 0, 0, [([16], [(1, [0]), (1, [2])]), ([], [(1, [0]), (1, [1])])], [], []),
  (0, 30, 0, 0, 0, 0, [([16], [(1, [0]), (1, [2])]), ([], [(1, [0]), (1, [1])])], [], []),
  (0, 30, 0, 0, 0, 0, [([17], [(1, [0]), (1, [2])]), ([], [(1, [0]), (1, [1])])], [], []),
  (0, 30, 0, 0, 0, 0, [([17], [(1, [0]), (1, [2])]), ([], [(1, [0]), (1, [1])])], [], []),
  (0, 30, 0, 0, 0, 0, [([17], [(1, [0]), (1, [2])]), ([], [(1, [0]), (1, [1])])], [], []),
  (0, 30, 0, 0, 0, 0, [([16], [(1, [0]), (1, [2])]), ([], [(1, [0]), (1, [1])])], [], []),
  (0, 30, 0, 0, 0, 0, [([16], [(1, [0]), (1, [2])]), ([], [(1, [0]), (1, [1])])], [], []),
  (0, 30, 0, 0, 0, 0, [([17], [(1, [0]), (1, [2])]), ([], [(1, [0]), (1, [1])])], [], []),
  (0, 30, 0, 0, 0, 0, [([17], [(1, [0]), (1, [2])]), ([], [(1, [0]), (1, [1])])], [], []),
  (0, 30, 0, 0, 0, 0, [([17], [(1, [0]), (1, [2])]), ([], [(1, [0]), (1, [1])])], [], [])]
set_option maxRecDepth 100000 in
theorem sz_s600_1 : sy_seg sz_E sz_T sz_RU [sz_c339, sz_c586] sz_c600 sz_u600 ri_m_X10_stepAnswer 1901 (some ((33, [(0, (3, .inr 0, .inl 0)), (1, (0, .inl 0, .inl 0)), (2, (0, .inr 0, .inl 0)), (3, (0, .inr 1, .inl 0)), (4, (3, .inr 179, .inl 0)), (5, (0, .inr 2, .inl 0)), (6, (0, .inr 3, .inl 0)), (7, (0, .inr 4, .inl 0)), (8, (0, .inr 5, .inl 0)), (9, (0, .inr 6, .inl 0))], ([(1, 101), ((-2147483648), 2147483647), ((-1), 100), ((-1), 100), (0, 2147483647), (0, 3), ((-9999), 999)], []), [], [], [(101, []), ((-1), [6])]))) sz_h600_1 = true := by decide +kernel
theorem sz_ok600 (xs : Nat → Value) (L : Nat) : sy_Cok (sz_env xs L) sz_T sz_RU sz_c600 := sy_chk_ok (CT := [sz_c339, sz_c586]) (CU := sz_u600) (M := ri_m_X10_stepAnswer) (List.forall_mem_cons.mpr ⟨sz_ok339 xs L, List.forall_mem_cons.mpr ⟨sz_ok586 xs L, fun _ h => absurd h List.not_mem_nil⟩⟩) rfl ⟨_, _, sz_s600_0⟩ (List.forall_mem_cons.mpr ⟨⟨_, _, sz_s600_1⟩, fun _ h => absurd h List.not_mem_nil⟩)

/-! X10_stepAnswer [0, 1, 0, 1] -/
set_option maxRecDepth 100000 in
noncomputable def sz_c601 : sy_Ct := (189, 5, 122, [(3, .inr 0, .inl 0), (0, .inl 1, .inl 0), (0, .inr 0, .inl 0), (0, .inr 1, .inl 0)], ([(0, 3), ((-9999), 999)], []), [], [], [(171, 1, 3), (173, 2, 2), (174, 0, 32), (175, 2, 2), (176, 0, 240), (177, 0, 3), (178, 0, 3), (179, 4, 14), (179, 16, 18), (180, 0, 6), (181, 0, 9), (182, 0, 4), (183, 0, 8), (184, 0, 5), (185, 0, 3), (186, 0, 3), (187, 0, 3), (188, 0, 3), (189, 0, 8), (190, 0, 4), (191, 4, 14), (191, 16, 18), (192, 0, 6), (193, 0, 9), (194, 0, 4), (195, 0, 8), (196, 0, 5), (197, 0, 3), (198, 0, 3), (199, 0, 3), (200, 0, 3), (201, 0, 8), (202, 0, 4), (203, 4, 14), (203, 16, 18), (204, 0, 6), (205, 0, 9), (206, 0, 4), (207, 0, 8), (208, 0, 5), (209, 0, 3), (210, 0, 3), (211, 0, 3), (212, 0, 3), (213, 0, 8), (214, 0, 4), (215, 4, 14), (215, 16, 18), (216, 0, 6), (217, 0, 9), (218, 0, 4), (219, 0, 8), (220, 0, 5), (221, 0, 3), (222, 0, 3), (223, 0, 3), (224, 0, 3), (225, 0, 8), (226, 0, 4)], [(.inl (some (0, .inr 2, .inl 0)), 0, 0, ([((-2147483648), 2147483647), (0, 3), ((-9999), 999)], []), [], [])])
set_option maxRecDepth 100000 in
noncomputable def sz_u601 : List sy_Cut := [(33, [(0, (3, .inr 0, .inl 0)), (1, (0, .inl 1, .inl 0)), (2, (0, .inr 0, .inl 0)), (3, (0, .inr 1, .inl 0)), (4, (3, .inr 191, .inl 0)), (5, (0, .inr 2, .inl 0)), (6, (0, .inr 3, .inl 0)), (7, (0, .inr 4, .inl 0)), (8, (0, .inr 5, .inl 0)), (9, (0, .inr 6, .inl 0))], ([(1, 101), ((-2147483648), 2147483647), ((-1), 100), ((-1), 100), (0, 2147483647), (0, 3), ((-9999), 999)], []), [], [], [(101, []), ((-1), [6])])]
set_option maxRecDepth 100000 in
noncomputable def sz_h601_0 : List sy_Hn := [(4, 4, 59, 2, 0, 0, [], [], []),
  (1, 20, 1, 0, 0, 0, [], [], []),
  (0, 30, 0, 0, 0, 0, [([], [(1, [0])]), ([], [])], [], []),
  (0, 30, 0, 0, 0, 0, [([], [(1, [0])]), ([], [])], [], []),
  (0, 30, 0, 0, 0, 0, [([], [(1, [0])]), ([], [])], [], [])]
set_option maxRecDepth 100000 in
theorem sz_s601_0 : sy_seg sz_E sz_T sz_RU [sz_c339, sz_c586] sz_c601 sz_u601 ri_m_X10_stepAnswer 86 none sz_h601_0 = true := by decide +kernel
set_option maxRecDepth 100000 in
noncomputable def sz_h601_1 : List sy_Hn := [(0, 31, 0, 0, 0, 0, [], [], []),
  (0, 31, 0, 0, 0, 0, [], [], []),
  (0, 31, 0, 0, 0, 0, [], [], []),
  (0, 31, 0, 0, 0, 0, [], [], []),
  (3, 20, 0, 0, 0, 0, [], [], []),
  (0, 30, 0, 0, 0, 0, [([15], [(1, [0]), (1, [2])]), ([], [(1, [0]), (1, [1])])], [], []),
  (0, 30, 0, 0, 0, 0, [([15], [(1, [0]), (1, [2])]), ([], [(1, [0]), (1, [1])])], [], []),
  (0, 30, 0, 0, 0, 0, [([16], [(1, [0]), (1, [2])]), ([], [(1, [0]), (1, [1])])], [], []),
  (0, 30, 0, 0, 0, 0, [([16], [(1, [0]), (1, [2])]), ([], [(1, [0]), (1, [1])])], [], []),
  (0, 30, 0, 0, 0, 0, [([16], [(1, [0]), (1, [2])]), ([], [(1, [0]), (1, [1])])], [], []),
  (0, 30, 0, 0, 0, 0, [([17], [(1, [0]), (1, [2])]), ([], [(1, [0]), (1, [1])])], [], []),
  (0, 30, 0, 0, 0, 0, [([17], [(1, [0]), (1, [2])]), ([], [(1, [0]), (1, [1])])], [], []),
  (0, 30, 0, 0, 0, 0, [([17], [(1, [0]), (1, [2])]), ([], [(1, [0]), (1, [1])])], [], []),
  (0, 30, 0, 0, 0, 0, [([15], [(1, [0]), (1, [2])]), ([], [(1, [0]), (1, [1])])], [], []),
  (0, 30, 0, 0, 0, 0, [([15], [(1, [0]), (1, [2])]), ([], [(1, [0]), (1, [1])])], [], []),
  (0, 30, 0, 0, 0, 0, [([16], [(1, [0]), (1, [2])]), ([], [(1, [0]), (1, [1])])], [], []),
  (0, 30, 0, 0, 0, 0, [([16], [(1, [0]), (1, [2])]), ([], [(1, [0]), (1, [1])])], [], []),
  (0, 30, 0, 0, 0, 0, [([16], [(1, [0]), (1, [2])]), ([], [(1, [0]), (1, [1])])], [], []),
  (0, 30, 0, 0, 0, 0, [([17], [(1, [0]), (1, [2])]), ([], [(1, [0]), (1, [1])])], [], []),
  (0, 30, 0, 0, 0, 0, [([17], [(1, [0]), (1, [2])]), ([], [(1, [0]), (1, [1])])], [], []),
  (0, 30, 0, 0, 0, 0, [([17], [(1, [0]), (1, [2])]), ([], [(1, [0]), (1, [1])])], [], []),
  (0, 30, 0, 0, 0, 0, [([15], [(1, [0]), (1, [2])]), ([], [(1, [0]), (1, [1])])], [], []),
  (0, 30, 0, 0, 0, 0, [([15], [(1, [0]), (1, [2])]), ([], [(1, [0]), (1, [1])])], [], []),
  (0, 30, 0, 0, 0, 0, [([16], [(1, [0]), (1, [2])]), ([], [(1, [0]), (1, [1])])], [], []),
  (0, 30, 0, 0, 0, 0, [([16], [(1, [0]), (1, [2])]), ([], [(1, [0]), (1, [1])])], [], []),
  (0, 30, 0, 0, 0, 0, [([16], [(1, [0]), (1, [2])]), ([], [(1, [0]), (1, [1])])], [], []),
  (0, 30, 0, 0, 0, 0, [([17], [(1, [0]), (1, [2])]), ([], [(1, [0]), (1, [1])])], [], []),
  (0, 30, 0, 0, 0, 0, [([17], [(1, [0]), (1, [2])]), ([], [(1, [0]), (1, [1])])], [], []),
  (0, 30, 0, 0, 0, 0, [([17], [(1, [0]), (1, [2])]), ([], [(1, [0]), (1, [1])])], [], []),
  (0, 30, 0, 0, 0, 0, [([15], [(1, [0]), (1, [2])]), ([], [(1, [0]), (1, [1])])], [], []),
  (0, 30, 0, 0, 0, 0, [([15], [(1, [0]), (1, [2])]), ([], [(1, [0]), (1, [1])])], [], []),
  (0, 30, 0, 0, 0, 0, [([16], [(1, [0]), (1, [2])]), ([], [(1, [0]), (1, [1])])], [], []),
  (0, 30, 0, 0, 0, 0, [([16], [(1, [0]), (1, [2])]), ([], [(1, [0]), (1, [1])])], [], []),
  (0, 30, 0, 0, 0, 0, [([16], [(1, [0]), (1, [2])]), ([], [(1, [0]), (1, [1])])], [], []),
  (0, 30, 0, 0, 0, 0, [([17], [(1, [0]), (1, [2])]), ([], [(1, [0]), (1, [1])])], [], []),
  (0, 30, 0, 0, 0, 0, [([17], [(1, [0]), (1, [2])]), ([], [(1, [0]), (1, [1])])], [], []),
  (0, 30, 0, 0, 0, 0, [([17], [(1, [0]), (1, [2])]), ([], [(1, [0]), (1, [1])])], [], []),
  (0, 30, 0, 0, 0, 0, [([15], [(1, [0]), (1, [2])]), ([], [(1, [0]), (1, [1])])], [], []),
  (0, 30, 0, 0, 0, 0, [([15], [(1, [0]), (1, [2])]), ([], [(1, [0]), (1, [1])])], [], []),
  (0, 30, 0, 0, 0, 0, [([16], [(1, [0]), (1, [2])]), ([], [(1, [0]), (1, [1])])], [], []),
  (0, 30, 0, 0, 0, 0, [([16], [(1, [0]), (1, [2])]), ([], [(1, [0]), (1, [1])])], [], []),
  (0, 30, 0, 0, 0, 0, [([16], [(1, [0]), (1, [2])]), ([], [(1, [0]), (1, [1])])], [], []),
  (0, 30, 0, 0, 0, 0, [([17], [(1, [0]), (1, [2])]), ([], [(1, [0]), (1, [1])])], [], []),
  (0, 30, 0, 0, 0, 0, [([17], [(1, [0]), (1, [2])]), ([], [(1, [0]), (1, [1])])], [], []),
  (0, 30, 0, 0, 0, 0, [([17], [(1, [0]), (1, [2])]), ([], [(1, [0]), (1, [1])])], [], []),
  (0, 30, 0, 0, 0, 0, [([15], [(1, [0]), (1, [2])]), ([], [(1, [0]), (1, [1])])], [], []),
  (0, 30, 0, 0, 0, 0, [([15], [(1, [0]), (1, [2])]), ([], [(1, [0]), (1, [1])])], [], []),
  (0, 30, 0, 0, 0, 0, [([16], [(1, [0]), (1, [2])]), ([], [(1, [0]), (1, [1])])], [], []),
  (0, 30, 0, 0, 0, 0, [([16], [(1, [0]), (1, [2])]), ([], [(1, [0]), (1, [1])])], [], []),
  (0, 30, 0, 0, 0, 0, [([16], [(1, [0]), (1, [2])]), ([], [(1, [0]), (1, [1])])], [], []),
  (0, 30, 0, 0, 0, 0, [([15], [(1, [0]), (1, [2])]), ([], [(1, [0]), (1, [1])])], [], []),
  (0, 30, 0, 0, 0, 0, [([15], [(1, [0]), (1, [2])]), ([], [(1, [0]), (1, [1])])], [], []),
  (0, 30, 0, 0, 0, 0, [([16], [(1, [0]), (1, [2])]), ([], [(1, [0]), (1, [1])])], [], []),
  (0, 30, 0, 0, 0, 0, [([16], [(1, [0]), (1, [2])]), ([], [(1, [0]), (1, [1])])], [], []),
  (0, 30, 0, 0, 0, 0, [([16], [(1, [0]), (1, [2])]), ([], [(1, [0]), (1, [1])])], [], []),
  (0, 30, 0, 0, 0, 0, [([15], [(1, [0]), (1, [2])]), ([], [(1, [0]), (1, [1])])], [], []),
  (0, 30, 0, 0, 0, 0, [([15], [(1, [0]), (1, [2])]), ([], [(1, [0]), (1, [1])])], [], []),
  (0, 30, 0, 0, 0, 0, [([16], [(1, [0]), (1, [2])]), ([], [(1, [0]), (1, [1])])], [], []),
  (0, 30, 0, 0, 0, 0, [([16], [(1, [0]), (1, [2])]), ([], [(1, [0]), (1, [1])])], [], []),
  (0, 30, 0, 0, 0, 0, [([16], [(1, [0]), (1, [2])]), ([], [(1, [0]), (1, [1])])], [], []),
  (0, 30, 0, 0, 0, 0, [([15], [(1, [0]), (1, [2])]), ([], [(1, [0]), (1, [1])])], [], []),
  (0, 30, 0, 0, 0, 0, [([15], [(1, [0]), (1, [2])]), ([], [(1, [0]), (1, [1])])], [], []),
  (0, 30, 0, 0, 0, 0, [([16], [(1, [0]), (1, [2])]), ([], [(1, [0]), (1, [1])])], [], []),
  (0, 30, 0, 0, 0, 0, [([16], [(1, [0]), (1, [2])]), ([], [(1, [0]), (1, [1])])], [], []),
  (0, 30, 0, 0, 0, 0, [([16], [(1, [0]), (1, [2])]), ([], [(1, [0]), (1, [1])])], [], []),
  (0, 30, 0, 0, 0, 0, [([15], [(1, [0]), (1, [2])]), ([], [(1, [0]), (1, [1])])], [], []),
  (0, 30, 0, 0, 0, 0, [([15], [(1, [0]), (1, [2])]), ([], [(1, [0]), (1, [1])])], [], []),
  (0, 30, 0, 0, 0, 0, [([16], [(1, [0]), (1, [2])]), ([], [(1, [0]), (1, [1])])], [], []),
  (0, 30, 0, 0, 0, 0, [([16], [(1, [0]), (1, [2])]), ([], [(1, [0]), (1, [1])])], [], []),
  (0, 30, 0, 0, 0, 0, [([16], [(1, [0]), (1, [2])]), ([], [(1, [0]), (1, [1])])], [], []),
  (0, 30, 0, 0, 0, 0, [([16], [(1, [0]), (1, [2])]), ([], [(1, [0]), (1, [1])])], [], []),
  (0, 30, 0, 0, 0, 0, [([16], [(1, [0]), (1, [2])]), ([], [(1, [0]), (1, [1])])], [], []),
  (0, 30, 0, 0, 0, 0, [([17], [(1, [0]), (1, [2])]), ([], [(1, [0]), (1, [1])])], [], []),
  (0, 30, 0, 0, 0, 0, [([17], [(1, [0]), (1, [2])]), ([], [(1, [0]), (1, [1])])], [], []),
  (0, 30, 0, 0, 0, 0, [([17], [(1, [0]), (1, [2])]), ([], [(1, [0]), (1, [1])])], [], []),
  (0, 30, 0, 0, 0, 0, [([18], [(1, [0]), (1, [2])]), ([], [(1, [0]), (1, [1])])], [], []),
  (0, 30, 0, 0, 0, 0, [([18], [(1, [0]), (1, [2])]), ([], [(1, [0]), (1, [1])])], [], []),
  (0, 30, 0, 0, 0, 0, [([18], [(1, [0]), (1, [2])]), ([], [(1, [0]), (1, [1])])], [], []),
  (0, 30, 0, 0, 0, 0, [([16], [(1, [0]), (1, [2])]), ([], [(1, [0]), (1, [1])])], [], []),
  (0, 30, 0, 0, 0, 0, [([16], [(1, [0]), (1, [2])]), ([], [(1, [0]), (1, [1])])], [], []),
  (0, 30, 0, 0, 0, 0, [([17], [(1, [0]), (1, [2])]), ([], [(1, [0]), (1, [1])])], [], []),
  (0, 30, 0, 0, 0, 0, [([17], [(1, [0]), (1, [2])]), ([], [(1, [0]), (1, [1])])], [], []),
  (0, 30, 0, 0, 0, 0, [([17], [(1, [0]), (1, [2])]), ([], [(1, [0]), (1, [1])])], [], []),
  (0, 30, 0, 0, 0, 0, [([18], [(1, [0]), (1, [2])]), ([], [(1, [0]), (1, [1])])], [], []),
  (0, 30, 0, 0, 0, 0, [([18], [(1, [0]), (1, [2])]), ([], [(1, [0]), (1, [1])])], [], []),
  (0, 30, 0, 0, 0, 0, [([18], [(1, [0]), (1, [2])]), ([], [(1, [0]), (1, [1])])], [], []),
  (0, 30, 0, 0, 0, 0, [([16], [(1, [0]), (1, [2])]), ([], [(1, [0]), (1, [1])])], [], []),
  (0, 30, 0, 0, 0, 0, [([16], [(1, [0]), (1, [2])]), ([], [(1, [0]), (1, [1])])], [], []),
  (0, 30, 0, 0, 0, 0, [([17], [(1, [0]), (1, [2])]), ([], [(1, [0]), (1, [1])])], [], []),
  (0, 30, 0, 0, 0, 0, [([17], [(1, [0]), (1, [2])]), ([], [(1, [0]), (1, [1])])], [], []),
  (0, 30, 0, 0, 0, 0, [([17], [(1, [0]), (1, [2])]), ([], [(1, [0]), (1, [1])])], [], []),
  (0, 30, 0, 0, 0, 0, [([18], [(1, [0]), (1, [2])]), ([], [(1, [0]), (1, [1])])], [], []),
  (0, 30, 0, 0, 0, 0, [([18], [(1, [0]), (1, [2])]), ([], [(1, [0]), (1, [1])])], [], []),
  (0, 30, 0, 0, 0, 0, [([18], [(1, [0]), (1, [2])]), ([], [(1, [0]), (1, [1])])], [], []),
  (0, 30, 0, 0, 0, 0, [([16], [(1, [0]), (1, [2])]), ([], [(1, [0]), (1, [1])])], [], []),
  (0, 30, 0, 0, 0, 0, [([16], [(1, [0]), (1, [2])]), ([], [(1, [0]), (1, [1])])], [], []),
  (0, 30, 0, 0, 0, 0, [([17], [(1, [0]), (1, [2])]), ([], [(1, [0]), (1, [1])])], [], []),
  (0, 30, 0, 0, 0, 0, [([17], [(1, [0]), (1, [2])]), ([], [(1, [0]), (1, [1])])], [], []),
  (0, 30, 0, 0, 0, 0, [([17], [(1, [0]), (1, [2])]), ([], [(1, [0]), (1, [1])])], [], []),
  (0, 30, 0, 0, 0, 0, [([18], [(1, [0]), (1, [2])]), ([], [(1, [0]), (1, [1])])], [], []),
  (0, 30, 0, 0, 0, 0, [([18], [(1, [0]), (1, [2])]), ([], [(1, [0]), (1, [1])])], [], []),
  (0, 30, 0, 0, 0, 0, [([18], [(1, [0]), (1, [2])]), ([], [(1, [0]), (1, [1])])], [], []),
  (0, 30, 0, 0, 0, 0, [([16], [(1, [0]), (1, [2])]), ([], [(1, [0]), (1, [1])])], [], []),
  (0, 30, 0, 0, 0, 0, [([16], [(1, [0]), (1, [2])]), ([], [(1, [0]), (1, [1])])], [], []),
  (0, 30, 0, 0, 0, 0, [([17], [(1, [0]), (1, [2])]), ([], [(1, [0]), (1, [1])])], [], []),
  (0, 30, 0, 0, 0, 0, [([17], [(1, [0]), (1, [2])]), ([], [(1, [0]), (1, [1])])], [], []),
  (0, 30, 0, 0, 0, 0, [([17], [(1, [0]), (1, [2])]), ([], [(1, [0]), (1, [1])])], [], []),
  (0, 30, 0, 0, 0, 0, [([18], [(1, [0]), (1, [2])]), ([], [(1, [0]), (1, [1])])], [], []),
  (0, 30, 0, 0, 0, 0, [([18], [(1, [0]), (1, [2])]), ([], [(1, [0]), (1, [1])])], [], []),
  (0, 30, 0, 0, 0, 0, [([18], [(1, [0]), (1, [2])]), ([], [(1, [0]), (1, [1])])], [], []),
  (0, 30, 0, 0, 0, 0, [([16], [(1, [0]), (1, [2])]), ([], [(1, [0]), (1, [1])])], [], []),
  (0, 30, 0, 0, 0, 0, [([16], [(1, [0]), (1, [2])]), ([], [(1, [0]), (1, [1])])], [], []),
  (0, 30, 0, 0, 0, 0, [([17], [(1, [0]), (1, [2])]), ([], [(1, [0]), (1, [1])])], [], []),
  (0, 30, 0, 0, 0, 0, [([17], [(1, [0]), (1, [2])]), ([], [(1, [0]), (1, [1])])], [], []),
  (0, 30, 0, 0, 0, 0, [([17], [(1, [0]), (1, [2])]), ([], [(1, [0]), (1, [1])])], [], []),
  (0, 30, 0, 0, 0, 0, [([16], [(1, [0]), (1, [2])]), ([], [(1, [0]), (1, [1])])], [], []),
  (0, 30, 0, 0, 0, 0, [([16], [(1, [0]), (1, [2])]), ([], [(1, [0]), (1, [1])])], [], []),
  (0, 30, 0, 0, 0, 0, [([17], [(1, [0]), (1, [2])]), ([], [(1, [0]), (1, [1])])], [], []),
  (0, 30, 0, 0, 0, 0, [([17], [(1, [0]), (1, [2])]), ([], [(1, [0]), (1, [1])])], [], []),
  (0, 30, 0, 0, 0, 0, [([17], [(1, [0]), (1, [2])]), ([], [(1, [0]), (1, [1])])], [], []),
  (0, 30, 0, 0, 0, 0, [([16], [(1, [0]), (1, [2])]), ([], [(1, [0]), (1, [1])])], [], []),
  (0, 30, 0, 0, 0, 0, [([16], [(1, [0]), (1, [2])]), ([], [(1, [0]), (1, [1])])], [], []),
  (0, 30, 0, 0, 0, 0, [([17], [(1, [0]), (1, [2])]), ([], [(1, [0]), (1, [1])])], [], []),
  (0, 30, 0, 0, 0, 0, [([17], [(1, [0]), (1, [2])]), ([], [(1, [0]), (1, [1])])], [], []),
  (0, 30, 0, 0, 0, 0, [([17], [(1, [0]), (1, [2])]), ([], [(1, [0]), (1, [1])])], [], []),
  (0, 30, 0, 0, 0, 0, [([16], [(1, [0]), (1, [2])]), ([], [(1, [0]), (1, [1])])], [], []),
  (0, 30, 0, 0, 0, 0, [([16], [(1, [0]), (1, [2])]), ([], [(1, [0]), (1, [1])])], [], []),
  (0, 30, 0, 0, 0, 0, [([17], [(1, [0]), (1, [2])]), ([], [(1, [0]), (1, [1])])], [], []),
  (0, 30, 0, 0, 0, 0, [([17], [(1, [0]), (1, [2])]), ([], [(1, [0]), (1, [1])])], [], []),
  (0, 30, 0, 0, 0, 0, [([17], [(1, [0]), (1, [2])]), ([], [(1, [0]), (1, [1])])], [], []),
  (0, 30, 0, 0, 0, 0, [([16], [(1, [0]), (1, [2])]), ([], [(1, [0]), (1, [1])])], [], []),
  (0, 30, 0, 0, 0, 0, [([16], [(1, [0]), (1, [2])]), ([], [(1, [0]), (1, [1])])], [], []),
  (0, 30, 0, 0, 0, 0, [([17], [(1, [0]), (1, [2])]), ([], [(1, [0]), (1, [1])])], [], []),
  (0, 30, 0, 0, 0, 0, [([17], [(1, [0]), (1, [2])]), ([], [(1, [0]), (1, [1])])], [], []),
  (0, 30, 0, 0, 0, 0, [([17], [(1, [0]), (1, [2])]), ([], [(1, [0]), (1, [1])])], [], [])]
set_option maxRecDepth 100000 in
theorem sz_s601_1 : sy_seg sz_E sz_T sz_RU [sz_c339, sz_c586] sz_c601 sz_u601 ri_m_X10_stepAnswer 1901 (some ((33, [(0, (3, .inr 0, .inl 0)), (1, (0, .inl 1, .inl 0)), (2, (0, .inr 0, .inl 0)), (3, (0, .inr 1, .inl 0)), (4, (3, .inr 191, .inl 0)), (5, (0, .inr 2, .inl 0)), (6, (0, .inr 3, .inl 0)), (7, (0, .inr 4, .inl 0)), (8, (0, .inr 5, .inl 0)), (9, (0, .inr 6, .inl 0))], ([(1, 101), ((-2147483648), 2147483647), ((-1), 100), ((-1), 100), (0, 2147483647), (0, 3), ((-9999), 999)], []), [], [], [(101, []), ((-1), [6])]))) sz_h601_1 = true := by decide +kernel
theorem sz_ok601 (xs : Nat → Value) (L : Nat) : sy_Cok (sz_env xs L) sz_T sz_RU sz_c601 := sy_chk_ok (CT := [sz_c339, sz_c586]) (CU := sz_u601) (M := ri_m_X10_stepAnswer) (List.forall_mem_cons.mpr ⟨sz_ok339 xs L, List.forall_mem_cons.mpr ⟨sz_ok586 xs L, fun _ h => absurd h List.not_mem_nil⟩⟩) rfl ⟨_, _, sz_s601_0⟩ (List.forall_mem_cons.mpr ⟨⟨_, _, sz_s601_1⟩, fun _ h => absurd h List.not_mem_nil⟩)

/-! X10_stepAnswer [0, 2, 0, 1] -/
set_option maxRecDepth 100000 in
noncomputable def sz_c602 : sy_Ct := (189, 5, 122, [(3, .inr 0, .inl 0), (0, .inl 2, .inl 0), (0, .inr 0, .inl 0), (0, .inr 1, .inl 0)], ([(0, 3), ((-9999), 999)], []), [], [], [(171, 1, 3), (173, 2, 2), (174, 0, 32), (175, 2, 2), (176, 0, 240), (177, 0, 3), (178, 0, 3), (179, 4, 14), (179, 16, 18), (180, 0, 6), (181, 0, 9), (182, 0, 4), (183, 0, 8), (184, 0, 5), (185, 0, 3), (186, 0, 3), (187, 0, 3), (188, 0, 3), (189, 0, 8), (190, 0, 4), (191, 4, 14), (191, 16, 18), (192, 0, 6), (193, 0, 9), (194, 0, 4), (195, 0, 8), (196, 0, 5), (197, 0, 3), (198, 0, 3), (199, 0, 3), (200, 0, 3), (201, 0, 8), (202, 0, 4), (203, 4, 14), (203, 16, 18), (204, 0, 6), (205, 0, 9), (206, 0, 4), (207, 0, 8), (208, 0, 5), (209, 0, 3), (210, 0, 3), (211, 0, 3), (212, 0, 3), (213, 0, 8), (214, 0, 4), (215, 4, 14), (215, 16, 18), (216, 0, 6), (217, 0, 9), (218, 0, 4), (219, 0, 8), (220, 0, 5), (221, 0, 3), (222, 0, 3), (223, 0, 3), (224, 0, 3), (225, 0, 8), (226, 0, 4)], [(.inl (some (0, .inr 2, .inl 0)), 0, 0, ([((-2147483648), 2147483647), (0, 3), ((-9999), 999)], []), [], [])])
set_option maxRecDepth 100000 in
noncomputable def sz_u602 : List sy_Cut := [(33, [(0, (3, .inr 0, .inl 0)), (1, (0, .inl 2, .inl 0)), (2, (0, .inr 0, .inl 0)), (3, (0, .inr 1, .inl 0)), (4, (3, .inr 203, .inl 0)), (5, (0, .inr 2, .inl 0)), (6, (0, .inr 3, .inl 0)), (7, (0, .inr 4, .inl 0)), (8, (0, .inr 5, .inl 0)), (9, (0, .inr 6, .inl 0))], ([(1, 101), ((-2147483648), 2147483647), ((-1), 100), ((-1), 100), (0, 2147483647), (0, 3), ((-9999), 999)], []), [], [], [(101, []), ((-1), [6])])]
set_option maxRecDepth 100000 in
noncomputable def sz_h602_0 : List sy_Hn := [(4, 4, 59, 2, 0, 0, [], [], []),
  (1, 20, 1, 0, 0, 0, [], [], []),
  (0, 30, 0, 0, 0, 0, [([], [(1, [0])]), ([], [])], [], []),
  (0, 30, 0, 0, 0, 0, [([], [(1, [0])]), ([], [])], [], []),
  (0, 30, 0, 0, 0, 0, [([], [(1, [0])]), ([], [])], [], [])]
set_option maxRecDepth 100000 in
theorem sz_s602_0 : sy_seg sz_E sz_T sz_RU [sz_c339, sz_c586] sz_c602 sz_u602 ri_m_X10_stepAnswer 86 none sz_h602_0 = true := by decide +kernel
set_option maxRecDepth 100000 in
noncomputable def sz_h602_1 : List sy_Hn := [(0, 31, 0, 0, 0, 0, [], [], []),
  (0, 31, 0, 0, 0, 0, [], [], []),
  (0, 31, 0, 0, 0, 0, [], [], []),
  (0, 31, 0, 0, 0, 0, [], [], []),
  (3, 20, 0, 0, 0, 0, [], [], []),
  (0, 30, 0, 0, 0, 0, [([15], [(1, [0]), (1, [2])]), ([], [(1, [0]), (1, [1])])], [], []),
  (0, 30, 0, 0, 0, 0, [([15], [(1, [0]), (1, [2])]), ([], [(1, [0]), (1, [1])])], [], []),
  (0, 30, 0, 0, 0, 0, [([16], [(1, [0]), (1, [2])]), ([], [(1, [0]), (1, [1])])], [], []),
  (0, 30, 0, 0, 0, 0, [([16], [(1, [0]), (1, [2])]), ([], [(1, [0]), (1, [1])])], [], []),
  (0, 30, 0, 0, 0, 0, [([16], [(1, [0]), (1, [2])]), ([], [(1, [0]), (1, [1])])], [], []),
  (0, 30, 0, 0, 0, 0, [([17], [(1, [0]), (1, [2])]), ([], [(1, [0]), (1, [1])])], [], []),
  (0, 30, 0, 0, 0, 0, [([17], [(1, [0]), (1, [2])]), ([], [(1, [0]), (1, [1])])], [], []),
  (0, 30, 0, 0, 0, 0, [([17], [(1, [0]), (1, [2])]), ([], [(1, [0]), (1, [1])])], [], []),
  (0, 30, 0, 0, 0, 0, [([15], [(1, [0]), (1, [2])]), ([], [(1, [0]), (1, [1])])], [], []),
  (0, 30, 0, 0, 0, 0, [([15], [(1, [0]), (1, [2])]), ([], [(1, [0]), (1, [1])])], [], []),
  (0, 30, 0, 0, 0, 0, [([16], [(1, [0]), (1, [2])]), ([], [(1, [0]), (1, [1])])], [], []),
  (0, 30, 0, 0, 0, 0, [([16], [(1, [0]), (1, [2])]), ([], [(1, [0]), (1, [1])])], [], []),
  (0, 30, 0, 0, 0, 0, [([16], [(1, [0]), (1, [2])]), ([], [(1, [0]), (1, [1])])], [], []),
  (0, 30, 0, 0, 0, 0, [([17], [(1, [0]), (1, [2])]), ([], [(1, [0]), (1, [1])])], [], []),
  (0, 30, 0, 0, 0, 0, [([17], [(1, [0]), (1, [2])]), ([], [(1, [0]), (1, [1])])], [], []),
  (0, 30, 0, 0, 0, 0, [([17], [(1, [0]), (1, [2])]), ([], [(1, [0]), (1, [1])])], [], []),
  (0, 30, 0, 0, 0, 0, [([15], [(1, [0]), (1, [2])]), ([], [(1, [0]), (1, [1])])], [], []),
  (0, 30, 0, 0, 0, 0, [([15], [(1, [0]), (1, [2])]), ([], [(1, [0]), (1, [1])])], [], []),
  (0, 30, 0, 0, 0, 0, [([16], [(1, [0]), (1, [2])]), ([], [(1, [0]), (1, [1])])], [], []),
  (0, 30, 0, 0, 0, 0, [([16], [(1, [0]), (1, [2])]), ([], [(1, [0]), (1, [1])])], [], []),
  (0, 30, 0, 0, 0, 0, [([16], [(1, [0]), (1, [2])]), ([], [(1, [0]), (1, [1])])], [], []),
  (0, 30, 0, 0, 0, 0, [([17], [(1, [0]), (1, [2])]), ([], [(1, [0]), (1, [1])])], [], []),
  (0, 30, 0, 0, 0, 0, [([17], [(1, [0]), (1, [2])]), ([], [(1, [0]), (1, [1])])], [], []),
  (0, 30, 0, 0, 0, 0, [([17], [(1, [0]), (1, [2])]), ([], [(1, [0]), (1, [1])])], [], []),
  (0, 30, 0, 0, 0, 0, [([15], [(1, [0]), (1, [2])]), ([], [(1, [0]), (1, [1])])], [], []),
  (0, 30, 0, 0, 0, 0, [([15], [(1, [0]), (1, [2])]), ([], [(1, [0]), (1, [1])])], [], []),
  (0, 30, 0, 0, 0, 0, [([16], [(1, [0]), (1, [2])]), ([], [(1, [0]), (1, [1])])], [], []),
  (0, 30, 0, 0, 0, 0, [([16], [(1, [0]), (1, [2])]), ([], [(1, [0]), (1, [1])])], [], []),
  (0, 30, 0, 0, 0, 0, [([16], [(1, [0]), (1, [2])]), ([], [(1, [0]), (1, [1])])], [], []),
  (0, 30, 0, 0, 0, 0, [([17], [(1, [0]), (1, [2])]), ([], [(1, [0]), (1, [1])])], [], []),
  (0, 30, 0, 0, 0, 0, [([17], [(1, [0]), (1, [2])]), ([], [(1, [0]), (1, [1])])], [], []),
  (0, 30, 0, 0, 0, 0, [([17], [(1, [0]), (1, [2])]), ([], [(1, [0]), (1, [1])])], [], []),
  (0, 30, 0, 0, 0, 0, [([15], [(1, [0]), (1, [2])]), ([], [(1, [0]), (1, [1])])], [], []),
  (0, 30, 0, 0, 0, 0, [([15], [(1, [0]), (1, [2])]), ([], [(1, [0]), (1, [1])])], [], []),
  (0, 30, 0, 0, 0, 0, [([16], [(1, [0]), (1, [2])]), ([], [(1, [0]), (1, [1])])], [], []),
  (0, 30, 0, 0, 0, 0, [([16], [(1, [0]), (1, [2])]), ([], [(1, [0]), (1, [1])])], [], []),
  (0, 30, 0, 0, 0, 0, [([16], [(1, [0]), (1, [2])]), ([], [(1, [0]), (1, [1])])], [], []),
  (0, 30, 0, 0, 0, 0, [([17], [(1, [0]), (1, [2])]), ([], [(1, [0]), (1, [1])])], [], []),
  (0, 30, 0, 0, 0, 0, [([17], [(1, [0]), (1, [2])]), ([], [(1, [0]), (1, [1])])], [], []),
  (0, 30, 0, 0, 0, 0, [([17], [(1, [0]), (1, [2])]), ([], [(1, [0]), (1, [1])])], [], []),
  (0, 30, 0, 0, 0, 0, [([15], [(1, [0]), (1, [2])]), ([], [(1, [0]), (1, [1])])], [], []),
  (0, 30, 0, 0, 0, 0, [([15], [(1, [0]), (1, [2])]), ([], [(1, [0]), (1, [1])])], [], []),
  (0, 30, 0, 0, 0, 0, [([16], [(1, [0]), (1, [2])]), ([], [(1, [0]), (1, [1])])], [], []),
  (0, 30, 0, 0, 0, 0, [([16], [(1, [0]), (1, [2])]), ([], [(1, [0]), (1, [1])])], [], []),
  (0, 30, 0, 0, 0, 0, [([16], [(1, [0]), (1, [2])]), ([], [(1, [0]), (1, [1])])], [], []),
  (0, 30, 0, 0, 0, 0, [([15], [(1, [0]), (1, [2])]), ([], [(1, [0]), (1, [1])])], [], []),
  (0, 30, 0, 0, 0, 0, [([15], [(1, [0]), (1, [2])]), ([], [(1, [0]), (1, [1])])], [], []),
  (0, 30, 0, 0, 0, 0, [([16], [(1, [0]), (1, [2])]), ([], [(1, [0]), (1, [1])])], [], []),
  (0, 30, 0, 0, 0, 0, [([16], [(1, [0]), (1, [2])]), ([], [(1, [0]), (1, [1])])], [], []),
  (0, 30, 0, 0, 0, 0, [([16], [(1, [0]), (1, [2])]), ([], [(1, [0]), (1, [1])])], [], []),
  (0, 30, 0, 0, 0, 0, [([15], [(1, [0]), (1, [2])]), ([], [(1, [0]), (1, [1])])], [], []),
  (0, 30, 0, 0, 0, 0, [([15], [(1, [0]), (1, [2])]), ([], [(1, [0]), (1, [1])])], [], []),
  (0, 30, 0, 0, 0, 0, [([16], [(1, [0]), (1, [2])]), ([], [(1, [0]), (1, [1])])], [], []),
  (0, 30, 0, 0, 0, 0, [([16], [(1, [0]), (1, [2])]), ([], [(1, [0]), (1, [1])])], [], []),
  (0, 30, 0, 0, 0, 0, [([16], [(1, [0]), (1, [2])]), ([], [(1, [0]), (1, [1])])], [], []),
  (0, 30, 0, 0, 0, 0, [([15], [(1, [0]), (1, [2])]), ([], [(1, [0]), (1, [1])])], [], []),
  (0, 30, 0, 0, 0, 0, [([15], [(1, [0]), (1, [2])]), ([], [(1, [0]), (1, [1])])], [], []),
  (0, 30, 0, 0, 0, 0, [([16], [(1, [0]), (1, [2])]), ([], [(1, [0]), (1, [1])])], [], []),
  (0, 30, 0, 0, 0, 0, [([16], [(1, [0]), (1, [2])]), ([], [(1, [0]), (1, [1])])], [], []),
  (0, 30, 0, 0, 0, 0, [([16], [(1, [0]), (1, [2])]), ([], [(1, [0]), (1, [1])])], [], []),
  (0, 30, 0, 0, 0, 0, [([15], [(1, [0]), (1, [2])]), ([], [(1, [0]), (1, [1])])], [], []),
  (0, 30, 0, 0, 0, 0, [([15], [(1, [0]), (1, [2])]), ([], [(1, [0]), (1, [1])])], [], []),
  (0, 30, 0, 0, 0, 0, [([16], [(1, [0]), (1, [2])]), ([], [(1, [0]), (1, [1])])], [], []),
  (0, 30, 0, 0, 0, 0, [([16], [(1, [0]), (1, [2])]), ([], [(1, [0]), (1, [1])])], [], []),
  (0, 30, 0, 0, 0, 0, [([16], [(1, [0]), (1, [2])]), ([], [(1, [0]), (1, [1])])], [], []),
  (0, 30, 0, 0, 0, 0, [([16], [(1, [0]), (1, [2])]), ([], [(1, [0]), (1, [1])])], [], []),
  (0, 30, 0, 0, 0, 0, [([16], [(1, [0]), (1, [2])]), ([], [(1, [0]), (1, [1])])], [], []),
  (0, 30, 0, 0, 0, 0, [([17], [(1, [0]), (1, [2])]), ([], [(1, [0]), (1, [1])])], [], []),
  (0, 30, 0, 0, 0, 0, [([17], [(1, [0]), (1, [2])]), ([], [(1, [0]), (1, [1])])], [], []),
  (0, 30, 0, 0, 0, 0, [([17], [(1, [0]), (1, [2])]), ([], [(1, [0]), (1, [1])])], [], []),
  (0, 30, 0, 0, 0, 0, [([18], [(1, [0]), (1, [2])]), ([], [(1, [0]), (1, [1])])], [], []),
  (0, 30, 0, 0, 0, 0, [([18], [(1, [0]), (1, [2])]), ([], [(1, [0]), (1, [1])])], [], []),
  (0, 30, 0, 0, 0, 0, [([18], [(1, [0]), (1, [2])]), ([], [(1, [0]), (1, [1])])], [], []),
  (0, 30, 0, 0, 0, 0, [([16], [(1, [0]), (1, [2])]), ([], [(1, [0]), (1, [1])])], [], []),
  (0, 30, 0, 0, 0, 0, [([16], [(1, [0]), (1, [2])]), ([], [(1, [0]), (1, [1])])], [], []),
  (0, 30, 0, 0, 0, 0, [([17], [(1, [0]), (1, [2])]), ([], [(1, [0]), (1, [1])])], [], []),
  (0, 30, 0, 0, 0, 0, [([17], [(1, [0]), (1, [2])]), ([], [(1, [0]), (1, [1])])], [], []),
  (0, 30, 0, 0, 0, 0, [([17], [(1, [0]), (1, [2])]), ([], [(1, [0]), (1, [1])])], [], []),
  (0, 30, 0, 0, 0, 0, [([18], [(1, [0]), (1, [2])]), ([], [(1, [0]), (1, [1])])], [], []),
  (0, 30, 0, 0, 0, 0, [([18], [(1, [0]), (1, [2])]), ([], [(1, [0]), (1, [1])])], [], []),
  (0, 30, 0, 0, 0, 0, [([18], [(1, [0]), (1, [2])]), ([], [(1, [0]), (1, [1])])], [], []),
  (0, 30, 0, 0, 0, 0, [([16], [(1, [0]), (1, [2])]), ([], [(1, [0]), (1, [1])])], [], []),
  (0, 30, 0, 0, 0, 0, [([16], [(1, [0]), (1, [2])]), ([], [(1, [0]), (1, [1])])], [], []),
  (0, 30, 0, 0, 0, 0, [([17], [(1, [0]), (1, [2])]), ([], [(1, [0]), (1, [1])])], [], []),
  (0, 30, 0, 0, 0, 0, [([17], [(1, [0]), (1, [2])]), ([], [(1, [0]), (1, [1])])], [], []),
  (0, 30, 0, 0, 0, 0, [([17], [(1, [0]), (1, [2])]), ([], [(1, [0]), (1, [1])])], [], []),
  (0, 30, 0, 0, 0, 0, [([18], [(1, [0]), (1, [2])]), ([], [(1, [0]), (1, [1])])], [], []),
  (0, 30, 0, 0, 0, 0, [([18], [(1, [0]), (1, [2])]), ([], [(1, [0]), (1, [1])])], [], []),
  (0, 30, 0, 0, 0, 0, [([18], [(1, [0]), (1, [2])]), ([], [(1, [0]), (1, [1])])], [], []),
  (0, 30, 0, 0, 0, 0, [([16], [(1, [0]), (1, [2])]), ([], [(1, [0]), (1, [1])])], [], []),
  (0, 30, 0, 0, 0, 0, [([16], [(1, [0]), (1, [2])]), ([], [(1, [0]), (1, [1])])], [], []),
  (0, 30, 0, 0, 0, 0, [([17], [(1, [0]), (1, [2])]), ([], [(1, [0]), (1, [1])])], [], []),
  (0, 30, 0, 0, 0, 0, [([17], [(1, [0]), (1, [2])]), ([], [(1, [0]), (1, [1])])], [], []),
  (0, 30, 0, 0, 0, 0, [([17], [(1, [0]), (1, [2])]), ([], [(1, [0]), (1, [1])])], [], []),
  (0, 30, 0, 0, 0, 0, [([18], [(1, [0]), (1, [2])]), ([], [(1, [0]), (1, [1])])], [], []),
  (0, 30, 0, 0, 0, 0, [([18], [(1, [0]), (1, [2])]), ([], [(1, [0]), (1, [1])])], [], []),
  (0, 30, 0, 0, 0, 0, [([18], [(1, [0]), (1, [2])]), ([], [(1, [0]), (1, [1])])], [], []),
  (0, 30, 0, 0, 0, 0, [([16], [(1, [0]), (1, [2])]), ([], [(1, [0]), (1, [1])])], [], []),
  (0, 30, 0, 0, 0, 0, [([16], [(1, [0]), (1, [2])]), ([], [(1, [0]), (1, [1])])], [], []),
  (0, 30, 0, 0, 0, 0, [([17], [(1, [0]), (1, [2])]), ([], [(1, [0]), (1, [1])])], [], []),
  (0, 30, 0, 0, 0, 0, [([17], [(1, [0]), (1, [2])]), ([], [(1, [0]), (1, [1])])], [], []),
  (0, 30, 0, 0, 0, 0, [([17], [(1, [0]), (1, [2])]), ([], [(1, [0]), (1, [1])])], [], []),
  (0, 30, 0, 0, 0, 0, [([18], [(1, [0]), (1, [2])]), ([], [(1, [0]), (1, [1])])], [], []),
  (0, 30, 0, 0, 0, 0, [([18], [(1, [0]), (1, [2])]), ([], [(1, [0]), (1, [1])])], [], []),
  (0, 30, 0, 0, 0, 0, [([18], [(1, [0]), (1, [2])]), ([], [(1, [0]), (1, [1])])], [], []),
  (0, 30, 0, 0, 0, 0, [([16], [(1, [0]), (1, [2])]), ([], [(1, [0]), (1, [1])])], [], []),
  (0, 30, 0, 0, 0, 0, [([16], [(1, [0]), (1, [2])]), ([], [(1, [0]), (1, [1])])], [], []),
  (0, 30, 0, 0, 0, 0, [([17], [(1, [0]), (1, [2])]), ([], [(1, [0]), (1, [1])])], [], []),
  (0, 30, 0, 0, 0, 0, [([17], [(1, [0]), (1, [2])]), ([], [(1, [0]), (1, [1])])], [], []),
  (0, 30, 0, 0, 0, 0, [([17], [(1, [0]), (1, [2])]), ([], [(1, [0]), (1, [1])])], [], []),
  (0, 30, 0, 0, 0, 0, [([16], [(1, [0]), (1, [2])]), ([], [(1, [0]), (1, [1])])], [], []),
  (0, 30, 0, 0, 0, 0, [([16], [(1, [0]), (1, [2])]), ([], [(1, [0]), (1, [1])])], [], []),
  (0, 30, 0, 0, 0, 0, [([17], [(1, [0]), (1, [2])]), ([], [(1, [0]), (1, [1])])], [], []),
  (0, 30, 0, 0, 0, 0, [([17], [(1, [0]), (1, [2])]), ([], [(1, [0]), (1, [1])])], [], []),
  (0, 30, 0, 0, 0, 0, [([17], [(1, [0]), (1, [2])]), ([], [(1, [0]), (1, [1])])], [], []),
  (0, 30, 0, 0, 0, 0, [([16], [(1, [0]), (1, [2])]), ([], [(1, [0]), (1, [1])])], [], []),
  (0, 30, 0, 0, 0, 0, [([16], [(1, [0]), (1, [2])]), ([], [(1, [0]), (1, [1])])], [], []),
  (0, 30, 0, 0, 0, 0, [([17], [(1, [0]), (1, [2])]), ([], [(1, [0]), (1, [1])])], [], []),
  (0, 30, 0, 0, 0, 0, [([17], [(1, [0]), (1, [2])]), ([], [(1, [0]), (1, [1])])], [], []),
  (0, 30, 0, 0, 0, 0, [([17], [(1, [0]), (1, [2])]), ([], [(1, [0]), (1, [1])])], [], []),
  (0, 30, 0, 0, 0, 0, [([16], [(1, [0]), (1, [2])]), ([], [(1, [0]), (1, [1])])], [], []),
  (0, 30, 0, 0, 0, 0, [([16], [(1, [0]), (1, [2])]), ([], [(1, [0]), (1, [1])])], [], []),
  (0, 30, 0, 0, 0, 0, [([17], [(1, [0]), (1, [2])]), ([], [(1, [0]), (1, [1])])], [], []),
  (0, 30, 0, 0, 0, 0, [([17], [(1, [0]), (1, [2])]), ([], [(1, [0]), (1, [1])])], [], []),
  (0, 30, 0, 0, 0, 0, [([17], [(1, [0]), (1, [2])]), ([], [(1, [0]), (1, [1])])], [], []),
  (0, 30, 0, 0, 0, 0, [([16], [(1, [0]), (1, [2])]), ([], [(1, [0]), (1, [1])])], [], []),
  (0, 30, 0, 0, 0, 0, [([16], [(1, [0]), (1, [2])]), ([], [(1, [0]), (1, [1])])], [], []),
  (0, 30, 0, 0, 0, 0, [([17], [(1, [0]), (1, [2])]), ([], [(1, [0]), (1, [1])])], [], []),
  (0, 30, 0, 0, 0, 0, [([17], [(1, [0]), (1, [2])]), ([], [(1, [0]), (1, [1])])], [], []),
  (0, 30, 0, 0, 0, 0, [([17], [(1, [0]), (1, [2])]), ([], [(1, [0]), (1, [1])])], [], [])]
set_option maxRecDepth 100000 in
theorem sz_s602_1 : sy_seg sz_E sz_T sz_RU [sz_c339, sz_c586] sz_c602 sz_u602 ri_m_X10_stepAnswer 1901 (some ((33, [(0, (3, .inr 0, .inl 0)), (1, (0, .inl 2, .inl 0)), (2, (0, .inr 0, .inl 0)), (3, (0, .inr 1, .inl 0)), (4, (3, .inr 203, .inl 0)), (5, (0, .inr 2, .inl 0)), (6, (0, .inr 3, .inl 0)), (7, (0, .inr 4, .inl 0)), (8, (0, .inr 5, .inl 0)), (9, (0, .inr 6, .inl 0))], ([(1, 101), ((-2147483648), 2147483647), ((-1), 100), ((-1), 100), (0, 2147483647), (0, 3), ((-9999), 999)], []), [], [], [(101, []), ((-1), [6])]))) sz_h602_1 = true := by decide +kernel
theorem sz_ok602 (xs : Nat → Value) (L : Nat) : sy_Cok (sz_env xs L) sz_T sz_RU sz_c602 := sy_chk_ok (CT := [sz_c339, sz_c586]) (CU := sz_u602) (M := ri_m_X10_stepAnswer) (List.forall_mem_cons.mpr ⟨sz_ok339 xs L, List.forall_mem_cons.mpr ⟨sz_ok586 xs L, fun _ h => absurd h List.not_mem_nil⟩⟩) rfl ⟨_, _, sz_s602_0⟩ (List.forall_mem_cons.mpr ⟨⟨_, _, sz_s602_1⟩, fun _ h => absurd h List.not_mem_nil⟩)

/-! X10_stepAnswer [0, 3, 0, 1] -/
set_option maxRecDepth 100000 in
noncomputable def sz_c603 : sy_Ct := (189, 5, 122, [(3, .inr 0, .inl 0), (0, .inl 3, .inl 0), (0, .inr 0, .inl 0), (0, .inr 1, .inl 0)], ([(0, 3), ((-9999), 999)], []), [], [], [(171, 1, 3), (173, 2, 2), (174, 0, 32), (175, 2, 2), (176, 0, 240), (177, 0, 3), (178, 0, 3), (179, 4, 14), (179, 16, 18), (180, 0, 6), (181, 0, 9), (182, 0, 4), (183, 0, 8), (184, 0, 5), (185, 0, 3), (186, 0, 3), (187, 0, 3), (188, 0, 3), (189, 0, 8), (190, 0, 4), (191, 4, 14), (191, 16, 18), (192, 0, 6), (193, 0, 9), (194, 0, 4), (195, 0, 8), (196, 0, 5), (197, 0, 3), (198, 0, 3), (199, 0, 3), (200, 0, 3), (201, 0, 8), (202, 0, 4), (203, 4, 14), (203, 16, 18), (204, 0, 6), (205, 0, 9), (206, 0, 4), (207, 0, 8), (208, 0, 5), (209, 0, 3), (210, 0, 3), (211, 0, 3), (212, 0, 3), (213, 0, 8), (214, 0, 4), (215, 4, 14), (215, 16, 18), (216, 0, 6), (217, 0, 9), (218, 0, 4), (219, 0, 8), (220, 0, 5), (221, 0, 3), (222, 0, 3), (223, 0, 3), (224, 0, 3), (225, 0, 8), (226, 0, 4)], [(.inl (some (0, .inr 2, .inl 0)), 0, 0, ([((-2147483648), 2147483647), (0, 3), ((-9999), 999)], []), [], [])])
set_option maxRecDepth 100000 in
noncomputable def sz_u603 : List sy_Cut := [(33, [(0, (3, .inr 0, .inl 0)), (1, (0, .inl 3, .inl 0)), (2, (0, .inr 0, .inl 0)), (3, (0, .inr 1, .inl 0)), (4, (3, .inr 215, .inl 0)), (5, (0, .inr 2, .inl 0)), (6, (0, .inr 3, .inl 0)), (7, (0, .inr 4, .inl 0)), (8, (0, .inr 5, .inl 0)), (9, (0, .inr 6, .inl 0))], ([(1, 101), ((-2147483648), 2147483647), ((-1), 100), ((-1), 100), (0, 2147483647), (0, 3), ((-9999), 999)], []), [], [], [(101, []), ((-1), [6])])]
set_option maxRecDepth 100000 in
noncomputable def sz_h603_0 : List sy_Hn := [(4, 4, 59, 2, 0, 0, [], [], []),
  (1, 20, 1, 0, 0, 0, [], [], []),
  (0, 30, 0, 0, 0, 0, [([], [(1, [0])]), ([], [])], [], []),
  (0, 30, 0, 0, 0, 0, [([], [(1, [0])]), ([], [])], [], []),
  (0, 30, 0, 0, 0, 0, [([], [(1, [0])]), ([], [])], [], [])]
set_option maxRecDepth 100000 in
theorem sz_s603_0 : sy_seg sz_E sz_T sz_RU [sz_c339, sz_c586] sz_c603 sz_u603 ri_m_X10_stepAnswer 86 none sz_h603_0 = true := by decide +kernel
set_option maxRecDepth 100000 in
noncomputable def sz_h603_1 : List sy_Hn := [(0, 31, 0, 0, 0, 0, [], [], []),
  (0, 31, 0, 0, 0, 0, [], [], []),
  (0, 31, 0, 0, 0, 0, [], [], []),
  (0, 31, 0, 0, 0, 0, [], [], []),
  (3, 20, 0, 0, 0, 0, [], [], []),
  (0, 30, 0, 0, 0, 0, [([15], [(1, [0]), (1, [2])]), ([], [(1, [0]), (1, [1])])], [], []),
  (0, 30, 0, 0, 0, 0, [([15], [(1, [0]), (1, [2])]), ([], [(1, [0]), (1, [1])])], [], []),
  (0, 30, 0, 0, 0, 0, [([16], [(1, [0]), (1, [2])]), ([], [(1, [0]), (1, [1])])], [], []),
  (0, 30, 0, 0, 0, 0, [([16], [(1, [0]), (1, [2])]), ([], [(1, [0]), (1, [1])])], [], []),
  (0, 30, 0, 0, 0, 0, [([16], [(1, [0]), (1, [2])]), ([], [(1, [0]), (1, [1])])], [], []),
  (0, 30, 0, 0, 0, 0, [([17], [(1, [0]), (1, [2])]), ([], [(1, [0]), (1, [1])])], [], []),
  (0, 30, 0, 0, 0, 0, [([17], [(1, [0]), (1, [2])]), ([], [(1, [0]), (1, [1])])], [], []),
  (0, 30, 0, 0, 0, 0, [([17], [(1, [0]), (1, [2])]), ([], [(1, [0]), (1, [1])])], [], []),
  (0, 30, 0, 0, 0, 0, [([15], [(1, [0]), (1, [2])]), ([], [(1, [0]), (1, [1])])], [], []),
  (0, 30, 0, 0, 0, 0, [([15], [(1, [0]), (1, [2])]), ([], [(1, [0]), (1, [1])])], [], []),
  (0, 30, 0, 0, 0, 0, [([16], [(1, [0]), (1, [2])]), ([], [(1, [0]), (1, [1])])], [], []),
  (0, 30, 0, 0, 0, 0, [([16], [(1, [0]), (1, [2])]), ([], [(1, [0]), (1, [1])])], [], []),
  (0, 30, 0, 0, 0, 0, [([16], [(1, [0]), (1, [2])]), ([], [(1, [0]), (1, [1])])], [], []),
  (0, 30, 0, 0, 0, 0, [([17], [(1, [0]), (1, [2])]), ([], [(1, [0]), (1, [1])])], [], []),
  (0, 30, 0, 0, 0, 0, [([17], [(1, [0]), (1, [2])]), ([], [(1, [0]), (1, [1])])], [], []),
  (0, 30, 0, 0, 0, 0, [([17], [(1, [0]), (1, [2])]), ([], [(1, [0]), (1, [1])])], [], []),
  (0, 30, 0, 0, 0, 0, [([15], [(1, [0]), (1, [2])]), ([], [(1, [0]), (1, [1])])], [], []),
  (0, 30, 0, 0, 0, 0, [([15], [(1, [0]), (1, [2])]), ([], [(1, [0]), (1, [1])])], [], []),
  (0, 30, 0, 0, 0, 0, [([16], [(1, [0]), (1, [2])]), ([], [(1, [0]), (1, [1])])], [], []),
  (0, 30, 0, 0, 0, 0, [([16], [(1, [0]), (1, [2])]), ([], [(1, [0]), (1, [1])])], [], []),
  (0, 30, 0, 0, 0, 0, [([16], [(1, [0]), (1, [2])]), ([], [(1, [0]), (1, [1])])], [], []),
  (0, 30, 0, 0, 0, 0, [([17], [(1, [0]), (1, [2])]), ([], [(1, [0]), (1, [1])])], [], []),
  (0, 30, 0, 0, 0, 0, [([17], [(1, [0]), (1, [2])]), ([], [(1, [0]), (1, [1])])], [], []),
  (0, 30, 0, 0, 0, 0, [([17], [(1, [0]), (1, [2])]), ([], [(1, [0]), (1, [1])])], [], []),
  (0, 30, 0, 0, 0, 0, [([15], [(1, [0]), (1, [2])]), ([], [(1, [0]), (1, [1])])], [], []),
  (0, 30, 0, 0, 0, 0, [([15], [(1, [0]), (1, [2])]), ([], [(1, [0]), (1, [1])])], [], []),
  (0, 30, 0, 0, 0, 0, [([16], [(1, [0]), (1, [2])]), ([], [(1, [0]), (1, [1])])], [], []),
  (0, 30, 0, 0, 0, 0, [([16], [(1, [0]), (1, [2])]), ([], [(1, [0]), (1, [1])])], [], []),
  (0, 30, 0, 0, 0, 0, [([16], [(1, [0]), (1, [2])]), ([], [(1, [0]), (1, [1])])], [], []),
  (0, 30, 0, 0, 0, 0, [([17], [(1, [0]), (1, [2])]), ([], [(1, [0]), (1, [1])])], [], []),
  (0, 30, 0, 0, 0, 0, [([17], [(1, [0]), (1, [2])]), ([], [(1, [0]), (1, [1])])], [], []),
  (0, 30, 0, 0, 0, 0, [([17], [(1, [0]), (1, [2])]), ([], [(1, [0]), (1, [1])])], [], []),
  (0, 30, 0, 0, 0, 0, [([15], [(1, [0]), (1, [2])]), ([], [(1, [0]), (1, [1])])], [], []),
  (0, 30, 0, 0, 0, 0, [([15], [(1, [0]), (1, [2])]), ([], [(1, [0]), (1, [1])])], [], []),
  (0, 30, 0, 0, 0, 0, [([16], [(1, [0]), (1, [2])]), ([], [(1, [0]), (1, [1])])], [], []),
  (0, 30, 0, 0, 0, 0, [([16], [(1, [0]), (1, [2])]), ([], [(1, [0]), (1, [1])])], [], []),
  (0, 30, 0, 0, 0, 0, [([16], [(1, [0]), (1, [2])]), ([], [(1, [0]), (1, [1])])], [], []),
  (0, 30, 0, 0, 0, 0, [([17], [(1, [0]), (1, [2])]), ([], [(1, [0]), (1, [1])])], [], []),
  (0, 30, 0, 0, 0, 0, [([17], [(1, [0]), (1, [2])]), ([], [(1, [0]), (1, [1])])], [], []),
  (0, 30, 0, 0, 0, 0, [([17], [(1, [0]), (1, [2])]), ([], [(1, [0]), (1, [1])])], [], []),
  (0, 30, 0, 0, 0, 0, [([15], [(1, [0]), (1, [2])]), ([], [(1, [0]), (1, [1])])], [], []),
  (0, 30, 0, 0, 0, 0, [([15], [(1, [0]), (1, [2])]), ([], [(1, [0]), (1, [1])])], [], []),
  (0, 30, 0, 0, 0, 0, [([16], [(1, [0]), (1, [2])]), ([], [(1, [0]), (1, [1])])], [], []),
  (0, 30, 0, 0, 0, 0, [([16], [(1, [0]), (1, [2])]), ([], [(1, [0]), (1, [1])])], [], []),
  (0, 30, 0, 0, 0, 0, [([16], [(1, [0]), (1, [2])]), ([], [(1, [0]), (1, [1])])], [], []),
  (0, 30, 0, 0, 0, 0, [([15], [(1, [0]), (1, [2])]), ([], [(1, [0]), (1, [1])])], [], []),
  (0, 30, 0, 0, 0, 0, [([15], [(1, [0]), (1, [2])]), ([], [(1, [0]), (1, [1])])], [], []),
  (0, 30, 0, 0, 0, 0, [([16], [(1, [0]), (1, [2])]), ([], [(1, [0]), (1, [1])])], [], []),
  (0, 30, 0, 0, 0, 0, [([16], [(1, [0]), (1, [2])]), ([], [(1, [0]), (1, [1])])], [], []),
  (0, 30, 0, 0, 0, 0, [([16], [(1, [0]), (1, [2])]), ([], [(1, [0]), (1, [1])])], [], []),
  (0, 30, 0, 0, 0, 0, [([15], [(1, [0]), (1, [2])]), ([], [(1, [0]), (1, [1])])], [], []),
  (0, 30, 0, 0, 0, 0, [([15], [(1, [0]), (1, [2])]), ([], [(1, [0]), (1, [1])])], [], []),
  (0, 30, 0, 0, 0, 0, [([16], [(1, [0]), (1, [2])]), ([], [(1, [0]), (1, [1])])], [], []),
  (0, 30, 0, 0, 0, 0, [([16], [(1, [0]), (1, [2])]), ([], [(1, [0]), (1, [1])])], [], []),
  (0, 30, 0, 0, 0, 0, [([16], [(1, [0]), (1, [2])]), ([], [(1, [0]), (1, [1])])], [], []),
  (0, 30, 0, 0, 0, 0, [([15], [(1, [0]), (1, [2])]), ([], [(1, [0]), (1, [1])])], [], []),
  (0, 30, 0, 0, 0, 0, [([15], [(1, [0]), (1, [2])]), ([], [(1, [0]), (1, [1])])], [], []),
  (0, 30, 0, 0, 0, 0, [([16], [(1, [0]), (1, [2])]), ([], [(1, [0]), (1, [1])])], [], []),
  (0, 30, 0, 0, 0, 0, [([16], [(1, [0]), (1, [2])]), ([], [(1, [0]), (1, [1])])], [], []),
  (0, 30, 0, 0, 0, 0, [([16], [(1, [0]), (1, [2])]), ([], [(1, [0]), (1, [1])])], [], []),
  (0, 30, 0, 0, 0, 0, [([15], [(1, [0]), (1, [2])]), ([], [(1, [0]), (1, [1])])], [], []),
  (0, 30, 0, 0, 0, 0, [([15], [(1, [0]), (1, [2])]), ([], [(1, [0]), (1, [1])])], [], []),
  (0, 30, 0, 0, 0, 0, [([16], [(1, [0]), (1, [2])]), ([], [(1, [0]), (1, [1])])], [], []),
  (0, 30, 0, 0, 0, 0, [([16], [(1, [0]), (1, [2])]), ([], [(1, [0]), (1, [1])])], [], []),
  (0, 30, 0, 0, 0, 0, [([16], [(1, [0]), (1, [2])]), ([], [(1, [0]), (1, [1])])], [], []),
  (0, 30, 0, 0, 0, 0, [([16], [(1, [0]), (1, [2])]), ([], [(1, [0]), (1, [1])])], [], []),
  (0, 30, 0, 0, 0, 0, [([16], [(1, [0]), (1, [2])]), ([], [(1, [0]), (1, [1])])], [], []),
  (0, 30, 0, 0, 0, 0, [([17], [(1, [0]), (1, [2])]), ([], [(1, [0]), (1, [1])])], [], []),
  (0, 30, 0, 0, 0, 0, [([17], [(1, [0]), (1, [2])]), ([], [(1, [0]), (1, [1])])], [], []),
  (0, 30, 0, 0, 0, 0, [([17], [(1, [0]), (1, [2])]), ([], [(1, [0]), (1, [1])])], [], []),
  (0, 30, 0, 0, 0, 0, [([18], [(1, [0]), (1, [2])]), ([], [(1, [0]), (1, [1])])], [], []),
  (0, 30, 0, 0, 0, 0, [([18], [(1, [0]), (1, [2])]), ([], [(1, [0]), (1, [1])])], [], []),
  (0, 30, 0, 0, 0, 0, [([18], [(1, [0]), (1, [2])]), ([], [(1, [0]), (1, [1])])], [], []),
  (0, 30, 0, 0, 0, 0, [([16], [(1, [0]), (1, [2])]), ([], [(1, [0]), (1, [1])])], [], []),
  (0, 30, 0, 0, 0, 0, [([16], [(1, [0]), (1, [2])]), ([], [(1, [0]), (1, [1])])], [], []),
  (0, 30, 0, 0, 0, 0, [([17], [(1, [0]), (1, [2])]), ([], [(1, [0]), (1, [1])])], [], []),
  (0, 30, 0, 0, 0, 0, [([17], [(1, [0]), (1, [2])]), ([], [(1, [0]), (1, [1])])], [], []),
  (0, 30, 0, 0, 0, 0, [([17], [(1, [0]), (1, [2])]), ([], [(1, [0]), (1, [1])])], [], []),
  (0, 30, 0, 0, 0, 0, [([18], [(1, [0]), (1, [2])]), ([], [(1, [0]), (1, [1])])], [], []),
  (0, 30, 0, 0, 0, 0, [([18], [(1, [0]), (1, [2])]), ([], [(1, [0]), (1, [1])])], [], []),
  (0, 30, 0, 0, 0, 0, [([18], [(1, [0]), (1, [2])]), ([], [(1, [0]), (1, [1])])], [], []),
  (0, 30, 0, 0, 0, 0, [([16], [(1, [0]), (1, [2])]), ([], [(1, [0]), (1, [1])])], [], []),
  (0, 30, 0, 0, 0, 0, [([16], [(1, [0]), (1, [2])]), ([], [(1, [0]), (1, [1])])], [], []),
  (0, 30, 0, 0, 0, 0, [([17], [(1, [0]), (1, [2])]), ([], [(1, [0]), (1, [1])])], [], []),
  (0, 30, 0, 0, 0, 0, [([17], [(1, [0]), (1, [2])]), ([], [(1, [0]), (1, [1])])], [], []),
  (0, 30, 0, 0, 0, 0, [([17], [(1, [0]), (1, [2])]), ([], [(1, [0]), (1, [1])])], [], []),
  (0, 30, 0, 0, 0, 0, [([18], [(1, [0]), (1, [2])]), ([], [(1, [0]), (1, [1])])], [], []),
  (0, 30, 0, 0, 0, 0, [([18], [(1, [0]), (1, [2])]), ([], [(1, [0]), (1, [1])])], [], []),
  (0, 30, 0, 0, 0, 0, [([18], [(1, [0]), (1, [2])]), ([], [(1, [0]), (1, [1])])], [], []),
  (0, 30, 0, 0, 0, 0, [([16], [(1, [0]), (1, [2])]), ([], [(1, [0]), (1, [1])])], [], []),
  (0, 30, 0, 0, 0, 0, [([16], [(1, [0]), (1, [2])]), ([], [(1, [0]), (1, [1])])], [], []),
  (0, 30, 0, 0, 0, 0, [([17], [(1, [0]), (1, [2])]), ([], [(1, [0]), (1, [1])])], [], []),
  (0, 30, 0, 0, 0, 0, [([17], [(1, [0]), (1, [2])]), ([], [(1, [0]), (1, [1])])], [], []),
  (0, 30, 0, 0, 0, 0, [([17], [(1, [0]), (1, [2])]), ([], [(1, [0]), (1, [1])])], [], []),
  (0, 30, 0, 0, 0, 0, [([18], [(1, [0]), (1, [2])]), ([], [(1, [0]), (1, [1])])], [], []),
  (0, 30, 0, 0, 0, 0, [([18], [(1, [0]), (1, [2])]), ([], [(1, [0]), (1, [1])])], [], []),
  (0, 30, 0, 0, 0, 0, [([18], [(1, [0]), (1, [2])]), ([], [(1, [0]), (1, [1])])], [], []),
  (0, 30, 0, 0, 0, 0, [([16], [(1, [0]), (1, [2])]), ([], [(1, [0]), (1, [1])])], [], []),
  (0, 30, 0, 0, 0, 0, [([16], [(1, [0]), (1, [2])]), ([], [(1, [0]), (1, [1])])], [], []),
  (0, 30, 0, 0, 0, 0, [([17], [(1, [0]), (1, [2])]), ([], [(1, [0]), (1, [1])])], [], []),
  (0, 30, 0, 0, 0, 0, [([17], [(1, [0]), (1, [2])]), ([], [(1, [0]), (1, [1])])], [], []),
  (0, 30, 0, 0, 0, 0, [([17], [(1, [0]), (1, [2])]), ([], [(1, [0]), (1, [1])])], [], []),
  (0, 30, 0, 0, 0, 0, [([18], [(1, [0]), (1, [2])]), ([], [(1, [0]), (1, [1])])], [], []),
  (0, 30, 0, 0, 0, 0, [([18], [(1, [0]), (1, [2])]), ([], [(1, [0]), (1, [1])])], [], []),
  (0, 30, 0, 0, 0, 0, [([18], [(1, [0]), (1, [2])]), ([], [(1, [0]), (1, [1])])], [], []),
  (0, 30, 0, 0, 0, 0, [([16], [(1, [0]), (1, [2])]), ([], [(1, [0]), (1, [1])])], [], []),
  (0, 30, 0, 0, 0, 0, [([16], [(1, [0]), (1, [2])]), ([], [(1, [0]), (1, [1])])], [], []),
  (0, 30, 0, 0, 0, 0, [([17], [(1, [0]), (1, [2])]), ([], [(1, [0]), (1, [1])])], [], []),
  (0, 30, 0, 0, 0, 0, [([17], [(1, [0]), (1, [2])]), ([], [(1, [0]), (1, [1])])], [], []),
  (0, 30, 0, 0, 0, 0, [([17], [(1, [0]), (1, [2])]), ([], [(1, [0]), (1, [1])])], [], []),
  (0, 30, 0, 0, 0, 0, [([16], [(1, [0]), (1, [2])]), ([], [(1, [0]), (1, [1])])], [], []),
  (0, 30, 0, 0, 0, 0, [([16], [(1, [0]), (1, [2])]), ([], [(1, [0]), (1, [1])])], [], []),
  (0, 30, 0, 0, 0, 0, [([17], [(1, [0]), (1, [2])]), ([], [(1, [0]), (1, [1])])], [], []),
  (0, 30, 0, 0, 0, 0, [([17], [(1, [0]), (1, [2])]), ([], [(1, [0]), (1, [1])])], [], []),
  (0, 30, 0, 0, 0, 0, [([17], [(1, [0]), (1, [2])]), ([], [(1, [0]), (1, [1])])], [], []),
  (0, 30, 0, 0, 0, 0, [([16], [(1, [0]), (1, [2])]), ([], [(1, [0]), (1, [1])])], [], []),
  (0, 30, 0, 0, 0, 0, [([16], [(1, [0]), (1, [2])]), ([], [(1, [0]), (1, [1])])], [], []),
  (0, 30, 0, 0, 0, 0, [([17], [(1, [0]), (1, [2])]), ([], [(1, [0]), (1, [1])])], [], []),
  (0, 30, 0, 0, 0, 0, [([17], [(1, [0]), (1, [2])]), ([], [(1, [0]), (1, [1])])], [], []),
  (0, 30, 0, 0, 0, 0, [([17], [(1, [0]), (1, [2])]), ([], [(1, [0]), (1, [1])])], [], []),
  (0, 30, 0, 0, 0, 0, [([16], [(1, [0]), (1, [2])]), ([], [(1, [0]), (1, [1])])], [], []),
  (0, 30, 0, 0, 0, 0, [([16], [(1, [0]), (1, [2])]), ([], [(1, [0]), (1, [1])])], [], []),
  (0, 30, 0, 0, 0, 0, [([17], [(1, [0]), (1, [2])]), ([], [(1, [0]), (1, [1])])], [], []),
  (0, 30, 0, 0, 0, 0, [([17], [(1, [0]), (1, [2])]), ([], [(1, [0]), (1, [1])])], [], []),
  (0, 30, 0, 0, 0, 0, [([17], [(1, [0]), (1, [2])]), ([], [(1, [0]), (1, [1])])], [], []),
  (0, 30, 0, 0, 0, 0, [([16], [(1, [0]), (1, [2])]), ([], [(1, [0]), (1, [1])])], [], []),
  (0, 30, 0, 0, 0, 0, [([16], [(1, [0]), (1, [2])]), ([], [(1, [0]), (1, [1])])], [], []),
  (0, 30, 0, 0, 0, 0, [([17], [(1, [0]), (1, [2])]), ([], [(1, [0]), (1, [1])])], [], []),
  (0, 30, 0, 0, 0, 0, [([17], [(1, [0]), (1, [2])]), ([], [(1, [0]), (1, [1])])], [], []),
  (0, 30, 0, 0, 0, 0, [([17], [(1, [0]), (1, [2])]), ([], [(1, [0]), (1, [1])])], [], [])]
set_option maxRecDepth 100000 in
theorem sz_s603_1 : sy_seg sz_E sz_T sz_RU [sz_c339, sz_c586] sz_c603 sz_u603 ri_m_X10_stepAnswer 1901 (some ((33, [(0, (3, .inr 0, .inl 0)), (1, (0, .inl 3, .inl 0)), (2, (0, .inr 0, .inl 0)), (3, (0, .inr 1, .inl 0)), (4, (3, .inr 215, .inl 0)), (5, (0, .inr 2, .inl 0)), (6, (0, .inr 3, .inl 0)), (7, (0, .inr 4, .inl 0)), (8, (0, .inr 5, .inl 0)), (9, (0, .inr 6, .inl 0))], ([(1, 101), ((-2147483648), 2147483647), ((-1), 100), ((-1), 100), (0, 2147483647), (0, 3), ((-9999), 999)], []), [], [], [(101, []), ((-1), [6])]))) sz_h603_1 = true := by decide +kernel
theorem sz_ok603 (xs : Nat → Value) (L : Nat) : sy_Cok (sz_env xs L) sz_T sz_RU sz_c603 := sy_chk_ok (CT := [sz_c339, sz_c586]) (CU := sz_u603) (M := ri_m_X10_stepAnswer) (List.forall_mem_cons.mpr ⟨sz_ok339 xs L, List.forall_mem_cons.mpr ⟨sz_ok586 xs L, fun _ h => absurd h List.not_mem_nil⟩⟩) rfl ⟨_, _, sz_s603_0⟩ (List.forall_mem_cons.mpr ⟨⟨_, _, sz_s603_1⟩, fun _ h => absurd h List.not_mem_nil⟩)

/-! X10_step [0, 0, 1, 2] -/
set_option maxRecDepth 100000 in
noncomputable def sz_c604 : sy_Ct := (130, 7, 153, [(3, .inr 0, .inl 0), (0, .inr 0, .inl 0), (0, .inr 1, .inl 0), (0, .inr 2, .inl 0)], ([((-2147483648), 2147483647), ((-2147483648), 2147483647), ((-2147483648), 2147483647)], []), [], [], [(171, 1, 3), (173, 2, 2), (174, 0, 32), (175, 2, 2), (176, 0, 240), (177, 0, 3), (178, 0, 3), (179, 4, 14), (179, 16, 18), (180, 0, 6), (181, 0, 9), (182, 0, 4), (183, 0, 8), (184, 0, 5), (185, 0, 3), (186, 0, 3), (187, 0, 3), (188, 0, 3), (189, 0, 8), (190, 0, 4), (191, 4, 14), (191, 16, 18), (192, 0, 6), (193, 0, 9), (194, 0, 4), (195, 0, 8), (196, 0, 5), (197, 0, 3), (198, 0, 3), (199, 0, 3), (200, 0, 3), (201, 0, 8), (202, 0, 4), (203, 4, 14), (203, 16, 18), (204, 0, 6), (205, 0, 9), (206, 0, 4), (207, 0, 8), (208, 0, 5), (209, 0, 3), (210, 0, 3), (211, 0, 3), (212, 0, 3), (213, 0, 8), (214, 0, 4), (215, 4, 14), (215, 16, 18), (216, 0, 6), (217, 0, 9), (218, 0, 4), (219, 0, 8), (220, 0, 5), (221, 0, 3), (222, 0, 3), (223, 0, 3), (224, 0, 3), (225, 0, 8), (226, 0, 4)], [(.inl (some (0, .inr 3, .inl 0)), 0, 0, ([((-2147483648), 2147483647), ((-2147483648), 2147483647), ((-2147483648), 2147483647), ((-2147483648), 2147483647)], []), [], []), (.inr 0, 1, 6, ([((-2147483648), 2147483647), ((-2147483648), 2147483647), ((-2147483648), 2147483647)], []), [], []), (.inr 2, 1, 6, ([((-2147483648), 2147483647), ((-2147483648), 2147483647), ((-2147483648), 2147483647)], []), [], []), (.inr 3, 1, 6, ([((-2147483648), 2147483647), ((-2147483648), 2147483647), ((-2147483648), 2147483647)], []), [], []), (.inr 4, 1, 6, ([((-2147483648), 2147483647), ((-2147483648), 2147483647), ((-2147483648), 2147483647)], []), [], [])])
set_option maxRecDepth 100000 in
noncomputable def sz_u604 : List sy_Cut := []
set_option maxRecDepth 100000 in
noncomputable def sz_h604_0 : List sy_Hn := [(0, 31, 2, 0, 0, 0, [], [], []),
  (9, 1, 0, 0, 0, 0, [], [], []),
  (0, 31, 3, 0, 0, 0, [], [], []),
  (0, 31, 1, 0, 0, 0, [], [], []),
  (19, 20, 0, 0, 0, 0, [], [], []),
  (0, 31, 0, 0, 0, 0, [], [], []),
  (0, 31, 4, 0, 0, 0, [], [], []),
  (0, 31, 4, 0, 0, 0, [], [], []),
  (0, 31, 1, 0, 0, 0, [], [], []),
  (0, 31, 1, 0, 0, 0, [], [], []),
  (0, 31, 3, 0, 0, 0, [], [], []),
  (0, 1, 0, 0, 1, 0, [], [], []),
  (0, 31, 3, 0, 0, 0, [], [], []),
  (0, 31, 1, 0, 0, 0, [], [], []),
  (19, 20, 1, 0, 0, 0, [], [], []),
  (0, 31, 0, 0, 0, 0, [], [], []),
  (0, 31, 4, 0, 0, 0, [], [], []),
  (0, 31, 4, 0, 0, 0, [], [], []),
  (0, 31, 1, 0, 0, 0, [], [], []),
  (0, 31, 1, 0, 0, 0, [], [], []),
  (0, 31, 3, 0, 0, 0, [], [], []),
  (0, 1, 0, 0, 2, 0, [], [], []),
  (0, 31, 3, 0, 0, 0, [], [], []),
  (0, 31, 1, 0, 0, 0, [], [], []),
  (19, 20, 2, 0, 0, 0, [], [], []),
  (0, 31, 0, 0, 0, 0, [], [], []),
  (0, 31, 4, 0, 0, 0, [], [], []),
  (0, 31, 4, 0, 0, 0, [], [], []),
  (0, 31, 1, 0, 0, 0, [], [], []),
  (0, 31, 1, 0, 0, 0, [], [], []),
  (0, 31, 3, 0, 0, 0, [], [], []),
  (0, 31, 3, 0, 0, 0, [], [], []),
  (0, 31, 1, 0, 0, 0, [], [], []),
  (19, 20, 3, 0, 0, 0, [], [], []),
  (0, 31, 0, 0, 0, 0, [], [], []),
  (0, 31, 4, 0, 0, 0, [], [], []),
  (0, 31, 4, 0, 0, 0, [], [], []),
  (0, 31, 1, 0, 0, 0, [], [], []),
  (0, 31, 1, 0, 0, 0, [], [], []),
  (0, 31, 3, 0, 0, 0, [], [], []),
  (0, 31, 2, 0, 0, 0, [], [], [])]
set_option maxRecDepth 100000 in
theorem sz_s604_0 : sy_seg sz_E sz_T sz_RU [sz_c600, sz_c601, sz_c602, sz_c603] sz_c604 sz_u604 ri_m_X10_step 233 none sz_h604_0 = true := by decide +kernel
theorem sz_ok604 (xs : Nat → Value) (L : Nat) : sy_Cok (sz_env xs L) sz_T sz_RU sz_c604 := sy_chk_ok (CT := [sz_c600, sz_c601, sz_c602, sz_c603]) (CU := sz_u604) (M := ri_m_X10_step) (List.forall_mem_cons.mpr ⟨sz_ok600 xs L, List.forall_mem_cons.mpr ⟨sz_ok601 xs L, List.forall_mem_cons.mpr ⟨sz_ok602 xs L, List.forall_mem_cons.mpr ⟨sz_ok603 xs L, fun _ h => absurd h List.not_mem_nil⟩⟩⟩⟩) rfl ⟨_, _, sz_s604_0⟩ (fun _ h => absurd h List.not_mem_nil)

/-! X7_copyFrom [4, 173] -/
set_option maxRecDepth 100000 in
noncomputable def sz_c605 : sy_Ct := (202, 1, 18, [(3, .inr 4, .inl 0), (3, .inr 173, .inl 0)], ([], []), [], [], [(4, 2, 2), (5, 0, 32)], [(.inl none, 0, 0, ([], []), [], [])])
set_option maxRecDepth 100000 in
noncomputable def sz_u605 : List sy_Cut := []
set_option maxRecDepth 100000 in
noncomputable def sz_h605_0 : List sy_Hn := [(0, 4, 173, 2, 0, 0, [], [], []),
  (0, 1, 0, 0, 0, 0, [], [], []),
  (0, 31, 0, 0, 0, 0, [], [], []),
  (0, 1, 0, 0, 1, 0, [], [], []),
  (0, 31, 0, 0, 0, 0, [], [], []),
  (0, 1, 0, 0, 2, 0, [], [], []),
  (0, 31, 0, 0, 0, 0, [], [], []),
  (0, 1, 0, 0, 3, 0, [], [], []),
  (0, 31, 0, 0, 0, 0, [], [], []),
  (0, 1, 0, 0, 4, 0, [], [], []),
  (0, 31, 0, 0, 0, 0, [], [], []),
  (0, 1, 0, 0, 5, 0, [], [], []),
  (0, 31, 0, 0, 0, 0, [], [], []),
  (0, 1, 0, 0, 6, 0, [], [], []),
  (0, 31, 0, 0, 0, 0, [], [], []),
  (0, 1, 0, 0, 7, 0, [], [], []),
  (0, 31, 0, 0, 0, 0, [], [], []),
  (0, 31, 0, 0, 0, 0, [], [], [])]
set_option maxRecDepth 100000 in
theorem sz_s605_0 : sy_seg sz_E sz_T sz_RU [] sz_c605 sz_u605 ri_m_X7_copyFrom 168 none sz_h605_0 = true := by decide +kernel
theorem sz_ok605 (xs : Nat → Value) (L : Nat) : sy_Cok (sz_env xs L) sz_T sz_RU sz_c605 := sy_chk_ok (CT := []) (CU := sz_u605) (M := ri_m_X7_copyFrom) (fun _ h => absurd h List.not_mem_nil) rfl ⟨_, _, sz_s605_0⟩ (fun _ h => absurd h List.not_mem_nil)

/-! X7_copyFrom [6, 175] -/
set_option maxRecDepth 100000 in
noncomputable def sz_c606 : sy_Ct := (202, 1, 18, [(3, .inr 6, .inl 0), (3, .inr 175, .inl 0)], ([], []), [], [], [(6, 2, 2), (7, 0, 240)], [(.inl none, 0, 0, ([], []), [], [])])
set_option maxRecDepth 100000 in
noncomputable def sz_u606 : List sy_Cut := []
set_option maxRecDepth 100000 in
noncomputable def sz_h606_0 : List sy_Hn := [(0, 31, 0, 0, 0, 0, [], [], [])]
set_option maxRecDepth 100000 in
theorem sz_s606_0 : sy_seg sz_E sz_T sz_RU [] sz_c606 sz_u606 ri_m_X7_copyFrom 22 none sz_h606_0 = true := by decide +kernel
theorem sz_ok606 (xs : Nat → Value) (L : Nat) : sy_Cok (sz_env xs L) sz_T sz_RU sz_c606 := sy_chk_ok (CT := []) (CU := sz_u606) (M := ri_m_X7_copyFrom) (fun _ h => absurd h List.not_mem_nil) rfl ⟨_, _, sz_s606_0⟩ (fun _ h => absurd h List.not_mem_nil)

/-! X2_copyFrom [10, 179] -/
set_option maxRecDepth 100000 in
noncomputable def sz_c607 : sy_Ct := (201, 2, 39, [(3, .inr 10, .inl 0), (3, .inr 179, .inl 0)], ([(1, 3)], []), [((184, 5), (0, .inr 0, .inl 0))], [489, 490, 491, 492], [(10, 4, 14), (10, 16, 18), (11, 0, 6), (12, 0, 9), (13, 0, 4), (14, 0, 8), (15, 0, 5), (16, 0, 3), (17, 0, 3), (18, 0, 3), (19, 0, 3), (20, 0, 8), (21, 0, 4)], [(.inl none, 0, 0, ([(1, 3), (1, 3)], []), [((15, 5), (0, .inr 1, .inl 0))], [489, 490, 491, 492])])
set_option maxRecDepth 100000 in
noncomputable def sz_u607 : List sy_Cut := []
set_option maxRecDepth 100000 in
noncomputable def sz_h607_0 : List sy_Hn := [(244, 9, 437, 469, 0, 0, [], [], []),
  (0, 9, 438, 470, 0, 0, [], [], []),
  (0, 9, 439, 471, 0, 0, [], [], []),
  (0, 9, 440, 472, 0, 0, [], [], []),
  (0, 9, 441, 473, 0, 0, [], [], []),
  (0, 31, 0, 0, 0, 0, [], [], [])]
set_option maxRecDepth 100000 in
theorem sz_s607_0 : sy_seg sz_E sz_T sz_RU [] sz_c607 sz_u607 ri_m_X2_copyFrom 256 none sz_h607_0 = true := by decide +kernel
theorem sz_ok607 (xs : Nat → Value) (L : Nat) : sy_Cok (sz_env xs L) sz_T sz_RU sz_c607 := sy_chk_ok (CT := []) (CU := sz_u607) (M := ri_m_X2_copyFrom) (fun _ h => absurd h List.not_mem_nil) rfl ⟨_, _, sz_s607_0⟩ (fun _ h => absurd h List.not_mem_nil)

/-! X2_copyFrom [22, 191] -/
set_option maxRecDepth 100000 in
noncomputable def sz_c608 : sy_Ct := (201, 2, 39, [(3, .inr 22, .inl 0), (3, .inr 191, .inl 0)], ([(1, 3)], []), [((196, 5), (0, .inr 0, .inl 0))], [489, 490, 491, 492], [(22, 4, 14), (22, 16, 18), (23, 0, 6), (24, 0, 9), (25, 0, 4), (26, 0, 8), (27, 0, 5), (28, 0, 3), (29, 0, 3), (30, 0, 3), (31, 0, 3), (32, 0, 8), (33, 0, 4)], [(.inl none, 0, 0, ([(1, 3), (1, 3)], []), [((27, 5), (0, .inr 1, .inl 0))], [489, 490, 491, 492])])
set_option maxRecDepth 100000 in
noncomputable def sz_u608 : List sy_Cut := []
set_option maxRecDepth 100000 in
noncomputable def sz_h608_0 : List sy_Hn := [(244, 9, 442, 474, 0, 0, [], [], []),
  (0, 9, 443, 475, 0, 0, [], [], []),
  (0, 9, 444, 476, 0, 0, [], [], []),
  (0, 9, 445, 477, 0, 0, [], [], []),
  (0, 9, 446, 478, 0, 0, [], [], []),
  (0, 31, 0, 0, 0, 0, [], [], [])]
set_option maxRecDepth 100000 in
theorem sz_s608_0 : sy_seg sz_E sz_T sz_RU [] sz_c608 sz_u608 ri_m_X2_copyFrom 256 none sz_h608_0 = true := by decide +kernel
theorem sz_ok608 (xs : Nat → Value) (L : Nat) : sy_Cok (sz_env xs L) sz_T sz_RU sz_c608 := sy_chk_ok (CT := []) (CU := sz_u608) (M := ri_m_X2_copyFrom) (fun _ h => absurd h List.not_mem_nil) rfl ⟨_, _, sz_s608_0⟩ (fun _ h => absurd h List.not_mem_nil)

/-! X2_copyFrom [34, 203] -/
set_option maxRecDepth 100000 in
noncomputable def sz_c609 : sy_Ct := (201, 2, 39, [(3, .inr 34, .inl 0), (3, .inr 203, .inl 0)], ([(1, 3)], []), [((208, 5), (0, .inr 0, .inl 0))], [489, 490, 491, 492], [(34, 4, 14), (34, 16, 18), (35, 0, 6), (36, 0, 9), (37, 0, 4), (38, 0, 8), (39, 0, 5), (40, 0, 3), (41, 0, 3), (42, 0, 3), (43, 0, 3), (44, 0, 8), (45, 0, 4)], [(.inl none, 0, 0, ([(1, 3), (1, 3)], []), [((39, 5), (0, .inr 1, .inl 0))], [489, 490, 491, 492])])
set_option maxRecDepth 100000 in
noncomputable def sz_u609 : List sy_Cut := []
set_option maxRecDepth 100000 in
noncomputable def sz_h609_0 : List sy_Hn := [(244, 9, 447, 479, 0, 0, [], [], []),
  (0, 9, 448, 480, 0, 0, [], [], []),
  (0, 9, 449, 481, 0, 0, [], [], []),
  (0, 9, 450, 482, 0, 0, [], [], []),
  (0, 9, 451, 483, 0, 0, [], [], []),
  (0, 31, 0, 0, 0, 0, [], [], [])]
set_option maxRecDepth 100000 in
theorem sz_s609_0 : sy_seg sz_E sz_T sz_RU [] sz_c609 sz_u609 ri_m_X2_copyFrom 256 none sz_h609_0 = true := by decide +kernel
theorem sz_ok609 (xs : Nat → Value) (L : Nat) : sy_Cok (sz_env xs L) sz_T sz_RU sz_c609 := sy_chk_ok (CT := []) (CU := sz_u609) (M := ri_m_X2_copyFrom) (fun _ h => absurd h List.not_mem_nil) rfl ⟨_, _, sz_s609_0⟩ (fun _ h => absurd h List.not_mem_nil)

/-! X2_copyFrom [46, 215] -/
set_option maxRecDepth 100000 in
noncomputable def sz_c610 : sy_Ct := (201, 2, 39, [(3, .inr 46, .inl 0), (3, .inr 215, .inl 0)], ([(1, 3)], []), [((220, 5), (0, .inr 0, .inl 0))], [489, 490, 491, 492], [(46, 4, 14), (46, 16, 18), (47, 0, 6), (48, 0, 9), (49, 0, 4), (50, 0, 8), (51, 0, 5), (52, 0, 3), (53, 0, 3), (54, 0, 3), (55, 0, 3), (56, 0, 8), (57, 0, 4)], [(.inl none, 0, 0, ([(1, 3), (1, 3)], []), [((51, 5), (0, .inr 1, .inl 0))], [489, 490, 491, 492])])
set_option maxRecDepth 100000 in
noncomputable def sz_u610 : List sy_Cut := []
set_option maxRecDepth 100000 in
noncomputable def sz_h610_0 : List sy_Hn := [(244, 9, 452, 484, 0, 0, [], [], []),
  (0, 9, 453, 485, 0, 0, [], [], []),
  (0, 9, 454, 486, 0, 0, [], [], []),
  (0, 9, 455, 487, 0, 0, [], [], []),
  (0, 9, 456, 488, 0, 0, [], [], []),
  (0, 31, 0, 0, 0, 0, [], [], [])]
set_option maxRecDepth 100000 in
theorem sz_s610_0 : sy_seg sz_E sz_T sz_RU [] sz_c610 sz_u610 ri_m_X2_copyFrom 256 none sz_h610_0 = true := by decide +kernel
theorem sz_ok610 (xs : Nat → Value) (L : Nat) : sy_Cok (sz_env xs L) sz_T sz_RU sz_c610 := sy_chk_ok (CT := []) (CU := sz_u610) (M := ri_m_X2_copyFrom) (fun _ h => absurd h List.not_mem_nil) rfl ⟨_, _, sz_s610_0⟩ (fun _ h => absurd h List.not_mem_nil)

/-! X0_copyFrom [2, 171] -/
set_option maxRecDepth 100000 in
noncomputable def sz_c611 : sy_Ct := (147, 3, 60, [(3, .inr 2, .inl 0), (3, .inr 171, .inl 0)], ([(0, 12)], []), [((171, 2), (0, .inr 0, .inl 0))], [], [(2, 1, 3), (4, 2, 2), (5, 0, 32), (6, 2, 2), (7, 0, 240), (10, 4, 14), (10, 16, 18), (11, 0, 6), (12, 0, 9), (13, 0, 4), (14, 0, 8), (15, 0, 5), (16, 0, 3), (17, 0, 3), (18, 0, 3), (19, 0, 3), (20, 0, 8), (21, 0, 4), (22, 4, 14), (22, 16, 18), (23, 0, 6), (24, 0, 9), (25, 0, 4), (26, 0, 8), (27, 0, 5), (28, 0, 3), (29, 0, 3), (30, 0, 3), (31, 0, 3), (32, 0, 8), (33, 0, 4), (34, 4, 14), (34, 16, 18), (35, 0, 6), (36, 0, 9), (37, 0, 4), (38, 0, 8), (39, 0, 5), (40, 0, 3), (41, 0, 3), (42, 0, 3), (43, 0, 3), (44, 0, 8), (45, 0, 4), (46, 4, 14), (46, 16, 18), (47, 0, 6), (48, 0, 9), (49, 0, 4), (50, 0, 8), (51, 0, 5), (52, 0, 3), (53, 0, 3), (54, 0, 3), (55, 0, 3), (56, 0, 8), (57, 0, 4)], [(.inl none, 0, 0, ([(0, 12), (0, 12)], [[((-1), [1]), (1, [0])], [(1, [1]), ((-1), [0])]]), [((2, 2), (0, .inr 1, .inl 0))], [])])
set_option maxRecDepth 100000 in
noncomputable def sz_u611 : List sy_Cut := []
set_option maxRecDepth 100000 in
noncomputable def sz_h611_0 : List sy_Hn := [(22, 4, 15, 5, 0, 0, [], [], []),
  (0, 6, 489, 0, 0, 0, [([1], [(1, [0]), (1, [2])])], [], [0]),
  (0, 4, 27, 5, 0, 0, [], [], []),
  (0, 6, 490, 0, 0, 0, [([1], [(1, [0]), (1, [2])])], [], [0]),
  (0, 4, 39, 5, 0, 0, [], [], []),
  (0, 6, 491, 0, 0, 0, [([1], [(1, [0]), (1, [2])])], [], [0]),
  (0, 4, 51, 5, 0, 0, [], [], []),
  (0, 6, 492, 0, 0, 0, [([1], [(1, [0]), (1, [2])])], [], [0]),
  (1, 20, 0, 0, 0, 0, [], [], []),
  (5, 20, 1, 0, 0, 0, [], [], []),
  (0, 31, 0, 0, 0, 0, [([], [(1, [0])]), ([], [(1, [0])])], [], []),
  (8, 4, 184, 5, 0, 0, [], [], []),
  (0, 5, 457, 0, 0, 0, [], [], []),
  (0, 7, 0, 0, 0, 0, [([1], [(1, [2]), (1, [0])])], [], []),
  (0, 3, 3, 0, 1, 3, [([], [(1, [0]), (1, [1])]), ([3], [(1, [0]), (1, [2])])], [], []),
  (1, 20, 2, 0, 0, 0, [], [], []),
  (10, 6, 489, 0, 0, 0, [([4], [(1, [0]), (1, [1])])], [], [1]),
  (0, 4, 27, 5, 0, 0, [], [], []),
  (0, 6, 490, 0, 0, 0, [([1], [(1, [0]), (1, [2])])], [], [0]),
  (0, 4, 39, 5, 0, 0, [], [], []),
  (0, 6, 491, 0, 0, 0, [([1], [(1, [0]), (1, [2])])], [], [0]),
  (0, 4, 51, 5, 0, 0, [], [], []),
  (0, 6, 492, 0, 0, 0, [([1], [(1, [0]), (1, [2])])], [], [0]),
  (1, 20, 0, 0, 0, 0, [], [], []),
  (5, 20, 1, 0, 0, 0, [], [], []),
  (0, 31, 0, 0, 0, 0, [([], [(1, [0])]), ([], [(1, [0])])], [], []),
  (8, 4, 196, 5, 0, 0, [], [], []),
  (0, 5, 458, 0, 0, 0, [], [], []),
  (0, 7, 0, 0, 0, 0, [([1], [(1, [2]), (1, [0])])], [], []),
  (0, 3, 5, 0, 1, 3, [([], [(1, [0]), (1, [1])]), ([5], [(1, [0]), (1, [2])])], [], []),
  (1, 20, 3, 0, 0, 0, [], [], []),
  (10, 6, 489, 0, 0, 0, [([4], [(1, [0]), (1, [1])])], [], [1]),
  (0, 6, 490, 0, 0, 0, [([6], [(1, [0]), (1, [1])])], [], [1]),
  (0, 4, 39, 5, 0, 0, [], [], []),
  (0, 6, 491, 0, 0, 0, [([1], [(1, [0]), (1, [2])])], [], [0]),
  (0, 4, 51, 5, 0, 0, [], [], []),
  (0, 6, 492, 0, 0, 0, [([1], [(1, [0]), (1, [2])])], [], [0]),
  (1, 20, 0, 0, 0, 0, [], [], []),
  (5, 20, 1, 0, 0, 0, [], [], []),
  (0, 31, 0, 0, 0, 0, [([], [(1, [0])]), ([], [(1, [0])])], [], []),
  (8, 4, 208, 5, 0, 0, [], [], []),
  (0, 5, 459, 0, 0, 0, [], [], []),
  (0, 7, 0, 0, 0, 0, [([1], [(1, [2]), (1, [0])])], [], []),
  (0, 3, 7, 0, 1, 3, [([], [(1, [0]), (1, [1])]), ([7], [(1, [0]), (1, [2])])], [], []),
  (1, 20, 4, 0, 0, 0, [], [], []),
  (10, 6, 489, 0, 0, 0, [([4], [(1, [0]), (1, [1])])], [], [1]),
  (0, 6, 490, 0, 0, 0, [([6], [(1, [0]), (1, [1])])], [], [1]),
  (0, 6, 491, 0, 0, 0, [([8], [(1, [0]), (1, [1])])], [], [1]),
  (0, 4, 51, 5, 0, 0, [], [], []),
  (0, 6, 492, 0, 0, 0, [([1], [(1, [0]), (1, [2])])], [], [0]),
  (1, 20, 0, 0, 0, 0, [], [], []),
  (5, 20, 1, 0, 0, 0, [], [], []),
  (0, 31, 0, 0, 0, 0, [([], [(1, [0])]), ([], [(1, [0])])], [], []),
  (8, 4, 220, 5, 0, 0, [], [], []),
  (0, 5, 460, 0, 0, 0, [], [], []),
  (0, 7, 0, 0, 0, 0, [([1], [(1, [2]), (1, [0])])], [], []),
  (0, 3, 9, 0, 1, 3, [([], [(1, [0]), (1, [1])]), ([9], [(1, [0]), (1, [2])])], [], []),
  (1, 20, 5, 0, 0, 0, [], [], []),
  (10, 6, 489, 0, 0, 0, [([4], [(1, [0]), (1, [1])])], [], [1]),
  (0, 6, 490, 0, 0, 0, [([6], [(1, [0]), (1, [1])])], [], [1]),
  (0, 6, 491, 0, 0, 0, [([8], [(1, [0]), (1, [1])])], [], [1]),
  (0, 6, 492, 0, 0, 0, [([10], [(1, [0]), (1, [1])])], [], [1]),
  (1, 20, 0, 0, 0, 0, [], [], []),
  (5, 20, 1, 0, 0, 0, [], [], []),
  (0, 31, 0, 0, 0, 0, [([], [(1, [0])]), ([], [(1, [0])])], [], [])]
set_option maxRecDepth 100000 in
theorem sz_s611_0 : sy_seg sz_E sz_T sz_RU [sz_c605, sz_c606, sz_c607, sz_c608, sz_c609, sz_c610] sz_c611 sz_u611 ri_m_X0_copyFrom 211 none sz_h611_0 = true := by decide +kernel
theorem sz_ok611 (xs : Nat → Value) (L : Nat) : sy_Cok (sz_env xs L) sz_T sz_RU sz_c611 := sy_chk_ok (CT := [sz_c605, sz_c606, sz_c607, sz_c608, sz_c609, sz_c610]) (CU := sz_u611) (M := ri_m_X0_copyFrom) (List.forall_mem_cons.mpr ⟨sz_ok605 xs L, List.forall_mem_cons.mpr ⟨sz_ok606 xs L, List.forall_mem_cons.mpr ⟨sz_ok607 xs L, List.forall_mem_cons.mpr ⟨sz_ok608 xs L, List.forall_mem_cons.mpr ⟨sz_ok609 xs L, List.forall_mem_cons.mpr ⟨sz_ok610 xs L, fun _ h => absurd h List.not_mem_nil⟩⟩⟩⟩⟩⟩) rfl ⟨_, _, sz_s611_0⟩ (fun _ h => absurd h List.not_mem_nil)

/-! X10_startAt [0, 0, 0] -/
set_option maxRecDepth 100000 in
noncomputable def sz_c612 : sy_Ct := (120, 4, 82, [(3, .inr 0, .inl 0), (0, .inl 0, .inl 0), (0, .inl 0, .inl 0)], ([], []), [], [], [(2, 1, 3), (4, 2, 2), (5, 0, 32), (6, 2, 2), (7, 0, 240), (10, 4, 14), (10, 16, 18), (11, 0, 6), (12, 0, 9), (13, 0, 4), (14, 0, 8), (15, 0, 5), (16, 0, 3), (17, 0, 3), (18, 0, 3), (19, 0, 3), (20, 0, 8), (21, 0, 4), (22, 4, 14), (22, 16, 18), (23, 0, 6), (24, 0, 9), (25, 0, 4), (26, 0, 8), (27, 0, 5), (28, 0, 3), (29, 0, 3), (30, 0, 3), (31, 0, 3), (32, 0, 8), (33, 0, 4), (34, 4, 14), (34, 16, 18), (35, 0, 6), (36, 0, 9), (37, 0, 4), (38, 0, 8), (39, 0, 5), (40, 0, 3), (41, 0, 3), (42, 0, 3), (43, 0, 3), (44, 0, 8), (45, 0, 4), (46, 4, 14), (46, 16, 18), (47, 0, 6), (48, 0, 9), (49, 0, 4), (50, 0, 8), (51, 0, 5), (52, 0, 3), (53, 0, 3), (54, 0, 3), (55, 0, 3), (56, 0, 8), (57, 0, 4), (171, 1, 3), (173, 2, 2), (174, 0, 32), (175, 2, 2), (176, 0, 240), (179, 4, 14), (179, 16, 18), (180, 0, 6), (181, 0, 9), (182, 0, 4), (183, 0, 8), (184, 0, 5), (185, 0, 3), (186, 0, 3), (187, 0, 3), (188, 0, 3), (189, 0, 8), (190, 0, 4), (191, 4, 14), (191, 16, 18), (192, 0, 6), (193, 0, 9), (194, 0, 4), (195, 0, 8), (196, 0, 5), (197, 0, 3), (198, 0, 3), (199, 0, 3), (200, 0, 3), (201, 0, 8), (202, 0, 4), (203, 4, 14), (203, 16, 18), (204, 0, 6), (205, 0, 9), (206, 0, 4), (207, 0, 8), (208, 0, 5), (209, 0, 3), (210, 0, 3), (211, 0, 3), (212, 0, 3), (213, 0, 8), (214, 0, 4), (215, 4, 14), (215, 16, 18), (216, 0, 6), (217, 0, 9), (218, 0, 4), (219, 0, 8), (220, 0, 5), (221, 0, 3), (222, 0, 3), (223, 0, 3), (224, 0, 3), (225, 0, 8), (226, 0, 4)], [(.inl none, 0, 0, ([], []), [], [])])
set_option maxRecDepth 100000 in
noncomputable def sz_u612 : List sy_Cut := []
set_option maxRecDepth 100000 in
noncomputable def sz_h612_0 : List sy_Hn := [(4, 4, 59, 2, 0, 0, [], [], []),
  (1, 20, 0, 0, 0, 0, [], [], []),
  (35, 20, 1, 0, 0, 0, [], [], []),
  (0, 31, 0, 0, 0, 0, [], [], []),
  (11, 20, 1, 0, 0, 0, [], [], []),
  (0, 31, 0, 0, 0, 0, [], [], []),
  (11, 20, 1, 0, 0, 0, [], [], []),
  (0, 31, 0, 0, 0, 0, [], [], [])]
set_option maxRecDepth 100000 in
theorem sz_s612_0 : sy_seg sz_E sz_T sz_RU [sz_c586, sz_c611] sz_c612 sz_u612 ri_m_X10_startAt 78 none sz_h612_0 = true := by decide +kernel
theorem sz_ok612 (xs : Nat → Value) (L : Nat) : sy_Cok (sz_env xs L) sz_T sz_RU sz_c612 := sy_chk_ok (CT := [sz_c586, sz_c611]) (CU := sz_u612) (M := ri_m_X10_startAt) (List.forall_mem_cons.mpr ⟨sz_ok586 xs L, List.forall_mem_cons.mpr ⟨sz_ok611 xs L, fun _ h => absurd h List.not_mem_nil⟩⟩) rfl ⟨_, _, sz_s612_0⟩ (fun _ h => absurd h List.not_mem_nil)

/-! X2_told [179, 0] -/
set_option maxRecDepth 100000 in
noncomputable def sz_c613 : sy_Ct := (284, 1, 22, [(3, .inr 179, .inl 0), (0, .inr 0, .inl 0)], ([(0, 24)], []), [], [], [], [(.inl (some (1, .inr 1, .inl 0)), 0, 0, ([((-9223372036854775808), 9223372036854775807), (0, 24)], []), [], [])])
set_option maxRecDepth 100000 in
noncomputable def sz_u613 : List sy_Cut := []
set_option maxRecDepth 100000 in
noncomputable def sz_h613_0 : List sy_Hn := [(0, 31, 0, 0, 0, 0, [], [], []),
  (0, 31, 0, 0, 0, 0, [], [], []),
  (0, 31, 0, 0, 0, 0, [], [], []),
  (0, 31, 0, 0, 0, 0, [], [], []),
  (0, 31, 0, 0, 0, 0, [], [], []),
  (0, 31, 0, 0, 0, 0, [], [], []),
  (0, 31, 0, 0, 0, 0, [], [], []),
  (0, 31, 0, 0, 0, 0, [], [], []),
  (0, 31, 0, 0, 0, 0, [], [], []),
  (0, 31, 0, 0, 0, 0, [], [], []),
  (0, 31, 0, 0, 0, 0, [], [], []),
  (0, 31, 0, 0, 0, 0, [], [], []),
  (0, 31, 0, 0, 0, 0, [], [], []),
  (0, 31, 0, 0, 0, 0, [], [], []),
  (0, 31, 0, 0, 0, 0, [], [], []),
  (0, 31, 0, 0, 0, 0, [], [], []),
  (0, 31, 0, 0, 0, 0, [], [], []),
  (0, 31, 0, 0, 0, 0, [], [], []),
  (0, 31, 0, 0, 0, 0, [], [], []),
  (0, 31, 0, 0, 0, 0, [], [], []),
  (0, 31, 0, 0, 0, 0, [], [], []),
  (0, 31, 0, 0, 0, 0, [], [], [])]
set_option maxRecDepth 100000 in
theorem sz_s613_0 : sy_seg sz_E sz_T sz_RU [] sz_c613 sz_u613 ri_m_X2_told 203 none sz_h613_0 = true := by decide +kernel
theorem sz_ok613 (xs : Nat → Value) (L : Nat) : sy_Cok (sz_env xs L) sz_T sz_RU sz_c613 := sy_chk_ok (CT := []) (CU := sz_u613) (M := ri_m_X2_told) (fun _ h => absurd h List.not_mem_nil) rfl ⟨_, _, sz_s613_0⟩ (fun _ h => absurd h List.not_mem_nil)

/-! X2_told [191, 0] -/
set_option maxRecDepth 100000 in
noncomputable def sz_c614 : sy_Ct := (284, 1, 22, [(3, .inr 191, .inl 0), (0, .inr 0, .inl 0)], ([(0, 24)], []), [], [], [], [(.inl (some (1, .inr 1, .inl 0)), 0, 0, ([((-9223372036854775808), 9223372036854775807), (0, 24)], []), [], [])])
set_option maxRecDepth 100000 in
noncomputable def sz_u614 : List sy_Cut := []
set_option maxRecDepth 100000 in
noncomputable def sz_h614_0 : List sy_Hn := [(0, 31, 0, 0, 0, 0, [], [], []),
  (0, 31, 0, 0, 0, 0, [], [], []),
  (0, 31, 0, 0, 0, 0, [], [], []),
  (0, 31, 0, 0, 0, 0, [], [], []),
  (0, 31, 0, 0, 0, 0, [], [], []),
  (0, 31, 0, 0, 0, 0, [], [], []),
  (0, 31, 0, 0, 0, 0, [], [], []),
  (0, 31, 0, 0, 0, 0, [], [], []),
  (0, 31, 0, 0, 0, 0, [], [], []),
  (0, 31, 0, 0, 0, 0, [], [], []),
  (0, 31, 0, 0, 0, 0, [], [], []),
  (0, 31, 0, 0, 0, 0, [], [], []),
  (0, 31, 0, 0, 0, 0, [], [], []),
  (0, 31, 0, 0, 0, 0, [], [], []),
  (0, 31, 0, 0, 0, 0, [], [], []),
  (0, 31, 0, 0, 0, 0, [], [], []),
  (0, 31, 0, 0, 0, 0, [], [], []),
  (0, 31, 0, 0, 0, 0, [], [], []),
  (0, 31, 0, 0, 0, 0, [], [], []),
  (0, 31, 0, 0, 0, 0, [], [], []),
  (0, 31, 0, 0, 0, 0, [], [], []),
  (0, 31, 0, 0, 0, 0, [], [], [])]
set_option maxRecDepth 100000 in
theorem sz_s614_0 : sy_seg sz_E sz_T sz_RU [] sz_c614 sz_u614 ri_m_X2_told 203 none sz_h614_0 = true := by decide +kernel
theorem sz_ok614 (xs : Nat → Value) (L : Nat) : sy_Cok (sz_env xs L) sz_T sz_RU sz_c614 := sy_chk_ok (CT := []) (CU := sz_u614) (M := ri_m_X2_told) (fun _ h => absurd h List.not_mem_nil) rfl ⟨_, _, sz_s614_0⟩ (fun _ h => absurd h List.not_mem_nil)

/-! X2_told [203, 0] -/
set_option maxRecDepth 100000 in
noncomputable def sz_c615 : sy_Ct := (284, 1, 22, [(3, .inr 203, .inl 0), (0, .inr 0, .inl 0)], ([(0, 24)], []), [], [], [], [(.inl (some (1, .inr 1, .inl 0)), 0, 0, ([((-9223372036854775808), 9223372036854775807), (0, 24)], []), [], [])])
set_option maxRecDepth 100000 in
noncomputable def sz_u615 : List sy_Cut := []
set_option maxRecDepth 100000 in
noncomputable def sz_h615_0 : List sy_Hn := [(0, 31, 0, 0, 0, 0, [], [], []),
  (0, 31, 0, 0, 0, 0, [], [], []),
  (0, 31, 0, 0, 0, 0, [], [], []),
  (0, 31, 0, 0, 0, 0, [], [], []),
  (0, 31, 0, 0, 0, 0, [], [], []),
  (0, 31, 0, 0, 0, 0, [], [], []),
  (0, 31, 0, 0, 0, 0, [], [], []),
  (0, 31, 0, 0, 0, 0, [], [], []),
  (0, 31, 0, 0, 0, 0, [], [], []),
  (0, 31, 0, 0, 0, 0, [], [], []),
  (0, 31, 0, 0, 0, 0, [], [], []),
  (0, 31, 0, 0, 0, 0, [], [], []),
  (0, 31, 0, 0, 0, 0, [], [], []),
  (0, 31, 0, 0, 0, 0, [], [], []),
  (0, 31, 0, 0, 0, 0, [], [], []),
  (0, 31, 0, 0, 0, 0, [], [], []),
  (0, 31, 0, 0, 0, 0, [], [], []),
  (0, 31, 0, 0, 0, 0, [], [], []),
  (0, 31, 0, 0, 0, 0, [], [], []),
  (0, 31, 0, 0, 0, 0, [], [], []),
  (0, 31, 0, 0, 0, 0, [], [], []),
  (0, 31, 0, 0, 0, 0, [], [], [])]
set_option maxRecDepth 100000 in
theorem sz_s615_0 : sy_seg sz_E sz_T sz_RU [] sz_c615 sz_u615 ri_m_X2_told 203 none sz_h615_0 = true := by decide +kernel
theorem sz_ok615 (xs : Nat → Value) (L : Nat) : sy_Cok (sz_env xs L) sz_T sz_RU sz_c615 := sy_chk_ok (CT := []) (CU := sz_u615) (M := ri_m_X2_told) (fun _ h => absurd h List.not_mem_nil) rfl ⟨_, _, sz_s615_0⟩ (fun _ h => absurd h List.not_mem_nil)

/-! X2_told [215, 0] -/
set_option maxRecDepth 100000 in
noncomputable def sz_c616 : sy_Ct := (284, 1, 22, [(3, .inr 215, .inl 0), (0, .inr 0, .inl 0)], ([(0, 24)], []), [], [], [], [(.inl (some (1, .inr 1, .inl 0)), 0, 0, ([((-9223372036854775808), 9223372036854775807), (0, 24)], []), [], [])])
set_option maxRecDepth 100000 in
noncomputable def sz_u616 : List sy_Cut := []
set_option maxRecDepth 100000 in
noncomputable def sz_h616_0 : List sy_Hn := [(0, 31, 0, 0, 0, 0, [], [], []),
  (0, 31, 0, 0, 0, 0, [], [], []),
  (0, 31, 0, 0, 0, 0, [], [], []),
  (0, 31, 0, 0, 0, 0, [], [], []),
  (0, 31, 0, 0, 0, 0, [], [], []),
  (0, 31, 0, 0, 0, 0, [], [], []),
  (0, 31, 0, 0, 0, 0, [], [], []),
  (0, 31, 0, 0, 0, 0, [], [], []),
  (0, 31, 0, 0, 0, 0, [], [], []),
  (0, 31, 0, 0, 0, 0, [], [], []),
  (0, 31, 0, 0, 0, 0, [], [], []),
  (0, 31, 0, 0, 0, 0, [], [], []),
  (0, 31, 0, 0, 0, 0, [], [], []),
  (0, 31, 0, 0, 0, 0, [], [], []),
  (0, 31, 0, 0, 0, 0, [], [], []),
  (0, 31, 0, 0, 0, 0, [], [], []),
  (0, 31, 0, 0, 0, 0, [], [], []),
  (0, 31, 0, 0, 0, 0, [], [], []),
  (0, 31, 0, 0, 0, 0, [], [], []),
  (0, 31, 0, 0, 0, 0, [], [], []),
  (0, 31, 0, 0, 0, 0, [], [], []),
  (0, 31, 0, 0, 0, 0, [], [], [])]
set_option maxRecDepth 100000 in
theorem sz_s616_0 : sy_seg sz_E sz_T sz_RU [] sz_c616 sz_u616 ri_m_X2_told 203 none sz_h616_0 = true := by decide +kernel
theorem sz_ok616 (xs : Nat → Value) (L : Nat) : sy_Cok (sz_env xs L) sz_T sz_RU sz_c616 := sy_chk_ok (CT := []) (CU := sz_u616) (M := ri_m_X2_told) (fun _ h => absurd h List.not_mem_nil) rfl ⟨_, _, sz_s616_0⟩ (fun _ h => absurd h List.not_mem_nil)

/-! X6_keep [241, 171, 0] -/
set_option maxRecDepth 100000 in
noncomputable def sz_c617 : sy_Ct := (240, 2, 43, [(3, .inr 241, .inl 0), (3, .inr 171, .inl 0), (0, .inr 0, .inl 0)], ([(0, 9)], []), [], [], [(243, 0, 999)], [(.inl none, 0, 0, ([(0, 9)], []), [], [])])
set_option maxRecDepth 100000 in
noncomputable def sz_u617 : List sy_Cut := [(2, [(0, (3, .inr 241, .inl 0)), (1, (3, .inr 171, .inl 0)), (2, (0, .inr 0, .inl 0)), (3, (0, .inr 1, .inl 0))], ([(0, 4), (0, 9)], []), [], [], [(4000, []), ((-1000), [1]), (500, [])]), (16, [(0, (3, .inr 241, .inl 0)), (1, (3, .inr 171, .inl 0)), (2, (0, .inr 0, .inl 0)), (3, (0, .inr 1, .inl 0)), (4, (0, .inr 2, .inl 0)), (5, (0, .inr 3, .inl 0))], ([(0, 25), (0, 975), (0, 3), (0, 9)], []), [], [], [(4000, []), ((-1000), [1]), (25, []), ((-1), [3])])]
set_option maxRecDepth 100000 in
noncomputable def sz_h617_0 : List sy_Hn := [(0, 30, 0, 0, 0, 0, [([], [(1, [0])]), ([], [])], [], [])]
set_option maxRecDepth 100000 in
theorem sz_s617_0 : sy_seg sz_E sz_T sz_RU [sz_c613, sz_c614, sz_c615, sz_c616] sz_c617 sz_u617 ri_m_X6_keep 9 none sz_h617_0 = true := by decide +kernel
set_option maxRecDepth 100000 in
noncomputable def sz_h617_1 : List sy_Hn := [(0, 31, 0, 0, 0, 0, [], [], []),
  (0, 30, 0, 0, 0, 0, [([1], [(1, [0]), (1000, [2])]), ([], [(1, [0])])], [], [])]
set_option maxRecDepth 100000 in
theorem sz_s617_1 : sy_seg sz_E sz_T sz_RU [sz_c613, sz_c614, sz_c615, sz_c616] sz_c617 sz_u617 ri_m_X6_keep 23 (some ((2, [(0, (3, .inr 241, .inl 0)), (1, (3, .inr 171, .inl 0)), (2, (0, .inr 0, .inl 0)), (3, (0, .inr 1, .inl 0))], ([(0, 4), (0, 9)], []), [], [], [(4000, []), ((-1000), [1]), (500, [])]))) sz_h617_1 = true := by decide +kernel
set_option maxRecDepth 100000 in
noncomputable def sz_h617_2 : List sy_Hn := [(0, 30, 0, 0, 0, 0, [([4], [(1, [0]), (1000, [2])]), ([3], [(1, [0]), (1000, [3]), (1, [2])])], [], []),
  (8, 1, 1, 0, 0, 0, [], [], []),
  (3, 20, 0, 0, 0, 0, [], [], []),
  (0, 30, 0, 0, 0, 0, [([1, 6], [(1, [0]), (1000, [2]), (1, [4])]), ([], [(1, [0]), (1, [1])])], [], []),
  (0, 1, 1, 0, 1, 0, [], [], []),
  (3, 20, 1, 0, 0, 0, [], [], []),
  (0, 30, 0, 0, 0, 0, [([1, 6], [(1, [0]), (1000, [2]), (1, [4])]), ([], [(1, [0]), (1, [1])])], [], []),
  (0, 1, 1, 0, 2, 0, [], [], []),
  (3, 20, 2, 0, 0, 0, [], [], []),
  (0, 30, 0, 0, 0, 0, [([1, 6], [(1, [0]), (1000, [2]), (1, [4])]), ([], [(1, [0]), (1, [1])])], [], []),
  (3, 20, 3, 0, 0, 0, [], [], []),
  (0, 30, 0, 0, 0, 0, [([1, 6], [(1, [0]), (1000, [2]), (1, [4])]), ([], [(1, [0]), (1, [1])])], [], [])]
set_option maxRecDepth 100000 in
theorem sz_s617_2 : sy_seg sz_E sz_T sz_RU [sz_c613, sz_c614, sz_c615, sz_c616] sz_c617 sz_u617 ri_m_X6_keep 62 (some ((16, [(0, (3, .inr 241, .inl 0)), (1, (3, .inr 171, .inl 0)), (2, (0, .inr 0, .inl 0)), (3, (0, .inr 1, .inl 0)), (4, (0, .inr 2, .inl 0)), (5, (0, .inr 3, .inl 0))], ([(0, 25), (0, 975), (0, 3), (0, 9)], []), [], [], [(4000, []), ((-1000), [1]), (25, []), ((-1), [3])]))) sz_h617_2 = true := by decide +kernel
theorem sz_ok617 (xs : Nat → Value) (L : Nat) : sy_Cok (sz_env xs L) sz_T sz_RU sz_c617 := sy_chk_ok (CT := [sz_c613, sz_c614, sz_c615, sz_c616]) (CU := sz_u617) (M := ri_m_X6_keep) (List.forall_mem_cons.mpr ⟨sz_ok613 xs L, List.forall_mem_cons.mpr ⟨sz_ok614 xs L, List.forall_mem_cons.mpr ⟨sz_ok615 xs L, List.forall_mem_cons.mpr ⟨sz_ok616 xs L, fun _ h => absurd h List.not_mem_nil⟩⟩⟩⟩) rfl ⟨_, _, sz_s617_0⟩ (List.forall_mem_cons.mpr ⟨⟨_, _, sz_s617_1⟩, List.forall_mem_cons.mpr ⟨⟨_, _, sz_s617_2⟩, fun _ h => absurd h List.not_mem_nil⟩⟩)

/-! X6_isKept [241, 171, 0] -/
set_option maxRecDepth 100000 in
noncomputable def sz_c618 : sy_Ct := (241, 2, 43, [(3, .inr 241, .inl 0), (3, .inr 171, .inl 0), (0, .inr 0, .inl 0)], ([(0, 9)], []), [], [], [], [(.inl (some (0, .inr 1, .inl 0)), 0, 0, ([(0, 1), (0, 9)], []), [], [])])
set_option maxRecDepth 100000 in
noncomputable def sz_u618 : List sy_Cut := [(2, [(0, (3, .inr 241, .inl 0)), (1, (3, .inr 171, .inl 0)), (2, (0, .inr 0, .inl 0)), (3, (0, .inr 1, .inl 0))], ([(0, 4), (0, 9)], []), [], [], [(4000, []), ((-1000), [1]), (500, [])]), (16, [(0, (3, .inr 241, .inl 0)), (1, (3, .inr 171, .inl 0)), (2, (0, .inr 0, .inl 0)), (3, (0, .inr 1, .inl 0)), (4, (0, .inr 2, .inl 0)), (5, (0, .inr 3, .inl 0))], ([(0, 25), (0, 975), (0, 3), (0, 9)], []), [], [], [(4000, []), ((-1000), [1]), (25, []), ((-1), [3])])]
set_option maxRecDepth 100000 in
noncomputable def sz_h618_0 : List sy_Hn := [(0, 30, 0, 0, 0, 0, [([], [(1, [0])]), ([], [])], [], [])]
set_option maxRecDepth 100000 in
theorem sz_s618_0 : sy_seg sz_E sz_T sz_RU [sz_c613, sz_c614, sz_c615, sz_c616] sz_c618 sz_u618 ri_m_X6_isKept 9 none sz_h618_0 = true := by decide +kernel
set_option maxRecDepth 100000 in
noncomputable def sz_h618_1 : List sy_Hn := [(0, 31, 0, 0, 0, 0, [], [], []),
  (0, 30, 0, 0, 0, 0, [([1], [(1, [0]), (1000, [2])]), ([], [(1, [0])])], [], [])]
set_option maxRecDepth 100000 in
theorem sz_s618_1 : sy_seg sz_E sz_T sz_RU [sz_c613, sz_c614, sz_c615, sz_c616] sz_c618 sz_u618 ri_m_X6_isKept 24 (some ((2, [(0, (3, .inr 241, .inl 0)), (1, (3, .inr 171, .inl 0)), (2, (0, .inr 0, .inl 0)), (3, (0, .inr 1, .inl 0))], ([(0, 4), (0, 9)], []), [], [], [(4000, []), ((-1000), [1]), (500, [])]))) sz_h618_1 = true := by decide +kernel
set_option maxRecDepth 100000 in
noncomputable def sz_h618_2 : List sy_Hn := [(0, 30, 0, 0, 0, 0, [([4], [(1, [0]), (1000, [2])]), ([3], [(1, [0]), (1000, [3]), (1, [2])])], [], []),
  (9, 1, 1, 0, 0, 0, [], [], []),
  (3, 20, 0, 0, 0, 0, [], [], []),
  (0, 30, 0, 0, 0, 0, [([1, 7], [(1, [0]), (1000, [2]), (1, [4])]), ([], [(1, [0]), (1, [1])])], [], []),
  (0, 31, 0, 0, 0, 0, [], [], []),
  (0, 1, 1, 0, 1, 0, [], [], []),
  (3, 20, 1, 0, 0, 0, [], [], []),
  (0, 30, 0, 0, 0, 0, [([1, 7], [(1, [0]), (1000, [2]), (1, [4])]), ([], [(1, [0]), (1, [1])])], [], []),
  (0, 31, 0, 0, 0, 0, [], [], []),
  (0, 1, 1, 0, 2, 0, [], [], []),
  (3, 20, 2, 0, 0, 0, [], [], []),
  (0, 30, 0, 0, 0, 0, [([1, 7], [(1, [0]), (1000, [2]), (1, [4])]), ([], [(1, [0]), (1, [1])])], [], []),
  (0, 31, 0, 0, 0, 0, [], [], []),
  (3, 20, 3, 0, 0, 0, [], [], []),
  (0, 30, 0, 0, 0, 0, [([1, 7], [(1, [0]), (1000, [2]), (1, [4])]), ([], [(1, [0]), (1, [1])])], [], []),
  (0, 31, 0, 0, 0, 0, [], [], [])]
set_option maxRecDepth 100000 in
theorem sz_s618_2 : sy_seg sz_E sz_T sz_RU [sz_c613, sz_c614, sz_c615, sz_c616] sz_c618 sz_u618 ri_m_X6_isKept 79 (some ((16, [(0, (3, .inr 241, .inl 0)), (1, (3, .inr 171, .inl 0)), (2, (0, .inr 0, .inl 0)), (3, (0, .inr 1, .inl 0)), (4, (0, .inr 2, .inl 0)), (5, (0, .inr 3, .inl 0))], ([(0, 25), (0, 975), (0, 3), (0, 9)], []), [], [], [(4000, []), ((-1000), [1]), (25, []), ((-1), [3])]))) sz_h618_2 = true := by decide +kernel
theorem sz_ok618 (xs : Nat → Value) (L : Nat) : sy_Cok (sz_env xs L) sz_T sz_RU sz_c618 := sy_chk_ok (CT := [sz_c613, sz_c614, sz_c615, sz_c616]) (CU := sz_u618) (M := ri_m_X6_isKept) (List.forall_mem_cons.mpr ⟨sz_ok613 xs L, List.forall_mem_cons.mpr ⟨sz_ok614 xs L, List.forall_mem_cons.mpr ⟨sz_ok615 xs L, List.forall_mem_cons.mpr ⟨sz_ok616 xs L, fun _ h => absurd h List.not_mem_nil⟩⟩⟩⟩) rfl ⟨_, _, sz_s618_0⟩ (List.forall_mem_cons.mpr ⟨⟨_, _, sz_s618_1⟩, List.forall_mem_cons.mpr ⟨⟨_, _, sz_s618_2⟩, fun _ h => absurd h List.not_mem_nil⟩⟩)

/-! X6_lengthOf [241, 171] -/
set_option maxRecDepth 100000 in
noncomputable def sz_c619 : sy_Ct := (182, 5, 122, [(3, .inr 241, .inl 0), (3, .inr 171, .inl 0)], ([], []), [], [], [(171, 3, 3), (175, 2, 2), (176, 0, 240), (177, 0, 3), (178, 0, 3), (179, 5, 13), (179, 16, 18), (180, 5, 6), (181, 0, 9), (182, 3, 3), (189, 3, 8), (190, 0, 4), (191, 5, 13), (191, 16, 18), (192, 5, 6), (193, 0, 9), (194, 3, 3), (201, 3, 8), (202, 0, 4), (203, 5, 13), (203, 16, 18), (204, 5, 6), (205, 0, 9), (206, 3, 3), (213, 3, 8), (214, 0, 4), (215, 5, 13), (215, 16, 18), (216, 5, 6), (217, 0, 9), (218, 3, 3), (225, 3, 8), (226, 0, 4), (243, 0, 999)], [(.inl (some (0, .inr 0, .inl 0)), 0, 0, ([((-1), 400)], []), [], [])])
set_option maxRecDepth 100000 in
noncomputable def sz_u619 : List sy_Cut := [(10, [(0, (3, .inr 241, .inl 0)), (1, (3, .inr 171, .inl 0)), (2, (0, .inr 0, .inl 0)), (3, (0, .inr 1, .inl 0)), (4, (0, .inr 2, .inl 0))], ([(1, 401), (1, 200), (0, 200)], [[(1, [2]), ((-1), [0]), ((-1), [])]]), [], [], [(401, []), ((-1), [2])])]
set_option maxRecDepth 100000 in
noncomputable def sz_h619_0 : List sy_Hn := [(8, 20, 1, 0, 0, 0, [], [], []),
  (0, 30, 0, 0, 0, 0, [([], [(1, [0])]), ([], []), ([], [(1, [0])])], [], [])]
set_option maxRecDepth 100000 in
theorem sz_s619_0 : sy_seg sz_E sz_T sz_RU [sz_c339, sz_c617, sz_c618] sz_c619 sz_u619 ri_m_X6_lengthOf 18 none sz_h619_0 = true := by decide +kernel
set_option maxRecDepth 100000 in
noncomputable def sz_h619_1 : List sy_Hn := [(0, 31, 0, 0, 0, 0, [], [], []),
  (2, 20, 0, 0, 0, 0, [], [], []),
  (5, 20, 2, 0, 0, 0, [], [], []),
  (0, 30, 0, 0, 0, 0, [([5], [(1, [0]), (1, [2])]), ([], [(1, [0]), (1, [1])]), ([], [(1, [0]), (1, [3]), (1, [1])])], [], []),
  (4, 20, 1, 0, 0, 0, [], [], []),
  (0, 30, 0, 0, 0, 0, [([6], [(1, [0]), (1, [2])]), ([], [(1, [0]), (1, [1])]), ([], [(1, [0]), (1, [1])])], [], []),
  (0, 30, 0, 0, 0, 0, [([6], [(1, [0]), (1, [2])]), ([], [(1, [0]), (1, [1])]), ([], [(1, [0]), (1, [1])])], [], []),
  (3, 3, 5, 0, 1, 400, [([], [(1, [0]), (1, [1]), (1, [3])]), ([5], [(1, [0]), (1, [2])])], [], []),
  (0, 31, 0, 0, 0, 0, [], [], [])]
set_option maxRecDepth 100000 in
theorem sz_s619_1 : sy_seg sz_E sz_T sz_RU [sz_c339, sz_c617, sz_c618] sz_c619 sz_u619 ri_m_X6_lengthOf 64 (some ((10, [(0, (3, .inr 241, .inl 0)), (1, (3, .inr 171, .inl 0)), (2, (0, .inr 0, .inl 0)), (3, (0, .inr 1, .inl 0)), (4, (0, .inr 2, .inl 0))], ([(1, 401), (1, 200), (0, 200)], [[(1, [2]), ((-1), [0]), ((-1), [])]]), [], [], [(401, []), ((-1), [2])]))) sz_h619_1 = true := by decide +kernel
theorem sz_ok619 (xs : Nat → Value) (L : Nat) : sy_Cok (sz_env xs L) sz_T sz_RU sz_c619 := sy_chk_ok (CT := [sz_c339, sz_c617, sz_c618]) (CU := sz_u619) (M := ri_m_X6_lengthOf) (List.forall_mem_cons.mpr ⟨sz_ok339 xs L, List.forall_mem_cons.mpr ⟨sz_ok617 xs L, List.forall_mem_cons.mpr ⟨sz_ok618 xs L, fun _ h => absurd h List.not_mem_nil⟩⟩⟩) rfl ⟨_, _, sz_s619_0⟩ (List.forall_mem_cons.mpr ⟨⟨_, _, sz_s619_1⟩, fun _ h => absurd h List.not_mem_nil⟩)

/-! X7_copyFrom [173, 4] -/
set_option maxRecDepth 100000 in
noncomputable def sz_c620 : sy_Ct := (202, 1, 18, [(3, .inr 173, .inl 0), (3, .inr 4, .inl 0)], ([], []), [], [], [(173, 2, 2), (174, 0, 32)], [(.inl none, 0, 0, ([], []), [], [])])
set_option maxRecDepth 100000 in
noncomputable def sz_u620 : List sy_Cut := []
set_option maxRecDepth 100000 in
noncomputable def sz_h620_0 : List sy_Hn := [(0, 4, 4, 2, 0, 0, [], [], []),
  (0, 1, 0, 0, 0, 0, [], [], []),
  (0, 31, 0, 0, 0, 0, [], [], []),
  (0, 1, 0, 0, 1, 0, [], [], []),
  (0, 31, 0, 0, 0, 0, [], [], []),
  (0, 1, 0, 0, 2, 0, [], [], []),
  (0, 31, 0, 0, 0, 0, [], [], []),
  (0, 1, 0, 0, 3, 0, [], [], []),
  (0, 31, 0, 0, 0, 0, [], [], []),
  (0, 1, 0, 0, 4, 0, [], [], []),
  (0, 31, 0, 0, 0, 0, [], [], []),
  (0, 1, 0, 0, 5, 0, [], [], []),
  (0, 31, 0, 0, 0, 0, [], [], []),
  (0, 1, 0, 0, 6, 0, [], [], []),
  (0, 31, 0, 0, 0, 0, [], [], []),
  (0, 1, 0, 0, 7, 0, [], [], []),
  (0, 31, 0, 0, 0, 0, [], [], []),
  (0, 31, 0, 0, 0, 0, [], [], [])]
set_option maxRecDepth 100000 in
theorem sz_s620_0 : sy_seg sz_E sz_T sz_RU [] sz_c620 sz_u620 ri_m_X7_copyFrom 168 none sz_h620_0 = true := by decide +kernel
theorem sz_ok620 (xs : Nat → Value) (L : Nat) : sy_Cok (sz_env xs L) sz_T sz_RU sz_c620 := sy_chk_ok (CT := []) (CU := sz_u620) (M := ri_m_X7_copyFrom) (fun _ h => absurd h List.not_mem_nil) rfl ⟨_, _, sz_s620_0⟩ (fun _ h => absurd h List.not_mem_nil)

/-! X7_copyFrom [175, 6] -/
set_option maxRecDepth 100000 in
noncomputable def sz_c621 : sy_Ct := (202, 1, 18, [(3, .inr 175, .inl 0), (3, .inr 6, .inl 0)], ([], []), [], [], [(175, 2, 2), (176, 0, 240)], [(.inl none, 0, 0, ([], []), [], [])])
set_option maxRecDepth 100000 in
noncomputable def sz_u621 : List sy_Cut := []
set_option maxRecDepth 100000 in
noncomputable def sz_h621_0 : List sy_Hn := [(0, 31, 0, 0, 0, 0, [], [], [])]
set_option maxRecDepth 100000 in
theorem sz_s621_0 : sy_seg sz_E sz_T sz_RU [] sz_c621 sz_u621 ri_m_X7_copyFrom 22 none sz_h621_0 = true := by decide +kernel
theorem sz_ok621 (xs : Nat → Value) (L : Nat) : sy_Cok (sz_env xs L) sz_T sz_RU sz_c621 := sy_chk_ok (CT := []) (CU := sz_u621) (M := ri_m_X7_copyFrom) (fun _ h => absurd h List.not_mem_nil) rfl ⟨_, _, sz_s621_0⟩ (fun _ h => absurd h List.not_mem_nil)

/-! X2_copyFrom [179, 10] -/
set_option maxRecDepth 100000 in
noncomputable def sz_c622 : sy_Ct := (201, 2, 39, [(3, .inr 179, .inl 0), (3, .inr 10, .inl 0)], ([(1, 3)], []), [((15, 5), (0, .inr 0, .inl 0))], [457, 458, 459, 460], [(179, 4, 14), (179, 16, 18), (180, 0, 6), (181, 0, 9), (182, 0, 4), (183, 0, 8), (184, 0, 5), (185, 0, 3), (186, 0, 3), (187, 0, 3), (188, 0, 3), (189, 0, 8), (190, 0, 4)], [(.inl none, 0, 0, ([(1, 3), (1, 3)], []), [((184, 5), (0, .inr 1, .inl 0))], [457, 458, 459, 460])])
set_option maxRecDepth 100000 in
noncomputable def sz_u622 : List sy_Cut := []
set_option maxRecDepth 100000 in
noncomputable def sz_h622_0 : List sy_Hn := [(244, 9, 469, 437, 0, 0, [], [], []),
  (0, 9, 470, 438, 0, 0, [], [], []),
  (0, 9, 471, 439, 0, 0, [], [], []),
  (0, 9, 472, 440, 0, 0, [], [], []),
  (0, 9, 473, 441, 0, 0, [], [], []),
  (0, 31, 0, 0, 0, 0, [], [], [])]
set_option maxRecDepth 100000 in
theorem sz_s622_0 : sy_seg sz_E sz_T sz_RU [] sz_c622 sz_u622 ri_m_X2_copyFrom 256 none sz_h622_0 = true := by decide +kernel
theorem sz_ok622 (xs : Nat → Value) (L : Nat) : sy_Cok (sz_env xs L) sz_T sz_RU sz_c622 := sy_chk_ok (CT := []) (CU := sz_u622) (M := ri_m_X2_copyFrom) (fun _ h => absurd h List.not_mem_nil) rfl ⟨_, _, sz_s622_0⟩ (fun _ h => absurd h List.not_mem_nil)

/-! X2_copyFrom [191, 22] -/
set_option maxRecDepth 100000 in
noncomputable def sz_c623 : sy_Ct := (201, 2, 39, [(3, .inr 191, .inl 0), (3, .inr 22, .inl 0)], ([(1, 3)], []), [((27, 5), (0, .inr 0, .inl 0))], [457, 458, 459, 460], [(191, 4, 14), (191, 16, 18), (192, 0, 6), (193, 0, 9), (194, 0, 4), (195, 0, 8), (196, 0, 5), (197, 0, 3), (198, 0, 3), (199, 0, 3), (200, 0, 3), (201, 0, 8), (202, 0, 4)], [(.inl none, 0, 0, ([(1, 3), (1, 3)], []), [((196, 5), (0, .inr 1, .inl 0))], [457, 458, 459, 460])])
set_option maxRecDepth 100000 in
noncomputable def sz_u623 : List sy_Cut := []
set_option maxRecDepth 100000 in
noncomputable def sz_h623_0 : List sy_Hn := [(244, 9, 474, 442, 0, 0, [], [], []),
  (0, 9, 475, 443, 0, 0, [], [], []),
  (0, 9, 476, 444, 0, 0, [], [], []),
  (0, 9, 477, 445, 0, 0, [], [], []),
  (0, 9, 478, 446, 0, 0, [], [], []),
  (0, 31, 0, 0, 0, 0, [], [], [])]
set_option maxRecDepth 100000 in
theorem sz_s623_0 : sy_seg sz_E sz_T sz_RU [] sz_c623 sz_u623 ri_m_X2_copyFrom 256 none sz_h623_0 = true := by decide +kernel
theorem sz_ok623 (xs : Nat → Value) (L : Nat) : sy_Cok (sz_env xs L) sz_T sz_RU sz_c623 := sy_chk_ok (CT := []) (CU := sz_u623) (M := ri_m_X2_copyFrom) (fun _ h => absurd h List.not_mem_nil) rfl ⟨_, _, sz_s623_0⟩ (fun _ h => absurd h List.not_mem_nil)

/-! X2_copyFrom [203, 34] -/
set_option maxRecDepth 100000 in
noncomputable def sz_c624 : sy_Ct := (201, 2, 39, [(3, .inr 203, .inl 0), (3, .inr 34, .inl 0)], ([(1, 3)], []), [((39, 5), (0, .inr 0, .inl 0))], [457, 458, 459, 460], [(203, 4, 14), (203, 16, 18), (204, 0, 6), (205, 0, 9), (206, 0, 4), (207, 0, 8), (208, 0, 5), (209, 0, 3), (210, 0, 3), (211, 0, 3), (212, 0, 3), (213, 0, 8), (214, 0, 4)], [(.inl none, 0, 0, ([(1, 3), (1, 3)], []), [((208, 5), (0, .inr 1, .inl 0))], [457, 458, 459, 460])])
set_option maxRecDepth 100000 in
noncomputable def sz_u624 : List sy_Cut := []
set_option maxRecDepth 100000 in
noncomputable def sz_h624_0 : List sy_Hn := [(244, 9, 479, 447, 0, 0, [], [], []),
  (0, 9, 480, 448, 0, 0, [], [], []),
  (0, 9, 481, 449, 0, 0, [], [], []),
  (0, 9, 482, 450, 0, 0, [], [], []),
  (0, 9, 483, 451, 0, 0, [], [], []),
  (0, 31, 0, 0, 0, 0, [], [], [])]
set_option maxRecDepth 100000 in
theorem sz_s624_0 : sy_seg sz_E sz_T sz_RU [] sz_c624 sz_u624 ri_m_X2_copyFrom 256 none sz_h624_0 = true := by decide +kernel
theorem sz_ok624 (xs : Nat → Value) (L : Nat) : sy_Cok (sz_env xs L) sz_T sz_RU sz_c624 := sy_chk_ok (CT := []) (CU := sz_u624) (M := ri_m_X2_copyFrom) (fun _ h => absurd h List.not_mem_nil) rfl ⟨_, _, sz_s624_0⟩ (fun _ h => absurd h List.not_mem_nil)

/-! X2_copyFrom [215, 46] -/
set_option maxRecDepth 100000 in
noncomputable def sz_c625 : sy_Ct := (201, 2, 39, [(3, .inr 215, .inl 0), (3, .inr 46, .inl 0)], ([(1, 3)], []), [((51, 5), (0, .inr 0, .inl 0))], [457, 458, 459, 460], [(215, 4, 14), (215, 16, 18), (216, 0, 6), (217, 0, 9), (218, 0, 4), (219, 0, 8), (220, 0, 5), (221, 0, 3), (222, 0, 3), (223, 0, 3), (224, 0, 3), (225, 0, 8), (226, 0, 4)], [(.inl none, 0, 0, ([(1, 3), (1, 3)], []), [((220, 5), (0, .inr 1, .inl 0))], [457, 458, 459, 460])])
set_option maxRecDepth 100000 in
noncomputable def sz_u625 : List sy_Cut := []
set_option maxRecDepth 100000 in
noncomputable def sz_h625_0 : List sy_Hn := [(244, 9, 484, 452, 0, 0, [], [], []),
  (0, 9, 485, 453, 0, 0, [], [], []),
  (0, 9, 486, 454, 0, 0, [], [], []),
  (0, 9, 487, 455, 0, 0, [], [], []),
  (0, 9, 488, 456, 0, 0, [], [], []),
  (0, 31, 0, 0, 0, 0, [], [], [])]
set_option maxRecDepth 100000 in
theorem sz_s625_0 : sy_seg sz_E sz_T sz_RU [] sz_c625 sz_u625 ri_m_X2_copyFrom 256 none sz_h625_0 = true := by decide +kernel
theorem sz_ok625 (xs : Nat → Value) (L : Nat) : sy_Cok (sz_env xs L) sz_T sz_RU sz_c625 := sy_chk_ok (CT := []) (CU := sz_u625) (M := ri_m_X2_copyFrom) (fun _ h => absurd h List.not_mem_nil) rfl ⟨_, _, sz_s625_0⟩ (fun _ h => absurd h List.not_mem_nil)

/-! X0_copyFrom [171, 2] -/
set_option maxRecDepth 100000 in
noncomputable def sz_c626 : sy_Ct := (147, 3, 60, [(3, .inr 171, .inl 0), (3, .inr 2, .inl 0)], ([(0, 12)], []), [((2, 2), (0, .inr 0, .inl 0))], [], [(171, 1, 3), (173, 2, 2), (174, 0, 32), (175, 2, 2), (176, 0, 240), (179, 4, 14), (179, 16, 18), (180, 0, 6), (181, 0, 9), (182, 0, 4), (183, 0, 8), (184, 0, 5), (185, 0, 3), (186, 0, 3), (187, 0, 3), (188, 0, 3), (189, 0, 8), (190, 0, 4), (191, 4, 14), (191, 16, 18), (192, 0, 6), (193, 0, 9), (194, 0, 4), (195, 0, 8), (196, 0, 5), (197, 0, 3), (198, 0, 3), (199, 0, 3), (200, 0, 3), (201, 0, 8), (202, 0, 4), (203, 4, 14), (203, 16, 18), (204, 0, 6), (205, 0, 9), (206, 0, 4), (207, 0, 8), (208, 0, 5), (209, 0, 3), (210, 0, 3), (211, 0, 3), (212, 0, 3), (213, 0, 8), (214, 0, 4), (215, 4, 14), (215, 16, 18), (216, 0, 6), (217, 0, 9), (218, 0, 4), (219, 0, 8), (220, 0, 5), (221, 0, 3), (222, 0, 3), (223, 0, 3), (224, 0, 3), (225, 0, 8), (226, 0, 4)], [(.inl none, 0, 0, ([(0, 12), (0, 12)], [[((-1), [1]), (1, [0])], [(1, [1]), ((-1), [0])]]), [((171, 2), (0, .inr 1, .inl 0))], [])])
set_option maxRecDepth 100000 in
noncomputable def sz_u626 : List sy_Cut := []
set_option maxRecDepth 100000 in
noncomputable def sz_h626_0 : List sy_Hn := [(22, 4, 184, 5, 0, 0, [], [], []),
  (0, 6, 457, 0, 0, 0, [([1], [(1, [0]), (1, [2])])], [], [0]),
  (0, 4, 196, 5, 0, 0, [], [], []),
  (0, 6, 458, 0, 0, 0, [([1], [(1, [0]), (1, [2])])], [], [0]),
  (0, 4, 208, 5, 0, 0, [], [], []),
  (0, 6, 459, 0, 0, 0, [([1], [(1, [0]), (1, [2])])], [], [0]),
  (0, 4, 220, 5, 0, 0, [], [], []),
  (0, 6, 460, 0, 0, 0, [([1], [(1, [0]), (1, [2])])], [], [0]),
  (1, 20, 0, 0, 0, 0, [], [], []),
  (5, 20, 1, 0, 0, 0, [], [], []),
  (0, 31, 0, 0, 0, 0, [([], [(1, [0])]), ([], [(1, [0])])], [], []),
  (8, 4, 15, 5, 0, 0, [], [], []),
  (0, 5, 489, 0, 0, 0, [], [], []),
  (0, 7, 0, 0, 0, 0, [([1], [(1, [2]), (1, [0])])], [], []),
  (0, 3, 3, 0, 1, 3, [([], [(1, [0]), (1, [1])]), ([3], [(1, [0]), (1, [2])])], [], []),
  (1, 20, 2, 0, 0, 0, [], [], []),
  (10, 6, 457, 0, 0, 0, [([4], [(1, [0]), (1, [1])])], [], [1]),
  (0, 4, 196, 5, 0, 0, [], [], []),
  (0, 6, 458, 0, 0, 0, [([1], [(1, [0]), (1, [2])])], [], [0]),
  (0, 4, 208, 5, 0, 0, [], [], []),
  (0, 6, 459, 0, 0, 0, [([1], [(1, [0]), (1, [2])])], [], [0]),
  (0, 4, 220, 5, 0, 0, [], [], []),
  (0, 6, 460, 0, 0, 0, [([1], [(1, [0]), (1, [2])])], [], [0]),
  (1, 20, 0, 0, 0, 0, [], [], []),
  (5, 20, 1, 0, 0, 0, [], [], []),
  (0, 31, 0, 0, 0, 0, [([], [(1, [0])]), ([], [(1, [0])])], [], []),
  (8, 4, 27, 5, 0, 0, [], [], []),
  (0, 5, 490, 0, 0, 0, [], [], []),
  (0, 7, 0, 0, 0, 0, [([1], [(1, [2]), (1, [0])])], [], []),
  (0, 3, 5, 0, 1, 3, [([], [(1, [0]), (1, [1])]), ([5], [(1, [0]), (1, [2])])], [], []),
  (1, 20, 3, 0, 0, 0, [], [], []),
  (10, 6, 457, 0, 0, 0, [([4], [(1, [0]), (1, [1])])], [], [1]),
  (0, 6, 458, 0, 0, 0, [([6], [(1, [0]), (1, [1])])], [], [1]),
  (0, 4, 208, 5, 0, 0, [], [], []),
  (0, 6, 459, 0, 0, 0, [([1], [(1, [0]), (1, [2])])], [], [0]),
  (0, 4, 220, 5, 0, 0, [], [], []),
  (0, 6, 460, 0, 0, 0, [([1], [(1, [0]), (1, [2])])], [], [0]),
  (1, 20, 0, 0, 0, 0, [], [], []),
  (5, 20, 1, 0, 0, 0, [], [], []),
  (0, 31, 0, 0, 0, 0, [([], [(1, [0])]), ([], [(1, [0])])], [], []),
  (8, 4, 39, 5, 0, 0, [], [], []),
  (0, 5, 491, 0, 0, 0, [], [], []),
  (0, 7, 0, 0, 0, 0, [([1], [(1, [2]), (1, [0])])], [], []),
  (0, 3, 7, 0, 1, 3, [([], [(1, [0]), (1, [1])]), ([7], [(1, [0]), (1, [2])])], [], []),
  (1, 20, 4, 0, 0, 0, [], [], []),
  (10, 6, 457, 0, 0, 0, [([4], [(1, [0]), (1, [1])])], [], [1]),
  (0, 6, 458, 0, 0, 0, [([6], [(1, [0]), (1, [1])])], [], [1]),
  (0, 6, 459, 0, 0, 0, [([8], [(1, [0]), (1, [1])])], [], [1]),
  (0, 4, 220, 5, 0, 0, [], [], []),
  (0, 6, 460, 0, 0, 0, [([1], [(1, [0]), (1, [2])])], [], [0]),
  (1, 20, 0, 0, 0, 0, [], [], []),
  (5, 20, 1, 0, 0, 0, [], [], []),
  (0, 31, 0, 0, 0, 0, [([], [(1, [0])]), ([], [(1, [0])])], [], []),
  (8, 4, 51, 5, 0, 0, [], [], []),
  (0, 5, 492, 0, 0, 0, [], [], []),
  (0, 7, 0, 0, 0, 0, [([1], [(1, [2]), (1, [0])])], [], []),
  (0, 3, 9, 0, 1, 3, [([], [(1, [0]), (1, [1])]), ([9], [(1, [0]), (1, [2])])], [], []),
  (1, 20, 5, 0, 0, 0, [], [], []),
  (10, 6, 457, 0, 0, 0, [([4], [(1, [0]), (1, [1])])], [], [1]),
  (0, 6, 458, 0, 0, 0, [([6], [(1, [0]), (1, [1])])], [], [1]),
  (0, 6, 459, 0, 0, 0, [([8], [(1, [0]), (1, [1])])], [], [1]),
  (0, 6, 460, 0, 0, 0, [([10], [(1, [0]), (1, [1])])], [], [1]),
  (1, 20, 0, 0, 0, 0, [], [], []),
  (5, 20, 1, 0, 0, 0, [], [], []),
  (0, 31, 0, 0, 0, 0, [([], [(1, [0])]), ([], [(1, [0])])], [], [])]
set_option maxRecDepth 100000 in
theorem sz_s626_0 : sy_seg sz_E sz_T sz_RU [sz_c620, sz_c621, sz_c622, sz_c623, sz_c624, sz_c625] sz_c626 sz_u626 ri_m_X0_copyFrom 211 none sz_h626_0 = true := by decide +kernel
theorem sz_ok626 (xs : Nat → Value) (L : Nat) : sy_Cok (sz_env xs L) sz_T sz_RU sz_c626 := sy_chk_ok (CT := [sz_c620, sz_c621, sz_c622, sz_c623, sz_c624, sz_c625]) (CU := sz_u626) (M := ri_m_X0_copyFrom) (List.forall_mem_cons.mpr ⟨sz_ok620 xs L, List.forall_mem_cons.mpr ⟨sz_ok621 xs L, List.forall_mem_cons.mpr ⟨sz_ok622 xs L, List.forall_mem_cons.mpr ⟨sz_ok623 xs L, List.forall_mem_cons.mpr ⟨sz_ok624 xs L, List.forall_mem_cons.mpr ⟨sz_ok625 xs L, fun _ h => absurd h List.not_mem_nil⟩⟩⟩⟩⟩⟩) rfl ⟨_, _, sz_s626_0⟩ (fun _ h => absurd h List.not_mem_nil)

/-! X2_told [10, 0] -/
set_option maxRecDepth 100000 in
noncomputable def sz_c627 : sy_Ct := (284, 1, 22, [(3, .inr 10, .inl 0), (0, .inr 0, .inl 0)], ([(0, 24)], []), [], [], [], [(.inl (some (1, .inr 1, .inl 0)), 0, 0, ([((-9223372036854775808), 9223372036854775807), (0, 24)], []), [], [])])
set_option maxRecDepth 100000 in
noncomputable def sz_u627 : List sy_Cut := []
set_option maxRecDepth 100000 in
noncomputable def sz_h627_0 : List sy_Hn := [(0, 31, 0, 0, 0, 0, [], [], []),
  (0, 31, 0, 0, 0, 0, [], [], []),
  (0, 31, 0, 0, 0, 0, [], [], []),
  (0, 31, 0, 0, 0, 0, [], [], []),
  (0, 31, 0, 0, 0, 0, [], [], []),
  (0, 31, 0, 0, 0, 0, [], [], []),
  (0, 31, 0, 0, 0, 0, [], [], []),
  (0, 31, 0, 0, 0, 0, [], [], []),
  (0, 31, 0, 0, 0, 0, [], [], []),
  (0, 31, 0, 0, 0, 0, [], [], []),
  (0, 31, 0, 0, 0, 0, [], [], []),
  (0, 31, 0, 0, 0, 0, [], [], []),
  (0, 31, 0, 0, 0, 0, [], [], []),
  (0, 31, 0, 0, 0, 0, [], [], []),
  (0, 31, 0, 0, 0, 0, [], [], []),
  (0, 31, 0, 0, 0, 0, [], [], []),
  (0, 31, 0, 0, 0, 0, [], [], []),
  (0, 31, 0, 0, 0, 0, [], [], []),
  (0, 31, 0, 0, 0, 0, [], [], []),
  (0, 31, 0, 0, 0, 0, [], [], []),
  (0, 31, 0, 0, 0, 0, [], [], []),
  (0, 31, 0, 0, 0, 0, [], [], [])]
set_option maxRecDepth 100000 in
theorem sz_s627_0 : sy_seg sz_E sz_T sz_RU [] sz_c627 sz_u627 ri_m_X2_told 203 none sz_h627_0 = true := by decide +kernel
theorem sz_ok627 (xs : Nat → Value) (L : Nat) : sy_Cok (sz_env xs L) sz_T sz_RU sz_c627 := sy_chk_ok (CT := []) (CU := sz_u627) (M := ri_m_X2_told) (fun _ h => absurd h List.not_mem_nil) rfl ⟨_, _, sz_s627_0⟩ (fun _ h => absurd h List.not_mem_nil)

/-! X2_told [22, 0] -/
set_option maxRecDepth 100000 in
noncomputable def sz_c628 : sy_Ct := (284, 1, 22, [(3, .inr 22, .inl 0), (0, .inr 0, .inl 0)], ([(0, 24)], []), [], [], [], [(.inl (some (1, .inr 1, .inl 0)), 0, 0, ([((-9223372036854775808), 9223372036854775807), (0, 24)], []), [], [])])
set_option maxRecDepth 100000 in
noncomputable def sz_u628 : List sy_Cut := []
set_option maxRecDepth 100000 in
noncomputable def sz_h628_0 : List sy_Hn := [(0, 31, 0, 0, 0, 0, [], [], []),
  (0, 31, 0, 0, 0, 0, [], [], []),
  (0, 31, 0, 0, 0, 0, [], [], []),
  (0, 31, 0, 0, 0, 0, [], [], []),
  (0, 31, 0, 0, 0, 0, [], [], []),
  (0, 31, 0, 0, 0, 0, [], [], []),
  (0, 31, 0, 0, 0, 0, [], [], []),
  (0, 31, 0, 0, 0, 0, [], [], []),
  (0, 31, 0, 0, 0, 0, [], [], []),
  (0, 31, 0, 0, 0, 0, [], [], []),
  (0, 31, 0, 0, 0, 0, [], [], []),
  (0, 31, 0, 0, 0, 0, [], [], []),
  (0, 31, 0, 0, 0, 0, [], [], []),
  (0, 31, 0, 0, 0, 0, [], [], []),
  (0, 31, 0, 0, 0, 0, [], [], []),
  (0, 31, 0, 0, 0, 0, [], [], []),
  (0, 31, 0, 0, 0, 0, [], [], []),
  (0, 31, 0, 0, 0, 0, [], [], []),
  (0, 31, 0, 0, 0, 0, [], [], []),
  (0, 31, 0, 0, 0, 0, [], [], []),
  (0, 31, 0, 0, 0, 0, [], [], []),
  (0, 31, 0, 0, 0, 0, [], [], [])]
set_option maxRecDepth 100000 in
theorem sz_s628_0 : sy_seg sz_E sz_T sz_RU [] sz_c628 sz_u628 ri_m_X2_told 203 none sz_h628_0 = true := by decide +kernel
theorem sz_ok628 (xs : Nat → Value) (L : Nat) : sy_Cok (sz_env xs L) sz_T sz_RU sz_c628 := sy_chk_ok (CT := []) (CU := sz_u628) (M := ri_m_X2_told) (fun _ h => absurd h List.not_mem_nil) rfl ⟨_, _, sz_s628_0⟩ (fun _ h => absurd h List.not_mem_nil)

/-! X2_told [34, 0] -/
set_option maxRecDepth 100000 in
noncomputable def sz_c629 : sy_Ct := (284, 1, 22, [(3, .inr 34, .inl 0), (0, .inr 0, .inl 0)], ([(0, 24)], []), [], [], [], [(.inl (some (1, .inr 1, .inl 0)), 0, 0, ([((-9223372036854775808), 9223372036854775807), (0, 24)], []), [], [])])
set_option maxRecDepth 100000 in
noncomputable def sz_u629 : List sy_Cut := []
set_option maxRecDepth 100000 in
noncomputable def sz_h629_0 : List sy_Hn := [(0, 31, 0, 0, 0, 0, [], [], []),
  (0, 31, 0, 0, 0, 0, [], [], []),
  (0, 31, 0, 0, 0, 0, [], [], []),
  (0, 31, 0, 0, 0, 0, [], [], []),
  (0, 31, 0, 0, 0, 0, [], [], []),
  (0, 31, 0, 0, 0, 0, [], [], []),
  (0, 31, 0, 0, 0, 0, [], [], []),
  (0, 31, 0, 0, 0, 0, [], [], []),
  (0, 31, 0, 0, 0, 0, [], [], []),
  (0, 31, 0, 0, 0, 0, [], [], []),
  (0, 31, 0, 0, 0, 0, [], [], []),
  (0, 31, 0, 0, 0, 0, [], [], []),
  (0, 31, 0, 0, 0, 0, [], [], []),
  (0, 31, 0, 0, 0, 0, [], [], []),
  (0, 31, 0, 0, 0, 0, [], [], []),
  (0, 31, 0, 0, 0, 0, [], [], []),
  (0, 31, 0, 0, 0, 0, [], [], []),
  (0, 31, 0, 0, 0, 0, [], [], []),
  (0, 31, 0, 0, 0, 0, [], [], []),
  (0, 31, 0, 0, 0, 0, [], [], []),
  (0, 31, 0, 0, 0, 0, [], [], []),
  (0, 31, 0, 0, 0, 0, [], [], [])]
set_option maxRecDepth 100000 in
theorem sz_s629_0 : sy_seg sz_E sz_T sz_RU [] sz_c629 sz_u629 ri_m_X2_told 203 none sz_h629_0 = true := by decide +kernel
theorem sz_ok629 (xs : Nat → Value) (L : Nat) : sy_Cok (sz_env xs L) sz_T sz_RU sz_c629 := sy_chk_ok (CT := []) (CU := sz_u629) (M := ri_m_X2_told) (fun _ h => absurd h List.not_mem_nil) rfl ⟨_, _, sz_s629_0⟩ (fun _ h => absurd h List.not_mem_nil)

/-! X2_told [46, 0] -/
set_option maxRecDepth 100000 in
noncomputable def sz_c630 : sy_Ct := (284, 1, 22, [(3, .inr 46, .inl 0), (0, .inr 0, .inl 0)], ([(0, 24)], []), [], [], [], [(.inl (some (1, .inr 1, .inl 0)), 0, 0, ([((-9223372036854775808), 9223372036854775807), (0, 24)], []), [], [])])
set_option maxRecDepth 100000 in
noncomputable def sz_u630 : List sy_Cut := []
set_option maxRecDepth 100000 in
noncomputable def sz_h630_0 : List sy_Hn := [(0, 31, 0, 0, 0, 0, [], [], []),
  (0, 31, 0, 0, 0, 0, [], [], []),
  (0, 31, 0, 0, 0, 0, [], [], []),
  (0, 31, 0, 0, 0, 0, [], [], []),
  (0, 31, 0, 0, 0, 0, [], [], []),
  (0, 31, 0, 0, 0, 0, [], [], []),
  (0, 31, 0, 0, 0, 0, [], [], []),
  (0, 31, 0, 0, 0, 0, [], [], []),
  (0, 31, 0, 0, 0, 0, [], [], []),
  (0, 31, 0, 0, 0, 0, [], [], []),
  (0, 31, 0, 0, 0, 0, [], [], []),
  (0, 31, 0, 0, 0, 0, [], [], []),
  (0, 31, 0, 0, 0, 0, [], [], []),
  (0, 31, 0, 0, 0, 0, [], [], []),
  (0, 31, 0, 0, 0, 0, [], [], []),
  (0, 31, 0, 0, 0, 0, [], [], []),
  (0, 31, 0, 0, 0, 0, [], [], []),
  (0, 31, 0, 0, 0, 0, [], [], []),
  (0, 31, 0, 0, 0, 0, [], [], []),
  (0, 31, 0, 0, 0, 0, [], [], []),
  (0, 31, 0, 0, 0, 0, [], [], []),
  (0, 31, 0, 0, 0, 0, [], [], [])]
set_option maxRecDepth 100000 in
theorem sz_s630_0 : sy_seg sz_E sz_T sz_RU [] sz_c630 sz_u630 ri_m_X2_told 203 none sz_h630_0 = true := by decide +kernel
theorem sz_ok630 (xs : Nat → Value) (L : Nat) : sy_Cok (sz_env xs L) sz_T sz_RU sz_c630 := sy_chk_ok (CT := []) (CU := sz_u630) (M := ri_m_X2_told) (fun _ h => absurd h List.not_mem_nil) rfl ⟨_, _, sz_s630_0⟩ (fun _ h => absurd h List.not_mem_nil)

/-! X6_keep [241, 2, 0] -/
set_option maxRecDepth 100000 in
noncomputable def sz_c631 : sy_Ct := (240, 2, 43, [(3, .inr 241, .inl 0), (3, .inr 2, .inl 0), (0, .inr 0, .inl 0)], ([(0, 9)], []), [], [], [(243, 0, 999)], [(.inl none, 0, 0, ([(0, 9)], []), [], [])])
set_option maxRecDepth 100000 in
noncomputable def sz_u631 : List sy_Cut := [(2, [(0, (3, .inr 241, .inl 0)), (1, (3, .inr 2, .inl 0)), (2, (0, .inr 0, .inl 0)), (3, (0, .inr 1, .inl 0))], ([(0, 4), (0, 9)], []), [], [], [(4000, []), ((-1000), [1]), (500, [])]), (16, [(0, (3, .inr 241, .inl 0)), (1, (3, .inr 2, .inl 0)), (2, (0, .inr 0, .inl 0)), (3, (0, .inr 1, .inl 0)), (4, (0, .inr 2, .inl 0)), (5, (0, .inr 3, .inl 0))], ([(0, 25), (0, 975), (0, 3), (0, 9)], []), [], [], [(4000, []), ((-1000), [1]), (25, []), ((-1), [3])])]
set_option maxRecDepth 100000 in
noncomputable def sz_h631_0 : List sy_Hn := [(0, 30, 0, 0, 0, 0, [([], [(1, [0])]), ([], [])], [], [])]
set_option maxRecDepth 100000 in
theorem sz_s631_0 : sy_seg sz_E sz_T sz_RU [sz_c627, sz_c628, sz_c629, sz_c630] sz_c631 sz_u631 ri_m_X6_keep 9 none sz_h631_0 = true := by decide +kernel
set_option maxRecDepth 100000 in
noncomputable def sz_h631_1 : List sy_Hn := [(0, 31, 0, 0, 0, 0, [], [], []),
  (0, 30, 0, 0, 0, 0, [([1], [(1, [0]), (1000, [2])]), ([], [(1, [0])])], [], [])]
set_option maxRecDepth 100000 in
theorem sz_s631_1 : sy_seg sz_E sz_T sz_RU [sz_c627, sz_c628, sz_c629, sz_c630] sz_c631 sz_u631 ri_m_X6_keep 23 (some ((2, [(0, (3, .inr 241, .inl 0)), (1, (3, .inr 2, .inl 0)), (2, (0, .inr 0, .inl 0)), (3, (0, .inr 1, .inl 0))], ([(0, 4), (0, 9)], []), [], [], [(4000, []), ((-1000), [1]), (500, [])]))) sz_h631_1 = true := by decide +kernel
set_option maxRecDepth 100000 in
noncomputable def sz_h631_2 : List sy_Hn := [(0, 30, 0, 0, 0, 0, [([4], [(1, [0]), (1000, [2])]), ([3], [(1, [0]), (1000, [3]), (1, [2])])], [], []),
  (8, 1, 1, 0, 0, 0, [], [], []),
  (3, 20, 0, 0, 0, 0, [], [], []),
  (0, 30, 0, 0, 0, 0, [([1, 6], [(1, [0]), (1000, [2]), (1, [4])]), ([], [(1, [0]), (1, [1])])], [], []),
  (0, 1, 1, 0, 1, 0, [], [], []),
  (3, 20, 1, 0, 0, 0, [], [], []),
  (0, 30, 0, 0, 0, 0, [([1, 6], [(1, [0]), (1000, [2]), (1, [4])]), ([], [(1, [0]), (1, [1])])], [], []),
  (0, 1, 1, 0, 2, 0, [], [], []),
  (3, 20, 2, 0, 0, 0, [], [], []),
  (0, 30, 0, 0, 0, 0, [([1, 6], [(1, [0]), (1000, [2]), (1, [4])]), ([], [(1, [0]), (1, [1])])], [], []),
  (3, 20, 3, 0, 0, 0, [], [], []),
  (0, 30, 0, 0, 0, 0, [([1, 6], [(1, [0]), (1000, [2]), (1, [4])]), ([], [(1, [0]), (1, [1])])], [], [])]
set_option maxRecDepth 100000 in
theorem sz_s631_2 : sy_seg sz_E sz_T sz_RU [sz_c627, sz_c628, sz_c629, sz_c630] sz_c631 sz_u631 ri_m_X6_keep 62 (some ((16, [(0, (3, .inr 241, .inl 0)), (1, (3, .inr 2, .inl 0)), (2, (0, .inr 0, .inl 0)), (3, (0, .inr 1, .inl 0)), (4, (0, .inr 2, .inl 0)), (5, (0, .inr 3, .inl 0))], ([(0, 25), (0, 975), (0, 3), (0, 9)], []), [], [], [(4000, []), ((-1000), [1]), (25, []), ((-1), [3])]))) sz_h631_2 = true := by decide +kernel
theorem sz_ok631 (xs : Nat → Value) (L : Nat) : sy_Cok (sz_env xs L) sz_T sz_RU sz_c631 := sy_chk_ok (CT := [sz_c627, sz_c628, sz_c629, sz_c630]) (CU := sz_u631) (M := ri_m_X6_keep) (List.forall_mem_cons.mpr ⟨sz_ok627 xs L, List.forall_mem_cons.mpr ⟨sz_ok628 xs L, List.forall_mem_cons.mpr ⟨sz_ok629 xs L, List.forall_mem_cons.mpr ⟨sz_ok630 xs L, fun _ h => absurd h List.not_mem_nil⟩⟩⟩⟩) rfl ⟨_, _, sz_s631_0⟩ (List.forall_mem_cons.mpr ⟨⟨_, _, sz_s631_1⟩, List.forall_mem_cons.mpr ⟨⟨_, _, sz_s631_2⟩, fun _ h => absurd h List.not_mem_nil⟩⟩)

/-! X6_beginOf [241, 171, 2] -/
set_option maxRecDepth 100000 in
noncomputable def sz_c632 : sy_Ct := (183, 5, 122, [(3, .inr 241, .inl 0), (3, .inr 171, .inl 0), (3, .inr 2, .inl 0)], ([(0, 400)], []), [((241, 1), (0, .inr 0, .inl 0))], [], [(2, 3, 3), (6, 2, 2), (7, 0, 240), (8, 0, 3), (9, 0, 3), (10, 5, 13), (10, 16, 18), (11, 5, 6), (12, 0, 9), (13, 3, 3), (20, 3, 8), (21, 0, 4), (22, 5, 13), (22, 16, 18), (23, 5, 6), (24, 0, 9), (25, 3, 3), (32, 3, 8), (33, 0, 4), (34, 5, 13), (34, 16, 18), (35, 5, 6), (36, 0, 9), (37, 3, 3), (44, 3, 8), (45, 0, 4), (46, 5, 13), (46, 16, 18), (47, 5, 6), (48, 0, 9), (49, 3, 3), (56, 3, 8), (57, 0, 4), (171, 3, 3), (175, 2, 2), (176, 0, 240), (177, 0, 3), (178, 0, 3), (179, 5, 13), (179, 16, 18), (180, 5, 6), (181, 0, 9), (182, 3, 3), (189, 3, 8), (190, 0, 4), (191, 5, 13), (191, 16, 18), (192, 5, 6), (193, 0, 9), (194, 3, 3), (201, 3, 8), (202, 0, 4), (203, 5, 13), (203, 16, 18), (204, 5, 6), (205, 0, 9), (206, 3, 3), (213, 3, 8), (214, 0, 4), (215, 5, 13), (215, 16, 18), (216, 5, 6), (217, 0, 9), (218, 3, 3), (225, 3, 8), (226, 0, 4), (243, 0, 999)], [(.inl (some (0, .inr 1, .inl 0)), 0, 0, ([((-1), 200), (0, 400)], []), [], [])])
set_option maxRecDepth 100000 in
noncomputable def sz_u632 : List sy_Cut := [(2, [(0, (3, .inr 241, .inl 0)), (1, (3, .inr 171, .inl 0)), (2, (3, .inr 2, .inl 0)), (3, (0, .inr 1, .inl 0))], ([(0, 400), (0, 400), (0, 400)], []), [((241, 1), (0, .inr 2, .inl 0))], [], [(400, []), ((-1), [1]), (1000, [])]), (13, [(0, (3, .inr 241, .inl 0)), (1, (3, .inr 171, .inl 0)), (2, (3, .inr 2, .inl 0)), (3, (0, .inr 1, .inl 0))], ([(0, 400), (0, 201), (0, 400)], []), [((241, 1), (0, .inr 2, .inl 0))], [], [(202, []), ((-1), [1])])]
set_option maxRecDepth 100000 in
noncomputable def sz_h632_0 : List sy_Hn := [(0, 30, 0, 0, 0, 0, [([], [(1, [0])]), ([], [])], [], [])]
set_option maxRecDepth 100000 in
theorem sz_s632_0 : sy_seg sz_E sz_T sz_RU [sz_c339, sz_c487, sz_c618, sz_c631] sz_c632 sz_u632 ri_m_X6_beginOf 9 none sz_h632_0 = true := by decide +kernel
set_option maxRecDepth 100000 in
noncomputable def sz_h632_1 : List sy_Hn := [(0, 30, 0, 0, 0, 0, [([], [(1, [0])]), ([1], [(1, [0]), (1, [2])])], [], []),
  (2, 20, 0, 0, 0, 0, [], [], []),
  (0, 30, 0, 0, 0, 0, [([4], [(1, [0]), (1, [2])]), ([], [(1, [0]), (1, [1])])], [], [])]
set_option maxRecDepth 100000 in
theorem sz_s632_1 : sy_seg sz_E sz_T sz_RU [sz_c339, sz_c487, sz_c618, sz_c631] sz_c632 sz_u632 ri_m_X6_beginOf 21 (some ((2, [(0, (3, .inr 241, .inl 0)), (1, (3, .inr 171, .inl 0)), (2, (3, .inr 2, .inl 0)), (3, (0, .inr 1, .inl 0))], ([(0, 400), (0, 400), (0, 400)], []), [((241, 1), (0, .inr 2, .inl 0))], [], [(400, []), ((-1), [1]), (1000, [])]))) sz_h632_1 = true := by decide +kernel
set_option maxRecDepth 100000 in
noncomputable def sz_h632_2 : List sy_Hn := [(0, 31, 0, 0, 0, 0, [], [], []),
  (0, 3, 1, 0, 0, 200, [([1], [(1, [0]), (1, [1])]), ([2, 3], [(1, [0]), (1, [5]), (1, [1]), (1, [4])])], [], []),
  (4, 20, 3, 0, 0, 0, [], [], []),
  (4, 20, 2, 0, 0, 0, [], [], []),
  (3, 20, 0, 0, 0, 0, [], [], []),
  (3, 20, 1, 0, 0, 0, [], [], []),
  (0, 30, 0, 0, 0, 0, [([7], [(1, [0]), (1, [2])]), ([], [(1, [0]), (1, [1])])], [], []),
  (0, 31, 0, 0, 0, 0, [], [], [])]
set_option maxRecDepth 100000 in
theorem sz_s632_2 : sy_seg sz_E sz_T sz_RU [sz_c339, sz_c487, sz_c618, sz_c631] sz_c632 sz_u632 ri_m_X6_beginOf 41 (some ((13, [(0, (3, .inr 241, .inl 0)), (1, (3, .inr 171, .inl 0)), (2, (3, .inr 2, .inl 0)), (3, (0, .inr 1, .inl 0))], ([(0, 400), (0, 201), (0, 400)], []), [((241, 1), (0, .inr 2, .inl 0))], [], [(202, []), ((-1), [1])]))) sz_h632_2 = true := by decide +kernel
theorem sz_ok632 (xs : Nat → Value) (L : Nat) : sy_Cok (sz_env xs L) sz_T sz_RU sz_c632 := sy_chk_ok (CT := [sz_c339, sz_c487, sz_c618, sz_c631]) (CU := sz_u632) (M := ri_m_X6_beginOf) (List.forall_mem_cons.mpr ⟨sz_ok339 xs L, List.forall_mem_cons.mpr ⟨sz_ok487 xs L, List.forall_mem_cons.mpr ⟨sz_ok618 xs L, List.forall_mem_cons.mpr ⟨sz_ok631 xs L, fun _ h => absurd h List.not_mem_nil⟩⟩⟩⟩) rfl ⟨_, _, sz_s632_0⟩ (List.forall_mem_cons.mpr ⟨⟨_, _, sz_s632_1⟩, List.forall_mem_cons.mpr ⟨⟨_, _, sz_s632_2⟩, fun _ h => absurd h List.not_mem_nil⟩⟩)

/-! X6_find [241, 171, 2] -/
set_option maxRecDepth 100000 in
noncomputable def sz_c633 : sy_Ct := (121, 6, 146, [(3, .inr 241, .inl 0), (3, .inr 171, .inl 0), (3, .inr 2, .inl 0)], ([], []), [], [], [(2, 3, 3), (6, 2, 2), (7, 0, 240), (8, 0, 3), (9, 0, 3), (10, 5, 13), (10, 16, 18), (11, 5, 6), (12, 0, 9), (13, 3, 3), (20, 3, 8), (21, 0, 4), (22, 5, 13), (22, 16, 18), (23, 5, 6), (24, 0, 9), (25, 3, 3), (32, 3, 8), (33, 0, 4), (34, 5, 13), (34, 16, 18), (35, 5, 6), (36, 0, 9), (37, 3, 3), (44, 3, 8), (45, 0, 4), (46, 5, 13), (46, 16, 18), (47, 5, 6), (48, 0, 9), (49, 3, 3), (56, 3, 8), (57, 0, 4), (171, 1, 3), (173, 2, 2), (174, 0, 32), (175, 2, 2), (176, 0, 240), (177, 0, 3), (178, 0, 3), (179, 4, 14), (179, 16, 18), (180, 0, 6), (181, 0, 9), (182, 0, 4), (183, 0, 8), (184, 0, 5), (185, 0, 3), (186, 0, 3), (187, 0, 3), (188, 0, 3), (189, 0, 8), (190, 0, 4), (191, 4, 14), (191, 16, 18), (192, 0, 6), (193, 0, 9), (194, 0, 4), (195, 0, 8), (196, 0, 5), (197, 0, 3), (198, 0, 3), (199, 0, 3), (200, 0, 3), (201, 0, 8), (202, 0, 4), (203, 4, 14), (203, 16, 18), (204, 0, 6), (205, 0, 9), (206, 0, 4), (207, 0, 8), (208, 0, 5), (209, 0, 3), (210, 0, 3), (211, 0, 3), (212, 0, 3), (213, 0, 8), (214, 0, 4), (215, 4, 14), (215, 16, 18), (216, 0, 6), (217, 0, 9), (218, 0, 4), (219, 0, 8), (220, 0, 5), (221, 0, 3), (222, 0, 3), (223, 0, 3), (224, 0, 3), (225, 0, 8), (226, 0, 4), (241, 0, 1), (243, 0, 999)], [(.inl none, 0, 0, ([], []), [], [])])
set_option maxRecDepth 100000 in
noncomputable def sz_u633 : List sy_Cut := []
set_option maxRecDepth 100000 in
noncomputable def sz_h633_0 : List sy_Hn := [(7, 20, 0, 0, 0, 0, [], [], []),
  (7, 4, 2, 2, 0, 0, [], [], []),
  (1, 20, 1, 0, 0, 0, [], [], []),
  (5, 20, 2, 0, 0, 0, [], [], []),
  (0, 31, 0, 0, 0, 0, [], [], []),
  (0, 31, 0, 0, 0, 0, [], [], []),
  (0, 31, 0, 0, 0, 0, [], [], [])]
set_option maxRecDepth 100000 in
theorem sz_s633_0 : sy_seg sz_E sz_T sz_RU [sz_c619, sz_c626, sz_c632] sz_c633 sz_u633 ri_m_X6_find 43 none sz_h633_0 = true := by decide +kernel
theorem sz_ok633 (xs : Nat → Value) (L : Nat) : sy_Cok (sz_env xs L) sz_T sz_RU sz_c633 := sy_chk_ok (CT := [sz_c619, sz_c626, sz_c632]) (CU := sz_u633) (M := ri_m_X6_find) (List.forall_mem_cons.mpr ⟨sz_ok619 xs L, List.forall_mem_cons.mpr ⟨sz_ok626 xs L, List.forall_mem_cons.mpr ⟨sz_ok632 xs L, fun _ h => absurd h List.not_mem_nil⟩⟩⟩) rfl ⟨_, _, sz_s633_0⟩ (fun _ h => absurd h List.not_mem_nil)

/-! X10_round [0, 0] -/
set_option maxRecDepth 100000 in
noncomputable def sz_c634 : sy_Ct := (45, 7, 168, [(3, .inr 0, .inl 0), (0, .inr 0, .inl 0)], ([(0, 1)], []), [], [], [(2, 1, 3), (4, 2, 2), (5, 0, 32), (6, 2, 2), (7, 0, 240), (8, 0, 3), (9, 0, 3), (10, 4, 14), (10, 16, 18), (11, 0, 6), (12, 0, 9), (13, 0, 4), (14, 0, 8), (15, 0, 5), (16, 0, 3), (17, 0, 3), (18, 0, 3), (19, 0, 3), (20, 0, 8), (21, 0, 4), (22, 4, 14), (22, 16, 18), (23, 0, 6), (24, 0, 9), (25, 0, 4), (26, 0, 8), (27, 0, 5), (28, 0, 3), (29, 0, 3), (30, 0, 3), (31, 0, 3), (32, 0, 8), (33, 0, 4), (34, 4, 14), (34, 16, 18), (35, 0, 6), (36, 0, 9), (37, 0, 4), (38, 0, 8), (39, 0, 5), (40, 0, 3), (41, 0, 3), (42, 0, 3), (43, 0, 3), (44, 0, 8), (45, 0, 4), (46, 4, 14), (46, 16, 18), (47, 0, 6), (48, 0, 9), (49, 0, 4), (50, 0, 8), (51, 0, 5), (52, 0, 3), (53, 0, 3), (54, 0, 3), (55, 0, 3), (56, 0, 8), (57, 0, 4), (171, 1, 3), (173, 2, 2), (174, 0, 32), (175, 2, 2), (176, 0, 240), (177, 0, 3), (178, 0, 3), (179, 4, 14), (179, 16, 18), (180, 0, 6), (181, 0, 9), (182, 0, 4), (183, 0, 8), (184, 0, 5), (185, 0, 3), (186, 0, 3), (187, 0, 3), (188, 0, 3), (189, 0, 8), (190, 0, 4), (191, 4, 14), (191, 16, 18), (192, 0, 6), (193, 0, 9), (194, 0, 4), (195, 0, 8), (196, 0, 5), (197, 0, 3), (198, 0, 3), (199, 0, 3), (200, 0, 3), (201, 0, 8), (202, 0, 4), (203, 4, 14), (203, 16, 18), (204, 0, 6), (205, 0, 9), (206, 0, 4), (207, 0, 8), (208, 0, 5), (209, 0, 3), (210, 0, 3), (211, 0, 3), (212, 0, 3), (213, 0, 8), (214, 0, 4), (215, 4, 14), (215, 16, 18), (216, 0, 6), (217, 0, 9), (218, 0, 4), (219, 0, 8), (220, 0, 5), (221, 0, 3), (222, 0, 3), (223, 0, 3), (224, 0, 3), (225, 0, 8), (226, 0, 4), (241, 0, 1), (243, 0, 999)], [(.inl (some (0, .inr 1, .inl 0)), 0, 0, ([((-1), 400), (0, 1)], []), [], [])])
set_option maxRecDepth 100000 in
noncomputable def sz_u634 : List sy_Cut := []
set_option maxRecDepth 100000 in
noncomputable def sz_h634_0 : List sy_Hn := [(4, 20, 0, 0, 0, 0, [], [], []),
  (8, 20, 1, 0, 0, 0, [], [], []),
  (0, 31, 0, 0, 0, 0, [], [], []),
  (0, 31, 0, 0, 0, 0, [], [], [])]
set_option maxRecDepth 100000 in
theorem sz_s634_0 : sy_seg sz_E sz_T sz_RU [sz_c612, sz_c633] sz_c634 sz_u634 ri_m_X10_round 32 none sz_h634_0 = true := by decide +kernel
theorem sz_ok634 (xs : Nat → Value) (L : Nat) : sy_Cok (sz_env xs L) sz_T sz_RU sz_c634 := sy_chk_ok (CT := [sz_c612, sz_c633]) (CU := sz_u634) (M := ri_m_X10_round) (List.forall_mem_cons.mpr ⟨sz_ok612 xs L, List.forall_mem_cons.mpr ⟨sz_ok633 xs L, fun _ h => absurd h List.not_mem_nil⟩⟩) rfl ⟨_, _, sz_s634_0⟩ (fun _ h => absurd h List.not_mem_nil)
