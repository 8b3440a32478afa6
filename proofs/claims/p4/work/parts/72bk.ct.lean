/-! ===== contracts, 36 ===== -/
/-! X10_fault  -/
set_option maxRecDepth 100000 in
noncomputable def sz_cd211 : sy_Ct := (10, 0, 0, [(3, .inr 0, .inl 0)], ([], []), [], [], [], [(.inl (some (0, .inr 0, .inl 0)), 0, 0, ([((-2147483648), 2147483647)], []), [], [])])
set_option maxRecDepth 100000 in
noncomputable def sz_ud211 : List sy_Cut := []
set_option maxRecDepth 100000 in
noncomputable def sz_hd211_0 : List sy_Hn := [(0, 31, 0, 0, 0, 0, [], [], [])]
set_option maxRecDepth 100000 in
theorem sz_sd211_0 : sy_seg sz_E (pv_T (sz_own true) sz_T) sz_RU [] sz_cd211 sz_ud211 ri_m_X10_fault 9 none sz_hd211_0 = true := by decide +kernel
theorem sz_okd211 (xs : Nat → Value) (L : Nat) : sy_Cok (sz_env xs L) (pv_T (sz_own true) sz_T) sz_RU sz_cd211 := sy_chk_ok (CT := []) (CU := sz_ud211) (M := ri_m_X10_fault) (fun _ h => absurd h List.not_mem_nil) rfl rfl ⟨_, _, sz_sd211_0⟩ (fun _ h => absurd h List.not_mem_nil)

/-! X11_fault  -/
set_option maxRecDepth 100000 in
noncomputable def sz_cd212 : sy_Ct := (11, 0, 0, [(3, .inr 244, .inl 0)], ([], []), [], [], [(244, 0, 0)], [(.inl (some (0, .inr 0, .inl 0)), 0, 0, ([((-1), 400)], []), [], [])])
set_option maxRecDepth 100000 in
noncomputable def sz_ud212 : List sy_Cut := []
set_option maxRecDepth 100000 in
noncomputable def sz_hd212_0 : List sy_Hn := [(0, 31, 0, 0, 0, 0, [], [], [])]
set_option maxRecDepth 100000 in
theorem sz_sd212_0 : sy_seg sz_E (pv_T (sz_own false) sz_T) sz_RU [] sz_cd212 sz_ud212 ri_m_X11_fault 12 none sz_hd212_0 = true := by decide +kernel
theorem sz_okd212 (xs : Nat → Value) (L : Nat) : sy_Cok (sz_env xs L) (pv_T (sz_own false) sz_T) sz_RU sz_cd212 := sy_chk_ok (CT := []) (CU := sz_ud212) (M := ri_m_X11_fault) (fun _ h => absurd h List.not_mem_nil) rfl rfl ⟨_, _, sz_sd212_0⟩ (fun _ h => absurd h List.not_mem_nil)

/-! X10_loop  -/
set_option maxRecDepth 100000 in
noncomputable def sz_cd213 : sy_Ct := (84, 7, 102, [(3, .inr 0, .inl 0), (0, .inr 0, .inl 0), (0, .inr 1, .inl 0)], ([((-2147483648), 2147483647), ((-2147483648), 2147483647)], []), [], [], [], [(.inl (some (0, .inr 2, .inl 0)), 0, 0, ([((-2147483648), 2147483647), ((-2147483648), 2147483647), ((-2147483648), 2147483647)], []), [], []), (.inr 2, 1, 6, ([((-2147483648), 2147483647), ((-2147483648), 2147483647)], []), [], []), (.inr 3, 1, 6, ([((-2147483648), 2147483647), ((-2147483648), 2147483647)], []), [], [])])
set_option maxRecDepth 100000 in
noncomputable def sz_ud213 : List sy_Cut := []
set_option maxRecDepth 100000 in
noncomputable def sz_hd213_0 : List sy_Hn := [(0, 31, 1, 0, 0, 0, [], [], []),
  (9, 1, 0, 0, 0, 0, [], [], []),
  (0, 31, 2, 0, 0, 0, [], [], []),
  (0, 31, 2, 0, 0, 0, [], [], []),
  (0, 31, 0, 0, 0, 0, [], [], []),
  (0, 31, 0, 0, 0, 0, [], [], []),
  (0, 31, 0, 0, 0, 0, [], [], []),
  (0, 31, 0, 0, 0, 0, [], [], []),
  (0, 31, 0, 0, 0, 0, [], [], []),
  (0, 31, 0, 0, 0, 0, [], [], []),
  (0, 31, 0, 0, 0, 0, [], [], []),
  (0, 31, 0, 0, 0, 0, [], [], []),
  (0, 31, 0, 0, 0, 0, [], [], []),
  (0, 31, 0, 0, 0, 0, [], [], []),
  (0, 31, 0, 0, 0, 0, [], [], []),
  (0, 31, 0, 0, 0, 0, [], [], []),
  (0, 31, 0, 0, 0, 0, [], [], []),
  (0, 31, 0, 0, 0, 0, [], [], []),
  (0, 31, 0, 0, 0, 0, [], [], []),
  (0, 31, 0, 0, 0, 0, [], [], []),
  (0, 31, 0, 0, 0, 0, [], [], []),
  (0, 31, 0, 0, 0, 0, [], [], []),
  (0, 31, 0, 0, 0, 0, [], [], []),
  (0, 31, 0, 0, 0, 0, [], [], []),
  (0, 31, 0, 0, 0, 0, [], [], []),
  (0, 31, 0, 0, 0, 0, [], [], []),
  (0, 1, 0, 0, 1, 0, [], [], []),
  (0, 31, 2, 0, 0, 0, [], [], []),
  (0, 31, 2, 0, 0, 0, [], [], []),
  (0, 31, 0, 0, 0, 0, [], [], []),
  (0, 31, 0, 0, 0, 0, [], [], []),
  (0, 31, 0, 0, 0, 0, [], [], []),
  (0, 31, 0, 0, 0, 0, [], [], []),
  (0, 31, 0, 0, 0, 0, [], [], []),
  (0, 31, 0, 0, 0, 0, [], [], []),
  (0, 31, 0, 0, 0, 0, [], [], []),
  (0, 31, 0, 0, 0, 0, [], [], []),
  (0, 31, 0, 0, 0, 0, [], [], []),
  (0, 31, 0, 0, 0, 0, [], [], []),
  (0, 31, 0, 0, 0, 0, [], [], []),
  (0, 31, 0, 0, 0, 0, [], [], []),
  (0, 31, 0, 0, 0, 0, [], [], []),
  (0, 31, 0, 0, 0, 0, [], [], []),
  (0, 31, 0, 0, 0, 0, [], [], []),
  (0, 31, 0, 0, 0, 0, [], [], []),
  (0, 31, 0, 0, 0, 0, [], [], []),
  (0, 31, 0, 0, 0, 0, [], [], []),
  (0, 31, 0, 0, 0, 0, [], [], []),
  (0, 31, 0, 0, 0, 0, [], [], []),
  (0, 31, 0, 0, 0, 0, [], [], []),
  (0, 31, 0, 0, 0, 0, [], [], []),
  (0, 1, 0, 0, 2, 0, [], [], []),
  (0, 31, 2, 0, 0, 0, [], [], []),
  (0, 31, 2, 0, 0, 0, [], [], []),
  (0, 31, 0, 0, 0, 0, [], [], []),
  (0, 31, 0, 0, 0, 0, [], [], []),
  (0, 31, 0, 0, 0, 0, [], [], []),
  (0, 31, 0, 0, 0, 0, [], [], []),
  (0, 31, 0, 0, 0, 0, [], [], []),
  (0, 31, 0, 0, 0, 0, [], [], []),
  (0, 31, 0, 0, 0, 0, [], [], []),
  (0, 31, 0, 0, 0, 0, [], [], []),
  (0, 31, 0, 0, 0, 0, [], [], []),
  (0, 31, 0, 0, 0, 0, [], [], []),
  (0, 31, 0, 0, 0, 0, [], [], []),
  (0, 31, 0, 0, 0, 0, [], [], []),
  (0, 31, 0, 0, 0, 0, [], [], []),
  (0, 31, 0, 0, 0, 0, [], [], []),
  (0, 31, 0, 0, 0, 0, [], [], []),
  (0, 31, 0, 0, 0, 0, [], [], []),
  (0, 31, 0, 0, 0, 0, [], [], []),
  (0, 31, 0, 0, 0, 0, [], [], []),
  (0, 31, 0, 0, 0, 0, [], [], []),
  (0, 31, 0, 0, 0, 0, [], [], []),
  (0, 31, 0, 0, 0, 0, [], [], []),
  (0, 31, 0, 0, 0, 0, [], [], []),
  (0, 31, 2, 0, 0, 0, [], [], []),
  (0, 31, 2, 0, 0, 0, [], [], []),
  (0, 31, 0, 0, 0, 0, [], [], []),
  (0, 31, 0, 0, 0, 0, [], [], []),
  (0, 31, 0, 0, 0, 0, [], [], []),
  (0, 31, 0, 0, 0, 0, [], [], []),
  (0, 31, 0, 0, 0, 0, [], [], []),
  (0, 31, 0, 0, 0, 0, [], [], []),
  (0, 31, 0, 0, 0, 0, [], [], []),
  (0, 31, 0, 0, 0, 0, [], [], []),
  (0, 31, 0, 0, 0, 0, [], [], []),
  (0, 31, 0, 0, 0, 0, [], [], []),
  (0, 31, 0, 0, 0, 0, [], [], []),
  (0, 31, 0, 0, 0, 0, [], [], []),
  (0, 31, 0, 0, 0, 0, [], [], []),
  (0, 31, 0, 0, 0, 0, [], [], []),
  (0, 31, 0, 0, 0, 0, [], [], []),
  (0, 31, 0, 0, 0, 0, [], [], []),
  (0, 31, 0, 0, 0, 0, [], [], []),
  (0, 31, 0, 0, 0, 0, [], [], []),
  (0, 31, 0, 0, 0, 0, [], [], []),
  (0, 31, 0, 0, 0, 0, [], [], []),
  (0, 31, 0, 0, 0, 0, [], [], []),
  (0, 31, 0, 0, 0, 0, [], [], []),
  (0, 31, 1, 0, 0, 0, [], [], [])]
set_option maxRecDepth 100000 in
theorem sz_sd213_0 : sy_seg sz_E (pv_T (sz_own true) sz_T) sz_RU [] sz_cd213 sz_ud213 ri_m_X10_loop 489 none sz_hd213_0 = true := by decide +kernel
theorem sz_okd213 (xs : Nat → Value) (L : Nat) : sy_Cok (sz_env xs L) (pv_T (sz_own true) sz_T) sz_RU sz_cd213 := sy_chk_ok (CT := []) (CU := sz_ud213) (M := ri_m_X10_loop) (fun _ h => absurd h List.not_mem_nil) rfl rfl ⟨_, _, sz_sd213_0⟩ (fun _ h => absurd h List.not_mem_nil)

/-! L_loop  -/
set_option maxRecDepth 100000 in
noncomputable def sz_cd214 : sy_Ct := (12, 8, 125, [(3, .inr 0, .inl 0), (0, .inr 0, .inl 0), (0, .inr 1, .inl 0), (3, .inr 265, .inl 0)], ([((-2147483648), 2147483647), ((-2147483648), 2147483647)], []), [], [], [(265, 0, 0)], [(.inl (some (0, .inl 0, .inl 0)), 0, 0, ([((-2147483648), 2147483647), ((-2147483648), 2147483647)], []), [], []), (.inl (some (0, .inr 2, .inl 0)), 1, 6, ([(1, 2), ((-2147483648), 2147483647), ((-2147483648), 2147483647)], []), [], [])])
set_option maxRecDepth 100000 in
noncomputable def sz_ud214 : List sy_Cut := []
set_option maxRecDepth 100000 in
noncomputable def sz_hd214_0 : List sy_Hn := [(6, 20, 0, 0, 0, 0, [], [], []),
  (0, 31, 0, 0, 0, 0, [], [], []),
  (0, 31, 1, 0, 0, 0, [], [], []),
  (0, 31, 1, 0, 0, 0, [], [], [])]
set_option maxRecDepth 100000 in
theorem sz_sd214_0 : sy_seg sz_E (pv_T (sz_own true) sz_T) sz_RU [sz_cd213] sz_cd214 sz_ud214 ri_m_L_loop 24 none sz_hd214_0 = true := by decide +kernel
theorem sz_okd214 (xs : Nat → Value) (L : Nat) : sy_Cok (sz_env xs L) (pv_T (sz_own true) sz_T) sz_RU sz_cd214 := sy_chk_ok (CT := [sz_cd213]) (CU := sz_ud214) (M := ri_m_L_loop) (List.forall_mem_cons.mpr ⟨sz_okd213 xs L, fun _ h => absurd h List.not_mem_nil⟩) rfl rfl ⟨_, _, sz_sd214_0⟩ (fun _ h => absurd h List.not_mem_nil)

/-! X11_loop  -/
set_option maxRecDepth 100000 in
noncomputable def sz_cd215 : sy_Ct := (13, 3, 64, [(3, .inr 244, .inl 0), (0, .inr 0, .inl 0), (0, .inr 1, .inl 0)], ([((-2147483648), 2147483647), ((-2147483648), 2147483647)], []), [], [], [(244, 0, 0)], [(.inl (some (0, .inr 2, .inl 0)), 0, 0, ([((-2147483648), 2147483647), ((-2147483648), 2147483647), ((-2147483648), 2147483647)], []), [], [])])
set_option maxRecDepth 100000 in
noncomputable def sz_ud215 : List sy_Cut := []
set_option maxRecDepth 100000 in
noncomputable def sz_hd215_0 : List sy_Hn := [(0, 31, 0, 0, 0, 0, [], [], []),
  (0, 31, 0, 0, 0, 0, [], [], []),
  (0, 31, 0, 0, 0, 0, [], [], []),
  (0, 31, 0, 0, 0, 0, [], [], []),
  (27, 1, 0, 0, 0, 0, [], [], []),
  (0, 31, 0, 0, 0, 0, [], [], []),
  (0, 1, 0, 0, 1, 0, [], [], []),
  (0, 31, 0, 0, 0, 0, [], [], []),
  (0, 1, 0, 0, 2, 0, [], [], []),
  (0, 31, 0, 0, 0, 0, [], [], []),
  (0, 31, 0, 0, 0, 0, [], [], []),
  (15, 1, 0, 0, 0, 0, [], [], []),
  (0, 31, 0, 0, 0, 0, [], [], []),
  (0, 1, 0, 0, 1, 0, [], [], []),
  (0, 31, 0, 0, 0, 0, [], [], []),
  (0, 1, 0, 0, 2, 0, [], [], []),
  (0, 31, 0, 0, 0, 0, [], [], []),
  (0, 31, 0, 0, 0, 0, [], [], [])]
set_option maxRecDepth 100000 in
theorem sz_sd215_0 : sy_seg sz_E (pv_T (sz_own false) sz_T) sz_RU [] sz_cd215 sz_ud215 ri_m_X11_loop 299 none sz_hd215_0 = true := by decide +kernel
theorem sz_okd215 (xs : Nat → Value) (L : Nat) : sy_Cok (sz_env xs L) (pv_T (sz_own false) sz_T) sz_RU sz_cd215 := sy_chk_ok (CT := []) (CU := sz_ud215) (M := ri_m_X11_loop) (fun _ h => absurd h List.not_mem_nil) rfl rfl ⟨_, _, sz_sd215_0⟩ (fun _ h => absurd h List.not_mem_nil)

/-! X1_room  -/
set_option maxRecDepth 100000 in
noncomputable def sz_cd216 : sy_Ct := (159, 1, 23, [(3, .inr 72, .inl 0)], ([], []), [], [], [], [(.inl (some (1, .inr 0, .inl 0)), 0, 0, ([((-9223372036854775808), 9223372036854775807)], []), [], [])])
set_option maxRecDepth 100000 in
noncomputable def sz_ud216 : List sy_Cut := []
set_option maxRecDepth 100000 in
noncomputable def sz_hd216_0 : List sy_Hn := [(0, 31, 0, 0, 0, 0, [], [], []),
  (0, 31, 0, 0, 0, 0, [], [], []),
  (0, 31, 0, 0, 0, 0, [], [], []),
  (0, 31, 0, 0, 0, 0, [], [], []),
  (0, 31, 0, 0, 0, 0, [], [], []),
  (0, 31, 0, 0, 0, 0, [], [], []),
  (0, 31, 0, 0, 0, 0, [], [], []),
  (0, 31, 0, 0, 0, 0, [], [], []),
  (0, 31, 0, 0, 0, 0, [], [], []),
  (0, 31, 0, 0, 0, 0, [], [], []),
  (0, 31, 0, 0, 0, 0, [], [], []),
  (0, 31, 0, 0, 0, 0, [], [], []),
  (0, 31, 0, 0, 0, 0, [], [], []),
  (0, 31, 0, 0, 0, 0, [], [], []),
  (0, 31, 0, 0, 0, 0, [], [], [])]
set_option maxRecDepth 100000 in
theorem sz_sd216_0 : sy_seg sz_E (pv_T (sz_own true) sz_T) sz_RU [] sz_cd216 sz_ud216 ri_m_X1_room 494 none sz_hd216_0 = true := by decide +kernel
theorem sz_okd216 (xs : Nat → Value) (L : Nat) : sy_Cok (sz_env xs L) (pv_T (sz_own true) sz_T) sz_RU sz_cd216 := sy_chk_ok (CT := []) (CU := sz_ud216) (M := ri_m_X1_room) (fun _ h => absurd h List.not_mem_nil) rfl rfl ⟨_, _, sz_sd216_0⟩ (fun _ h => absurd h List.not_mem_nil)

/-! X1_room  -/
set_option maxRecDepth 100000 in
noncomputable def sz_cd217 : sy_Ct := (159, 1, 23, [(3, .inr 84, .inl 0)], ([], []), [], [], [], [(.inl (some (1, .inr 0, .inl 0)), 0, 0, ([((-9223372036854775808), 9223372036854775807)], []), [], [])])
set_option maxRecDepth 100000 in
noncomputable def sz_ud217 : List sy_Cut := []
set_option maxRecDepth 100000 in
noncomputable def sz_hd217_0 : List sy_Hn := [(0, 31, 0, 0, 0, 0, [], [], []),
  (0, 31, 0, 0, 0, 0, [], [], []),
  (0, 31, 0, 0, 0, 0, [], [], []),
  (0, 31, 0, 0, 0, 0, [], [], []),
  (0, 31, 0, 0, 0, 0, [], [], []),
  (0, 31, 0, 0, 0, 0, [], [], []),
  (0, 31, 0, 0, 0, 0, [], [], []),
  (0, 31, 0, 0, 0, 0, [], [], []),
  (0, 31, 0, 0, 0, 0, [], [], []),
  (0, 31, 0, 0, 0, 0, [], [], []),
  (0, 31, 0, 0, 0, 0, [], [], []),
  (0, 31, 0, 0, 0, 0, [], [], []),
  (0, 31, 0, 0, 0, 0, [], [], []),
  (0, 31, 0, 0, 0, 0, [], [], []),
  (0, 31, 0, 0, 0, 0, [], [], [])]
set_option maxRecDepth 100000 in
theorem sz_sd217_0 : sy_seg sz_E (pv_T (sz_own true) sz_T) sz_RU [] sz_cd217 sz_ud217 ri_m_X1_room 494 none sz_hd217_0 = true := by decide +kernel
theorem sz_okd217 (xs : Nat → Value) (L : Nat) : sy_Cok (sz_env xs L) (pv_T (sz_own true) sz_T) sz_RU sz_cd217 := sy_chk_ok (CT := []) (CU := sz_ud217) (M := ri_m_X1_room) (fun _ h => absurd h List.not_mem_nil) rfl rfl ⟨_, _, sz_sd217_0⟩ (fun _ h => absurd h List.not_mem_nil)

/-! X1_room  -/
set_option maxRecDepth 100000 in
noncomputable def sz_cd218 : sy_Ct := (159, 1, 23, [(3, .inr 96, .inl 0)], ([], []), [], [], [], [(.inl (some (1, .inr 0, .inl 0)), 0, 0, ([((-9223372036854775808), 9223372036854775807)], []), [], [])])
set_option maxRecDepth 100000 in
noncomputable def sz_ud218 : List sy_Cut := []
set_option maxRecDepth 100000 in
noncomputable def sz_hd218_0 : List sy_Hn := [(0, 31, 0, 0, 0, 0, [], [], []),
  (0, 31, 0, 0, 0, 0, [], [], []),
  (0, 31, 0, 0, 0, 0, [], [], []),
  (0, 31, 0, 0, 0, 0, [], [], []),
  (0, 31, 0, 0, 0, 0, [], [], []),
  (0, 31, 0, 0, 0, 0, [], [], []),
  (0, 31, 0, 0, 0, 0, [], [], []),
  (0, 31, 0, 0, 0, 0, [], [], []),
  (0, 31, 0, 0, 0, 0, [], [], []),
  (0, 31, 0, 0, 0, 0, [], [], []),
  (0, 31, 0, 0, 0, 0, [], [], []),
  (0, 31, 0, 0, 0, 0, [], [], []),
  (0, 31, 0, 0, 0, 0, [], [], []),
  (0, 31, 0, 0, 0, 0, [], [], []),
  (0, 31, 0, 0, 0, 0, [], [], [])]
set_option maxRecDepth 100000 in
theorem sz_sd218_0 : sy_seg sz_E (pv_T (sz_own true) sz_T) sz_RU [] sz_cd218 sz_ud218 ri_m_X1_room 494 none sz_hd218_0 = true := by decide +kernel
theorem sz_okd218 (xs : Nat → Value) (L : Nat) : sy_Cok (sz_env xs L) (pv_T (sz_own true) sz_T) sz_RU sz_cd218 := sy_chk_ok (CT := []) (CU := sz_ud218) (M := ri_m_X1_room) (fun _ h => absurd h List.not_mem_nil) rfl rfl ⟨_, _, sz_sd218_0⟩ (fun _ h => absurd h List.not_mem_nil)

/-! X1_room  -/
set_option maxRecDepth 100000 in
noncomputable def sz_cd219 : sy_Ct := (159, 1, 23, [(3, .inr 108, .inl 0)], ([], []), [], [], [], [(.inl (some (1, .inr 0, .inl 0)), 0, 0, ([((-9223372036854775808), 9223372036854775807)], []), [], [])])
set_option maxRecDepth 100000 in
noncomputable def sz_ud219 : List sy_Cut := []
set_option maxRecDepth 100000 in
noncomputable def sz_hd219_0 : List sy_Hn := [(0, 31, 0, 0, 0, 0, [], [], []),
  (0, 31, 0, 0, 0, 0, [], [], []),
  (0, 31, 0, 0, 0, 0, [], [], []),
  (0, 31, 0, 0, 0, 0, [], [], []),
  (0, 31, 0, 0, 0, 0, [], [], []),
  (0, 31, 0, 0, 0, 0, [], [], []),
  (0, 31, 0, 0, 0, 0, [], [], []),
  (0, 31, 0, 0, 0, 0, [], [], []),
  (0, 31, 0, 0, 0, 0, [], [], []),
  (0, 31, 0, 0, 0, 0, [], [], []),
  (0, 31, 0, 0, 0, 0, [], [], []),
  (0, 31, 0, 0, 0, 0, [], [], []),
  (0, 31, 0, 0, 0, 0, [], [], []),
  (0, 31, 0, 0, 0, 0, [], [], []),
  (0, 31, 0, 0, 0, 0, [], [], [])]
set_option maxRecDepth 100000 in
theorem sz_sd219_0 : sy_seg sz_E (pv_T (sz_own true) sz_T) sz_RU [] sz_cd219 sz_ud219 ri_m_X1_room 494 none sz_hd219_0 = true := by decide +kernel
theorem sz_okd219 (xs : Nat → Value) (L : Nat) : sy_Cok (sz_env xs L) (pv_T (sz_own true) sz_T) sz_RU sz_cd219 := sy_chk_ok (CT := []) (CU := sz_ud219) (M := ri_m_X1_room) (fun _ h => absurd h List.not_mem_nil) rfl rfl ⟨_, _, sz_sd219_0⟩ (fun _ h => absurd h List.not_mem_nil)

/-! X10_inner  -/
set_option maxRecDepth 100000 in
noncomputable def sz_cd220 : sy_Ct := (89, 7, 102, [(3, .inr 0, .inl 0), (0, .inr 0, .inl 0), (0, .inr 1, .inl 0)], ([((-2147483648), 2147483647), ((-2147483648), 2147483647)], []), [], [], [], [(.inl (some (1, .inr 2, .inl 0)), 0, 0, ([((-9223372036854775808), 9223372036854775807), ((-2147483648), 2147483647), ((-2147483648), 2147483647)], []), [], []), (.inr 2, 1, 6, ([((-2147483648), 2147483647), ((-2147483648), 2147483647)], []), [], []), (.inr 3, 1, 6, ([((-2147483648), 2147483647), ((-2147483648), 2147483647)], []), [], [])])
set_option maxRecDepth 100000 in
noncomputable def sz_ud220 : List sy_Cut := []
set_option maxRecDepth 100000 in
noncomputable def sz_hd220_0 : List sy_Hn := [(0, 31, 1, 0, 0, 0, [], [], []),
  (9, 1, 0, 0, 0, 0, [], [], []),
  (0, 31, 2, 0, 0, 0, [], [], []),
  (0, 31, 2, 0, 0, 0, [], [], []),
  (0, 31, 0, 0, 0, 0, [], [], []),
  (0, 31, 0, 0, 0, 0, [], [], []),
  (0, 31, 0, 0, 0, 0, [], [], []),
  (0, 31, 0, 0, 0, 0, [], [], []),
  (0, 31, 0, 0, 0, 0, [], [], []),
  (3, 20, 0, 0, 0, 0, [], [], []),
  (0, 31, 0, 0, 0, 0, [], [], []),
  (0, 1, 0, 0, 1, 0, [], [], []),
  (0, 31, 2, 0, 0, 0, [], [], []),
  (0, 31, 2, 0, 0, 0, [], [], []),
  (0, 31, 0, 0, 0, 0, [], [], []),
  (0, 31, 0, 0, 0, 0, [], [], []),
  (0, 31, 0, 0, 0, 0, [], [], []),
  (0, 31, 0, 0, 0, 0, [], [], []),
  (0, 31, 0, 0, 0, 0, [], [], []),
  (3, 20, 1, 0, 0, 0, [], [], []),
  (0, 31, 0, 0, 0, 0, [], [], []),
  (0, 1, 0, 0, 2, 0, [], [], []),
  (0, 31, 2, 0, 0, 0, [], [], []),
  (0, 31, 2, 0, 0, 0, [], [], []),
  (0, 31, 0, 0, 0, 0, [], [], []),
  (0, 31, 0, 0, 0, 0, [], [], []),
  (0, 31, 0, 0, 0, 0, [], [], []),
  (0, 31, 0, 0, 0, 0, [], [], []),
  (0, 31, 0, 0, 0, 0, [], [], []),
  (3, 20, 2, 0, 0, 0, [], [], []),
  (0, 31, 0, 0, 0, 0, [], [], []),
  (0, 31, 2, 0, 0, 0, [], [], []),
  (0, 31, 2, 0, 0, 0, [], [], []),
  (0, 31, 0, 0, 0, 0, [], [], []),
  (0, 31, 0, 0, 0, 0, [], [], []),
  (0, 31, 0, 0, 0, 0, [], [], []),
  (0, 31, 0, 0, 0, 0, [], [], []),
  (0, 31, 0, 0, 0, 0, [], [], []),
  (3, 20, 3, 0, 0, 0, [], [], []),
  (0, 31, 0, 0, 0, 0, [], [], []),
  (0, 31, 1, 0, 0, 0, [], [], [])]
set_option maxRecDepth 100000 in
theorem sz_sd220_0 : sy_seg sz_E (pv_T (sz_own true) sz_T) sz_RU [sz_cd216, sz_cd217, sz_cd218, sz_cd219] sz_cd220 sz_ud220 ri_m_X10_inner 185 none sz_hd220_0 = true := by decide +kernel
theorem sz_okd220 (xs : Nat → Value) (L : Nat) : sy_Cok (sz_env xs L) (pv_T (sz_own true) sz_T) sz_RU sz_cd220 := sy_chk_ok (CT := [sz_cd216, sz_cd217, sz_cd218, sz_cd219]) (CU := sz_ud220) (M := ri_m_X10_inner) (List.forall_mem_cons.mpr ⟨sz_okd216 xs L, List.forall_mem_cons.mpr ⟨sz_okd217 xs L, List.forall_mem_cons.mpr ⟨sz_okd218 xs L, List.forall_mem_cons.mpr ⟨sz_okd219 xs L, fun _ h => absurd h List.not_mem_nil⟩⟩⟩⟩) rfl rfl ⟨_, _, sz_sd220_0⟩ (fun _ h => absurd h List.not_mem_nil)

/-! L_inner  -/
set_option maxRecDepth 100000 in
noncomputable def sz_cd221 : sy_Ct := (14, 8, 125, [(3, .inr 0, .inl 0), (0, .inr 0, .inl 0), (0, .inr 1, .inl 0), (3, .inr 265, .inl 0)], ([((-2147483648), 2147483647), ((-2147483648), 2147483647)], []), [], [], [(265, 0, 0)], [(.inl (some (0, .inl 0, .inl 0)), 0, 0, ([((-2147483648), 2147483647), ((-2147483648), 2147483647)], []), [], []), (.inl (some (0, .inr 2, .inl 0)), 1, 6, ([(1, 2), ((-2147483648), 2147483647), ((-2147483648), 2147483647)], []), [], [])])
set_option maxRecDepth 100000 in
noncomputable def sz_ud221 : List sy_Cut := []
set_option maxRecDepth 100000 in
noncomputable def sz_hd221_0 : List sy_Hn := [(6, 20, 0, 0, 0, 0, [], [], []),
  (0, 31, 0, 0, 0, 0, [], [], []),
  (0, 31, 1, 0, 0, 0, [], [], []),
  (0, 31, 1, 0, 0, 0, [], [], [])]
set_option maxRecDepth 100000 in
theorem sz_sd221_0 : sy_seg sz_E (pv_T (sz_own true) sz_T) sz_RU [sz_cd220] sz_cd221 sz_ud221 ri_m_L_inner 23 none sz_hd221_0 = true := by decide +kernel
theorem sz_okd221 (xs : Nat → Value) (L : Nat) : sy_Cok (sz_env xs L) (pv_T (sz_own true) sz_T) sz_RU sz_cd221 := sy_chk_ok (CT := [sz_cd220]) (CU := sz_ud221) (M := ri_m_L_inner) (List.forall_mem_cons.mpr ⟨sz_okd220 xs L, fun _ h => absurd h List.not_mem_nil⟩) rfl rfl ⟨_, _, sz_sd221_0⟩ (fun _ h => absurd h List.not_mem_nil)

/-! X11_inner  -/
set_option maxRecDepth 100000 in
noncomputable def sz_cd222 : sy_Ct := (15, 3, 68, [(3, .inr 244, .inl 0), (0, .inr 0, .inl 0), (0, .inr 1, .inl 0)], ([((-2147483648), 2147483647), ((-2147483648), 2147483647)], []), [], [], [(244, 0, 0)], [(.inl (some (1, .inr 2, .inl 0)), 0, 0, ([((-9223372036854775808), 9223372036854775807), ((-2147483648), 2147483647), ((-2147483648), 2147483647)], []), [], [])])
set_option maxRecDepth 100000 in
noncomputable def sz_ud222 : List sy_Cut := []
set_option maxRecDepth 100000 in
noncomputable def sz_hd222_0 : List sy_Hn := [(0, 31, 0, 0, 0, 0, [], [], []),
  (0, 31, 0, 0, 0, 0, [], [], []),
  (0, 31, 0, 0, 0, 0, [], [], []),
  (0, 31, 0, 0, 0, 0, [], [], []),
  (29, 1, 0, 0, 0, 0, [], [], []),
  (0, 31, 0, 0, 0, 0, [], [], []),
  (0, 1, 0, 0, 1, 0, [], [], []),
  (0, 31, 0, 0, 0, 0, [], [], []),
  (0, 1, 0, 0, 2, 0, [], [], []),
  (0, 31, 0, 0, 0, 0, [], [], []),
  (0, 31, 0, 0, 0, 0, [], [], []),
  (21, 1, 0, 0, 0, 0, [], [], []),
  (0, 31, 0, 0, 0, 0, [], [], []),
  (0, 31, 0, 0, 0, 0, [], [], []),
  (0, 31, 0, 0, 0, 0, [], [], []),
  (0, 31, 0, 0, 0, 0, [], [], []),
  (0, 31, 0, 0, 0, 0, [], [], []),
  (0, 31, 0, 0, 0, 0, [], [], []),
  (0, 31, 0, 0, 0, 0, [], [], []),
  (0, 31, 0, 0, 0, 0, [], [], []),
  (0, 31, 0, 0, 0, 0, [], [], []),
  (0, 31, 0, 0, 0, 0, [], [], []),
  (0, 31, 0, 0, 0, 0, [], [], []),
  (0, 31, 0, 0, 0, 0, [], [], []),
  (0, 31, 0, 0, 0, 0, [], [], []),
  (0, 31, 0, 0, 0, 0, [], [], []),
  (0, 31, 0, 0, 0, 0, [], [], []),
  (0, 1, 0, 0, 1, 0, [], [], []),
  (0, 31, 0, 0, 0, 0, [], [], []),
  (0, 31, 0, 0, 0, 0, [], [], []),
  (0, 31, 0, 0, 0, 0, [], [], []),
  (0, 31, 0, 0, 0, 0, [], [], []),
  (0, 31, 0, 0, 0, 0, [], [], []),
  (0, 31, 0, 0, 0, 0, [], [], []),
  (0, 31, 0, 0, 0, 0, [], [], []),
  (0, 31, 0, 0, 0, 0, [], [], []),
  (0, 31, 0, 0, 0, 0, [], [], []),
  (0, 31, 0, 0, 0, 0, [], [], []),
  (0, 31, 0, 0, 0, 0, [], [], []),
  (0, 31, 0, 0, 0, 0, [], [], []),
  (0, 31, 0, 0, 0, 0, [], [], []),
  (0, 31, 0, 0, 0, 0, [], [], []),
  (0, 31, 0, 0, 0, 0, [], [], []),
  (0, 1, 0, 0, 2, 0, [], [], []),
  (0, 31, 0, 0, 0, 0, [], [], []),
  (0, 31, 0, 0, 0, 0, [], [], []),
  (0, 31, 0, 0, 0, 0, [], [], []),
  (0, 31, 0, 0, 0, 0, [], [], []),
  (0, 31, 0, 0, 0, 0, [], [], []),
  (0, 31, 0, 0, 0, 0, [], [], []),
  (0, 31, 0, 0, 0, 0, [], [], []),
  (0, 31, 0, 0, 0, 0, [], [], []),
  (0, 31, 0, 0, 0, 0, [], [], []),
  (0, 31, 0, 0, 0, 0, [], [], []),
  (0, 31, 0, 0, 0, 0, [], [], []),
  (0, 31, 0, 0, 0, 0, [], [], []),
  (0, 31, 0, 0, 0, 0, [], [], []),
  (0, 31, 0, 0, 0, 0, [], [], []),
  (0, 31, 0, 0, 0, 0, [], [], []),
  (0, 31, 0, 0, 0, 0, [], [], []),
  (0, 31, 0, 0, 0, 0, [], [], []),
  (0, 31, 0, 0, 0, 0, [], [], []),
  (0, 31, 0, 0, 0, 0, [], [], []),
  (0, 31, 0, 0, 0, 0, [], [], []),
  (0, 31, 0, 0, 0, 0, [], [], []),
  (0, 31, 0, 0, 0, 0, [], [], []),
  (0, 31, 0, 0, 0, 0, [], [], []),
  (0, 31, 0, 0, 0, 0, [], [], []),
  (0, 31, 0, 0, 0, 0, [], [], []),
  (0, 31, 0, 0, 0, 0, [], [], []),
  (0, 31, 0, 0, 0, 0, [], [], []),
  (0, 31, 0, 0, 0, 0, [], [], []),
  (0, 31, 0, 0, 0, 0, [], [], []),
  (0, 31, 0, 0, 0, 0, [], [], [])]
set_option maxRecDepth 100000 in
theorem sz_sd222_0 : sy_seg sz_E (pv_T (sz_own false) sz_T) sz_RU [] sz_cd222 sz_ud222 ri_m_X11_inner 5331 none sz_hd222_0 = true := by decide +kernel
theorem sz_okd222 (xs : Nat → Value) (L : Nat) : sy_Cok (sz_env xs L) (pv_T (sz_own false) sz_T) sz_RU sz_cd222 := sy_chk_ok (CT := []) (CU := sz_ud222) (M := ri_m_X11_inner) (fun _ h => absurd h List.not_mem_nil) rfl rfl ⟨_, _, sz_sd222_0⟩ (fun _ h => absurd h List.not_mem_nil)

/-! X10_gain  -/
set_option maxRecDepth 100000 in
noncomputable def sz_cd223 : sy_Ct := (92, 7, 102, [(3, .inr 0, .inl 0), (0, .inr 0, .inl 0), (0, .inr 1, .inl 0), (0, .inr 2, .inl 0)], ([((-2147483648), 2147483647), ((-2147483648), 2147483647), ((-2147483648), 2147483647)], []), [], [], [], [(.inl (some (0, .inr 3, .inl 0)), 0, 0, ([((-2147483648), 2147483647), ((-2147483648), 2147483647), ((-2147483648), 2147483647), ((-2147483648), 2147483647)], []), [], []), (.inr 2, 1, 6, ([((-2147483648), 2147483647), ((-2147483648), 2147483647), ((-2147483648), 2147483647)], []), [], []), (.inr 3, 1, 6, ([((-2147483648), 2147483647), ((-2147483648), 2147483647), ((-2147483648), 2147483647)], []), [], [])])
set_option maxRecDepth 100000 in
noncomputable def sz_ud223 : List sy_Cut := []
set_option maxRecDepth 100000 in
noncomputable def sz_hd223_0 : List sy_Hn := [(0, 31, 1, 0, 0, 0, [], [], []),
  (9, 1, 0, 0, 0, 0, [], [], []),
  (0, 31, 1, 0, 0, 0, [], [], []),
  (0, 31, 2, 0, 0, 0, [], [], []),
  (0, 31, 2, 0, 0, 0, [], [], []),
  (0, 31, 0, 0, 0, 0, [], [], []),
  (0, 31, 0, 0, 0, 0, [], [], []),
  (0, 31, 0, 0, 0, 0, [], [], []),
  (0, 31, 0, 0, 0, 0, [], [], []),
  (0, 31, 1, 0, 0, 0, [], [], []),
  (0, 1, 0, 0, 1, 0, [], [], []),
  (0, 31, 1, 0, 0, 0, [], [], []),
  (0, 31, 2, 0, 0, 0, [], [], []),
  (0, 31, 2, 0, 0, 0, [], [], []),
  (0, 31, 0, 0, 0, 0, [], [], []),
  (0, 31, 0, 0, 0, 0, [], [], []),
  (0, 31, 0, 0, 0, 0, [], [], []),
  (0, 31, 0, 0, 0, 0, [], [], []),
  (0, 31, 1, 0, 0, 0, [], [], []),
  (0, 1, 0, 0, 2, 0, [], [], []),
  (0, 31, 1, 0, 0, 0, [], [], []),
  (0, 31, 2, 0, 0, 0, [], [], []),
  (0, 31, 2, 0, 0, 0, [], [], []),
  (0, 31, 0, 0, 0, 0, [], [], []),
  (0, 31, 0, 0, 0, 0, [], [], []),
  (0, 31, 0, 0, 0, 0, [], [], []),
  (0, 31, 0, 0, 0, 0, [], [], []),
  (0, 31, 1, 0, 0, 0, [], [], []),
  (0, 31, 1, 0, 0, 0, [], [], []),
  (0, 31, 2, 0, 0, 0, [], [], []),
  (0, 31, 2, 0, 0, 0, [], [], []),
  (0, 31, 0, 0, 0, 0, [], [], []),
  (0, 31, 0, 0, 0, 0, [], [], []),
  (0, 31, 0, 0, 0, 0, [], [], []),
  (0, 31, 0, 0, 0, 0, [], [], []),
  (0, 31, 1, 0, 0, 0, [], [], []),
  (0, 31, 1, 0, 0, 0, [], [], [])]
set_option maxRecDepth 100000 in
theorem sz_sd223_0 : sy_seg sz_E (pv_T (sz_own true) sz_T) sz_RU [] sz_cd223 sz_ud223 ri_m_X10_gain 205 none sz_hd223_0 = true := by decide +kernel
theorem sz_okd223 (xs : Nat → Value) (L : Nat) : sy_Cok (sz_env xs L) (pv_T (sz_own true) sz_T) sz_RU sz_cd223 := sy_chk_ok (CT := []) (CU := sz_ud223) (M := ri_m_X10_gain) (fun _ h => absurd h List.not_mem_nil) rfl rfl ⟨_, _, sz_sd223_0⟩ (fun _ h => absurd h List.not_mem_nil)

/-! L_gain  -/
set_option maxRecDepth 100000 in
noncomputable def sz_cd224 : sy_Ct := (16, 8, 126, [(3, .inr 0, .inl 0), (0, .inr 0, .inl 0), (0, .inr 1, .inl 0), (0, .inr 2, .inl 0), (3, .inr 265, .inl 0)], ([((-2147483648), 2147483647), ((-2147483648), 2147483647), ((-2147483648), 2147483647)], []), [], [], [(265, 0, 0)], [(.inl (some (0, .inl 0, .inl 0)), 0, 0, ([((-2147483648), 2147483647), ((-2147483648), 2147483647), ((-2147483648), 2147483647)], []), [], []), (.inl (some (0, .inr 3, .inl 0)), 1, 6, ([(1, 2), ((-2147483648), 2147483647), ((-2147483648), 2147483647), ((-2147483648), 2147483647)], []), [], [])])
set_option maxRecDepth 100000 in
noncomputable def sz_ud224 : List sy_Cut := []
set_option maxRecDepth 100000 in
noncomputable def sz_hd224_0 : List sy_Hn := [(7, 20, 0, 0, 0, 0, [], [], []),
  (0, 31, 0, 0, 0, 0, [], [], []),
  (0, 31, 1, 0, 0, 0, [], [], []),
  (0, 31, 1, 0, 0, 0, [], [], [])]
set_option maxRecDepth 100000 in
theorem sz_sd224_0 : sy_seg sz_E (pv_T (sz_own true) sz_T) sz_RU [sz_cd223] sz_cd224 sz_ud224 ri_m_L_gain 25 none sz_hd224_0 = true := by decide +kernel
theorem sz_okd224 (xs : Nat → Value) (L : Nat) : sy_Cok (sz_env xs L) (pv_T (sz_own true) sz_T) sz_RU sz_cd224 := sy_chk_ok (CT := [sz_cd223]) (CU := sz_ud224) (M := ri_m_L_gain) (List.forall_mem_cons.mpr ⟨sz_okd223 xs L, fun _ h => absurd h List.not_mem_nil⟩) rfl rfl ⟨_, _, sz_sd224_0⟩ (fun _ h => absurd h List.not_mem_nil)

/-! X11_gain  -/
set_option maxRecDepth 100000 in
noncomputable def sz_cd225 : sy_Ct := (17, 2, 44, [(3, .inr 244, .inl 0), (0, .inr 0, .inl 0), (0, .inr 1, .inl 0), (0, .inr 2, .inl 0)], ([((-2147483648), 2147483647), ((-2147483648), 2147483647), ((-2147483648), 2147483647)], []), [], [], [(244, 0, 0)], [(.inl (some (0, .inr 3, .inl 0)), 0, 0, ([((-2147483648), 2147483647), ((-2147483648), 2147483647), ((-2147483648), 2147483647), ((-2147483648), 2147483647)], []), [], [])])
set_option maxRecDepth 100000 in
noncomputable def sz_ud225 : List sy_Cut := []
set_option maxRecDepth 100000 in
noncomputable def sz_hd225_0 : List sy_Hn := [(0, 31, 0, 0, 0, 0, [], [], []),
  (0, 31, 0, 0, 0, 0, [], [], []),
  (21, 1, 0, 0, 0, 0, [], [], []),
  (0, 31, 0, 0, 0, 0, [], [], []),
  (0, 31, 0, 0, 0, 0, [], [], []),
  (0, 31, 0, 0, 0, 0, [], [], []),
  (0, 31, 0, 0, 0, 0, [], [], []),
  (23, 1, 1, 0, 0, 0, [], [], []),
  (0, 31, 0, 0, 0, 0, [], [], []),
  (0, 1, 1, 0, 1, 0, [], [], []),
  (0, 31, 0, 0, 0, 0, [], [], []),
  (0, 31, 0, 0, 0, 0, [], [], []),
  (0, 1, 0, 0, 1, 0, [], [], []),
  (0, 31, 0, 0, 0, 0, [], [], []),
  (0, 31, 0, 0, 0, 0, [], [], []),
  (0, 31, 0, 0, 0, 0, [], [], []),
  (0, 31, 0, 0, 0, 0, [], [], []),
  (23, 1, 1, 0, 0, 0, [], [], []),
  (0, 31, 0, 0, 0, 0, [], [], []),
  (0, 1, 1, 0, 1, 0, [], [], []),
  (0, 31, 0, 0, 0, 0, [], [], []),
  (0, 31, 0, 0, 0, 0, [], [], []),
  (0, 1, 0, 0, 2, 0, [], [], []),
  (0, 31, 0, 0, 0, 0, [], [], []),
  (0, 31, 0, 0, 0, 0, [], [], []),
  (0, 31, 0, 0, 0, 0, [], [], []),
  (0, 31, 0, 0, 0, 0, [], [], []),
  (23, 1, 1, 0, 0, 0, [], [], []),
  (0, 31, 0, 0, 0, 0, [], [], []),
  (0, 1, 1, 0, 1, 0, [], [], []),
  (0, 31, 0, 0, 0, 0, [], [], []),
  (0, 31, 0, 0, 0, 0, [], [], []),
  (0, 31, 0, 0, 0, 0, [], [], []),
  (0, 31, 0, 0, 0, 0, [], [], []),
  (0, 31, 0, 0, 0, 0, [], [], []),
  (0, 31, 0, 0, 0, 0, [], [], []),
  (23, 1, 1, 0, 0, 0, [], [], []),
  (0, 31, 0, 0, 0, 0, [], [], []),
  (0, 1, 1, 0, 1, 0, [], [], []),
  (0, 31, 0, 0, 0, 0, [], [], []),
  (0, 31, 0, 0, 0, 0, [], [], [])]
set_option maxRecDepth 100000 in
theorem sz_sd225_0 : sy_seg sz_E (pv_T (sz_own false) sz_T) sz_RU [] sz_cd225 sz_ud225 ri_m_X11_gain 874 none sz_hd225_0 = true := by decide +kernel
theorem sz_okd225 (xs : Nat → Value) (L : Nat) : sy_Cok (sz_env xs L) (pv_T (sz_own false) sz_T) sz_RU sz_cd225 := sy_chk_ok (CT := []) (CU := sz_ud225) (M := ri_m_X11_gain) (fun _ h => absurd h List.not_mem_nil) rfl rfl ⟨_, _, sz_sd225_0⟩ (fun _ h => absurd h List.not_mem_nil)

/-! X10_weight  -/
set_option maxRecDepth 100000 in
noncomputable def sz_cd226 : sy_Ct := (94, 7, 102, [(3, .inr 0, .inl 0), (0, .inr 0, .inl 0), (0, .inr 1, .inl 0)], ([((-2147483648), 2147483647), ((-2147483648), 2147483647)], []), [], [], [], [(.inl (some (0, .inr 2, .inl 0)), 0, 0, ([((-2147483648), 2147483647), ((-2147483648), 2147483647), ((-2147483648), 2147483647)], []), [], []), (.inr 2, 1, 6, ([((-2147483648), 2147483647), ((-2147483648), 2147483647)], []), [], []), (.inr 3, 1, 6, ([((-2147483648), 2147483647), ((-2147483648), 2147483647)], []), [], [])])
set_option maxRecDepth 100000 in
noncomputable def sz_ud226 : List sy_Cut := []
set_option maxRecDepth 100000 in
noncomputable def sz_hd226_0 : List sy_Hn := [(0, 31, 1, 0, 0, 0, [], [], []),
  (9, 1, 0, 0, 0, 0, [], [], []),
  (0, 31, 2, 0, 0, 0, [], [], []),
  (0, 31, 2, 0, 0, 0, [], [], []),
  (0, 31, 0, 0, 0, 0, [], [], []),
  (0, 31, 0, 0, 0, 0, [], [], []),
  (0, 31, 0, 0, 0, 0, [], [], []),
  (0, 31, 0, 0, 0, 0, [], [], []),
  (0, 31, 0, 0, 0, 0, [], [], []),
  (0, 31, 0, 0, 0, 0, [], [], []),
  (0, 1, 0, 0, 1, 0, [], [], []),
  (0, 31, 2, 0, 0, 0, [], [], []),
  (0, 31, 2, 0, 0, 0, [], [], []),
  (0, 31, 0, 0, 0, 0, [], [], []),
  (0, 31, 0, 0, 0, 0, [], [], []),
  (0, 31, 0, 0, 0, 0, [], [], []),
  (0, 31, 0, 0, 0, 0, [], [], []),
  (0, 31, 0, 0, 0, 0, [], [], []),
  (0, 31, 0, 0, 0, 0, [], [], []),
  (0, 1, 0, 0, 2, 0, [], [], []),
  (0, 31, 2, 0, 0, 0, [], [], []),
  (0, 31, 2, 0, 0, 0, [], [], []),
  (0, 31, 0, 0, 0, 0, [], [], []),
  (0, 31, 0, 0, 0, 0, [], [], []),
  (0, 31, 0, 0, 0, 0, [], [], []),
  (0, 31, 0, 0, 0, 0, [], [], []),
  (0, 31, 0, 0, 0, 0, [], [], []),
  (0, 31, 0, 0, 0, 0, [], [], []),
  (0, 31, 2, 0, 0, 0, [], [], []),
  (0, 31, 2, 0, 0, 0, [], [], []),
  (0, 31, 0, 0, 0, 0, [], [], []),
  (0, 31, 0, 0, 0, 0, [], [], []),
  (0, 31, 0, 0, 0, 0, [], [], []),
  (0, 31, 0, 0, 0, 0, [], [], []),
  (0, 31, 0, 0, 0, 0, [], [], []),
  (0, 31, 0, 0, 0, 0, [], [], []),
  (0, 31, 1, 0, 0, 0, [], [], [])]
set_option maxRecDepth 100000 in
theorem sz_sd226_0 : sy_seg sz_E (pv_T (sz_own true) sz_T) sz_RU [] sz_cd226 sz_ud226 ri_m_X10_weight 185 none sz_hd226_0 = true := by decide +kernel
theorem sz_okd226 (xs : Nat → Value) (L : Nat) : sy_Cok (sz_env xs L) (pv_T (sz_own true) sz_T) sz_RU sz_cd226 := sy_chk_ok (CT := []) (CU := sz_ud226) (M := ri_m_X10_weight) (fun _ h => absurd h List.not_mem_nil) rfl rfl ⟨_, _, sz_sd226_0⟩ (fun _ h => absurd h List.not_mem_nil)

/-! L_weight  -/
set_option maxRecDepth 100000 in
noncomputable def sz_cd227 : sy_Ct := (18, 8, 125, [(3, .inr 0, .inl 0), (0, .inr 0, .inl 0), (0, .inr 1, .inl 0), (3, .inr 265, .inl 0)], ([((-2147483648), 2147483647), ((-2147483648), 2147483647)], []), [], [], [(265, 0, 0)], [(.inl (some (0, .inl 0, .inl 0)), 0, 0, ([((-2147483648), 2147483647), ((-2147483648), 2147483647)], []), [], []), (.inl (some (0, .inr 2, .inl 0)), 1, 6, ([(1, 2), ((-2147483648), 2147483647), ((-2147483648), 2147483647)], []), [], [])])
set_option maxRecDepth 100000 in
noncomputable def sz_ud227 : List sy_Cut := []
set_option maxRecDepth 100000 in
noncomputable def sz_hd227_0 : List sy_Hn := [(6, 20, 0, 0, 0, 0, [], [], []),
  (0, 31, 0, 0, 0, 0, [], [], []),
  (0, 31, 1, 0, 0, 0, [], [], []),
  (0, 31, 1, 0, 0, 0, [], [], [])]
set_option maxRecDepth 100000 in
theorem sz_sd227_0 : sy_seg sz_E (pv_T (sz_own true) sz_T) sz_RU [sz_cd226] sz_cd227 sz_ud227 ri_m_L_weight 24 none sz_hd227_0 = true := by decide +kernel
theorem sz_okd227 (xs : Nat → Value) (L : Nat) : sy_Cok (sz_env xs L) (pv_T (sz_own true) sz_T) sz_RU sz_cd227 := sy_chk_ok (CT := [sz_cd226]) (CU := sz_ud227) (M := ri_m_L_weight) (List.forall_mem_cons.mpr ⟨sz_okd226 xs L, fun _ h => absurd h List.not_mem_nil⟩) rfl rfl ⟨_, _, sz_sd227_0⟩ (fun _ h => absurd h List.not_mem_nil)

/-! X11_weight  -/
set_option maxRecDepth 100000 in
noncomputable def sz_cd228 : sy_Ct := (19, 2, 43, [(3, .inr 244, .inl 0), (0, .inr 0, .inl 0), (0, .inr 1, .inl 0)], ([((-2147483648), 2147483647), ((-2147483648), 2147483647)], []), [], [], [(244, 0, 0)], [(.inl (some (0, .inr 2, .inl 0)), 0, 0, ([((-2147483648), 2147483647), ((-2147483648), 2147483647), ((-2147483648), 2147483647)], []), [], [])])
set_option maxRecDepth 100000 in
noncomputable def sz_ud228 : List sy_Cut := []
set_option maxRecDepth 100000 in
noncomputable def sz_hd228_0 : List sy_Hn := [(0, 31, 0, 0, 0, 0, [], [], []),
  (0, 31, 0, 0, 0, 0, [], [], []),
  (0, 31, 0, 0, 0, 0, [], [], []),
  (0, 31, 0, 0, 0, 0, [], [], []),
  (26, 1, 0, 0, 0, 0, [], [], []),
  (0, 31, 0, 0, 0, 0, [], [], []),
  (0, 1, 0, 0, 1, 0, [], [], []),
  (0, 31, 0, 0, 0, 0, [], [], []),
  (0, 1, 0, 0, 2, 0, [], [], []),
  (0, 31, 0, 0, 0, 0, [], [], []),
  (0, 31, 0, 0, 0, 0, [], [], [])]
set_option maxRecDepth 100000 in
theorem sz_sd228_0 : sy_seg sz_E (pv_T (sz_own false) sz_T) sz_RU [] sz_cd228 sz_ud228 ri_m_X11_weight 205 none sz_hd228_0 = true := by decide +kernel
theorem sz_okd228 (xs : Nat → Value) (L : Nat) : sy_Cok (sz_env xs L) (pv_T (sz_own false) sz_T) sz_RU sz_cd228 := sy_chk_ok (CT := []) (CU := sz_ud228) (M := ri_m_X11_weight) (fun _ h => absurd h List.not_mem_nil) rfl rfl ⟨_, _, sz_sd228_0⟩ (fun _ h => absurd h List.not_mem_nil)

/-! X10_trip  -/
set_option maxRecDepth 100000 in
noncomputable def sz_cd229 : sy_Ct := (95, 7, 102, [(3, .inr 0, .inl 0), (0, .inr 0, .inl 0), (0, .inr 1, .inl 0)], ([((-2147483648), 2147483647), ((-2147483648), 2147483647)], []), [], [], [], [(.inl (some (0, .inr 2, .inl 0)), 0, 0, ([((-2147483648), 2147483647), ((-2147483648), 2147483647), ((-2147483648), 2147483647)], []), [], []), (.inr 2, 1, 6, ([((-2147483648), 2147483647), ((-2147483648), 2147483647)], []), [], [])])
set_option maxRecDepth 100000 in
noncomputable def sz_ud229 : List sy_Cut := []
set_option maxRecDepth 100000 in
noncomputable def sz_hd229_0 : List sy_Hn := [(0, 31, 1, 0, 0, 0, [], [], []),
  (9, 1, 0, 0, 0, 0, [], [], []),
  (0, 31, 0, 0, 0, 0, [], [], []),
  (0, 31, 0, 0, 0, 0, [], [], []),
  (0, 31, 0, 0, 0, 0, [], [], []),
  (0, 1, 0, 0, 1, 0, [], [], []),
  (0, 31, 0, 0, 0, 0, [], [], []),
  (0, 31, 0, 0, 0, 0, [], [], []),
  (0, 31, 0, 0, 0, 0, [], [], []),
  (0, 1, 0, 0, 2, 0, [], [], []),
  (0, 31, 0, 0, 0, 0, [], [], []),
  (0, 31, 0, 0, 0, 0, [], [], []),
  (0, 31, 0, 0, 0, 0, [], [], []),
  (0, 31, 0, 0, 0, 0, [], [], []),
  (0, 31, 0, 0, 0, 0, [], [], []),
  (0, 31, 0, 0, 0, 0, [], [], []),
  (0, 31, 1, 0, 0, 0, [], [], [])]
set_option maxRecDepth 100000 in
theorem sz_sd229_0 : sy_seg sz_E (pv_T (sz_own true) sz_T) sz_RU [] sz_cd229 sz_ud229 ri_m_X10_trip 121 none sz_hd229_0 = true := by decide +kernel
theorem sz_okd229 (xs : Nat → Value) (L : Nat) : sy_Cok (sz_env xs L) (pv_T (sz_own true) sz_T) sz_RU sz_cd229 := sy_chk_ok (CT := []) (CU := sz_ud229) (M := ri_m_X10_trip) (fun _ h => absurd h List.not_mem_nil) rfl rfl ⟨_, _, sz_sd229_0⟩ (fun _ h => absurd h List.not_mem_nil)

/-! L_trip  -/
set_option maxRecDepth 100000 in
noncomputable def sz_cd230 : sy_Ct := (20, 8, 125, [(3, .inr 0, .inl 0), (0, .inr 0, .inl 0), (0, .inr 1, .inl 0), (3, .inr 265, .inl 0)], ([((-2147483648), 2147483647), ((-2147483648), 2147483647)], []), [], [], [(265, 0, 0)], [(.inl (some (0, .inl 0, .inl 0)), 0, 0, ([((-2147483648), 2147483647), ((-2147483648), 2147483647)], []), [], []), (.inl (some (0, .inl 1, .inl 0)), 1, 6, ([((-2147483648), 2147483647), ((-2147483648), 2147483647)], []), [], [])])
set_option maxRecDepth 100000 in
noncomputable def sz_ud230 : List sy_Cut := []
set_option maxRecDepth 100000 in
noncomputable def sz_hd230_0 : List sy_Hn := [(6, 20, 0, 0, 0, 0, [], [], []),
  (0, 31, 0, 0, 0, 0, [], [], []),
  (0, 31, 1, 0, 0, 0, [], [], [])]
set_option maxRecDepth 100000 in
theorem sz_sd230_0 : sy_seg sz_E (pv_T (sz_own true) sz_T) sz_RU [sz_cd229] sz_cd230 sz_ud230 ri_m_L_trip 21 none sz_hd230_0 = true := by decide +kernel
theorem sz_okd230 (xs : Nat → Value) (L : Nat) : sy_Cok (sz_env xs L) (pv_T (sz_own true) sz_T) sz_RU sz_cd230 := sy_chk_ok (CT := [sz_cd229]) (CU := sz_ud230) (M := ri_m_L_trip) (List.forall_mem_cons.mpr ⟨sz_okd229 xs L, fun _ h => absurd h List.not_mem_nil⟩) rfl rfl ⟨_, _, sz_sd230_0⟩ (fun _ h => absurd h List.not_mem_nil)

/-! X11_trip  -/
set_option maxRecDepth 100000 in
noncomputable def sz_cd231 : sy_Ct := (21, 2, 43, [(3, .inr 244, .inl 0), (0, .inr 0, .inl 0), (0, .inr 1, .inl 0)], ([((-2147483648), 2147483647), ((-2147483648), 2147483647)], []), [], [], [(244, 0, 0)], [(.inl (some (0, .inr 2, .inl 0)), 0, 0, ([((-2147483648), 2147483647), ((-2147483648), 2147483647), ((-2147483648), 2147483647)], []), [], [])])
set_option maxRecDepth 100000 in
noncomputable def sz_ud231 : List sy_Cut := []
set_option maxRecDepth 100000 in
noncomputable def sz_hd231_0 : List sy_Hn := [(0, 31, 0, 0, 0, 0, [], [], []),
  (0, 31, 0, 0, 0, 0, [], [], []),
  (27, 1, 0, 0, 0, 0, [], [], []),
  (0, 31, 0, 0, 0, 0, [], [], []),
  (0, 31, 0, 0, 0, 0, [], [], []),
  (0, 31, 0, 0, 0, 0, [], [], []),
  (0, 1, 0, 0, 1, 0, [], [], []),
  (0, 31, 0, 0, 0, 0, [], [], []),
  (0, 31, 0, 0, 0, 0, [], [], []),
  (0, 31, 0, 0, 0, 0, [], [], []),
  (0, 1, 0, 0, 2, 0, [], [], []),
  (0, 31, 0, 0, 0, 0, [], [], []),
  (0, 31, 0, 0, 0, 0, [], [], []),
  (0, 31, 0, 0, 0, 0, [], [], []),
  (0, 31, 0, 0, 0, 0, [], [], []),
  (0, 31, 0, 0, 0, 0, [], [], []),
  (0, 31, 0, 0, 0, 0, [], [], [])]
set_option maxRecDepth 100000 in
theorem sz_sd231_0 : sy_seg sz_E (pv_T (sz_own false) sz_T) sz_RU [] sz_cd231 sz_ud231 ri_m_X11_trip 334 none sz_hd231_0 = true := by decide +kernel
theorem sz_okd231 (xs : Nat → Value) (L : Nat) : sy_Cok (sz_env xs L) (pv_T (sz_own false) sz_T) sz_RU sz_cd231 := sy_chk_ok (CT := []) (CU := sz_ud231) (M := ri_m_X11_trip) (fun _ h => absurd h List.not_mem_nil) rfl rfl ⟨_, _, sz_sd231_0⟩ (fun _ h => absurd h List.not_mem_nil)

/-! X10_whose  -/
set_option maxRecDepth 100000 in
noncomputable def sz_cd232 : sy_Ct := (96, 7, 102, [(3, .inr 0, .inl 0), (0, .inr 0, .inl 0), (0, .inr 1, .inl 0)], ([((-2147483648), 2147483647), ((-2147483648), 2147483647)], []), [], [], [], [(.inl (some (0, .inr 2, .inl 0)), 0, 0, ([((-1), 3), ((-2147483648), 2147483647), ((-2147483648), 2147483647)], []), [], []), (.inr 2, 1, 6, ([((-2147483648), 2147483647), ((-2147483648), 2147483647)], []), [], [])])
set_option maxRecDepth 100000 in
noncomputable def sz_ud232 : List sy_Cut := [(16, [(0, (3, .inr 0, .inl 0)), (1, (0, .inr 0, .inl 0)), (2, (0, .inr 1, .inl 0)), (4, (0, .inr 2, .inl 0)), (5, (0, .inr 3, .inl 0))], ([(0, 3), ((-1), 3), (0, 3), (0, 3)], []), [], [], [(4, []), ((-1), [3])])]
set_option maxRecDepth 100000 in
noncomputable def sz_hd232_0 : List sy_Hn := [(0, 31, 1, 0, 0, 0, [], [], []),
  (9, 1, 0, 0, 0, 0, [], [], []),
  (0, 31, 0, 0, 0, 0, [], [], []),
  (0, 30, 0, 0, 0, 0, [([], [(1, [0])]), ([], [])], [], []),
  (0, 31, 0, 0, 0, 0, [], [], []),
  (0, 1, 0, 0, 1, 0, [], [], []),
  (0, 31, 0, 0, 0, 0, [], [], []),
  (0, 30, 0, 0, 0, 0, [([], [(1, [0])]), ([], [])], [], []),
  (0, 31, 0, 0, 0, 0, [], [], []),
  (0, 1, 0, 0, 2, 0, [], [], []),
  (0, 31, 0, 0, 0, 0, [], [], []),
  (0, 30, 0, 0, 0, 0, [([], [(1, [0])]), ([], [])], [], []),
  (0, 31, 0, 0, 0, 0, [], [], []),
  (0, 31, 0, 0, 0, 0, [], [], []),
  (0, 30, 0, 0, 0, 0, [([], [(1, [0])]), ([], [])], [], []),
  (0, 31, 0, 0, 0, 0, [], [], []),
  (0, 31, 1, 0, 0, 0, [], [], [])]
set_option maxRecDepth 100000 in
theorem sz_sd232_0 : sy_seg sz_E (pv_T (sz_own true) sz_T) sz_RU [] sz_cd232 sz_ud232 ri_m_X10_whose 113 none sz_hd232_0 = true := by decide +kernel
set_option maxRecDepth 100000 in
noncomputable def sz_hd232_1 : List sy_Hn := [(0, 31, 0, 0, 0, 0, [], [], []),
  (0, 31, 0, 0, 0, 0, [], [], []),
  (4, 1, 2, 0, 0, 0, [], [], []),
  (0, 30, 0, 0, 0, 0, [([5], [(1, [0]), (1, [2])]), ([], [(1, [0]), (1, [1])])], [], []),
  (0, 1, 2, 0, 1, 0, [], [], []),
  (0, 30, 0, 0, 0, 0, [([5], [(1, [0]), (1, [2])]), ([], [(1, [0]), (1, [1])])], [], []),
  (0, 1, 2, 0, 2, 0, [], [], []),
  (0, 30, 0, 0, 0, 0, [([5], [(1, [0]), (1, [2])]), ([], [(1, [0]), (1, [1])])], [], []),
  (0, 30, 0, 0, 0, 0, [([5], [(1, [0]), (1, [2])]), ([], [(1, [0]), (1, [1])])], [], [])]
set_option maxRecDepth 100000 in
theorem sz_sd232_1 : sy_seg sz_E (pv_T (sz_own true) sz_T) sz_RU [] sz_cd232 sz_ud232 ri_m_X10_whose 55 (some ((16, [(0, (3, .inr 0, .inl 0)), (1, (0, .inr 0, .inl 0)), (2, (0, .inr 1, .inl 0)), (4, (0, .inr 2, .inl 0)), (5, (0, .inr 3, .inl 0))], ([(0, 3), ((-1), 3), (0, 3), (0, 3)], []), [], [], [(4, []), ((-1), [3])]))) sz_hd232_1 = true := by decide +kernel
theorem sz_okd232 (xs : Nat → Value) (L : Nat) : sy_Cok (sz_env xs L) (pv_T (sz_own true) sz_T) sz_RU sz_cd232 := sy_chk_ok (CT := []) (CU := sz_ud232) (M := ri_m_X10_whose) (fun _ h => absurd h List.not_mem_nil) rfl rfl ⟨_, _, sz_sd232_0⟩ (List.forall_mem_cons.mpr ⟨⟨_, _, sz_sd232_1⟩, fun _ h => absurd h List.not_mem_nil⟩)

/-! L_whose  -/
set_option maxRecDepth 100000 in
noncomputable def sz_cd233 : sy_Ct := (22, 8, 127, [(3, .inr 0, .inl 0), (0, .inr 0, .inl 0), (0, .inr 1, .inl 0), (3, .inr 265, .inl 0)], ([((-2147483648), 2147483647), ((-2147483648), 2147483647)], []), [], [], [(265, 0, 0)], [(.inl (some (0, .inl 0, .inl 0)), 0, 0, ([((-2147483648), 2147483647), ((-2147483648), 2147483647)], []), [], []), (.inl (some (0, .inl 1, .inl 0)), 1, 6, ([((-2147483648), 2147483647), ((-2147483648), 2147483647)], []), [], [])])
set_option maxRecDepth 100000 in
noncomputable def sz_ud233 : List sy_Cut := []
set_option maxRecDepth 100000 in
noncomputable def sz_hd233_0 : List sy_Hn := [(6, 20, 0, 0, 0, 0, [], [], []),
  (0, 31, 0, 0, 0, 0, [], [], []),
  (0, 31, 1, 0, 0, 0, [], [], [])]
set_option maxRecDepth 100000 in
theorem sz_sd233_0 : sy_seg sz_E (pv_T (sz_own true) sz_T) sz_RU [sz_cd232] sz_cd233 sz_ud233 ri_m_L_whose 21 none sz_hd233_0 = true := by decide +kernel
theorem sz_okd233 (xs : Nat → Value) (L : Nat) : sy_Cok (sz_env xs L) (pv_T (sz_own true) sz_T) sz_RU sz_cd233 := sy_chk_ok (CT := [sz_cd232]) (CU := sz_ud233) (M := ri_m_L_whose) (List.forall_mem_cons.mpr ⟨sz_okd232 xs L, fun _ h => absurd h List.not_mem_nil⟩) rfl rfl ⟨_, _, sz_sd233_0⟩ (fun _ h => absurd h List.not_mem_nil)

/-! X11_whose  -/
set_option maxRecDepth 100000 in
noncomputable def sz_cd234 : sy_Ct := (23, 2, 43, [(3, .inr 244, .inl 0), (0, .inr 0, .inl 0), (0, .inr 1, .inl 0)], ([((-2147483648), 2147483647), ((-2147483648), 2147483647)], []), [], [], [(244, 0, 0)], [(.inl (some (0, .inr 2, .inl 0)), 0, 0, ([((-1), 3), ((-2147483648), 2147483647), ((-2147483648), 2147483647)], []), [], [])])
set_option maxRecDepth 100000 in
noncomputable def sz_ud234 : List sy_Cut := []
set_option maxRecDepth 100000 in
noncomputable def sz_hd234_0_0 : List sy_Hn := [(0, 31, 0, 0, 0, 0, [], [], []),
  (0, 31, 0, 0, 0, 0, [], [], []),
  (27, 1, 0, 0, 0, 0, [], [], []),
  (0, 31, 0, 0, 0, 0, [], [], []),
  (0, 31, 0, 0, 0, 0, [], [], []),
  (0, 31, 0, 0, 0, 0, [], [], []),
  (0, 1, 0, 0, 1, 0, [], [], []),
  (0, 31, 0, 0, 0, 0, [], [], []),
  (0, 31, 0, 0, 0, 0, [], [], []),
  (8, 1, 1, 0, 0, 0, [], [], []),
  (0, 31, 0, 0, 0, 0, [], [], []),
  (0, 31, 0, 0, 0, 0, [], [], []),
  (0, 1, 0, 0, 2, 0, [], [], []),
  (0, 31, 0, 0, 0, 0, [], [], []),
  (0, 31, 0, 0, 0, 0, [], [], []),
  (8, 1, 1, 0, 0, 0, [], [], []),
  (0, 31, 0, 0, 0, 0, [], [], []),
  (0, 1, 1, 0, 1, 0, [], [], []),
  (0, 31, 0, 0, 0, 0, [], [], []),
  (32, 4, 245, 12, 0, 0, [], [], []),
  (0, 4, 245, 89, 0, 0, [], [], []),
  (0, 5, 26, 0, 0, 0, [], [], []),
  (0, 7, 0, 0, 0, 0, [([1], [(1, [2]), (1, [5]), (1, [3]), (1, [0])])], [], []),
  (0, 3, 6, 0, 0, 1, [([], [(1, [0]), (1, [1])]), ([6], [(1, [0]), (1, [2])])], [], []),
  (9, 1, 6, 0, 0, 0, [], [], []),
  (0, 31, 0, 0, 0, 0, [], [], []),
  (0, 31, 0, 0, 0, 0, [], [], []),
  (0, 31, 0, 0, 0, 0, [], [], []),
  (0, 31, 0, 0, 0, 0, [], [], []),
  (8, 1, 1, 0, 0, 0, [], [], []),
  (0, 31, 0, 0, 0, 0, [], [], []),
  (0, 1, 1, 0, 1, 0, [], [], []),
  (0, 31, 0, 0, 0, 0, [], [], []),
  (0, 1, 1, 0, 2, 0, [], [], []),
  (32, 4, 245, 12, 0, 0, [], [], []),
  (0, 4, 245, 89, 0, 0, [], [], []),
  (0, 4, 245, 166, 0, 0, [], [], []),
  (0, 5, 35, 0, 0, 0, [], [], []),
  (0, 7, 0, 0, 0, 0, [([1], [(1, [2]), (1, [5]), (1, [3]), (1, [0])])], [], []),
  (0, 3, 6, 0, 0, 2, [([], [(1, [0]), (1, [1])]), ([6], [(1, [0]), (1, [2])])], [], []),
  (9, 1, 6, 0, 0, 0, [], [], []),
  (0, 31, 0, 0, 0, 0, [], [], []),
  (0, 1, 6, 0, 1, 0, [], [], []),
  (0, 31, 0, 0, 0, 0, [], [], []),
  (0, 31, 0, 0, 0, 0, [], [], []),
  (32, 4, 245, 12, 0, 0, [], [], []),
  (0, 4, 245, 89, 0, 0, [], [], []),
  (0, 4, 245, 166, 0, 0, [], [], []),
  (0, 5, 35, 0, 0, 0, [], [], []),
  (0, 7, 0, 0, 0, 0, [([1], [(1, [2]), (1, [5]), (1, [3]), (1, [0])])], [], []),
  (0, 3, 6, 0, 0, 2, [([], [(1, [0]), (1, [1])]), ([6], [(1, [0]), (1, [2])])], [], []),
  (9, 1, 6, 0, 0, 0, [], [], []),
  (17, 4, 245, 66, 0, 0, [], [], []),
  (0, 4, 245, 143, 0, 0, [], [], []),
  (0, 5, 17, 0, 0, 0, [], [], []),
  (0, 4, 245, 220, 0, 0, [], [], []),
  (0, 5, 26, 0, 0, 0, [], [], []),
  (0, 5, 26, 2, 0, 0, [], [], []),
  (0, 5, 26, 1, 0, 0, [], [], []),
  (0, 5, 35, 1, 0, 0, [], [], []),
  (0, 7, 0, 0, 0, 0, [([1], [(1, [2]), (1, [10]), (1, [8]), (1, [0])])], [], []),
  (0, 7, 0, 0, 0, 0, [([6], [(1, [2]), (1, [0])])], [], []),
  (0, 7, 0, 0, 0, 0, [([6], [(1, [2]), (1, [1])])], [], []),
  (0, 3, 7, 0, 0, 0, [([], [(1, [0]), (1, [1])]), ([7], [(1, [0]), (1, [2])])], [], []),
  (0, 31, 0, 0, 0, 0, [], [], []),
  (0, 5, 35, 1, 0, 0, [], [], []),
  (0, 7, 0, 0, 0, 0, [([1], [(1, [2]), (1, [10]), (1, [8]), (1, [0])])], [], []),
  (0, 7, 0, 0, 0, 0, [([6], [(1, [2]), (1, [0])])], [], []),
  (0, 7, 0, 0, 0, 0, [([6], [(1, [2]), (1, [1])])], [], []),
  (0, 3, 7, 0, 0, 0, [([], [(1, [0]), (1, [1])]), ([7], [(1, [0]), (1, [2])])], [], []),
  (0, 31, 0, 0, 0, 0, [], [], []),
  (0, 5, 35, 1, 0, 0, [], [], []),
  (0, 7, 0, 0, 0, 0, [([1], [(1, [2]), (1, [10]), (1, [8]), (1, [0])])], [], []),
  (0, 7, 0, 0, 0, 0, [([6], [(1, [2]), (1, [0])])], [], []),
  (0, 7, 0, 0, 0, 0, [([6], [(1, [2]), (1, [1])])], [], []),
  (0, 3, 7, 0, 0, 0, [([], [(1, [0]), (1, [1])]), ([7], [(1, [0]), (1, [2])])], [], []),
  (0, 31, 0, 0, 0, 0, [], [], []),
  (0, 3, 7, 0, 0, 0, [([], [(1, [0]), (1, [1])]), ([7], [(1, [0]), (1, [2])])], [], []),
  (0, 31, 0, 0, 0, 0, [], [], []),
  (0, 5, 26, 1, 0, 0, [], [], []),
  (0, 5, 35, 1, 0, 0, [], [], []),
  (0, 7, 0, 0, 0, 0, [([1], [(1, [2]), (1, [10]), (1, [8]), (1, [0])])], [], []),
  (0, 7, 0, 0, 0, 0, [([6], [(1, [2]), (1, [0])])], [], []),
  (0, 7, 0, 0, 0, 0, [([6], [(1, [2]), (1, [1])])], [], []),
  (0, 3, 7, 0, 0, 0, [([], [(1, [0]), (1, [1])]), ([7], [(1, [0]), (1, [2])])], [], []),
  (0, 31, 0, 0, 0, 0, [], [], []),
  (0, 5, 35, 1, 0, 0, [], [], []),
  (0, 7, 0, 0, 0, 0, [([1], [(1, [2]), (1, [10]), (1, [8]), (1, [0])])], [], []),
  (0, 7, 0, 0, 0, 0, [([6], [(1, [2]), (1, [0])])], [], []),
  (0, 7, 0, 0, 0, 0, [([6], [(1, [2]), (1, [1])])], [], []),
  (0, 3, 7, 0, 0, 0, [([], [(1, [0]), (1, [1])]), ([7], [(1, [0]), (1, [2])])], [], []),
  (0, 31, 0, 0, 0, 0, [], [], []),
  (0, 7, 0, 0, 0, 0, [([], [(1, [0]), (1, [1])])], [], []),
  (0, 3, 7, 0, 0, 0, [([], [(1, [0]), (1, [1])]), ([7], [(1, [0]), (1, [2])])], [], []),
  (0, 31, 0, 0, 0, 0, [], [], []),
  (0, 7, 0, 0, 0, 0, [([9], [(1, [2]), (1, [1])])], [], []),
  (0, 5, 26, 1, 0, 0, [], [], []),
  (0, 5, 35, 1, 0, 0, [], [], []),
  (0, 7, 0, 0, 0, 0, [([1], [(1, [2]), (1, [10]), (1, [8]), (1, [0])])], [], []),
  (0, 7, 0, 0, 0, 0, [([6], [(1, [2]), (1, [0])])], [], []),
  (0, 7, 0, 0, 0, 0, [([6], [(1, [2]), (1, [1])])], [], []),
  (0, 3, 7, 0, 0, 0, [([], [(1, [0]), (1, [1])]), ([7], [(1, [0]), (1, [2])])], [], []),
  (0, 31, 0, 0, 0, 0, [], [], []),
  (0, 5, 35, 1, 0, 0, [], [], []),
  (0, 7, 0, 0, 0, 0, [([1], [(1, [2]), (1, [10]), (1, [8]), (1, [0])])], [], []),
  (0, 7, 0, 0, 0, 0, [([6], [(1, [2]), (1, [0])])], [], []),
  (0, 7, 0, 0, 0, 0, [([6], [(1, [2]), (1, [1])])], [], []),
  (0, 3, 7, 0, 0, 0, [([], [(1, [0]), (1, [1])]), ([7], [(1, [0]), (1, [2])])], [], []),
  (0, 31, 0, 0, 0, 0, [], [], []),
  (0, 5, 35, 1, 0, 0, [], [], []),
  (0, 7, 0, 0, 0, 0, [([1], [(1, [2]), (1, [10]), (1, [8]), (1, [0])])], [], []),
  (0, 7, 0, 0, 0, 0, [([6], [(1, [2]), (1, [0])])], [], []),
  (0, 7, 0, 0, 0, 0, [([6], [(1, [2]), (1, [1])])], [], []),
  (0, 3, 7, 0, 0, 0, [([], [(1, [0]), (1, [1])]), ([7], [(1, [0]), (1, [2])])], [], []),
  (0, 31, 0, 0, 0, 0, [], [], []),
  (0, 3, 7, 0, 0, 0, [([], [(1, [0]), (1, [1])]), ([7], [(1, [0]), (1, [2])])], [], []),
  (0, 31, 0, 0, 0, 0, [], [], []),
  (0, 5, 26, 2, 0, 0, [], [], []),
  (0, 5, 26, 1, 0, 0, [], [], []),
  (0, 5, 35, 1, 0, 0, [], [], []),
  (0, 7, 0, 0, 0, 0, [([1], [(1, [2]), (1, [10]), (1, [8]), (1, [0])])], [], []),
  (0, 7, 0, 0, 0, 0, [([6], [(1, [2]), (1, [0])])], [], []),
  (0, 7, 0, 0, 0, 0, [([6], [(1, [2]), (1, [1])])], [], []),
  (0, 3, 7, 0, 0, 0, [([], [(1, [0]), (1, [1])]), ([7], [(1, [0]), (1, [2])])], [], []),
  (0, 31, 0, 0, 0, 0, [], [], []),
  (0, 7, 0, 0, 0, 0, [([], [(1, [0]), (1, [2])])], [], []),
  (0, 5, 35, 1, 0, 0, [], [], []),
  (0, 7, 0, 0, 0, 0, [([1], [(1, [2]), (1, [10]), (1, [8]), (1, [0])])], [], []),
  (0, 7, 0, 0, 0, 0, [([6], [(1, [2]), (1, [0])])], [], []),
  (0, 7, 0, 0, 0, 0, [([6], [(1, [2]), (1, [1])])], [], []),
  (0, 3, 7, 0, 0, 0, [([], [(1, [0]), (1, [1])]), ([7], [(1, [0]), (1, [2])])], [], []),
  (0, 31, 0, 0, 0, 0, [], [], []),
  (0, 3, 7, 0, 0, 0, [([], [(1, [0]), (1, [1])]), ([7], [(1, [0]), (1, [2])])], [], []),
  (0, 31, 0, 0, 0, 0, [], [], []),
  (0, 5, 26, 1, 0, 0, [], [], []),
  (0, 5, 35, 1, 0, 0, [], [], []),
  (0, 7, 0, 0, 0, 0, [([1], [(1, [2]), (1, [10]), (1, [8]), (1, [0])])], [], []),
  (0, 7, 0, 0, 0, 0, [([6], [(1, [2]), (1, [0])])], [], []),
  (0, 7, 0, 0, 0, 0, [([6], [(1, [2]), (1, [1])])], [], []),
  (0, 3, 7, 0, 0, 0, [([], [(1, [0]), (1, [1])]), ([7], [(1, [0]), (1, [2])])], [], []),
  (0, 31, 0, 0, 0, 0, [], [], []),
  (0, 7, 0, 0, 0, 0, [([], [(1, [0]), (1, [2])])], [], []),
  (0, 7, 0, 0, 0, 0, [([], [(1, [0]), (1, [1])])], [], []),
  (0, 3, 7, 0, 0, 0, [([], [(1, [0]), (1, [1])]), ([7], [(1, [0]), (1, [2])])], [], []),
  (0, 31, 0, 0, 0, 0, [], [], []),
  (0, 7, 0, 0, 0, 0, [([9], [(1, [2]), (1, [1])])], [], []),
  (0, 5, 26, 1, 0, 0, [], [], []),
  (0, 5, 35, 1, 0, 0, [], [], []),
  (0, 7, 0, 0, 0, 0, [([1], [(1, [2]), (1, [10]), (1, [8]), (1, [0])])], [], []),
  (0, 7, 0, 0, 0, 0, [([6], [(1, [2]), (1, [0])])], [], [])]
set_option maxRecDepth 100000 in
noncomputable def sz_hd234_0_1 : List sy_Hn := [(0, 7, 0, 0, 0, 0, [([6], [(1, [2]), (1, [1])])], [], []),
  (0, 3, 7, 0, 0, 0, [([], [(1, [0]), (1, [1])]), ([7], [(1, [0]), (1, [2])])], [], []),
  (0, 31, 0, 0, 0, 0, [], [], []),
  (0, 7, 0, 0, 0, 0, [([], [(1, [0]), (1, [2])])], [], []),
  (0, 5, 35, 1, 0, 0, [], [], []),
  (0, 7, 0, 0, 0, 0, [([1], [(1, [2]), (1, [10]), (1, [8]), (1, [0])])], [], []),
  (0, 7, 0, 0, 0, 0, [([6], [(1, [2]), (1, [0])])], [], []),
  (0, 7, 0, 0, 0, 0, [([6], [(1, [2]), (1, [1])])], [], []),
  (0, 3, 7, 0, 0, 0, [([], [(1, [0]), (1, [1])]), ([7], [(1, [0]), (1, [2])])], [], []),
  (0, 31, 0, 0, 0, 0, [], [], []),
  (0, 3, 7, 0, 0, 0, [([], [(1, [0]), (1, [1])]), ([7], [(1, [0]), (1, [2])])], [], []),
  (0, 31, 0, 0, 0, 0, [], [], []),
  (0, 4, 245, 220, 0, 0, [], [], []),
  (0, 5, 26, 0, 0, 0, [], [], []),
  (0, 5, 26, 2, 0, 0, [], [], []),
  (0, 5, 26, 1, 0, 0, [], [], []),
  (0, 5, 35, 1, 0, 0, [], [], []),
  (0, 7, 0, 0, 0, 0, [([1], [(1, [2]), (1, [10]), (1, [8]), (1, [0])])], [], []),
  (0, 7, 0, 0, 0, 0, [([6], [(1, [2]), (1, [0])])], [], []),
  (0, 7, 0, 0, 0, 0, [([6], [(1, [2]), (1, [1])])], [], []),
  (0, 3, 7, 0, 0, 0, [([], [(1, [0]), (1, [1])]), ([7], [(1, [0]), (1, [2])])], [], []),
  (0, 31, 0, 0, 0, 0, [], [], []),
  (0, 5, 35, 1, 0, 0, [], [], []),
  (0, 7, 0, 0, 0, 0, [([1], [(1, [2]), (1, [10]), (1, [8]), (1, [0])])], [], []),
  (0, 7, 0, 0, 0, 0, [([6], [(1, [2]), (1, [0])])], [], []),
  (0, 7, 0, 0, 0, 0, [([6], [(1, [2]), (1, [1])])], [], []),
  (0, 3, 7, 0, 0, 0, [([], [(1, [0]), (1, [1])]), ([7], [(1, [0]), (1, [2])])], [], []),
  (0, 31, 0, 0, 0, 0, [], [], []),
  (0, 5, 35, 1, 0, 0, [], [], []),
  (0, 7, 0, 0, 0, 0, [([1], [(1, [2]), (1, [10]), (1, [8]), (1, [0])])], [], []),
  (0, 7, 0, 0, 0, 0, [([6], [(1, [2]), (1, [0])])], [], []),
  (0, 7, 0, 0, 0, 0, [([6], [(1, [2]), (1, [1])])], [], []),
  (0, 3, 7, 0, 0, 0, [([], [(1, [0]), (1, [1])]), ([7], [(1, [0]), (1, [2])])], [], []),
  (0, 31, 0, 0, 0, 0, [], [], []),
  (0, 3, 7, 0, 0, 0, [([], [(1, [0]), (1, [1])]), ([7], [(1, [0]), (1, [2])])], [], []),
  (0, 31, 0, 0, 0, 0, [], [], []),
  (0, 5, 26, 1, 0, 0, [], [], []),
  (0, 5, 35, 1, 0, 0, [], [], []),
  (0, 7, 0, 0, 0, 0, [([1], [(1, [2]), (1, [10]), (1, [8]), (1, [0])])], [], []),
  (0, 7, 0, 0, 0, 0, [([6], [(1, [2]), (1, [0])])], [], []),
  (0, 7, 0, 0, 0, 0, [([6], [(1, [2]), (1, [1])])], [], []),
  (0, 3, 7, 0, 0, 0, [([], [(1, [0]), (1, [1])]), ([7], [(1, [0]), (1, [2])])], [], []),
  (0, 31, 0, 0, 0, 0, [], [], []),
  (0, 5, 35, 1, 0, 0, [], [], []),
  (0, 7, 0, 0, 0, 0, [([1], [(1, [2]), (1, [10]), (1, [8]), (1, [0])])], [], []),
  (0, 7, 0, 0, 0, 0, [([6], [(1, [2]), (1, [0])])], [], []),
  (0, 7, 0, 0, 0, 0, [([6], [(1, [2]), (1, [1])])], [], []),
  (0, 3, 7, 0, 0, 0, [([], [(1, [0]), (1, [1])]), ([7], [(1, [0]), (1, [2])])], [], []),
  (0, 31, 0, 0, 0, 0, [], [], []),
  (0, 7, 0, 0, 0, 0, [([], [(1, [0]), (1, [1])])], [], []),
  (0, 3, 7, 0, 0, 0, [([], [(1, [0]), (1, [1])]), ([7], [(1, [0]), (1, [2])])], [], []),
  (0, 31, 0, 0, 0, 0, [], [], []),
  (0, 7, 0, 0, 0, 0, [([9], [(1, [2]), (1, [1])])], [], []),
  (0, 5, 26, 1, 0, 0, [], [], []),
  (0, 5, 35, 1, 0, 0, [], [], []),
  (0, 7, 0, 0, 0, 0, [([1], [(1, [2]), (1, [10]), (1, [8]), (1, [0])])], [], []),
  (0, 7, 0, 0, 0, 0, [([6], [(1, [2]), (1, [0])])], [], []),
  (0, 7, 0, 0, 0, 0, [([6], [(1, [2]), (1, [1])])], [], []),
  (0, 3, 7, 0, 0, 0, [([], [(1, [0]), (1, [1])]), ([7], [(1, [0]), (1, [2])])], [], []),
  (0, 31, 0, 0, 0, 0, [], [], []),
  (0, 5, 35, 1, 0, 0, [], [], []),
  (0, 7, 0, 0, 0, 0, [([1], [(1, [2]), (1, [10]), (1, [8]), (1, [0])])], [], []),
  (0, 7, 0, 0, 0, 0, [([6], [(1, [2]), (1, [0])])], [], []),
  (0, 7, 0, 0, 0, 0, [([6], [(1, [2]), (1, [1])])], [], []),
  (0, 3, 7, 0, 0, 0, [([], [(1, [0]), (1, [1])]), ([7], [(1, [0]), (1, [2])])], [], []),
  (0, 31, 0, 0, 0, 0, [], [], []),
  (0, 5, 35, 1, 0, 0, [], [], []),
  (0, 7, 0, 0, 0, 0, [([1], [(1, [2]), (1, [10]), (1, [8]), (1, [0])])], [], []),
  (0, 7, 0, 0, 0, 0, [([6], [(1, [2]), (1, [0])])], [], []),
  (0, 7, 0, 0, 0, 0, [([6], [(1, [2]), (1, [1])])], [], []),
  (0, 3, 7, 0, 0, 0, [([], [(1, [0]), (1, [1])]), ([7], [(1, [0]), (1, [2])])], [], []),
  (0, 31, 0, 0, 0, 0, [], [], []),
  (0, 3, 7, 0, 0, 0, [([], [(1, [0]), (1, [1])]), ([7], [(1, [0]), (1, [2])])], [], []),
  (0, 31, 0, 0, 0, 0, [], [], []),
  (0, 5, 26, 2, 0, 0, [], [], []),
  (0, 5, 26, 1, 0, 0, [], [], []),
  (0, 5, 35, 1, 0, 0, [], [], []),
  (0, 7, 0, 0, 0, 0, [([1], [(1, [2]), (1, [10]), (1, [8]), (1, [0])])], [], []),
  (0, 7, 0, 0, 0, 0, [([6], [(1, [2]), (1, [0])])], [], []),
  (0, 7, 0, 0, 0, 0, [([6], [(1, [2]), (1, [1])])], [], []),
  (0, 3, 7, 0, 0, 0, [([], [(1, [0]), (1, [1])]), ([7], [(1, [0]), (1, [2])])], [], []),
  (0, 31, 0, 0, 0, 0, [], [], []),
  (0, 7, 0, 0, 0, 0, [([], [(1, [0]), (1, [2])])], [], []),
  (0, 5, 35, 1, 0, 0, [], [], []),
  (0, 7, 0, 0, 0, 0, [([1], [(1, [2]), (1, [10]), (1, [8]), (1, [0])])], [], []),
  (0, 7, 0, 0, 0, 0, [([6], [(1, [2]), (1, [0])])], [], []),
  (0, 7, 0, 0, 0, 0, [([6], [(1, [2]), (1, [1])])], [], []),
  (0, 3, 7, 0, 0, 0, [([], [(1, [0]), (1, [1])]), ([7], [(1, [0]), (1, [2])])], [], []),
  (0, 31, 0, 0, 0, 0, [], [], []),
  (0, 3, 7, 0, 0, 0, [([], [(1, [0]), (1, [1])]), ([7], [(1, [0]), (1, [2])])], [], []),
  (0, 31, 0, 0, 0, 0, [], [], []),
  (0, 5, 26, 1, 0, 0, [], [], []),
  (0, 5, 35, 1, 0, 0, [], [], []),
  (0, 7, 0, 0, 0, 0, [([1], [(1, [2]), (1, [10]), (1, [8]), (1, [0])])], [], []),
  (0, 7, 0, 0, 0, 0, [([6], [(1, [2]), (1, [0])])], [], []),
  (0, 7, 0, 0, 0, 0, [([6], [(1, [2]), (1, [1])])], [], []),
  (0, 3, 7, 0, 0, 0, [([], [(1, [0]), (1, [1])]), ([7], [(1, [0]), (1, [2])])], [], []),
  (0, 31, 0, 0, 0, 0, [], [], []),
  (0, 7, 0, 0, 0, 0, [([], [(1, [0]), (1, [2])])], [], []),
  (0, 7, 0, 0, 0, 0, [([], [(1, [0]), (1, [1])])], [], []),
  (0, 3, 7, 0, 0, 0, [([], [(1, [0]), (1, [1])]), ([7], [(1, [0]), (1, [2])])], [], []),
  (0, 31, 0, 0, 0, 0, [], [], []),
  (0, 7, 0, 0, 0, 0, [([9], [(1, [2]), (1, [1])])], [], []),
  (0, 5, 26, 1, 0, 0, [], [], []),
  (0, 5, 35, 1, 0, 0, [], [], []),
  (0, 7, 0, 0, 0, 0, [([1], [(1, [2]), (1, [10]), (1, [8]), (1, [0])])], [], []),
  (0, 7, 0, 0, 0, 0, [([6], [(1, [2]), (1, [0])])], [], []),
  (0, 7, 0, 0, 0, 0, [([6], [(1, [2]), (1, [1])])], [], []),
  (0, 3, 7, 0, 0, 0, [([], [(1, [0]), (1, [1])]), ([7], [(1, [0]), (1, [2])])], [], []),
  (0, 31, 0, 0, 0, 0, [], [], []),
  (0, 7, 0, 0, 0, 0, [([], [(1, [0]), (1, [2])])], [], []),
  (0, 5, 35, 1, 0, 0, [], [], []),
  (0, 7, 0, 0, 0, 0, [([1], [(1, [2]), (1, [10]), (1, [8]), (1, [0])])], [], []),
  (0, 7, 0, 0, 0, 0, [([6], [(1, [2]), (1, [0])])], [], []),
  (0, 7, 0, 0, 0, 0, [([6], [(1, [2]), (1, [1])])], [], []),
  (0, 3, 7, 0, 0, 0, [([], [(1, [0]), (1, [1])]), ([7], [(1, [0]), (1, [2])])], [], []),
  (0, 31, 0, 0, 0, 0, [], [], []),
  (0, 3, 7, 0, 0, 0, [([], [(1, [0]), (1, [1])]), ([7], [(1, [0]), (1, [2])])], [], []),
  (0, 31, 0, 0, 0, 0, [], [], []),
  (0, 1, 6, 0, 1, 0, [], [], []),
  (17, 4, 245, 143, 0, 0, [], [], []),
  (0, 5, 17, 0, 0, 0, [], [], []),
  (0, 4, 245, 220, 0, 0, [], [], []),
  (0, 5, 26, 0, 0, 0, [], [], []),
  (0, 5, 26, 2, 0, 0, [], [], []),
  (0, 5, 26, 1, 0, 0, [], [], []),
  (0, 5, 35, 2, 0, 0, [], [], []),
  (0, 7, 0, 0, 0, 0, [([1], [(1, [2]), (1, [10]), (1, [8]), (1, [0])])], [], []),
  (0, 7, 0, 0, 0, 0, [([6], [(1, [2]), (1, [0])])], [], []),
  (0, 7, 0, 0, 0, 0, [([6], [(1, [2]), (1, [1])])], [], []),
  (0, 3, 8, 0, 0, 0, [([], [(1, [0]), (1, [1])]), ([8], [(1, [0]), (1, [2])])], [], []),
  (0, 31, 0, 0, 0, 0, [], [], []),
  (0, 5, 35, 2, 0, 0, [], [], []),
  (0, 7, 0, 0, 0, 0, [([1], [(1, [2]), (1, [10]), (1, [8]), (1, [0])])], [], []),
  (0, 7, 0, 0, 0, 0, [([6], [(1, [2]), (1, [0])])], [], []),
  (0, 7, 0, 0, 0, 0, [([6], [(1, [2]), (1, [1])])], [], []),
  (0, 3, 8, 0, 0, 0, [([], [(1, [0]), (1, [1])]), ([8], [(1, [0]), (1, [2])])], [], []),
  (0, 31, 0, 0, 0, 0, [], [], []),
  (0, 5, 35, 2, 0, 0, [], [], []),
  (0, 7, 0, 0, 0, 0, [([1], [(1, [2]), (1, [10]), (1, [8]), (1, [0])])], [], []),
  (0, 7, 0, 0, 0, 0, [([6], [(1, [2]), (1, [0])])], [], []),
  (0, 7, 0, 0, 0, 0, [([6], [(1, [2]), (1, [1])])], [], []),
  (0, 3, 8, 0, 0, 0, [([], [(1, [0]), (1, [1])]), ([8], [(1, [0]), (1, [2])])], [], []),
  (0, 31, 0, 0, 0, 0, [], [], []),
  (0, 5, 35, 2, 0, 0, [], [], []),
  (0, 7, 0, 0, 0, 0, [([1], [(1, [2]), (1, [10]), (1, [8]), (1, [0])])], [], []),
  (0, 7, 0, 0, 0, 0, [([6], [(1, [2]), (1, [0])])], [], []),
  (0, 7, 0, 0, 0, 0, [([6], [(1, [2]), (1, [1])])], [], []),
  (0, 3, 8, 0, 0, 0, [([], [(1, [0]), (1, [1])]), ([8], [(1, [0]), (1, [2])])], [], []),
  (0, 31, 0, 0, 0, 0, [], [], [])]
set_option maxRecDepth 100000 in
noncomputable def sz_hd234_0_2 : List sy_Hn := [(0, 5, 26, 1, 0, 0, [], [], []),
  (0, 5, 35, 2, 0, 0, [], [], []),
  (0, 7, 0, 0, 0, 0, [([1], [(1, [2]), (1, [10]), (1, [8]), (1, [0])])], [], []),
  (0, 7, 0, 0, 0, 0, [([6], [(1, [2]), (1, [0])])], [], []),
  (0, 7, 0, 0, 0, 0, [([6], [(1, [2]), (1, [1])])], [], []),
  (0, 3, 8, 0, 0, 0, [([], [(1, [0]), (1, [1])]), ([8], [(1, [0]), (1, [2])])], [], []),
  (0, 31, 0, 0, 0, 0, [], [], []),
  (0, 5, 35, 2, 0, 0, [], [], []),
  (0, 7, 0, 0, 0, 0, [([1], [(1, [2]), (1, [10]), (1, [8]), (1, [0])])], [], []),
  (0, 7, 0, 0, 0, 0, [([6], [(1, [2]), (1, [0])])], [], []),
  (0, 7, 0, 0, 0, 0, [([6], [(1, [2]), (1, [1])])], [], []),
  (0, 3, 8, 0, 0, 0, [([], [(1, [0]), (1, [1])]), ([8], [(1, [0]), (1, [2])])], [], []),
  (0, 31, 0, 0, 0, 0, [], [], []),
  (0, 7, 0, 0, 0, 0, [([], [(1, [0]), (1, [1])])], [], []),
  (0, 5, 35, 2, 0, 0, [], [], []),
  (0, 7, 0, 0, 0, 0, [([1], [(1, [2]), (1, [10]), (1, [8]), (1, [0])])], [], []),
  (0, 7, 0, 0, 0, 0, [([6], [(1, [2]), (1, [0])])], [], []),
  (0, 7, 0, 0, 0, 0, [([6], [(1, [2]), (1, [1])])], [], []),
  (0, 3, 8, 0, 0, 0, [([], [(1, [0]), (1, [1])]), ([8], [(1, [0]), (1, [2])])], [], []),
  (0, 31, 0, 0, 0, 0, [], [], []),
  (0, 7, 0, 0, 0, 0, [([9], [(1, [2]), (1, [1])])], [], []),
  (0, 3, 8, 0, 0, 0, [([], [(1, [0]), (1, [1])]), ([8], [(1, [0]), (1, [2])])], [], []),
  (0, 31, 0, 0, 0, 0, [], [], []),
  (0, 5, 26, 2, 0, 0, [], [], []),
  (0, 5, 26, 1, 0, 0, [], [], []),
  (0, 5, 35, 2, 0, 0, [], [], []),
  (0, 7, 0, 0, 0, 0, [([1], [(1, [2]), (1, [10]), (1, [8]), (1, [0])])], [], []),
  (0, 7, 0, 0, 0, 0, [([6], [(1, [2]), (1, [0])])], [], []),
  (0, 7, 0, 0, 0, 0, [([6], [(1, [2]), (1, [1])])], [], []),
  (0, 3, 8, 0, 0, 0, [([], [(1, [0]), (1, [1])]), ([8], [(1, [0]), (1, [2])])], [], []),
  (0, 31, 0, 0, 0, 0, [], [], []),
  (0, 7, 0, 0, 0, 0, [([], [(1, [0]), (1, [2])])], [], []),
  (0, 5, 35, 2, 0, 0, [], [], []),
  (0, 7, 0, 0, 0, 0, [([1], [(1, [2]), (1, [10]), (1, [8]), (1, [0])])], [], []),
  (0, 7, 0, 0, 0, 0, [([6], [(1, [2]), (1, [0])])], [], []),
  (0, 7, 0, 0, 0, 0, [([6], [(1, [2]), (1, [1])])], [], []),
  (0, 3, 8, 0, 0, 0, [([], [(1, [0]), (1, [1])]), ([8], [(1, [0]), (1, [2])])], [], []),
  (0, 31, 0, 0, 0, 0, [], [], []),
  (0, 5, 35, 2, 0, 0, [], [], []),
  (0, 7, 0, 0, 0, 0, [([1], [(1, [2]), (1, [10]), (1, [8]), (1, [0])])], [], []),
  (0, 7, 0, 0, 0, 0, [([6], [(1, [2]), (1, [0])])], [], []),
  (0, 7, 0, 0, 0, 0, [([6], [(1, [2]), (1, [1])])], [], []),
  (0, 3, 8, 0, 0, 0, [([], [(1, [0]), (1, [1])]), ([8], [(1, [0]), (1, [2])])], [], []),
  (0, 31, 0, 0, 0, 0, [], [], []),
  (0, 5, 26, 1, 0, 0, [], [], []),
  (0, 5, 35, 2, 0, 0, [], [], []),
  (0, 7, 0, 0, 0, 0, [([1], [(1, [2]), (1, [10]), (1, [8]), (1, [0])])], [], []),
  (0, 7, 0, 0, 0, 0, [([6], [(1, [2]), (1, [0])])], [], []),
  (0, 7, 0, 0, 0, 0, [([6], [(1, [2]), (1, [1])])], [], []),
  (0, 3, 8, 0, 0, 0, [([], [(1, [0]), (1, [1])]), ([8], [(1, [0]), (1, [2])])], [], []),
  (0, 31, 0, 0, 0, 0, [], [], []),
  (0, 7, 0, 0, 0, 0, [([], [(1, [0]), (1, [2])])], [], []),
  (0, 7, 0, 0, 0, 0, [([], [(1, [0]), (1, [1])])], [], []),
  (0, 5, 35, 2, 0, 0, [], [], []),
  (0, 7, 0, 0, 0, 0, [([1], [(1, [2]), (1, [10]), (1, [8]), (1, [0])])], [], []),
  (0, 7, 0, 0, 0, 0, [([6], [(1, [2]), (1, [0])])], [], []),
  (0, 7, 0, 0, 0, 0, [([6], [(1, [2]), (1, [1])])], [], []),
  (0, 3, 8, 0, 0, 0, [([], [(1, [0]), (1, [1])]), ([8], [(1, [0]), (1, [2])])], [], []),
  (0, 31, 0, 0, 0, 0, [], [], []),
  (0, 7, 0, 0, 0, 0, [([9], [(1, [2]), (1, [1])])], [], []),
  (0, 3, 8, 0, 0, 0, [([], [(1, [0]), (1, [1])]), ([8], [(1, [0]), (1, [2])])], [], []),
  (0, 31, 0, 0, 0, 0, [], [], []),
  (0, 3, 8, 0, 0, 0, [([], [(1, [0]), (1, [1])]), ([8], [(1, [0]), (1, [2])])], [], []),
  (0, 31, 0, 0, 0, 0, [], [], []),
  (17, 4, 245, 220, 0, 0, [], [], []),
  (0, 5, 26, 0, 0, 0, [], [], []),
  (0, 5, 26, 2, 0, 0, [], [], []),
  (0, 5, 26, 1, 0, 0, [], [], []),
  (0, 5, 35, 4, 0, 0, [], [], []),
  (0, 7, 0, 0, 0, 0, [([1], [(1, [2]), (1, [9]), (1, [7]), (1, [0])])], [], []),
  (0, 7, 0, 0, 0, 0, [([6], [(1, [2]), (1, [0])])], [], []),
  (0, 7, 0, 0, 0, 0, [([6], [(1, [2]), (1, [1])])], [], []),
  (0, 3, 9, 0, 0, 1, [([], [(1, [0]), (1, [1])]), ([9], [(1, [0]), (1, [2])])], [], []),
  (9, 1, 9, 0, 0, 0, [], [], []),
  (0, 31, 0, 0, 0, 0, [], [], []),
  (0, 31, 0, 0, 0, 0, [], [], []),
  (0, 5, 35, 4, 0, 0, [], [], []),
  (0, 7, 0, 0, 0, 0, [([1], [(1, [2]), (1, [9]), (1, [7]), (1, [0])])], [], []),
  (0, 7, 0, 0, 0, 0, [([6], [(1, [2]), (1, [0])])], [], []),
  (0, 7, 0, 0, 0, 0, [([6], [(1, [2]), (1, [1])])], [], []),
  (0, 7, 0, 0, 0, 0, [([], [(1, [0]), (1, [1])])], [], []),
  (0, 3, 9, 0, 0, 1, [([], [(1, [0]), (1, [1])]), ([9], [(1, [0]), (1, [2])])], [], []),
  (9, 1, 9, 0, 0, 0, [], [], []),
  (0, 31, 0, 0, 0, 0, [], [], []),
  (0, 31, 0, 0, 0, 0, [], [], []),
  (0, 5, 35, 4, 0, 0, [], [], []),
  (0, 7, 0, 0, 0, 0, [([1], [(1, [2]), (1, [9]), (1, [7]), (1, [0])])], [], []),
  (0, 7, 0, 0, 0, 0, [([6], [(1, [2]), (1, [0])])], [], []),
  (0, 7, 0, 0, 0, 0, [([6], [(1, [2]), (1, [1])])], [], []),
  (0, 3, 9, 0, 0, 1, [([], [(1, [0]), (1, [1])]), ([9], [(1, [0]), (1, [2])])], [], []),
  (9, 1, 9, 0, 0, 0, [], [], []),
  (0, 31, 0, 0, 0, 0, [], [], []),
  (0, 31, 0, 0, 0, 0, [], [], []),
  (0, 5, 26, 1, 0, 0, [], [], []),
  (0, 5, 35, 4, 0, 0, [], [], []),
  (0, 7, 0, 0, 0, 0, [([1], [(1, [2]), (1, [9]), (1, [7]), (1, [0])])], [], []),
  (0, 7, 0, 0, 0, 0, [([6], [(1, [2]), (1, [0])])], [], []),
  (0, 7, 0, 0, 0, 0, [([6], [(1, [2]), (1, [1])])], [], []),
  (0, 3, 9, 0, 0, 1, [([], [(1, [0]), (1, [1])]), ([9], [(1, [0]), (1, [2])])], [], []),
  (9, 1, 9, 0, 0, 0, [], [], []),
  (0, 31, 0, 0, 0, 0, [], [], []),
  (0, 31, 0, 0, 0, 0, [], [], []),
  (0, 5, 35, 4, 0, 0, [], [], []),
  (0, 7, 0, 0, 0, 0, [([1], [(1, [2]), (1, [9]), (1, [7]), (1, [0])])], [], []),
  (0, 7, 0, 0, 0, 0, [([6], [(1, [2]), (1, [0])])], [], []),
  (0, 7, 0, 0, 0, 0, [([6], [(1, [2]), (1, [1])])], [], []),
  (0, 7, 0, 0, 0, 0, [([], [(1, [0]), (1, [1])])], [], []),
  (0, 7, 0, 0, 0, 0, [([], [(1, [0]), (1, [1])])], [], []),
  (0, 5, 35, 4, 0, 0, [], [], []),
  (0, 7, 0, 0, 0, 0, [([1], [(1, [2]), (1, [9]), (1, [7]), (1, [0])])], [], []),
  (0, 7, 0, 0, 0, 0, [([6], [(1, [2]), (1, [0])])], [], []),
  (0, 7, 0, 0, 0, 0, [([6], [(1, [2]), (1, [1])])], [], []),
  (0, 3, 9, 0, 0, 1, [([], [(1, [0]), (1, [1])]), ([9], [(1, [0]), (1, [2])])], [], []),
  (9, 1, 9, 0, 0, 0, [], [], []),
  (0, 31, 0, 0, 0, 0, [], [], []),
  (0, 31, 0, 0, 0, 0, [], [], []),
  (0, 7, 0, 0, 0, 0, [([9], [(1, [2]), (1, [1])])], [], []),
  (0, 5, 26, 1, 0, 0, [], [], []),
  (0, 5, 35, 4, 0, 0, [], [], []),
  (0, 7, 0, 0, 0, 0, [([1], [(1, [2]), (1, [9]), (1, [7]), (1, [0])])], [], []),
  (0, 7, 0, 0, 0, 0, [([6], [(1, [2]), (1, [0])])], [], []),
  (0, 7, 0, 0, 0, 0, [([6], [(1, [2]), (1, [1])])], [], []),
  (0, 3, 9, 0, 0, 1, [([], [(1, [0]), (1, [1])]), ([9], [(1, [0]), (1, [2])])], [], []),
  (9, 1, 9, 0, 0, 0, [], [], []),
  (0, 31, 0, 0, 0, 0, [], [], []),
  (0, 31, 0, 0, 0, 0, [], [], []),
  (0, 5, 35, 4, 0, 0, [], [], []),
  (0, 7, 0, 0, 0, 0, [([1], [(1, [2]), (1, [9]), (1, [7]), (1, [0])])], [], []),
  (0, 7, 0, 0, 0, 0, [([6], [(1, [2]), (1, [0])])], [], []),
  (0, 7, 0, 0, 0, 0, [([6], [(1, [2]), (1, [1])])], [], []),
  (0, 7, 0, 0, 0, 0, [([], [(1, [0]), (1, [1])])], [], []),
  (0, 3, 9, 0, 0, 1, [([], [(1, [0]), (1, [1])]), ([9], [(1, [0]), (1, [2])])], [], []),
  (9, 1, 9, 0, 0, 0, [], [], []),
  (0, 31, 0, 0, 0, 0, [], [], []),
  (0, 31, 0, 0, 0, 0, [], [], []),
  (0, 5, 35, 4, 0, 0, [], [], []),
  (0, 7, 0, 0, 0, 0, [([1], [(1, [2]), (1, [9]), (1, [7]), (1, [0])])], [], []),
  (0, 7, 0, 0, 0, 0, [([6], [(1, [2]), (1, [0])])], [], []),
  (0, 7, 0, 0, 0, 0, [([6], [(1, [2]), (1, [1])])], [], []),
  (0, 3, 9, 0, 0, 1, [([], [(1, [0]), (1, [1])]), ([9], [(1, [0]), (1, [2])])], [], []),
  (9, 1, 9, 0, 0, 0, [], [], []),
  (0, 31, 0, 0, 0, 0, [], [], []),
  (0, 31, 0, 0, 0, 0, [], [], []),
  (0, 3, 9, 0, 0, 1, [([], [(1, [0]), (1, [1])]), ([9], [(1, [0]), (1, [2])])], [], []),
  (9, 1, 9, 0, 0, 0, [], [], []),
  (0, 31, 0, 0, 0, 0, [], [], []),
  (0, 31, 0, 0, 0, 0, [], [], [])]
noncomputable def sz_hd234_0 : List sy_Hn := sz_hd234_0_0 ++ (sz_hd234_0_1 ++ (sz_hd234_0_2))
set_option maxRecDepth 100000 in
theorem sz_sd234_0 : sy_seg sz_E (pv_T (sz_own false) sz_T) sz_RU [] sz_cd234 sz_ud234 ri_m_X11_whose 2847 none sz_hd234_0 = true := by decide +kernel
theorem sz_okd234 (xs : Nat → Value) (L : Nat) : sy_Cok (sz_env xs L) (pv_T (sz_own false) sz_T) sz_RU sz_cd234 := sy_chk_ok (CT := []) (CU := sz_ud234) (M := ri_m_X11_whose) (fun _ h => absurd h List.not_mem_nil) rfl rfl ⟨_, _, sz_sd234_0⟩ (fun _ h => absurd h List.not_mem_nil)

/-! X10_flow  -/
set_option maxRecDepth 100000 in
noncomputable def sz_cd235 : sy_Ct := (97, 7, 103, [(3, .inr 0, .inl 0), (0, .inr 0, .inl 0), (0, .inr 1, .inl 0)], ([((-2147483648), 2147483647), ((-2147483648), 2147483647)], []), [], [], [], [(.inl (some (0, .inr 2, .inl 0)), 0, 0, ([((-2147483648), 2147483647), ((-2147483648), 2147483647), ((-2147483648), 2147483647)], []), [], []), (.inr 0, 1, 6, ([((-2147483648), 2147483647), ((-2147483648), 2147483647)], []), [], []), (.inr 2, 1, 6, ([((-2147483648), 2147483647), ((-2147483648), 2147483647)], []), [], [])])
set_option maxRecDepth 100000 in
noncomputable def sz_ud235 : List sy_Cut := []
set_option maxRecDepth 100000 in
noncomputable def sz_hd235_0 : List sy_Hn := [(0, 31, 2, 0, 0, 0, [], [], []),
  (9, 1, 0, 0, 0, 0, [], [], []),
  (0, 31, 1, 0, 0, 0, [], [], []),
  (0, 31, 0, 0, 0, 0, [], [], []),
  (10, 3, 7, 0, 0, 19998, [([], [(1, [0]), (1, [3]), (1, [8])]), ([7], [(1, [0]), (1, [2])])], [], []),
  (4, 2, 0, 0, 0, 0, [([], [(1, [0]), (1, [7]), (1, [6]), (1, [9])])], [(1, [5]), ((-1), [7])], []),
  (1, 3, 10, 0, 0, 7, [([10], [(1, [0]), (1, [1])]), ([5, 8, 10], [(1, [0, 1]), (1, [0]), (1, [7]), (1, [11]), (1, [9, 3]), (1, [9]), (1, [4, 1]), (1, [4]), (1, [1])])], [], []),
  (7, 1, 11, 0, 6, 0, [], [], []),
  (0, 3, 10, 0, 0, 6, [([10], [(1, [0]), (1, [1])]), ([5, 7, 8, 9, 10, 11, 12], [(1, [0]), (1, [12]), (1, [18]), (1, [19]), (1, [0, 1]), (1, [12, 1])])], [], []),
  (0, 31, 0, 0, 0, 0, [], [], []),
  (0, 31, 0, 0, 0, 0, [], [], []),
  (0, 31, 0, 0, 0, 0, [], [], []),
  (0, 7, 0, 0, 0, 0, [([5, 7, 8, 9, 10, 11, 12], [(1, [5]), (1, [10]), (1, [12]), (1, [15]), (1, [20]), (1, [22]), (1, [5, 0]), (1, [10, 0]), (1, [20, 4])])], [], []),
  (0, 31, 0, 0, 0, 0, [], [], []),
  (0, 31, 0, 0, 0, 0, [], [], []),
  (0, 31, 1, 0, 0, 0, [], [], []),
  (0, 1, 0, 0, 1, 0, [], [], []),
  (0, 31, 1, 0, 0, 0, [], [], []),
  (0, 31, 0, 0, 0, 0, [], [], []),
  (10, 3, 7, 0, 0, 19998, [([], [(1, [0]), (1, [3]), (1, [8])]), ([7], [(1, [0]), (1, [2])])], [], []),
  (4, 2, 0, 0, 0, 0, [([], [(1, [0]), (1, [7]), (1, [6]), (1, [9])])], [(1, [5]), ((-1), [7])], []),
  (1, 3, 10, 0, 0, 7, [([10], [(1, [0]), (1, [1])]), ([5, 8, 10], [(1, [0, 1]), (1, [0]), (1, [7]), (1, [11]), (1, [9, 3]), (1, [9]), (1, [4, 1]), (1, [4]), (1, [1])])], [], []),
  (7, 1, 11, 0, 6, 0, [], [], []),
  (0, 3, 10, 0, 0, 6, [([10], [(1, [0]), (1, [1])]), ([5, 7, 8, 9, 10, 11, 12], [(1, [0]), (1, [12]), (1, [18]), (1, [19]), (1, [0, 1]), (1, [12, 1])])], [], []),
  (0, 31, 0, 0, 0, 0, [], [], []),
  (0, 31, 0, 0, 0, 0, [], [], []),
  (0, 31, 0, 0, 0, 0, [], [], []),
  (0, 7, 0, 0, 0, 0, [([5, 7, 8, 9, 10, 11, 12], [(1, [5]), (1, [10]), (1, [12]), (1, [15]), (1, [20]), (1, [22]), (1, [5, 0]), (1, [10, 0]), (1, [20, 4])])], [], []),
  (0, 31, 0, 0, 0, 0, [], [], []),
  (0, 31, 0, 0, 0, 0, [], [], []),
  (0, 31, 1, 0, 0, 0, [], [], []),
  (0, 1, 0, 0, 2, 0, [], [], []),
  (0, 31, 1, 0, 0, 0, [], [], []),
  (0, 31, 0, 0, 0, 0, [], [], []),
  (10, 3, 7, 0, 0, 19998, [([], [(1, [0]), (1, [3]), (1, [8])]), ([7], [(1, [0]), (1, [2])])], [], []),
  (4, 2, 0, 0, 0, 0, [([], [(1, [0]), (1, [7]), (1, [6]), (1, [9])])], [(1, [5]), ((-1), [7])], []),
  (1, 3, 10, 0, 0, 7, [([10], [(1, [0]), (1, [1])]), ([5, 8, 10], [(1, [0, 1]), (1, [0]), (1, [7]), (1, [11]), (1, [9, 3]), (1, [9]), (1, [4, 1]), (1, [4]), (1, [1])])], [], []),
  (7, 1, 11, 0, 6, 0, [], [], []),
  (0, 3, 10, 0, 0, 6, [([10], [(1, [0]), (1, [1])]), ([5, 7, 8, 9, 10, 11, 12], [(1, [0]), (1, [12]), (1, [18]), (1, [19]), (1, [0, 1]), (1, [12, 1])])], [], []),
  (0, 31, 0, 0, 0, 0, [], [], []),
  (0, 31, 0, 0, 0, 0, [], [], []),
  (0, 31, 0, 0, 0, 0, [], [], []),
  (0, 7, 0, 0, 0, 0, [([5, 7, 8, 9, 10, 11, 12], [(1, [5]), (1, [10]), (1, [12]), (1, [15]), (1, [20]), (1, [22]), (1, [5, 0]), (1, [10, 0]), (1, [20, 4])])], [], []),
  (0, 31, 0, 0, 0, 0, [], [], []),
  (0, 31, 0, 0, 0, 0, [], [], []),
  (0, 31, 1, 0, 0, 0, [], [], []),
  (0, 31, 1, 0, 0, 0, [], [], []),
  (0, 31, 0, 0, 0, 0, [], [], []),
  (10, 3, 7, 0, 0, 19998, [([], [(1, [0]), (1, [3]), (1, [8])]), ([7], [(1, [0]), (1, [2])])], [], []),
  (4, 2, 0, 0, 0, 0, [([], [(1, [0]), (1, [7]), (1, [6]), (1, [9])])], [(1, [5]), ((-1), [7])], []),
  (1, 3, 10, 0, 0, 7, [([10], [(1, [0]), (1, [1])]), ([5, 8, 10], [(1, [0, 1]), (1, [0]), (1, [7]), (1, [11]), (1, [9, 3]), (1, [9]), (1, [4, 1]), (1, [4]), (1, [1])])], [], []),
  (7, 1, 11, 0, 6, 0, [], [], []),
  (0, 3, 10, 0, 0, 6, [([10], [(1, [0]), (1, [1])]), ([5, 7, 8, 9, 10, 11, 12], [(1, [0]), (1, [12]), (1, [18]), (1, [19]), (1, [0, 1]), (1, [12, 1])])], [], []),
  (0, 31, 0, 0, 0, 0, [], [], []),
  (0, 31, 0, 0, 0, 0, [], [], []),
  (0, 31, 0, 0, 0, 0, [], [], []),
  (0, 7, 0, 0, 0, 0, [([5, 7, 8, 9, 10, 11, 12], [(1, [5]), (1, [10]), (1, [12]), (1, [15]), (1, [20]), (1, [22]), (1, [5, 0]), (1, [10, 0]), (1, [20, 4])])], [], []),
  (0, 31, 0, 0, 0, 0, [], [], []),
  (0, 31, 0, 0, 0, 0, [], [], []),
  (0, 31, 1, 0, 0, 0, [], [], []),
  (0, 31, 2, 0, 0, 0, [], [], [])]
set_option maxRecDepth 100000 in
theorem sz_sd235_0 : sy_seg sz_E (pv_T (sz_own true) sz_T) sz_RU [] sz_cd235 sz_ud235 ri_m_X10_flow 549 none sz_hd235_0 = true := by decide +kernel
theorem sz_okd235 (xs : Nat → Value) (L : Nat) : sy_Cok (sz_env xs L) (pv_T (sz_own true) sz_T) sz_RU sz_cd235 := sy_chk_ok (CT := []) (CU := sz_ud235) (M := ri_m_X10_flow) (fun _ h => absurd h List.not_mem_nil) rfl rfl ⟨_, _, sz_sd235_0⟩ (fun _ h => absurd h List.not_mem_nil)

/-! L_flow  -/
set_option maxRecDepth 100000 in
noncomputable def sz_cd236 : sy_Ct := (24, 8, 126, [(3, .inr 0, .inl 0), (0, .inr 0, .inl 0), (0, .inr 1, .inl 0), (3, .inr 265, .inl 0)], ([((-2147483648), 2147483647), ((-2147483648), 2147483647)], []), [], [], [(265, 0, 0)], [(.inl (some (0, .inl 0, .inl 0)), 0, 0, ([((-2147483648), 2147483647), ((-2147483648), 2147483647)], []), [], []), (.inl (some (0, .inr 2, .inl 0)), 1, 6, ([(1, 2), ((-2147483648), 2147483647), ((-2147483648), 2147483647)], []), [], [])])
set_option maxRecDepth 100000 in
noncomputable def sz_ud236 : List sy_Cut := []
set_option maxRecDepth 100000 in
noncomputable def sz_hd236_0 : List sy_Hn := [(6, 20, 0, 0, 0, 0, [], [], []),
  (0, 31, 0, 0, 0, 0, [], [], []),
  (0, 31, 1, 0, 0, 0, [], [], []),
  (0, 31, 1, 0, 0, 0, [], [], [])]
set_option maxRecDepth 100000 in
theorem sz_sd236_0 : sy_seg sz_E (pv_T (sz_own true) sz_T) sz_RU [sz_cd235] sz_cd236 sz_ud236 ri_m_L_flow 24 none sz_hd236_0 = true := by decide +kernel
theorem sz_okd236 (xs : Nat → Value) (L : Nat) : sy_Cok (sz_env xs L) (pv_T (sz_own true) sz_T) sz_RU sz_cd236 := sy_chk_ok (CT := [sz_cd235]) (CU := sz_ud236) (M := ri_m_L_flow) (List.forall_mem_cons.mpr ⟨sz_okd235 xs L, fun _ h => absurd h List.not_mem_nil⟩) rfl rfl ⟨_, _, sz_sd236_0⟩ (fun _ h => absurd h List.not_mem_nil)

/-! X11_flow  -/
set_option maxRecDepth 100000 in
noncomputable def sz_cd237 : sy_Ct := (25, 3, 76, [(3, .inr 244, .inl 0), (0, .inr 0, .inl 0), (0, .inr 1, .inl 0)], ([((-2147483648), 2147483647), ((-2147483648), 2147483647)], []), [], [], [(244, 0, 0)], [(.inl (some (0, .inr 2, .inl 0)), 0, 0, ([((-2147483648), 2147483647), ((-2147483648), 2147483647), ((-2147483648), 2147483647)], []), [], [])])
set_option maxRecDepth 100000 in
noncomputable def sz_ud237 : List sy_Cut := []
set_option maxRecDepth 100000 in
noncomputable def sz_hd237_0 : List sy_Hn := [(0, 31, 0, 0, 0, 0, [], [], []),
  (0, 31, 0, 0, 0, 0, [], [], []),
  (27, 1, 0, 0, 0, 0, [], [], []),
  (0, 31, 0, 0, 0, 0, [], [], []),
  (0, 31, 0, 0, 0, 0, [], [], []),
  (105, 3, 8, 0, 0, 19998, [([], [(1, [0]), (1, [3]), (1, [8])]), ([8], [(1, [0]), (1, [2])])], [], []),
  (4, 5, 0, 0, 0, 0, [], [], []),
  (0, 7, 0, 0, 0, 0, [([3], [(1, [2]), (1, [15]), (1, [0])])], [], []),
  (0, 3, 7, 0, 1, 19998, [([], [(1, [0]), (1, [8]), (1, [1])]), ([7], [(1, [0]), (1, [2])])], [], []),
  (0, 2, 0, 0, 0, 0, [([], [(1, [0]), (1, [8]), (1, [7]), (1, [10])])], [(1, [7]), ((-1), [8])], []),
  (1, 3, 11, 0, 0, 7, [([11], [(1, [0]), (1, [1])]), ([7, 9, 11], [(1, [0, 1]), (1, [0]), (1, [7]), (1, [12]), (1, [9, 3]), (1, [4, 1]), (1, [4]), (1, [1])])], [], []),
  (62, 3, 13, 0, 0, 139986, [([], [(1, [0]), (1, [12]), (1, [16]), (1, [15])]), ([13], [(1, [0]), (1, [2])])], [], []),
  (0, 31, 0, 0, 0, 0, [], [], []),
  (0, 31, 0, 0, 0, 0, [], [], []),
  (0, 31, 0, 0, 0, 0, [], [], []),
  (0, 31, 0, 0, 0, 0, [], [], []),
  (0, 31, 0, 0, 0, 0, [], [], []),
  (0, 1, 0, 0, 1, 0, [], [], []),
  (0, 31, 0, 0, 0, 0, [], [], []),
  (0, 31, 0, 0, 0, 0, [], [], []),
  (105, 3, 8, 0, 0, 19998, [([], [(1, [0]), (1, [3]), (1, [8])]), ([8], [(1, [0]), (1, [2])])], [], []),
  (4, 5, 10, 0, 0, 0, [], [], []),
  (0, 7, 0, 0, 0, 0, [([0], [(1, [2]), (1, [15]), (1, [13]), (1, [0])])], [], []),
  (0, 3, 7, 0, 1, 19998, [([], [(1, [0]), (1, [8]), (1, [1])]), ([7], [(1, [0]), (1, [2])])], [], []),
  (0, 2, 0, 0, 0, 0, [([], [(1, [0]), (1, [8]), (1, [7]), (1, [10])])], [(1, [7]), ((-1), [8])], []),
  (1, 3, 11, 0, 0, 7, [([11], [(1, [0]), (1, [1])]), ([7, 9, 11], [(1, [0, 1]), (1, [0]), (1, [7]), (1, [12]), (1, [9, 3]), (1, [4, 1]), (1, [4]), (1, [1])])], [], []),
  (62, 3, 13, 0, 0, 139986, [([], [(1, [0]), (1, [12]), (1, [16]), (1, [15])]), ([13], [(1, [0]), (1, [2])])], [], []),
  (0, 31, 0, 0, 0, 0, [], [], []),
  (0, 31, 0, 0, 0, 0, [], [], []),
  (0, 31, 0, 0, 0, 0, [], [], []),
  (0, 31, 0, 0, 0, 0, [], [], []),
  (0, 31, 0, 0, 0, 0, [], [], []),
  (0, 1, 0, 0, 2, 0, [], [], []),
  (0, 31, 0, 0, 0, 0, [], [], []),
  (0, 31, 0, 0, 0, 0, [], [], []),
  (105, 3, 8, 0, 0, 19998, [([], [(1, [0]), (1, [3]), (1, [8])]), ([8], [(1, [0]), (1, [2])])], [], []),
  (4, 5, 19, 0, 0, 0, [], [], []),
  (0, 7, 0, 0, 0, 0, [([0], [(1, [2]), (1, [15]), (1, [13]), (1, [0])])], [], []),
  (0, 3, 7, 0, 1, 19998, [([], [(1, [0]), (1, [8]), (1, [1])]), ([7], [(1, [0]), (1, [2])])], [], []),
  (0, 2, 0, 0, 0, 0, [([], [(1, [0]), (1, [8]), (1, [7]), (1, [10])])], [(1, [7]), ((-1), [8])], []),
  (1, 3, 11, 0, 0, 7, [([11], [(1, [0]), (1, [1])]), ([7, 9, 11], [(1, [0, 1]), (1, [0]), (1, [7]), (1, [12]), (1, [9, 3]), (1, [4, 1]), (1, [4]), (1, [1])])], [], []),
  (62, 3, 13, 0, 0, 139986, [([], [(1, [0]), (1, [12]), (1, [16]), (1, [15])]), ([13], [(1, [0]), (1, [2])])], [], []),
  (0, 31, 0, 0, 0, 0, [], [], []),
  (0, 31, 0, 0, 0, 0, [], [], []),
  (0, 31, 0, 0, 0, 0, [], [], []),
  (0, 31, 0, 0, 0, 0, [], [], []),
  (0, 31, 0, 0, 0, 0, [], [], []),
  (0, 31, 0, 0, 0, 0, [], [], []),
  (0, 31, 0, 0, 0, 0, [], [], []),
  (105, 3, 8, 0, 0, 19998, [([], [(1, [0]), (1, [3]), (1, [8])]), ([8], [(1, [0]), (1, [2])])], [], []),
  (4, 5, 28, 0, 0, 0, [], [], []),
  (0, 7, 0, 0, 0, 0, [([0], [(1, [2]), (1, [15]), (1, [13]), (1, [0])])], [], []),
  (0, 3, 7, 0, 1, 19998, [([], [(1, [0]), (1, [8]), (1, [1])]), ([7], [(1, [0]), (1, [2])])], [], []),
  (0, 2, 0, 0, 0, 0, [([], [(1, [0]), (1, [8]), (1, [7]), (1, [10])])], [(1, [7]), ((-1), [8])], []),
  (1, 3, 11, 0, 0, 7, [([11], [(1, [0]), (1, [1])]), ([7, 9, 11], [(1, [0, 1]), (1, [0]), (1, [7]), (1, [12]), (1, [9, 3]), (1, [4, 1]), (1, [4]), (1, [1])])], [], []),
  (62, 3, 13, 0, 0, 139986, [([], [(1, [0]), (1, [12]), (1, [16]), (1, [15])]), ([13], [(1, [0]), (1, [2])])], [], []),
  (0, 31, 0, 0, 0, 0, [], [], []),
  (0, 31, 0, 0, 0, 0, [], [], []),
  (0, 31, 0, 0, 0, 0, [], [], []),
  (0, 31, 0, 0, 0, 0, [], [], []),
  (0, 31, 0, 0, 0, 0, [], [], [])]
set_option maxRecDepth 100000 in
theorem sz_sd237_0 : sy_seg sz_E (pv_T (sz_own false) sz_T) sz_RU [] sz_cd237 sz_ud237 ri_m_X11_flow 1332 none sz_hd237_0 = true := by decide +kernel
theorem sz_okd237 (xs : Nat → Value) (L : Nat) : sy_Cok (sz_env xs L) (pv_T (sz_own false) sz_T) sz_RU sz_cd237 := sy_chk_ok (CT := []) (CU := sz_ud237) (M := ri_m_X11_flow) (fun _ h => absurd h List.not_mem_nil) rfl rfl ⟨_, _, sz_sd237_0⟩ (fun _ h => absurd h List.not_mem_nil)

/-! X0_tellMode  -/
set_option maxRecDepth 100000 in
noncomputable def sz_cd238 : sy_Ct := (170, 3, 67, [(3, .inr 59, .inl 0), (0, .inl 0, .inl 0), (0, .inr 0, .inl 0)], ([(0, 1)], []), [], [], [(63, 2, 2), (64, 0, 239), (67, 5, 5), (67, 8, 8), (67, 12, 13), (67, 16, 16)], [(.inl none, 0, 0, ([(0, 1)], []), [], [])])
set_option maxRecDepth 100000 in
noncomputable def sz_ud238 : List sy_Cut := []
set_option maxRecDepth 100000 in
noncomputable def sz_hd238_0 : List sy_Hn := [(27, 4, 70, 0, 0, 0, [], [], []),
  (0, 4, 70, 1, 0, 0, [], [], []),
  (0, 4, 77, 2, 0, 0, [], [], []),
  (0, 4, 77, 0, 0, 0, [], [], []),
  (0, 6, 376, 0, 0, 0, [([0], [(1, [0]), (1, [2])]), ([0], [(1, [0]), (1, [2])])], [], [0, 0]),
  (0, 4, 77, 5, 0, 0, [], [], []),
  (0, 4, 77, 6, 0, 0, [], [], []),
  (0, 6, 377, 0, 0, 0, [([0], [(1, [0]), (1, [2])]), ([0], [(1, [0]), (1, [2])])], [], [0, 0]),
  (1, 20, 1, 0, 0, 0, [], [], []),
  (8, 20, 0, 0, 0, 0, [], [], []),
  (0, 31, 0, 0, 0, 0, [], [], []),
  (24, 4, 70, 0, 0, 0, [], [], []),
  (0, 4, 70, 1, 0, 0, [], [], []),
  (0, 4, 77, 2, 0, 0, [], [], []),
  (0, 4, 77, 0, 0, 0, [], [], []),
  (0, 6, 376, 0, 0, 0, [([0], [(1, [0]), (1, [2])]), ([0], [(1, [0]), (1, [2])])], [], [0, 0]),
  (0, 4, 77, 5, 0, 0, [], [], []),
  (0, 4, 77, 6, 0, 0, [], [], []),
  (0, 6, 377, 0, 0, 0, [([0], [(1, [0]), (1, [2])]), ([0], [(1, [0]), (1, [2])])], [], [0, 0]),
  (1, 20, 0, 0, 0, 0, [], [], []),
  (0, 31, 0, 0, 0, 0, [], [], []),
  (1, 4, 70, 0, 0, 0, [], [], []),
  (0, 4, 70, 1, 0, 0, [], [], []),
  (0, 4, 77, 2, 0, 0, [], [], []),
  (0, 4, 77, 0, 0, 0, [], [], []),
  (0, 6, 376, 0, 0, 0, [([0], [(1, [0]), (1, [2])]), ([0], [(1, [0]), (1, [2])])], [], [0, 0]),
  (0, 4, 77, 5, 0, 0, [], [], []),
  (0, 4, 77, 6, 0, 0, [], [], []),
  (0, 6, 377, 0, 0, 0, [([0], [(1, [0]), (1, [2])]), ([0], [(1, [0]), (1, [2])])], [], [0, 0]),
  (1, 20, 1, 0, 0, 0, [], [], []),
  (8, 20, 0, 0, 0, 0, [], [], []),
  (0, 31, 0, 0, 0, 0, [], [], []),
  (0, 31, 0, 0, 0, 0, [], [], [])]
set_option maxRecDepth 100000 in
theorem sz_sd238_0 : sy_seg sz_E (pv_T (sz_own true) sz_T) sz_RU [sz_cd22, sz_cd27] sz_cd238 sz_ud238 ri_m_X0_tellMode 113 none sz_hd238_0 = true := by decide +kernel
theorem sz_okd238 (xs : Nat → Value) (L : Nat) : sy_Cok (sz_env xs L) (pv_T (sz_own true) sz_T) sz_RU sz_cd238 := sy_chk_ok (CT := [sz_cd22, sz_cd27]) (CU := sz_ud238) (M := ri_m_X0_tellMode) (List.forall_mem_cons.mpr ⟨sz_okd22 xs L, List.forall_mem_cons.mpr ⟨sz_okd27 xs L, fun _ h => absurd h List.not_mem_nil⟩⟩) rfl rfl ⟨_, _, sz_sd238_0⟩ (fun _ h => absurd h List.not_mem_nil)

/-! X0_tellMode  -/
set_option maxRecDepth 100000 in
noncomputable def sz_cd239 : sy_Ct := (170, 3, 67, [(3, .inr 59, .inl 0), (0, .inl 0, .inl 0), (0, .inl 2, .inl 0)], ([], []), [], [], [(63, 2, 2), (64, 0, 239), (67, 5, 6), (67, 8, 8), (67, 12, 13), (67, 16, 16)], [(.inl none, 0, 0, ([], []), [], [])])
set_option maxRecDepth 100000 in
noncomputable def sz_ud239 : List sy_Cut := []
set_option maxRecDepth 100000 in
noncomputable def sz_hd239_0 : List sy_Hn := [(26, 4, 70, 0, 0, 0, [], [], []),
  (0, 4, 70, 1, 0, 0, [], [], []),
  (0, 4, 77, 2, 0, 0, [], [], []),
  (0, 4, 77, 0, 0, 0, [], [], []),
  (0, 6, 376, 0, 0, 0, [([], [(1, [0])]), ([], [(1, [0])])], [], [0, 0]),
  (0, 4, 77, 5, 0, 0, [], [], []),
  (0, 4, 77, 6, 0, 0, [], [], []),
  (0, 6, 377, 0, 0, 0, [([], [(1, [0])]), ([], [(1, [0])])], [], [0, 0]),
  (1, 20, 2, 0, 0, 0, [], [], []),
  (4, 20, 1, 0, 0, 0, [], [], []),
  (8, 20, 0, 0, 0, 0, [], [], []),
  (0, 31, 0, 0, 0, 0, [], [], []),
  (2, 4, 70, 0, 0, 0, [], [], []),
  (0, 4, 70, 1, 0, 0, [], [], []),
  (0, 4, 77, 2, 0, 0, [], [], []),
  (0, 4, 77, 0, 0, 0, [], [], []),
  (0, 5, 376, 0, 0, 0, [], [], []),
  (0, 7, 0, 0, 0, 0, [([0], [(1, [2]), (1, [0])])], [], []),
  (0, 5, 376, 1, 0, 0, [], [], []),
  (0, 7, 0, 0, 0, 0, [([0], [(1, [2]), (1, [0])])], [], []),
  (0, 4, 77, 5, 0, 0, [], [], []),
  (0, 4, 77, 6, 0, 0, [], [], []),
  (0, 5, 377, 0, 0, 0, [], [], []),
  (0, 7, 0, 0, 0, 0, [([0], [(1, [2]), (1, [0])])], [], []),
  (0, 3, 5, 0, 0, 239, [([5], [(1, [0]), (1, [1])]), ([], [(1, [0]), (1, [1])])], [], []),
  (0, 5, 377, 1, 0, 0, [], [], []),
  (0, 7, 0, 0, 0, 0, [([0], [(1, [2]), (1, [0])])], [], []),
  (15, 6, 376, 0, 0, 0, [([], [(1, [0])]), ([], [(1, [0])])], [], [0, 0]),
  (0, 6, 377, 0, 0, 0, [([], [(1, [0])]), ([], [(1, [0])])], [], [0, 0]),
  (1, 20, 2, 0, 0, 0, [], [], []),
  (4, 20, 1, 0, 0, 0, [], [], []),
  (8, 20, 0, 0, 0, 0, [], [], []),
  (0, 31, 0, 0, 0, 0, [], [], []),
  (0, 31, 0, 0, 0, 0, [], [], [])]
set_option maxRecDepth 100000 in
theorem sz_sd239_0 : sy_seg sz_E (pv_T (sz_own true) sz_T) sz_RU [sz_cd22, sz_cd27, sz_cd77] sz_cd239 sz_ud239 ri_m_X0_tellMode 115 none sz_hd239_0 = true := by decide +kernel
theorem sz_okd239 (xs : Nat → Value) (L : Nat) : sy_Cok (sz_env xs L) (pv_T (sz_own true) sz_T) sz_RU sz_cd239 := sy_chk_ok (CT := [sz_cd22, sz_cd27, sz_cd77]) (CU := sz_ud239) (M := ri_m_X0_tellMode) (List.forall_mem_cons.mpr ⟨sz_okd22 xs L, List.forall_mem_cons.mpr ⟨sz_okd27 xs L, List.forall_mem_cons.mpr ⟨sz_okd77 xs L, fun _ h => absurd h List.not_mem_nil⟩⟩⟩) rfl rfl ⟨_, _, sz_sd239_0⟩ (fun _ h => absurd h List.not_mem_nil)

/-! X0_tellMode  -/
set_option maxRecDepth 100000 in
noncomputable def sz_cd240 : sy_Ct := (170, 3, 67, [(3, .inr 59, .inl 0), (0, .inl 1, .inl 0), (0, .inr 0, .inl 0)], ([(0, 1)], []), [], [], [(63, 2, 2), (64, 0, 239), (79, 5, 5), (79, 8, 8), (79, 12, 13), (79, 16, 16)], [(.inl none, 0, 0, ([(0, 1)], []), [], [])])
set_option maxRecDepth 100000 in
noncomputable def sz_ud240 : List sy_Cut := []
set_option maxRecDepth 100000 in
noncomputable def sz_hd240_0 : List sy_Hn := [(27, 4, 82, 0, 0, 0, [], [], []),
  (0, 4, 82, 1, 0, 0, [], [], []),
  (0, 4, 89, 2, 0, 0, [], [], []),
  (0, 4, 89, 0, 0, 0, [], [], []),
  (0, 6, 381, 0, 0, 0, [([0], [(1, [0]), (1, [2])]), ([0], [(1, [0]), (1, [2])])], [], [0, 0]),
  (0, 4, 89, 5, 0, 0, [], [], []),
  (0, 4, 89, 6, 0, 0, [], [], []),
  (0, 6, 382, 0, 0, 0, [([0], [(1, [0]), (1, [2])]), ([0], [(1, [0]), (1, [2])])], [], [0, 0]),
  (1, 20, 1, 0, 0, 0, [], [], []),
  (8, 20, 0, 0, 0, 0, [], [], []),
  (0, 31, 0, 0, 0, 0, [], [], []),
  (24, 4, 82, 0, 0, 0, [], [], []),
  (0, 4, 82, 1, 0, 0, [], [], []),
  (0, 4, 89, 2, 0, 0, [], [], []),
  (0, 4, 89, 0, 0, 0, [], [], []),
  (0, 6, 381, 0, 0, 0, [([0], [(1, [0]), (1, [2])]), ([0], [(1, [0]), (1, [2])])], [], [0, 0]),
  (0, 4, 89, 5, 0, 0, [], [], []),
  (0, 4, 89, 6, 0, 0, [], [], []),
  (0, 6, 382, 0, 0, 0, [([0], [(1, [0]), (1, [2])]), ([0], [(1, [0]), (1, [2])])], [], [0, 0]),
  (1, 20, 0, 0, 0, 0, [], [], []),
  (0, 31, 0, 0, 0, 0, [], [], []),
  (1, 4, 82, 0, 0, 0, [], [], []),
  (0, 4, 82, 1, 0, 0, [], [], []),
  (0, 4, 89, 2, 0, 0, [], [], []),
  (0, 4, 89, 0, 0, 0, [], [], []),
  (0, 6, 381, 0, 0, 0, [([0], [(1, [0]), (1, [2])]), ([0], [(1, [0]), (1, [2])])], [], [0, 0]),
  (0, 4, 89, 5, 0, 0, [], [], []),
  (0, 4, 89, 6, 0, 0, [], [], []),
  (0, 6, 382, 0, 0, 0, [([0], [(1, [0]), (1, [2])]), ([0], [(1, [0]), (1, [2])])], [], [0, 0]),
  (1, 20, 1, 0, 0, 0, [], [], []),
  (8, 20, 0, 0, 0, 0, [], [], []),
  (0, 31, 0, 0, 0, 0, [], [], []),
  (0, 31, 0, 0, 0, 0, [], [], [])]
set_option maxRecDepth 100000 in
theorem sz_sd240_0 : sy_seg sz_E (pv_T (sz_own true) sz_T) sz_RU [sz_cd22, sz_cd36] sz_cd240 sz_ud240 ri_m_X0_tellMode 113 none sz_hd240_0 = true := by decide +kernel
theorem sz_okd240 (xs : Nat → Value) (L : Nat) : sy_Cok (sz_env xs L) (pv_T (sz_own true) sz_T) sz_RU sz_cd240 := sy_chk_ok (CT := [sz_cd22, sz_cd36]) (CU := sz_ud240) (M := ri_m_X0_tellMode) (List.forall_mem_cons.mpr ⟨sz_okd22 xs L, List.forall_mem_cons.mpr ⟨sz_okd36 xs L, fun _ h => absurd h List.not_mem_nil⟩⟩) rfl rfl ⟨_, _, sz_sd240_0⟩ (fun _ h => absurd h List.not_mem_nil)

/-! X0_tellMode  -/
set_option maxRecDepth 100000 in
noncomputable def sz_cd241 : sy_Ct := (170, 3, 67, [(3, .inr 59, .inl 0), (0, .inl 2, .inl 0), (0, .inr 0, .inl 0)], ([(0, 1)], []), [], [], [(63, 2, 2), (64, 0, 239), (91, 5, 5), (91, 8, 8), (91, 12, 13), (91, 16, 16)], [(.inl none, 0, 0, ([(0, 1)], []), [], [])])
set_option maxRecDepth 100000 in
noncomputable def sz_ud241 : List sy_Cut := []
set_option maxRecDepth 100000 in
noncomputable def sz_hd241_0 : List sy_Hn := [(27, 4, 94, 0, 0, 0, [], [], []),
  (0, 4, 94, 1, 0, 0, [], [], []),
  (0, 4, 101, 2, 0, 0, [], [], []),
  (0, 4, 101, 0, 0, 0, [], [], []),
  (0, 6, 386, 0, 0, 0, [([0], [(1, [0]), (1, [2])]), ([0], [(1, [0]), (1, [2])])], [], [0, 0]),
  (0, 4, 101, 5, 0, 0, [], [], []),
  (0, 4, 101, 6, 0, 0, [], [], []),
  (0, 6, 387, 0, 0, 0, [([0], [(1, [0]), (1, [2])]), ([0], [(1, [0]), (1, [2])])], [], [0, 0]),
  (1, 20, 1, 0, 0, 0, [], [], []),
  (8, 20, 0, 0, 0, 0, [], [], []),
  (0, 31, 0, 0, 0, 0, [], [], []),
  (24, 4, 94, 0, 0, 0, [], [], []),
  (0, 4, 94, 1, 0, 0, [], [], []),
  (0, 4, 101, 2, 0, 0, [], [], []),
  (0, 4, 101, 0, 0, 0, [], [], []),
  (0, 6, 386, 0, 0, 0, [([0], [(1, [0]), (1, [2])]), ([0], [(1, [0]), (1, [2])])], [], [0, 0]),
  (0, 4, 101, 5, 0, 0, [], [], []),
  (0, 4, 101, 6, 0, 0, [], [], []),
  (0, 6, 387, 0, 0, 0, [([0], [(1, [0]), (1, [2])]), ([0], [(1, [0]), (1, [2])])], [], [0, 0]),
  (1, 20, 0, 0, 0, 0, [], [], []),
  (0, 31, 0, 0, 0, 0, [], [], []),
  (1, 4, 94, 0, 0, 0, [], [], []),
  (0, 4, 94, 1, 0, 0, [], [], []),
  (0, 4, 101, 2, 0, 0, [], [], []),
  (0, 4, 101, 0, 0, 0, [], [], []),
  (0, 6, 386, 0, 0, 0, [([0], [(1, [0]), (1, [2])]), ([0], [(1, [0]), (1, [2])])], [], [0, 0]),
  (0, 4, 101, 5, 0, 0, [], [], []),
  (0, 4, 101, 6, 0, 0, [], [], []),
  (0, 6, 387, 0, 0, 0, [([0], [(1, [0]), (1, [2])]), ([0], [(1, [0]), (1, [2])])], [], [0, 0]),
  (1, 20, 1, 0, 0, 0, [], [], []),
  (8, 20, 0, 0, 0, 0, [], [], []),
  (0, 31, 0, 0, 0, 0, [], [], []),
  (0, 31, 0, 0, 0, 0, [], [], [])]
set_option maxRecDepth 100000 in
theorem sz_sd241_0 : sy_seg sz_E (pv_T (sz_own true) sz_T) sz_RU [sz_cd22, sz_cd49] sz_cd241 sz_ud241 ri_m_X0_tellMode 113 none sz_hd241_0 = true := by decide +kernel
theorem sz_okd241 (xs : Nat → Value) (L : Nat) : sy_Cok (sz_env xs L) (pv_T (sz_own true) sz_T) sz_RU sz_cd241 := sy_chk_ok (CT := [sz_cd22, sz_cd49]) (CU := sz_ud241) (M := ri_m_X0_tellMode) (List.forall_mem_cons.mpr ⟨sz_okd22 xs L, List.forall_mem_cons.mpr ⟨sz_okd49 xs L, fun _ h => absurd h List.not_mem_nil⟩⟩) rfl rfl ⟨_, _, sz_sd241_0⟩ (fun _ h => absurd h List.not_mem_nil)

/-! X0_tellMode  -/
set_option maxRecDepth 100000 in
noncomputable def sz_cd242 : sy_Ct := (170, 3, 67, [(3, .inr 59, .inl 0), (0, .inl 3, .inl 0), (0, .inr 0, .inl 0)], ([(0, 1)], []), [], [], [(63, 2, 2), (64, 0, 239), (103, 5, 5), (103, 8, 8), (103, 12, 13), (103, 16, 16)], [(.inl none, 0, 0, ([(0, 1)], []), [], [])])
set_option maxRecDepth 100000 in
noncomputable def sz_ud242 : List sy_Cut := []
set_option maxRecDepth 100000 in
noncomputable def sz_hd242_0 : List sy_Hn := [(27, 4, 106, 0, 0, 0, [], [], []),
  (0, 4, 106, 1, 0, 0, [], [], []),
  (0, 4, 113, 2, 0, 0, [], [], []),
  (0, 4, 113, 0, 0, 0, [], [], []),
  (0, 6, 391, 0, 0, 0, [([0], [(1, [0]), (1, [2])]), ([0], [(1, [0]), (1, [2])])], [], [0, 0]),
  (0, 4, 113, 5, 0, 0, [], [], []),
  (0, 4, 113, 6, 0, 0, [], [], []),
  (0, 6, 392, 0, 0, 0, [([0], [(1, [0]), (1, [2])]), ([0], [(1, [0]), (1, [2])])], [], [0, 0]),
  (1, 20, 1, 0, 0, 0, [], [], []),
  (8, 20, 0, 0, 0, 0, [], [], []),
  (0, 31, 0, 0, 0, 0, [], [], []),
  (24, 4, 106, 0, 0, 0, [], [], []),
  (0, 4, 106, 1, 0, 0, [], [], []),
  (0, 4, 113, 2, 0, 0, [], [], []),
  (0, 4, 113, 0, 0, 0, [], [], []),
  (0, 6, 391, 0, 0, 0, [([0], [(1, [0]), (1, [2])]), ([0], [(1, [0]), (1, [2])])], [], [0, 0]),
  (0, 4, 113, 5, 0, 0, [], [], []),
  (0, 4, 113, 6, 0, 0, [], [], []),
  (0, 6, 392, 0, 0, 0, [([0], [(1, [0]), (1, [2])]), ([0], [(1, [0]), (1, [2])])], [], [0, 0]),
  (1, 20, 0, 0, 0, 0, [], [], []),
  (0, 31, 0, 0, 0, 0, [], [], []),
  (1, 4, 106, 0, 0, 0, [], [], []),
  (0, 4, 106, 1, 0, 0, [], [], []),
  (0, 4, 113, 2, 0, 0, [], [], []),
  (0, 4, 113, 0, 0, 0, [], [], []),
  (0, 6, 391, 0, 0, 0, [([0], [(1, [0]), (1, [2])]), ([0], [(1, [0]), (1, [2])])], [], [0, 0]),
  (0, 4, 113, 5, 0, 0, [], [], []),
  (0, 4, 113, 6, 0, 0, [], [], []),
  (0, 6, 392, 0, 0, 0, [([0], [(1, [0]), (1, [2])]), ([0], [(1, [0]), (1, [2])])], [], [0, 0]),
  (1, 20, 1, 0, 0, 0, [], [], []),
  (8, 20, 0, 0, 0, 0, [], [], []),
  (0, 31, 0, 0, 0, 0, [], [], []),
  (0, 31, 0, 0, 0, 0, [], [], [])]
set_option maxRecDepth 100000 in
theorem sz_sd242_0 : sy_seg sz_E (pv_T (sz_own true) sz_T) sz_RU [sz_cd22, sz_cd62] sz_cd242 sz_ud242 ri_m_X0_tellMode 113 none sz_hd242_0 = true := by decide +kernel
theorem sz_okd242 (xs : Nat → Value) (L : Nat) : sy_Cok (sz_env xs L) (pv_T (sz_own true) sz_T) sz_RU sz_cd242 := sy_chk_ok (CT := [sz_cd22, sz_cd62]) (CU := sz_ud242) (M := ri_m_X0_tellMode) (List.forall_mem_cons.mpr ⟨sz_okd22 xs L, List.forall_mem_cons.mpr ⟨sz_okd62 xs L, fun _ h => absurd h List.not_mem_nil⟩⟩) rfl rfl ⟨_, _, sz_sd242_0⟩ (fun _ h => absurd h List.not_mem_nil)

/-! X10_mode  -/
set_option maxRecDepth 100000 in
noncomputable def sz_cd243 : sy_Ct := (101, 8, 124, [(3, .inr 0, .inl 0), (0, .inr 0, .inl 0), (0, .inr 1, .inl 0)], ([((-2147483648), 2147483647), ((-2147483648), 2147483647)], []), [], [], [(63, 2, 2), (64, 0, 239), (67, 5, 6), (67, 8, 8), (67, 12, 13), (67, 16, 16), (79, 5, 6), (79, 8, 8), (79, 12, 13), (79, 16, 16), (91, 5, 6), (91, 8, 8), (91, 12, 13), (91, 16, 16), (103, 5, 6), (103, 8, 8), (103, 12, 13), (103, 16, 16)], [(.inl (some (0, .inr 2, .inl 0)), 0, 0, ([(0, 3), ((-2147483648), 2147483647), ((-2147483648), 2147483647)], []), [], []), (.inr 0, 1, 6, ([((-2147483648), 2147483647), ((-2147483648), 2147483647)], []), [], []), (.inr 2, 1, 6, ([((-2147483648), 2147483647), ((-2147483648), 2147483647)], []), [], []), (.inr 4, 1, 6, ([((-2147483648), 2147483647), ((-2147483648), 2147483647)], []), [], [])])
set_option maxRecDepth 100000 in
noncomputable def sz_ud243 : List sy_Cut := []
set_option maxRecDepth 100000 in
noncomputable def sz_hd243_0 : List sy_Hn := [(0, 31, 2, 0, 0, 0, [], [], []),
  (9, 1, 0, 0, 0, 0, [], [], []),
  (0, 31, 1, 0, 0, 0, [], [], []),
  (16, 20, 3, 0, 0, 0, [], [], []),
  (0, 31, 0, 0, 0, 0, [], [], []),
  (13, 20, 4, 0, 0, 0, [], [], []),
  (0, 31, 0, 0, 0, 0, [], [], []),
  (0, 31, 3, 0, 0, 0, [], [], []),
  (0, 31, 1, 0, 0, 0, [], [], []),
  (0, 1, 0, 0, 1, 0, [], [], []),
  (0, 31, 1, 0, 0, 0, [], [], []),
  (16, 20, 5, 0, 0, 0, [], [], []),
  (0, 31, 0, 0, 0, 0, [], [], []),
  (13, 20, 0, 0, 0, 0, [], [], []),
  (0, 31, 0, 0, 0, 0, [], [], []),
  (0, 31, 3, 0, 0, 0, [], [], []),
  (0, 31, 1, 0, 0, 0, [], [], []),
  (0, 1, 0, 0, 2, 0, [], [], []),
  (0, 31, 1, 0, 0, 0, [], [], []),
  (16, 20, 6, 0, 0, 0, [], [], []),
  (0, 31, 0, 0, 0, 0, [], [], []),
  (13, 20, 1, 0, 0, 0, [], [], []),
  (0, 31, 0, 0, 0, 0, [], [], []),
  (0, 31, 3, 0, 0, 0, [], [], []),
  (0, 31, 1, 0, 0, 0, [], [], []),
  (0, 31, 1, 0, 0, 0, [], [], []),
  (16, 20, 7, 0, 0, 0, [], [], []),
  (0, 31, 0, 0, 0, 0, [], [], []),
  (13, 20, 2, 0, 0, 0, [], [], []),
  (0, 31, 0, 0, 0, 0, [], [], []),
  (0, 31, 3, 0, 0, 0, [], [], []),
  (0, 31, 1, 0, 0, 0, [], [], []),
  (0, 31, 2, 0, 0, 0, [], [], [])]
set_option maxRecDepth 100000 in
theorem sz_sd243_0 : sy_seg sz_E (pv_T (sz_own true) sz_T) sz_RU [sz_cd42, sz_cd55, sz_cd68, sz_cd238, sz_cd239, sz_cd240, sz_cd241, sz_cd242] sz_cd243 sz_ud243 ri_m_X10_mode 253 none sz_hd243_0 = true := by decide +kernel
theorem sz_okd243 (xs : Nat → Value) (L : Nat) : sy_Cok (sz_env xs L) (pv_T (sz_own true) sz_T) sz_RU sz_cd243 := sy_chk_ok (CT := [sz_cd42, sz_cd55, sz_cd68, sz_cd238, sz_cd239, sz_cd240, sz_cd241, sz_cd242]) (CU := sz_ud243) (M := ri_m_X10_mode) (List.forall_mem_cons.mpr ⟨sz_okd42 xs L, List.forall_mem_cons.mpr ⟨sz_okd55 xs L, List.forall_mem_cons.mpr ⟨sz_okd68 xs L, List.forall_mem_cons.mpr ⟨sz_okd238 xs L, List.forall_mem_cons.mpr ⟨sz_okd239 xs L, List.forall_mem_cons.mpr ⟨sz_okd240 xs L, List.forall_mem_cons.mpr ⟨sz_okd241 xs L, List.forall_mem_cons.mpr ⟨sz_okd242 xs L, fun _ h => absurd h List.not_mem_nil⟩⟩⟩⟩⟩⟩⟩⟩) rfl rfl ⟨_, _, sz_sd243_0⟩ (fun _ h => absurd h List.not_mem_nil)

/-! L_mode  -/
set_option maxRecDepth 100000 in
noncomputable def sz_cd244 : sy_Ct := (28, 9, 148, [(3, .inr 0, .inl 0), (0, .inr 0, .inl 0), (0, .inr 1, .inl 0), (3, .inr 265, .inl 0)], ([((-2147483648), 2147483647), ((-2147483648), 2147483647)], []), [], [], [(63, 2, 2), (64, 0, 239), (67, 5, 6), (67, 8, 8), (67, 12, 13), (67, 16, 16), (79, 5, 6), (79, 8, 8), (79, 12, 13), (79, 16, 16), (91, 5, 6), (91, 8, 8), (91, 12, 13), (91, 16, 16), (103, 5, 6), (103, 8, 8), (103, 12, 13), (103, 16, 16), (265, 0, 0)], [(.inl (some (0, .inl 0, .inl 0)), 0, 0, ([((-2147483648), 2147483647), ((-2147483648), 2147483647)], []), [], []), (.inl (some (0, .inr 2, .inl 0)), 1, 6, ([(1, 3), ((-2147483648), 2147483647), ((-2147483648), 2147483647)], []), [], [])])
set_option maxRecDepth 100000 in
noncomputable def sz_ud244 : List sy_Cut := []
set_option maxRecDepth 100000 in
noncomputable def sz_hd244_0 : List sy_Hn := [(6, 20, 0, 0, 0, 0, [], [], []),
  (0, 31, 0, 0, 0, 0, [], [], []),
  (0, 31, 1, 0, 0, 0, [], [], []),
  (0, 31, 1, 0, 0, 0, [], [], []),
  (0, 31, 1, 0, 0, 0, [], [], [])]
set_option maxRecDepth 100000 in
theorem sz_sd244_0 : sy_seg sz_E (pv_T (sz_own true) sz_T) sz_RU [sz_cd243] sz_cd244 sz_ud244 ri_m_L_mode 27 none sz_hd244_0 = true := by decide +kernel
theorem sz_okd244 (xs : Nat → Value) (L : Nat) : sy_Cok (sz_env xs L) (pv_T (sz_own true) sz_T) sz_RU sz_cd244 := sy_chk_ok (CT := [sz_cd243]) (CU := sz_ud244) (M := ri_m_L_mode) (List.forall_mem_cons.mpr ⟨sz_okd243 xs L, fun _ h => absurd h List.not_mem_nil⟩) rfl rfl ⟨_, _, sz_sd244_0⟩ (fun _ h => absurd h List.not_mem_nil)

/-! X11_isMode  -/
set_option maxRecDepth 100000 in
noncomputable def sz_cd245 : sy_Ct := (103, 3, 65, [(3, .inr 244, .inl 0), (0, .inl 0, .inl 0), (0, .inl 0, .inl 0)], ([(0, 4)], []), [((245, 0), (1, .inr 0, .inl 0))], [], [(245, 4, 4), (245, 13, 13), (245, 20, 21), (245, 66, 70), (245, 345, 584)], [(.inl none, 0, 0, ([(0, 4)], []), [], [])])
set_option maxRecDepth 100000 in
noncomputable def sz_ud245 : List sy_Cut := []
set_option maxRecDepth 100000 in
noncomputable def sz_hd245_0 : List sy_Hn := [(239, 4, 245, 10, 0, 0, [], [], []),
  (0, 4, 245, 11, 0, 0, [], [], []),
  (0, 4, 245, 71, 0, 0, [], [], []),
  (0, 4, 245, 78, 0, 0, [], [], []),
  (0, 6, 3, 0, 0, 0, [([], [(1, [0])]), ([], [(1, [0])])], [], [0, 0]),
  (0, 4, 245, 12, 0, 0, [], [], []),
  (0, 6, 4, 0, 0, 0, [([], [(1, [0])])], [], [0]),
  (0, 4, 245, 74, 0, 0, [], [], []),
  (0, 4, 245, 75, 0, 0, [], [], []),
  (0, 6, 7, 0, 0, 0, [([], [(1, [0])]), ([], [(1, [0])])], [], [0, 0]),
  (0, 6, 8, 0, 0, 0, [([], [(1, [0])])], [], [0]),
  (0, 6, 9, 0, 0, 0, [([], [(1, [0])])], [], [1]),
  (1, 20, 0, 0, 0, 0, [], [], []),
  (0, 31, 0, 0, 0, 0, [], [], []),
  (0, 31, 0, 0, 0, 0, [], [], [])]
set_option maxRecDepth 100000 in
theorem sz_sd245_0 : sy_seg sz_E (pv_T (sz_own false) sz_T) sz_RU [sz_cd24] sz_cd245 sz_ud245 ri_m_X11_isMode 266 none sz_hd245_0 = true := by decide +kernel
theorem sz_okd245 (xs : Nat → Value) (L : Nat) : sy_Cok (sz_env xs L) (pv_T (sz_own false) sz_T) sz_RU sz_cd245 := sy_chk_ok (CT := [sz_cd24]) (CU := sz_ud245) (M := ri_m_X11_isMode) (List.forall_mem_cons.mpr ⟨sz_okd24 xs L, fun _ h => absurd h List.not_mem_nil⟩) rfl rfl ⟨_, _, sz_sd245_0⟩ (fun _ h => absurd h List.not_mem_nil)
