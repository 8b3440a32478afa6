/-! ===== contracts, 40 ===== -/
/-! X11_isGained  -/
set_option maxRecDepth 100000 in
noncomputable def sz_cd341 : sy_Ct := (110, 5, 116, [(3, .inr 244, .inl 0), (0, .inl 3, .inl 0), (1, .inr 0, .inl 0), (1, .inr 1, .inl 0), (1, .inl 9999, .inl 0)], ([(0, 9999), (0, 9999)], []), [], [], [(245, 264, 266), (245, 268, 270), (245, 272, 274), (245, 285, 285)], [(.inl none, 0, 0, ([(0, 9999), (0, 9999)], []), [], [])])
set_option maxRecDepth 100000 in
noncomputable def sz_ud341 : List sy_Cut := []
set_option maxRecDepth 100000 in
noncomputable def sz_hd341_0 : List sy_Hn := [(69, 1, 4, 0, 0, 0, [], [], []),
  (277, 20, 0, 0, 0, 0, [], [], []),
  (0, 31, 0, 0, 0, 0, [], [], []),
  (0, 1, 4, 0, 1, 0, [], [], []),
  (277, 20, 0, 0, 0, 0, [], [], []),
  (0, 31, 0, 0, 0, 0, [], [], []),
  (277, 20, 0, 0, 0, 0, [], [], []),
  (0, 31, 0, 0, 0, 0, [], [], [])]
set_option maxRecDepth 100000 in
theorem sz_sd341_0 : sy_seg sz_E (pv_T (sz_own false) sz_T) sz_RU [sz_cd281] sz_cd341 sz_ud341 ri_m_X11_isGained 918 none sz_hd341_0 = true := by decide +kernel
theorem sz_okd341 (xs : Nat → Value) (L : Nat) : sy_Cok (sz_env xs L) (pv_T (sz_own false) sz_T) sz_RU sz_cd341 := sy_chk_ok (CT := [sz_cd281]) (CU := sz_ud341) (M := ri_m_X11_isGained) (List.forall_mem_cons.mpr ⟨sz_okd281 xs L, fun _ h => absurd h List.not_mem_nil⟩) rfl rfl ⟨_, _, sz_sd341_0⟩ (fun _ h => absurd h List.not_mem_nil)

/-! X11_isGained  -/
set_option maxRecDepth 100000 in
noncomputable def sz_cd342 : sy_Ct := (110, 5, 116, [(3, .inr 244, .inl 0), (0, .inl 3, .inl 0), (1, .inr 0, .inl 0), (1, .inl 9999, .inl 0), (1, .inr 1, .inl 0)], ([(0, 9999), (0, 9999)], []), [], [], [(245, 264, 266), (245, 268, 270), (245, 272, 274), (245, 285, 285)], [(.inl none, 0, 0, ([(0, 9999), (0, 9999)], []), [], [])])
set_option maxRecDepth 100000 in
noncomputable def sz_ud342 : List sy_Cut := []
set_option maxRecDepth 100000 in
noncomputable def sz_hd342_0 : List sy_Hn := [(69, 1, 4, 0, 0, 0, [], [], []),
  (277, 20, 0, 0, 0, 0, [], [], []),
  (0, 31, 0, 0, 0, 0, [], [], []),
  (0, 1, 4, 0, 1, 0, [], [], []),
  (277, 20, 0, 0, 0, 0, [], [], []),
  (0, 31, 0, 0, 0, 0, [], [], []),
  (277, 20, 0, 0, 0, 0, [], [], []),
  (0, 31, 0, 0, 0, 0, [], [], [])]
set_option maxRecDepth 100000 in
theorem sz_sd342_0 : sy_seg sz_E (pv_T (sz_own false) sz_T) sz_RU [sz_cd281] sz_cd342 sz_ud342 ri_m_X11_isGained 918 none sz_hd342_0 = true := by decide +kernel
theorem sz_okd342 (xs : Nat → Value) (L : Nat) : sy_Cok (sz_env xs L) (pv_T (sz_own false) sz_T) sz_RU sz_cd342 := sy_chk_ok (CT := [sz_cd281]) (CU := sz_ud342) (M := ri_m_X11_isGained) (List.forall_mem_cons.mpr ⟨sz_okd281 xs L, fun _ h => absurd h List.not_mem_nil⟩) rfl rfl ⟨_, _, sz_sd342_0⟩ (fun _ h => absurd h List.not_mem_nil)

/-! X11_isGained  -/
set_option maxRecDepth 100000 in
noncomputable def sz_cd343 : sy_Ct := (110, 5, 116, [(3, .inr 244, .inl 0), (0, .inl 3, .inl 0), (1, .inr 0, .inl 0), (1, .inl 9999, .inl 0), (1, .inl 9999, .inl 0)], ([(0, 9999)], []), [], [], [(245, 264, 266), (245, 268, 270), (245, 272, 274), (245, 285, 285)], [(.inl none, 0, 0, ([(0, 9999)], []), [], [])])
set_option maxRecDepth 100000 in
noncomputable def sz_ud343 : List sy_Cut := []
set_option maxRecDepth 100000 in
noncomputable def sz_hd343_0 : List sy_Hn := [(69, 1, 3, 0, 0, 0, [], [], []),
  (277, 20, 0, 0, 0, 0, [], [], []),
  (0, 31, 0, 0, 0, 0, [], [], []),
  (0, 1, 3, 0, 1, 0, [], [], []),
  (277, 20, 0, 0, 0, 0, [], [], []),
  (0, 31, 0, 0, 0, 0, [], [], []),
  (277, 20, 0, 0, 0, 0, [], [], []),
  (0, 31, 0, 0, 0, 0, [], [], [])]
set_option maxRecDepth 100000 in
theorem sz_sd343_0 : sy_seg sz_E (pv_T (sz_own false) sz_T) sz_RU [sz_cd281] sz_cd343 sz_ud343 ri_m_X11_isGained 918 none sz_hd343_0 = true := by decide +kernel
theorem sz_okd343 (xs : Nat → Value) (L : Nat) : sy_Cok (sz_env xs L) (pv_T (sz_own false) sz_T) sz_RU sz_cd343 := sy_chk_ok (CT := [sz_cd281]) (CU := sz_ud343) (M := ri_m_X11_isGained) (List.forall_mem_cons.mpr ⟨sz_okd281 xs L, fun _ h => absurd h List.not_mem_nil⟩) rfl rfl ⟨_, _, sz_sd343_0⟩ (fun _ h => absurd h List.not_mem_nil)

/-! X11_isGained  -/
set_option maxRecDepth 100000 in
noncomputable def sz_cd344 : sy_Ct := (110, 5, 116, [(3, .inr 244, .inl 0), (0, .inl 3, .inl 0), (1, .inr 0, .inl 0), (1, .inr 1, .inl 0), (1, .inl 0, .inl 0)], ([(0, 9999), (0, 9999)], []), [], [], [(245, 264, 266), (245, 268, 270), (245, 272, 274), (245, 285, 285)], [(.inl none, 0, 0, ([(0, 9999), (0, 9999)], []), [], [])])
set_option maxRecDepth 100000 in
noncomputable def sz_ud344 : List sy_Cut := []
set_option maxRecDepth 100000 in
noncomputable def sz_hd344_0 : List sy_Hn := [(69, 1, 4, 0, 0, 0, [], [], []),
  (277, 20, 0, 0, 0, 0, [], [], []),
  (0, 31, 0, 0, 0, 0, [], [], []),
  (0, 1, 4, 0, 1, 0, [], [], []),
  (277, 20, 0, 0, 0, 0, [], [], []),
  (0, 31, 0, 0, 0, 0, [], [], []),
  (277, 20, 0, 0, 0, 0, [], [], []),
  (0, 31, 0, 0, 0, 0, [], [], [])]
set_option maxRecDepth 100000 in
theorem sz_sd344_0 : sy_seg sz_E (pv_T (sz_own false) sz_T) sz_RU [sz_cd281] sz_cd344 sz_ud344 ri_m_X11_isGained 918 none sz_hd344_0 = true := by decide +kernel
theorem sz_okd344 (xs : Nat → Value) (L : Nat) : sy_Cok (sz_env xs L) (pv_T (sz_own false) sz_T) sz_RU sz_cd344 := sy_chk_ok (CT := [sz_cd281]) (CU := sz_ud344) (M := ri_m_X11_isGained) (List.forall_mem_cons.mpr ⟨sz_okd281 xs L, fun _ h => absurd h List.not_mem_nil⟩) rfl rfl ⟨_, _, sz_sd344_0⟩ (fun _ h => absurd h List.not_mem_nil)

/-! X11_isGained  -/
set_option maxRecDepth 100000 in
noncomputable def sz_cd345 : sy_Ct := (110, 5, 116, [(3, .inr 244, .inl 0), (0, .inl 3, .inl 0), (1, .inr 0, .inl 0), (1, .inl 9999, .inl 0), (1, .inl 0, .inl 0)], ([(0, 9999)], []), [], [], [(245, 264, 266), (245, 268, 270), (245, 272, 274), (245, 285, 285)], [(.inl none, 0, 0, ([(0, 9999)], []), [], [])])
set_option maxRecDepth 100000 in
noncomputable def sz_ud345 : List sy_Cut := []
set_option maxRecDepth 100000 in
noncomputable def sz_hd345_0 : List sy_Hn := [(69, 1, 3, 0, 0, 0, [], [], []),
  (277, 20, 0, 0, 0, 0, [], [], []),
  (0, 31, 0, 0, 0, 0, [], [], []),
  (0, 1, 3, 0, 1, 0, [], [], []),
  (277, 20, 0, 0, 0, 0, [], [], []),
  (0, 31, 0, 0, 0, 0, [], [], []),
  (277, 20, 0, 0, 0, 0, [], [], []),
  (0, 31, 0, 0, 0, 0, [], [], [])]
set_option maxRecDepth 100000 in
theorem sz_sd345_0 : sy_seg sz_E (pv_T (sz_own false) sz_T) sz_RU [sz_cd281] sz_cd345 sz_ud345 ri_m_X11_isGained 918 none sz_hd345_0 = true := by decide +kernel
theorem sz_okd345 (xs : Nat → Value) (L : Nat) : sy_Cok (sz_env xs L) (pv_T (sz_own false) sz_T) sz_RU sz_cd345 := sy_chk_ok (CT := [sz_cd281]) (CU := sz_ud345) (M := ri_m_X11_isGained) (List.forall_mem_cons.mpr ⟨sz_okd281 xs L, fun _ h => absurd h List.not_mem_nil⟩) rfl rfl ⟨_, _, sz_sd345_0⟩ (fun _ h => absurd h List.not_mem_nil)

/-! X11_tune  -/
set_option maxRecDepth 100000 in
noncomputable def sz_cd346 : sy_Ct := (43, 6, 146, [(3, .inr 244, .inl 0), (0, .inr 0, .inl 0), (0, .inr 1, .inl 0)], ([((-2147483648), 2147483647), ((-2147483648), 2147483647)], []), [], [], [(244, 0, 0), (245, 33, 35), (245, 37, 39), (245, 41, 43), (245, 54, 54), (245, 110, 112), (245, 114, 116), (245, 118, 120), (245, 131, 131), (245, 187, 189), (245, 191, 193), (245, 195, 197), (245, 208, 208), (245, 264, 266), (245, 268, 270), (245, 272, 274), (245, 285, 285)], [(.inl (some (0, .inr 2, .inl 0)), 0, 0, ([(0, 9999), ((-2147483648), 2147483647), ((-2147483648), 2147483647)], []), [], [])])
set_option maxRecDepth 100000 in
noncomputable def sz_ud346 : List sy_Cut := []
set_option maxRecDepth 100000 in
noncomputable def sz_hd346_0 : List sy_Hn := [(0, 31, 0, 0, 0, 0, [], [], []),
  (0, 31, 0, 0, 0, 0, [], [], []),
  (0, 31, 0, 0, 0, 0, [], [], []),
  (0, 31, 0, 0, 0, 0, [], [], []),
  (25, 1, 0, 0, 0, 0, [], [], []),
  (74, 5, 6, 0, 0, 0, [], [], []),
  (0, 7, 0, 0, 0, 0, [([3], [(1, [2]), (1, [9]), (1, [0])])], [], []),
  (0, 7, 0, 0, 0, 0, [([4], [(1, [2]), (1, [0])])], [], []),
  (0, 3, 5, 0, 1, 240, [([], [(1, [0]), (1, [1])]), ([5], [(1, [0]), (1, [2])])], [], []),
  (43, 20, 0, 0, 0, 0, [], [], []),
  (0, 31, 0, 0, 0, 0, [], [], []),
  (4, 20, 4, 0, 0, 0, [], [], []),
  (0, 31, 0, 0, 0, 0, [], [], []),
  (13, 20, 5, 0, 0, 0, [], [], []),
  (0, 31, 0, 0, 0, 0, [], [], []),
  (4, 20, 6, 0, 0, 0, [], [], []),
  (0, 31, 0, 0, 0, 0, [], [], []),
  (16, 5, 6, 0, 0, 0, [], [], []),
  (0, 7, 0, 0, 0, 0, [([3], [(1, [2]), (1, [13]), (1, [0])])], [], []),
  (0, 7, 0, 0, 0, 0, [([4], [(1, [2]), (1, [0])])], [], []),
  (0, 3, 9, 0, 1, 1200, [([], [(1, [0]), (1, [2]), (5, [1])]), ([9], [(1, [0]), (1, [2])])], [], []),
  (41, 20, 7, 0, 0, 0, [], [], []),
  (0, 31, 0, 0, 0, 0, [], [], []),
  (13, 20, 8, 0, 0, 0, [], [], []),
  (0, 31, 0, 0, 0, 0, [], [], []),
  (14, 5, 6, 0, 0, 0, [], [], []),
  (0, 7, 0, 0, 0, 0, [([3], [(1, [2]), (1, [11]), (1, [0])])], [], []),
  (0, 7, 0, 0, 0, 0, [([4], [(1, [2]), (1, [0])])], [], []),
  (0, 3, 5, 0, 1, 240, [([], [(1, [0]), (1, [1])]), ([5], [(1, [0]), (1, [2])])], [], []),
  (41, 20, 0, 0, 0, 0, [], [], []),
  (0, 31, 0, 0, 0, 0, [], [], []),
  (4, 20, 4, 0, 0, 0, [], [], []),
  (0, 31, 0, 0, 0, 0, [], [], []),
  (13, 20, 5, 0, 0, 0, [], [], []),
  (0, 31, 0, 0, 0, 0, [], [], []),
  (4, 20, 6, 0, 0, 0, [], [], []),
  (0, 31, 0, 0, 0, 0, [], [], []),
  (0, 31, 0, 0, 0, 0, [], [], []),
  (0, 1, 0, 0, 1, 0, [], [], []),
  (74, 5, 15, 0, 0, 0, [], [], []),
  (0, 7, 0, 0, 0, 0, [([0], [(1, [2]), (1, [9]), (1, [7]), (1, [0])])], [], []),
  (0, 7, 0, 0, 0, 0, [([4], [(1, [2]), (1, [0])])], [], []),
  (0, 3, 5, 0, 1, 240, [([], [(1, [0]), (1, [1])]), ([5], [(1, [0]), (1, [2])])], [], []),
  (43, 20, 1, 0, 0, 0, [], [], []),
  (0, 31, 0, 0, 0, 0, [], [], []),
  (4, 20, 9, 0, 0, 0, [], [], []),
  (0, 31, 0, 0, 0, 0, [], [], []),
  (13, 20, 10, 0, 0, 0, [], [], []),
  (0, 31, 0, 0, 0, 0, [], [], []),
  (4, 20, 11, 0, 0, 0, [], [], []),
  (0, 31, 0, 0, 0, 0, [], [], []),
  (16, 5, 15, 0, 0, 0, [], [], []),
  (0, 7, 0, 0, 0, 0, [([0], [(1, [2]), (1, [13]), (1, [11]), (1, [0])])], [], []),
  (0, 7, 0, 0, 0, 0, [([4], [(1, [2]), (1, [0])])], [], []),
  (0, 3, 9, 0, 1, 1200, [([], [(1, [0]), (1, [2]), (5, [1])]), ([9], [(1, [0]), (1, [2])])], [], []),
  (41, 20, 12, 0, 0, 0, [], [], []),
  (0, 31, 0, 0, 0, 0, [], [], []),
  (13, 20, 13, 0, 0, 0, [], [], []),
  (0, 31, 0, 0, 0, 0, [], [], []),
  (14, 5, 15, 0, 0, 0, [], [], []),
  (0, 7, 0, 0, 0, 0, [([0], [(1, [2]), (1, [11]), (1, [9]), (1, [0])])], [], []),
  (0, 7, 0, 0, 0, 0, [([4], [(1, [2]), (1, [0])])], [], []),
  (0, 3, 5, 0, 1, 240, [([], [(1, [0]), (1, [1])]), ([5], [(1, [0]), (1, [2])])], [], []),
  (41, 20, 1, 0, 0, 0, [], [], []),
  (0, 31, 0, 0, 0, 0, [], [], []),
  (4, 20, 9, 0, 0, 0, [], [], []),
  (0, 31, 0, 0, 0, 0, [], [], []),
  (13, 20, 10, 0, 0, 0, [], [], []),
  (0, 31, 0, 0, 0, 0, [], [], []),
  (4, 20, 11, 0, 0, 0, [], [], []),
  (0, 31, 0, 0, 0, 0, [], [], []),
  (0, 31, 0, 0, 0, 0, [], [], []),
  (0, 1, 0, 0, 2, 0, [], [], []),
  (74, 5, 24, 0, 0, 0, [], [], []),
  (0, 7, 0, 0, 0, 0, [([0], [(1, [2]), (1, [9]), (1, [7]), (1, [0])])], [], []),
  (0, 7, 0, 0, 0, 0, [([4], [(1, [2]), (1, [0])])], [], []),
  (0, 3, 5, 0, 1, 240, [([], [(1, [0]), (1, [1])]), ([5], [(1, [0]), (1, [2])])], [], []),
  (43, 20, 2, 0, 0, 0, [], [], []),
  (0, 31, 0, 0, 0, 0, [], [], []),
  (4, 20, 14, 0, 0, 0, [], [], []),
  (0, 31, 0, 0, 0, 0, [], [], []),
  (13, 20, 15, 0, 0, 0, [], [], []),
  (0, 31, 0, 0, 0, 0, [], [], []),
  (4, 20, 16, 0, 0, 0, [], [], []),
  (0, 31, 0, 0, 0, 0, [], [], []),
  (16, 5, 24, 0, 0, 0, [], [], []),
  (0, 7, 0, 0, 0, 0, [([0], [(1, [2]), (1, [13]), (1, [11]), (1, [0])])], [], []),
  (0, 7, 0, 0, 0, 0, [([4], [(1, [2]), (1, [0])])], [], []),
  (0, 3, 9, 0, 1, 1200, [([], [(1, [0]), (1, [2]), (5, [1])]), ([9], [(1, [0]), (1, [2])])], [], []),
  (41, 20, 17, 0, 0, 0, [], [], []),
  (0, 31, 0, 0, 0, 0, [], [], []),
  (13, 20, 18, 0, 0, 0, [], [], []),
  (0, 31, 0, 0, 0, 0, [], [], []),
  (14, 5, 24, 0, 0, 0, [], [], []),
  (0, 7, 0, 0, 0, 0, [([0], [(1, [2]), (1, [11]), (1, [9]), (1, [0])])], [], []),
  (0, 7, 0, 0, 0, 0, [([4], [(1, [2]), (1, [0])])], [], []),
  (0, 3, 5, 0, 1, 240, [([], [(1, [0]), (1, [1])]), ([5], [(1, [0]), (1, [2])])], [], []),
  (41, 20, 2, 0, 0, 0, [], [], []),
  (0, 31, 0, 0, 0, 0, [], [], []),
  (4, 20, 14, 0, 0, 0, [], [], []),
  (0, 31, 0, 0, 0, 0, [], [], []),
  (13, 20, 15, 0, 0, 0, [], [], []),
  (0, 31, 0, 0, 0, 0, [], [], []),
  (4, 20, 16, 0, 0, 0, [], [], []),
  (0, 31, 0, 0, 0, 0, [], [], []),
  (0, 31, 0, 0, 0, 0, [], [], []),
  (74, 5, 33, 0, 0, 0, [], [], []),
  (0, 7, 0, 0, 0, 0, [([0], [(1, [2]), (1, [9]), (1, [7]), (1, [0])])], [], []),
  (0, 7, 0, 0, 0, 0, [([4], [(1, [2]), (1, [0])])], [], []),
  (0, 3, 5, 0, 1, 240, [([], [(1, [0]), (1, [1])]), ([5], [(1, [0]), (1, [2])])], [], []),
  (43, 20, 3, 0, 0, 0, [], [], []),
  (0, 31, 0, 0, 0, 0, [], [], []),
  (4, 20, 19, 0, 0, 0, [], [], []),
  (0, 31, 0, 0, 0, 0, [], [], []),
  (13, 20, 20, 0, 0, 0, [], [], []),
  (0, 31, 0, 0, 0, 0, [], [], []),
  (4, 20, 21, 0, 0, 0, [], [], []),
  (0, 31, 0, 0, 0, 0, [], [], []),
  (16, 5, 33, 0, 0, 0, [], [], []),
  (0, 7, 0, 0, 0, 0, [([0], [(1, [2]), (1, [13]), (1, [11]), (1, [0])])], [], []),
  (0, 7, 0, 0, 0, 0, [([4], [(1, [2]), (1, [0])])], [], []),
  (0, 3, 9, 0, 1, 1200, [([], [(1, [0]), (1, [2]), (5, [1])]), ([9], [(1, [0]), (1, [2])])], [], []),
  (41, 20, 22, 0, 0, 0, [], [], []),
  (0, 31, 0, 0, 0, 0, [], [], []),
  (13, 20, 23, 0, 0, 0, [], [], []),
  (0, 31, 0, 0, 0, 0, [], [], []),
  (14, 5, 33, 0, 0, 0, [], [], []),
  (0, 7, 0, 0, 0, 0, [([0], [(1, [2]), (1, [11]), (1, [9]), (1, [0])])], [], []),
  (0, 7, 0, 0, 0, 0, [([4], [(1, [2]), (1, [0])])], [], []),
  (0, 3, 5, 0, 1, 240, [([], [(1, [0]), (1, [1])]), ([5], [(1, [0]), (1, [2])])], [], []),
  (41, 20, 3, 0, 0, 0, [], [], []),
  (0, 31, 0, 0, 0, 0, [], [], []),
  (4, 20, 19, 0, 0, 0, [], [], []),
  (0, 31, 0, 0, 0, 0, [], [], []),
  (13, 20, 20, 0, 0, 0, [], [], []),
  (0, 31, 0, 0, 0, 0, [], [], []),
  (4, 20, 21, 0, 0, 0, [], [], []),
  (0, 31, 0, 0, 0, 0, [], [], []),
  (0, 31, 0, 0, 0, 0, [], [], [])]
set_option maxRecDepth 100000 in
theorem sz_sd346_0 : sy_seg sz_E (pv_T (sz_own false) sz_T) sz_RU [sz_cd276, sz_cd278, sz_cd280, sz_cd282, sz_cd326, sz_cd327, sz_cd328, sz_cd329, sz_cd330, sz_cd331, sz_cd332, sz_cd333, sz_cd334, sz_cd335, sz_cd336, sz_cd337, sz_cd338, sz_cd339, sz_cd340, sz_cd341, sz_cd342, sz_cd343, sz_cd344, sz_cd345] sz_cd346 sz_ud346 ri_m_X11_tune 1960 none sz_hd346_0 = true := by decide +kernel
theorem sz_okd346 (xs : Nat → Value) (L : Nat) : sy_Cok (sz_env xs L) (pv_T (sz_own false) sz_T) sz_RU sz_cd346 := sy_chk_ok (CT := [sz_cd276, sz_cd278, sz_cd280, sz_cd282, sz_cd326, sz_cd327, sz_cd328, sz_cd329, sz_cd330, sz_cd331, sz_cd332, sz_cd333, sz_cd334, sz_cd335, sz_cd336, sz_cd337, sz_cd338, sz_cd339, sz_cd340, sz_cd341, sz_cd342, sz_cd343, sz_cd344, sz_cd345]) (CU := sz_ud346) (M := ri_m_X11_tune) (List.forall_mem_cons.mpr ⟨sz_okd276 xs L, List.forall_mem_cons.mpr ⟨sz_okd278 xs L, List.forall_mem_cons.mpr ⟨sz_okd280 xs L, List.forall_mem_cons.mpr ⟨sz_okd282 xs L, List.forall_mem_cons.mpr ⟨sz_okd326 xs L, List.forall_mem_cons.mpr ⟨sz_okd327 xs L, List.forall_mem_cons.mpr ⟨sz_okd328 xs L, List.forall_mem_cons.mpr ⟨sz_okd329 xs L, List.forall_mem_cons.mpr ⟨sz_okd330 xs L, List.forall_mem_cons.mpr ⟨sz_okd331 xs L, List.forall_mem_cons.mpr ⟨sz_okd332 xs L, List.forall_mem_cons.mpr ⟨sz_okd333 xs L, List.forall_mem_cons.mpr ⟨sz_okd334 xs L, List.forall_mem_cons.mpr ⟨sz_okd335 xs L, List.forall_mem_cons.mpr ⟨sz_okd336 xs L, List.forall_mem_cons.mpr ⟨sz_okd337 xs L, List.forall_mem_cons.mpr ⟨sz_okd338 xs L, List.forall_mem_cons.mpr ⟨sz_okd339 xs L, List.forall_mem_cons.mpr ⟨sz_okd340 xs L, List.forall_mem_cons.mpr ⟨sz_okd341 xs L, List.forall_mem_cons.mpr ⟨sz_okd342 xs L, List.forall_mem_cons.mpr ⟨sz_okd343 xs L, List.forall_mem_cons.mpr ⟨sz_okd344 xs L, List.forall_mem_cons.mpr ⟨sz_okd345 xs L, fun _ h => absurd h List.not_mem_nil⟩⟩⟩⟩⟩⟩⟩⟩⟩⟩⟩⟩⟩⟩⟩⟩⟩⟩⟩⟩⟩⟩⟩⟩) rfl rfl ⟨_, _, sz_sd346_0⟩ (fun _ h => absurd h List.not_mem_nil)

/-! X7_copyFrom  -/
set_option maxRecDepth 100000 in
noncomputable def sz_cd347 : sy_Ct := (203, 1, 18, [(3, .inr 173, .inl 0), (3, .inr 61, .inl 0)], ([], []), [], [], [(173, 2, 2), (174, 0, 31)], [(.inl none, 0, 0, ([], []), [], [])])
set_option maxRecDepth 100000 in
noncomputable def sz_ud347 : List sy_Cut := []
set_option maxRecDepth 100000 in
noncomputable def sz_hd347_0 : List sy_Hn := [(0, 4, 61, 2, 0, 0, [], [], []),
  (0, 1, 0, 0, 0, 0, [], [], []),
  (0, 31, 0, 0, 0, 0, [], [], []),
  (0, 1, 0, 0, 1, 0, [], [], []),
  (0, 31, 0, 0, 0, 0, [], [], []),
  (0, 1, 0, 0, 2, 0, [], [], []),
  (0, 31, 0, 0, 0, 0, [], [], []),
  (0, 1, 0, 0, 3, 0, [], [], []),
  (0, 31, 0, 0, 0, 0, [], [], []),
  (0, 1, 0, 0, 4, 0, [], [], []),
  (0, 31, 0, 0, 0, 0, [], [], []),
  (0, 1, 0, 0, 5, 0, [], [], []),
  (0, 31, 0, 0, 0, 0, [], [], []),
  (0, 1, 0, 0, 6, 0, [], [], []),
  (0, 31, 0, 0, 0, 0, [], [], []),
  (0, 1, 0, 0, 7, 0, [], [], []),
  (0, 31, 0, 0, 0, 0, [], [], []),
  (0, 31, 0, 0, 0, 0, [], [], [])]
set_option maxRecDepth 100000 in
theorem sz_sd347_0 : sy_seg sz_E (pv_T (sz_own true) sz_T) sz_RU [] sz_cd347 sz_ud347 ri_m_X7_copyFrom 168 none sz_hd347_0 = true := by decide +kernel
theorem sz_okd347 (xs : Nat → Value) (L : Nat) : sy_Cok (sz_env xs L) (pv_T (sz_own true) sz_T) sz_RU sz_cd347 := sy_chk_ok (CT := []) (CU := sz_ud347) (M := ri_m_X7_copyFrom) (fun _ h => absurd h List.not_mem_nil) rfl rfl ⟨_, _, sz_sd347_0⟩ (fun _ h => absurd h List.not_mem_nil)

/-! X7_copyFrom  -/
set_option maxRecDepth 100000 in
noncomputable def sz_cd348 : sy_Ct := (203, 1, 18, [(3, .inr 175, .inl 0), (3, .inr 63, .inl 0)], ([], []), [], [], [(175, 2, 2), (176, 0, 240)], [(.inl none, 0, 0, ([], []), [], [])])
set_option maxRecDepth 100000 in
noncomputable def sz_ud348 : List sy_Cut := []
set_option maxRecDepth 100000 in
noncomputable def sz_hd348_0 : List sy_Hn := [(0, 31, 0, 0, 0, 0, [], [], [])]
set_option maxRecDepth 100000 in
theorem sz_sd348_0 : sy_seg sz_E (pv_T (sz_own true) sz_T) sz_RU [] sz_cd348 sz_ud348 ri_m_X7_copyFrom 22 none sz_hd348_0 = true := by decide +kernel
theorem sz_okd348 (xs : Nat → Value) (L : Nat) : sy_Cok (sz_env xs L) (pv_T (sz_own true) sz_T) sz_RU sz_cd348 := sy_chk_ok (CT := []) (CU := sz_ud348) (M := ri_m_X7_copyFrom) (fun _ h => absurd h List.not_mem_nil) rfl rfl ⟨_, _, sz_sd348_0⟩ (fun _ h => absurd h List.not_mem_nil)

/-! X2_copyFrom  -/
set_option maxRecDepth 100000 in
noncomputable def sz_cd349 : sy_Ct := (202, 2, 39, [(3, .inr 179, .inl 0), (3, .inr 67, .inl 0)], ([(1, 3)], []), [((72, 5), (0, .inr 0, .inl 0))], [457, 458, 459, 460], [(179, 4, 14), (179, 16, 18), (180, 0, 6), (181, 0, 8), (182, 0, 4), (183, 0, 7), (184, 0, 5), (185, 0, 2), (186, 0, 2), (187, 0, 2), (188, 0, 2), (189, 0, 8), (190, 0, 3)], [(.inl none, 0, 0, ([(1, 3), (1, 3)], []), [((184, 5), (0, .inr 1, .inl 0))], [457, 458, 459, 460])])
set_option maxRecDepth 100000 in
noncomputable def sz_ud349 : List sy_Cut := []
set_option maxRecDepth 100000 in
noncomputable def sz_hd349_0 : List sy_Hn := [(244, 9, 373, 437, 0, 0, [], [], []),
  (0, 9, 374, 438, 0, 0, [], [], []),
  (0, 9, 375, 439, 0, 0, [], [], []),
  (0, 9, 376, 440, 0, 0, [], [], []),
  (0, 9, 377, 441, 0, 0, [], [], []),
  (0, 31, 0, 0, 0, 0, [], [], [])]
set_option maxRecDepth 100000 in
theorem sz_sd349_0 : sy_seg sz_E (pv_T (sz_own true) sz_T) sz_RU [] sz_cd349 sz_ud349 ri_m_X2_copyFrom 256 none sz_hd349_0 = true := by decide +kernel
theorem sz_okd349 (xs : Nat → Value) (L : Nat) : sy_Cok (sz_env xs L) (pv_T (sz_own true) sz_T) sz_RU sz_cd349 := sy_chk_ok (CT := []) (CU := sz_ud349) (M := ri_m_X2_copyFrom) (fun _ h => absurd h List.not_mem_nil) rfl rfl ⟨_, _, sz_sd349_0⟩ (fun _ h => absurd h List.not_mem_nil)

/-! X2_copyFrom  -/
set_option maxRecDepth 100000 in
noncomputable def sz_cd350 : sy_Ct := (202, 2, 39, [(3, .inr 191, .inl 0), (3, .inr 79, .inl 0)], ([(1, 3)], []), [((84, 5), (0, .inr 0, .inl 0))], [457, 458, 459, 460], [(191, 4, 14), (191, 16, 18), (192, 0, 6), (193, 0, 8), (194, 0, 4), (195, 0, 7), (196, 0, 5), (197, 0, 2), (198, 0, 2), (199, 0, 2), (200, 0, 2), (201, 0, 8), (202, 0, 3)], [(.inl none, 0, 0, ([(1, 3), (1, 3)], []), [((196, 5), (0, .inr 1, .inl 0))], [457, 458, 459, 460])])
set_option maxRecDepth 100000 in
noncomputable def sz_ud350 : List sy_Cut := []
set_option maxRecDepth 100000 in
noncomputable def sz_hd350_0 : List sy_Hn := [(244, 9, 378, 442, 0, 0, [], [], []),
  (0, 9, 379, 443, 0, 0, [], [], []),
  (0, 9, 380, 444, 0, 0, [], [], []),
  (0, 9, 381, 445, 0, 0, [], [], []),
  (0, 9, 382, 446, 0, 0, [], [], []),
  (0, 31, 0, 0, 0, 0, [], [], [])]
set_option maxRecDepth 100000 in
theorem sz_sd350_0 : sy_seg sz_E (pv_T (sz_own true) sz_T) sz_RU [] sz_cd350 sz_ud350 ri_m_X2_copyFrom 256 none sz_hd350_0 = true := by decide +kernel
theorem sz_okd350 (xs : Nat → Value) (L : Nat) : sy_Cok (sz_env xs L) (pv_T (sz_own true) sz_T) sz_RU sz_cd350 := sy_chk_ok (CT := []) (CU := sz_ud350) (M := ri_m_X2_copyFrom) (fun _ h => absurd h List.not_mem_nil) rfl rfl ⟨_, _, sz_sd350_0⟩ (fun _ h => absurd h List.not_mem_nil)

/-! X2_copyFrom  -/
set_option maxRecDepth 100000 in
noncomputable def sz_cd351 : sy_Ct := (202, 2, 39, [(3, .inr 203, .inl 0), (3, .inr 91, .inl 0)], ([(1, 3)], []), [((96, 5), (0, .inr 0, .inl 0))], [457, 458, 459, 460], [(203, 4, 14), (203, 16, 18), (204, 0, 6), (205, 0, 8), (206, 0, 4), (207, 0, 7), (208, 0, 5), (209, 0, 2), (210, 0, 2), (211, 0, 2), (212, 0, 2), (213, 0, 8), (214, 0, 3)], [(.inl none, 0, 0, ([(1, 3), (1, 3)], []), [((208, 5), (0, .inr 1, .inl 0))], [457, 458, 459, 460])])
set_option maxRecDepth 100000 in
noncomputable def sz_ud351 : List sy_Cut := []
set_option maxRecDepth 100000 in
noncomputable def sz_hd351_0 : List sy_Hn := [(244, 9, 383, 447, 0, 0, [], [], []),
  (0, 9, 384, 448, 0, 0, [], [], []),
  (0, 9, 385, 449, 0, 0, [], [], []),
  (0, 9, 386, 450, 0, 0, [], [], []),
  (0, 9, 387, 451, 0, 0, [], [], []),
  (0, 31, 0, 0, 0, 0, [], [], [])]
set_option maxRecDepth 100000 in
theorem sz_sd351_0 : sy_seg sz_E (pv_T (sz_own true) sz_T) sz_RU [] sz_cd351 sz_ud351 ri_m_X2_copyFrom 256 none sz_hd351_0 = true := by decide +kernel
theorem sz_okd351 (xs : Nat → Value) (L : Nat) : sy_Cok (sz_env xs L) (pv_T (sz_own true) sz_T) sz_RU sz_cd351 := sy_chk_ok (CT := []) (CU := sz_ud351) (M := ri_m_X2_copyFrom) (fun _ h => absurd h List.not_mem_nil) rfl rfl ⟨_, _, sz_sd351_0⟩ (fun _ h => absurd h List.not_mem_nil)

/-! X2_copyFrom  -/
set_option maxRecDepth 100000 in
noncomputable def sz_cd352 : sy_Ct := (202, 2, 39, [(3, .inr 215, .inl 0), (3, .inr 103, .inl 0)], ([(1, 3)], []), [((108, 5), (0, .inr 0, .inl 0))], [457, 458, 459, 460], [(215, 4, 14), (215, 16, 18), (216, 0, 6), (217, 0, 8), (218, 0, 4), (219, 0, 7), (220, 0, 5), (221, 0, 2), (222, 0, 2), (223, 0, 2), (224, 0, 2), (225, 0, 8), (226, 0, 3)], [(.inl none, 0, 0, ([(1, 3), (1, 3)], []), [((220, 5), (0, .inr 1, .inl 0))], [457, 458, 459, 460])])
set_option maxRecDepth 100000 in
noncomputable def sz_ud352 : List sy_Cut := []
set_option maxRecDepth 100000 in
noncomputable def sz_hd352_0 : List sy_Hn := [(244, 9, 388, 452, 0, 0, [], [], []),
  (0, 9, 389, 453, 0, 0, [], [], []),
  (0, 9, 390, 454, 0, 0, [], [], []),
  (0, 9, 391, 455, 0, 0, [], [], []),
  (0, 9, 392, 456, 0, 0, [], [], []),
  (0, 31, 0, 0, 0, 0, [], [], [])]
set_option maxRecDepth 100000 in
theorem sz_sd352_0 : sy_seg sz_E (pv_T (sz_own true) sz_T) sz_RU [] sz_cd352 sz_ud352 ri_m_X2_copyFrom 256 none sz_hd352_0 = true := by decide +kernel
theorem sz_okd352 (xs : Nat → Value) (L : Nat) : sy_Cok (sz_env xs L) (pv_T (sz_own true) sz_T) sz_RU sz_cd352 := sy_chk_ok (CT := []) (CU := sz_ud352) (M := ri_m_X2_copyFrom) (fun _ h => absurd h List.not_mem_nil) rfl rfl ⟨_, _, sz_sd352_0⟩ (fun _ h => absurd h List.not_mem_nil)

/-! X0_copyFrom  -/
set_option maxRecDepth 100000 in
noncomputable def sz_cd353 : sy_Ct := (148, 3, 60, [(3, .inr 171, .inl 0), (3, .inr 59, .inl 0)], ([(0, 12)], []), [((59, 2), (0, .inr 0, .inl 0))], [], [(171, 1, 3), (173, 2, 2), (174, 0, 31), (175, 2, 2), (176, 0, 240), (179, 4, 14), (179, 16, 18), (180, 0, 6), (181, 0, 8), (182, 0, 4), (183, 0, 7), (184, 0, 5), (185, 0, 2), (186, 0, 2), (187, 0, 2), (188, 0, 2), (189, 0, 8), (190, 0, 3), (191, 4, 14), (191, 16, 18), (192, 0, 6), (193, 0, 8), (194, 0, 4), (195, 0, 7), (196, 0, 5), (197, 0, 2), (198, 0, 2), (199, 0, 2), (200, 0, 2), (201, 0, 8), (202, 0, 3), (203, 4, 14), (203, 16, 18), (204, 0, 6), (205, 0, 8), (206, 0, 4), (207, 0, 7), (208, 0, 5), (209, 0, 2), (210, 0, 2), (211, 0, 2), (212, 0, 2), (213, 0, 8), (214, 0, 3), (215, 4, 14), (215, 16, 18), (216, 0, 6), (217, 0, 8), (218, 0, 4), (219, 0, 7), (220, 0, 5), (221, 0, 2), (222, 0, 2), (223, 0, 2), (224, 0, 2), (225, 0, 8), (226, 0, 3)], [(.inl none, 0, 0, ([(0, 12), (0, 12)], [[((-1), [1]), (1, [0])], [(1, [1]), ((-1), [0])]]), [((171, 2), (0, .inr 1, .inl 0))], [])])
set_option maxRecDepth 100000 in
noncomputable def sz_ud353 : List sy_Cut := []
set_option maxRecDepth 100000 in
noncomputable def sz_hd353_0 : List sy_Hn := [(22, 4, 184, 5, 0, 0, [], [], []),
  (0, 6, 457, 0, 0, 0, [([1], [(1, [0]), (1, [2])])], [], [0]),
  (0, 4, 196, 5, 0, 0, [], [], []),
  (0, 6, 458, 0, 0, 0, [([1], [(1, [0]), (1, [2])])], [], [0]),
  (0, 4, 208, 5, 0, 0, [], [], []),
  (0, 6, 459, 0, 0, 0, [([1], [(1, [0]), (1, [2])])], [], [0]),
  (0, 4, 220, 5, 0, 0, [], [], []),
  (0, 6, 460, 0, 0, 0, [([1], [(1, [0]), (1, [2])])], [], [0]),
  (1, 20, 0, 0, 0, 0, [], [], []),
  (5, 20, 1, 0, 0, 0, [], [], []),
  (0, 31, 0, 0, 0, 0, [([], [(1, [0])]), ([], [(1, [0])])], [], []),
  (8, 4, 72, 5, 0, 0, [], [], []),
  (0, 5, 393, 0, 0, 0, [], [], []),
  (0, 7, 0, 0, 0, 0, [([1], [(1, [2]), (1, [0])])], [], []),
  (0, 3, 3, 0, 1, 3, [([], [(1, [0]), (1, [1])]), ([3], [(1, [0]), (1, [2])])], [], []),
  (1, 20, 2, 0, 0, 0, [], [], []),
  (10, 6, 457, 0, 0, 0, [([4], [(1, [0]), (1, [1])])], [], [1]),
  (0, 4, 196, 5, 0, 0, [], [], []),
  (0, 6, 458, 0, 0, 0, [([1], [(1, [0]), (1, [2])])], [], [0]),
  (0, 4, 208, 5, 0, 0, [], [], []),
  (0, 6, 459, 0, 0, 0, [([1], [(1, [0]), (1, [2])])], [], [0]),
  (0, 4, 220, 5, 0, 0, [], [], []),
  (0, 6, 460, 0, 0, 0, [([1], [(1, [0]), (1, [2])])], [], [0]),
  (1, 20, 0, 0, 0, 0, [], [], []),
  (5, 20, 1, 0, 0, 0, [], [], []),
  (0, 31, 0, 0, 0, 0, [([], [(1, [0])]), ([], [(1, [0])])], [], []),
  (8, 4, 84, 5, 0, 0, [], [], []),
  (0, 5, 394, 0, 0, 0, [], [], []),
  (0, 7, 0, 0, 0, 0, [([1], [(1, [2]), (1, [0])])], [], []),
  (0, 3, 5, 0, 1, 3, [([], [(1, [0]), (1, [1])]), ([5], [(1, [0]), (1, [2])])], [], []),
  (1, 20, 3, 0, 0, 0, [], [], []),
  (10, 6, 457, 0, 0, 0, [([4], [(1, [0]), (1, [1])])], [], [1]),
  (0, 6, 458, 0, 0, 0, [([6], [(1, [0]), (1, [1])])], [], [1]),
  (0, 4, 208, 5, 0, 0, [], [], []),
  (0, 6, 459, 0, 0, 0, [([1], [(1, [0]), (1, [2])])], [], [0]),
  (0, 4, 220, 5, 0, 0, [], [], []),
  (0, 6, 460, 0, 0, 0, [([1], [(1, [0]), (1, [2])])], [], [0]),
  (1, 20, 0, 0, 0, 0, [], [], []),
  (5, 20, 1, 0, 0, 0, [], [], []),
  (0, 31, 0, 0, 0, 0, [([], [(1, [0])]), ([], [(1, [0])])], [], []),
  (8, 4, 96, 5, 0, 0, [], [], []),
  (0, 5, 395, 0, 0, 0, [], [], []),
  (0, 7, 0, 0, 0, 0, [([1], [(1, [2]), (1, [0])])], [], []),
  (0, 3, 7, 0, 1, 3, [([], [(1, [0]), (1, [1])]), ([7], [(1, [0]), (1, [2])])], [], []),
  (1, 20, 4, 0, 0, 0, [], [], []),
  (10, 6, 457, 0, 0, 0, [([4], [(1, [0]), (1, [1])])], [], [1]),
  (0, 6, 458, 0, 0, 0, [([6], [(1, [0]), (1, [1])])], [], [1]),
  (0, 6, 459, 0, 0, 0, [([8], [(1, [0]), (1, [1])])], [], [1]),
  (0, 4, 220, 5, 0, 0, [], [], []),
  (0, 6, 460, 0, 0, 0, [([1], [(1, [0]), (1, [2])])], [], [0]),
  (1, 20, 0, 0, 0, 0, [], [], []),
  (5, 20, 1, 0, 0, 0, [], [], []),
  (0, 31, 0, 0, 0, 0, [([], [(1, [0])]), ([], [(1, [0])])], [], []),
  (8, 4, 108, 5, 0, 0, [], [], []),
  (0, 5, 396, 0, 0, 0, [], [], []),
  (0, 7, 0, 0, 0, 0, [([1], [(1, [2]), (1, [0])])], [], []),
  (0, 3, 9, 0, 1, 3, [([], [(1, [0]), (1, [1])]), ([9], [(1, [0]), (1, [2])])], [], []),
  (1, 20, 5, 0, 0, 0, [], [], []),
  (10, 6, 457, 0, 0, 0, [([4], [(1, [0]), (1, [1])])], [], [1]),
  (0, 6, 458, 0, 0, 0, [([6], [(1, [0]), (1, [1])])], [], [1]),
  (0, 6, 459, 0, 0, 0, [([8], [(1, [0]), (1, [1])])], [], [1]),
  (0, 6, 460, 0, 0, 0, [([10], [(1, [0]), (1, [1])])], [], [1]),
  (1, 20, 0, 0, 0, 0, [], [], []),
  (5, 20, 1, 0, 0, 0, [], [], []),
  (0, 31, 0, 0, 0, 0, [([], [(1, [0])]), ([], [(1, [0])])], [], [])]
set_option maxRecDepth 100000 in
theorem sz_sd353_0 : sy_seg sz_E (pv_T (sz_own true) sz_T) sz_RU [sz_cd347, sz_cd348, sz_cd349, sz_cd350, sz_cd351, sz_cd352] sz_cd353 sz_ud353 ri_m_X0_copyFrom 211 none sz_hd353_0 = true := by decide +kernel
theorem sz_okd353 (xs : Nat → Value) (L : Nat) : sy_Cok (sz_env xs L) (pv_T (sz_own true) sz_T) sz_RU sz_cd353 := sy_chk_ok (CT := [sz_cd347, sz_cd348, sz_cd349, sz_cd350, sz_cd351, sz_cd352]) (CU := sz_ud353) (M := ri_m_X0_copyFrom) (List.forall_mem_cons.mpr ⟨sz_okd347 xs L, List.forall_mem_cons.mpr ⟨sz_okd348 xs L, List.forall_mem_cons.mpr ⟨sz_okd349 xs L, List.forall_mem_cons.mpr ⟨sz_okd350 xs L, List.forall_mem_cons.mpr ⟨sz_okd351 xs L, List.forall_mem_cons.mpr ⟨sz_okd352 xs L, fun _ h => absurd h List.not_mem_nil⟩⟩⟩⟩⟩⟩) rfl rfl ⟨_, _, sz_sd353_0⟩ (fun _ h => absurd h List.not_mem_nil)

/-! X2_keepI  -/
set_option maxRecDepth 100000 in
noncomputable def sz_cd354 : sy_Ct := (235, 1, 25, [(3, .inr 179, .inl 0), (1, .inr 0, .inl 0)], ([((-9223372036854775808), 9223372036854775807)], []), [], [], [(179, 8, 8)], [(.inl none, 0, 0, ([((-9223372036854775808), 9223372036854775807)], []), [], [])])
set_option maxRecDepth 100000 in
noncomputable def sz_ud354 : List sy_Cut := []
set_option maxRecDepth 100000 in
noncomputable def sz_hd354_0 : List sy_Hn := [(0, 31, 0, 0, 0, 0, [], [], []),
  (0, 31, 0, 0, 0, 0, [], [], []),
  (0, 31, 0, 0, 0, 0, [], [], [])]
set_option maxRecDepth 100000 in
theorem sz_sd354_0 : sy_seg sz_E (pv_T (sz_own true) sz_T) sz_RU [] sz_cd354 sz_ud354 ri_m_X2_keepI 35 none sz_hd354_0 = true := by decide +kernel
theorem sz_okd354 (xs : Nat → Value) (L : Nat) : sy_Cok (sz_env xs L) (pv_T (sz_own true) sz_T) sz_RU sz_cd354 := sy_chk_ok (CT := []) (CU := sz_ud354) (M := ri_m_X2_keepI) (fun _ h => absurd h List.not_mem_nil) rfl rfl ⟨_, _, sz_sd354_0⟩ (fun _ h => absurd h List.not_mem_nil)

/-! X2_balance  -/
set_option maxRecDepth 100000 in
noncomputable def sz_cd355 : sy_Ct := (173, 2, 47, [(3, .inr 179, .inl 0)], ([], []), [], [], [(179, 8, 8)], [(.inl none, 0, 0, ([], []), [], [])])
set_option maxRecDepth 100000 in
noncomputable def sz_ud355 : List sy_Cut := []
set_option maxRecDepth 100000 in
noncomputable def sz_hd355_0 : List sy_Hn := [(52, 20, 0, 0, 0, 0, [], [], []),
  (0, 31, 0, 0, 0, 0, [], [], [])]
set_option maxRecDepth 100000 in
theorem sz_sd355_0 : sy_seg sz_E (pv_T (sz_own true) sz_T) sz_RU [sz_cd354] sz_cd355 sz_ud355 ri_m_X2_balance 60 none sz_hd355_0 = true := by decide +kernel
theorem sz_okd355 (xs : Nat → Value) (L : Nat) : sy_Cok (sz_env xs L) (pv_T (sz_own true) sz_T) sz_RU sz_cd355 := sy_chk_ok (CT := [sz_cd354]) (CU := sz_ud355) (M := ri_m_X2_balance) (List.forall_mem_cons.mpr ⟨sz_okd354 xs L, fun _ h => absurd h List.not_mem_nil⟩) rfl rfl ⟨_, _, sz_sd355_0⟩ (fun _ h => absurd h List.not_mem_nil)

/-! X7_add  -/
set_option maxRecDepth 100000 in
noncomputable def sz_cd356 : sy_Ct := (233, 2, 39, [(3, .inr 175, .inl 0), (0, .inr 0, .inl 0), (0, .inr 1, .inl 0), (0, .inr 2, .inl 0), (0, .inr 3, .inl 0)], ([((-2147483648), 2147483647), ((-2147483648), 2147483647), ((-2147483648), 2147483647), ((-2147483648), 2147483647)], []), [], [], [(175, 2, 2), (176, 0, 239)], [(.inl none, 0, 0, ([((-2147483648), 2147483647), ((-2147483648), 2147483647), ((-2147483648), 2147483647), ((-2147483648), 2147483647)], []), [], [])])
set_option maxRecDepth 100000 in
noncomputable def sz_ud356 : List sy_Cut := []
set_option maxRecDepth 100000 in
noncomputable def sz_hd356_0 : List sy_Hn := [(0, 31, 0, 0, 0, 0, [], [], []),
  (0, 31, 0, 0, 0, 0, [], [], [])]
set_option maxRecDepth 100000 in
theorem sz_sd356_0 : sy_seg sz_E (pv_T (sz_own true) sz_T) sz_RU [] sz_cd356 sz_ud356 ri_m_X7_add 119 none sz_hd356_0 = true := by decide +kernel
theorem sz_okd356 (xs : Nat → Value) (L : Nat) : sy_Cok (sz_env xs L) (pv_T (sz_own true) sz_T) sz_RU sz_cd356 := sy_chk_ok (CT := []) (CU := sz_ud356) (M := ri_m_X7_add) (fun _ h => absurd h List.not_mem_nil) rfl rfl ⟨_, _, sz_sd356_0⟩ (fun _ h => absurd h List.not_mem_nil)

/-! X0_tellMode  -/
set_option maxRecDepth 100000 in
noncomputable def sz_cd357 : sy_Ct := (170, 3, 67, [(3, .inr 171, .inl 0), (0, .inl 0, .inl 0), (0, .inr 0, .inl 0)], ([(0, 1)], []), [], [], [(175, 2, 2), (176, 0, 239), (179, 5, 5), (179, 8, 8), (179, 12, 13), (179, 16, 16)], [(.inl none, 0, 0, ([(0, 1)], []), [], [])])
set_option maxRecDepth 100000 in
noncomputable def sz_ud357 : List sy_Cut := []
set_option maxRecDepth 100000 in
noncomputable def sz_hd357_0 : List sy_Hn := [(27, 4, 182, 0, 0, 0, [], [], []),
  (0, 4, 182, 1, 0, 0, [], [], []),
  (0, 4, 189, 2, 0, 0, [], [], []),
  (0, 4, 189, 0, 0, 0, [], [], []),
  (0, 6, 440, 0, 0, 0, [([0], [(1, [0]), (1, [2])]), ([0], [(1, [0]), (1, [2])])], [], [0, 0]),
  (0, 4, 189, 5, 0, 0, [], [], []),
  (0, 4, 189, 6, 0, 0, [], [], []),
  (0, 6, 441, 0, 0, 0, [([0], [(1, [0]), (1, [2])]), ([0], [(1, [0]), (1, [2])])], [], [0, 0]),
  (1, 20, 0, 0, 0, 0, [], [], []),
  (8, 20, 1, 0, 0, 0, [], [], []),
  (0, 31, 0, 0, 0, 0, [], [], []),
  (24, 4, 182, 0, 0, 0, [], [], []),
  (0, 4, 182, 1, 0, 0, [], [], []),
  (0, 4, 189, 2, 0, 0, [], [], []),
  (0, 4, 189, 0, 0, 0, [], [], []),
  (0, 6, 440, 0, 0, 0, [([0], [(1, [0]), (1, [2])]), ([0], [(1, [0]), (1, [2])])], [], [0, 0]),
  (0, 4, 189, 5, 0, 0, [], [], []),
  (0, 4, 189, 6, 0, 0, [], [], []),
  (0, 6, 441, 0, 0, 0, [([0], [(1, [0]), (1, [2])]), ([0], [(1, [0]), (1, [2])])], [], [0, 0]),
  (1, 20, 1, 0, 0, 0, [], [], []),
  (0, 31, 0, 0, 0, 0, [], [], []),
  (1, 4, 182, 0, 0, 0, [], [], []),
  (0, 4, 182, 1, 0, 0, [], [], []),
  (0, 4, 189, 2, 0, 0, [], [], []),
  (0, 4, 189, 0, 0, 0, [], [], []),
  (0, 6, 440, 0, 0, 0, [([0], [(1, [0]), (1, [2])]), ([0], [(1, [0]), (1, [2])])], [], [0, 0]),
  (0, 4, 189, 5, 0, 0, [], [], []),
  (0, 4, 189, 6, 0, 0, [], [], []),
  (0, 6, 441, 0, 0, 0, [([0], [(1, [0]), (1, [2])]), ([0], [(1, [0]), (1, [2])])], [], [0, 0]),
  (1, 20, 0, 0, 0, 0, [], [], []),
  (8, 20, 1, 0, 0, 0, [], [], []),
  (0, 31, 0, 0, 0, 0, [], [], []),
  (0, 31, 0, 0, 0, 0, [], [], [])]
set_option maxRecDepth 100000 in
theorem sz_sd357_0 : sy_seg sz_E (pv_T (sz_own true) sz_T) sz_RU [sz_cd355, sz_cd356] sz_cd357 sz_ud357 ri_m_X0_tellMode 113 none sz_hd357_0 = true := by decide +kernel
theorem sz_okd357 (xs : Nat → Value) (L : Nat) : sy_Cok (sz_env xs L) (pv_T (sz_own true) sz_T) sz_RU sz_cd357 := sy_chk_ok (CT := [sz_cd355, sz_cd356]) (CU := sz_ud357) (M := ri_m_X0_tellMode) (List.forall_mem_cons.mpr ⟨sz_okd355 xs L, List.forall_mem_cons.mpr ⟨sz_okd356 xs L, fun _ h => absurd h List.not_mem_nil⟩⟩) rfl rfl ⟨_, _, sz_sd357_0⟩ (fun _ h => absurd h List.not_mem_nil)

/-! X0_shutDown  -/
set_option maxRecDepth 100000 in
noncomputable def sz_cd358 : sy_Ct := (221, 3, 64, [(3, .inr 171, .inl 0), (0, .inl 0, .inl 0), (0, .inl 2, .inl 0)], ([], []), [], [], [(175, 2, 2), (176, 0, 239), (179, 5, 5), (179, 12, 13), (179, 16, 16), (190, 0, 0)], [(.inl none, 0, 0, ([], []), [], [])])
set_option maxRecDepth 100000 in
noncomputable def sz_ud358 : List sy_Cut := []
set_option maxRecDepth 100000 in
noncomputable def sz_hd358_0 : List sy_Hn := [(32, 4, 182, 0, 0, 0, [], [], []),
  (0, 4, 182, 1, 0, 0, [], [], []),
  (0, 4, 189, 2, 0, 0, [], [], []),
  (0, 4, 189, 0, 0, 0, [], [], []),
  (0, 6, 440, 0, 0, 0, [([], [(1, [0])]), ([], [(1, [0])])], [], [0, 0]),
  (0, 4, 189, 5, 0, 0, [], [], []),
  (0, 4, 189, 6, 0, 0, [], [], []),
  (0, 6, 441, 0, 0, 0, [([], [(1, [0])]), ([], [(1, [0])])], [], [0, 0]),
  (1, 20, 0, 0, 0, 0, [], [], []),
  (0, 31, 0, 0, 0, 0, [], [], [])]
set_option maxRecDepth 100000 in
theorem sz_sd358_0 : sy_seg sz_E (pv_T (sz_own true) sz_T) sz_RU [sz_cd356] sz_cd358 sz_ud358 ri_m_X0_shutDown 49 none sz_hd358_0 = true := by decide +kernel
theorem sz_okd358 (xs : Nat → Value) (L : Nat) : sy_Cok (sz_env xs L) (pv_T (sz_own true) sz_T) sz_RU sz_cd358 := sy_chk_ok (CT := [sz_cd356]) (CU := sz_ud358) (M := ri_m_X0_shutDown) (List.forall_mem_cons.mpr ⟨sz_okd356 xs L, fun _ h => absurd h List.not_mem_nil⟩) rfl rfl ⟨_, _, sz_sd358_0⟩ (fun _ h => absurd h List.not_mem_nil)

/-! X0_shutDown  -/
set_option maxRecDepth 100000 in
noncomputable def sz_cd359 : sy_Ct := (221, 3, 64, [(3, .inr 171, .inl 0), (0, .inl 0, .inl 0), (0, .inl 1, .inl 0)], ([], []), [], [], [(175, 2, 2), (176, 0, 239), (179, 5, 5), (179, 12, 13), (179, 16, 16), (190, 0, 4)], [(.inl none, 0, 0, ([], []), [], [])])
set_option maxRecDepth 100000 in
noncomputable def sz_ud359 : List sy_Cut := []
set_option maxRecDepth 100000 in
noncomputable def sz_hd359_0 : List sy_Hn := [(36, 4, 182, 0, 0, 0, [], [], []),
  (0, 4, 182, 1, 0, 0, [], [], []),
  (0, 4, 189, 2, 0, 0, [], [], []),
  (0, 4, 189, 0, 0, 0, [], [], []),
  (0, 6, 440, 0, 0, 0, [([], [(1, [0])]), ([], [(1, [0])])], [], [0, 0]),
  (0, 4, 189, 5, 0, 0, [], [], []),
  (0, 4, 189, 6, 0, 0, [], [], []),
  (0, 6, 441, 0, 0, 0, [([], [(1, [0])]), ([], [(1, [0])])], [], [0, 0]),
  (1, 20, 0, 0, 0, 0, [], [], []),
  (0, 31, 0, 0, 0, 0, [], [], []),
  (4, 1, 0, 0, 0, 0, [], [], []),
  (34, 4, 182, 0, 0, 0, [], [], []),
  (0, 4, 182, 1, 0, 0, [], [], []),
  (0, 4, 189, 2, 0, 0, [], [], []),
  (0, 4, 189, 0, 0, 0, [], [], []),
  (0, 6, 440, 0, 0, 0, [([], [(1, [0])]), ([], [(1, [0])])], [], [0, 0]),
  (0, 4, 189, 5, 0, 0, [], [], []),
  (0, 4, 189, 6, 0, 0, [], [], []),
  (0, 6, 441, 0, 0, 0, [([], [(1, [0])]), ([], [(1, [0])])], [], [0, 0]),
  (1, 20, 0, 0, 0, 0, [], [], []),
  (0, 31, 0, 0, 0, 0, [], [], []),
  (0, 1, 0, 0, 1, 0, [], [], []),
  (33, 4, 182, 0, 0, 0, [], [], []),
  (0, 4, 182, 1, 0, 0, [], [], []),
  (0, 4, 189, 2, 0, 0, [], [], []),
  (0, 4, 189, 0, 0, 0, [], [], []),
  (0, 6, 440, 0, 0, 0, [([], [(1, [0])]), ([], [(1, [0])])], [], [0, 0]),
  (0, 4, 189, 5, 0, 0, [], [], []),
  (0, 4, 189, 6, 0, 0, [], [], []),
  (0, 6, 441, 0, 0, 0, [([], [(1, [0])]), ([], [(1, [0])])], [], [0, 0]),
  (1, 20, 0, 0, 0, 0, [], [], []),
  (0, 31, 0, 0, 0, 0, [], [], []),
  (25, 4, 182, 0, 0, 0, [], [], []),
  (0, 4, 182, 1, 0, 0, [], [], []),
  (0, 4, 189, 2, 0, 0, [], [], []),
  (0, 4, 189, 0, 0, 0, [], [], []),
  (0, 6, 440, 0, 0, 0, [([], [(1, [0])]), ([], [(1, [0])])], [], [0, 0]),
  (0, 4, 189, 5, 0, 0, [], [], []),
  (0, 4, 189, 6, 0, 0, [], [], []),
  (0, 6, 441, 0, 0, 0, [([], [(1, [0])]), ([], [(1, [0])])], [], [0, 0]),
  (1, 20, 0, 0, 0, 0, [], [], []),
  (0, 31, 0, 0, 0, 0, [], [], []),
  (0, 1, 0, 0, 2, 0, [], [], []),
  (33, 4, 182, 0, 0, 0, [], [], []),
  (0, 4, 182, 1, 0, 0, [], [], []),
  (0, 4, 189, 2, 0, 0, [], [], []),
  (0, 4, 189, 0, 0, 0, [], [], []),
  (0, 6, 440, 0, 0, 0, [([], [(1, [0])]), ([], [(1, [0])])], [], [0, 0]),
  (0, 4, 189, 5, 0, 0, [], [], []),
  (0, 4, 189, 6, 0, 0, [], [], []),
  (0, 6, 441, 0, 0, 0, [([], [(1, [0])]), ([], [(1, [0])])], [], [0, 0]),
  (1, 20, 0, 0, 0, 0, [], [], []),
  (0, 31, 0, 0, 0, 0, [], [], []),
  (25, 4, 182, 0, 0, 0, [], [], []),
  (0, 4, 182, 1, 0, 0, [], [], []),
  (0, 4, 189, 2, 0, 0, [], [], []),
  (0, 4, 189, 0, 0, 0, [], [], []),
  (0, 6, 440, 0, 0, 0, [([], [(1, [0])]), ([], [(1, [0])])], [], [0, 0]),
  (0, 4, 189, 5, 0, 0, [], [], []),
  (0, 4, 189, 6, 0, 0, [], [], []),
  (0, 6, 441, 0, 0, 0, [([], [(1, [0])]), ([], [(1, [0])])], [], [0, 0]),
  (1, 20, 0, 0, 0, 0, [], [], []),
  (0, 31, 0, 0, 0, 0, [], [], []),
  (33, 4, 182, 0, 0, 0, [], [], []),
  (0, 4, 182, 1, 0, 0, [], [], []),
  (0, 4, 189, 2, 0, 0, [], [], []),
  (0, 4, 189, 0, 0, 0, [], [], []),
  (0, 6, 440, 0, 0, 0, [([], [(1, [0])]), ([], [(1, [0])])], [], [0, 0]),
  (0, 4, 189, 5, 0, 0, [], [], []),
  (0, 4, 189, 6, 0, 0, [], [], []),
  (0, 6, 441, 0, 0, 0, [([], [(1, [0])]), ([], [(1, [0])])], [], [0, 0]),
  (1, 20, 0, 0, 0, 0, [], [], []),
  (0, 31, 0, 0, 0, 0, [], [], []),
  (25, 4, 182, 0, 0, 0, [], [], []),
  (0, 4, 182, 1, 0, 0, [], [], []),
  (0, 4, 189, 2, 0, 0, [], [], []),
  (0, 4, 189, 0, 0, 0, [], [], []),
  (0, 6, 440, 0, 0, 0, [([], [(1, [0])]), ([], [(1, [0])])], [], [0, 0]),
  (0, 4, 189, 5, 0, 0, [], [], []),
  (0, 4, 189, 6, 0, 0, [], [], []),
  (0, 6, 441, 0, 0, 0, [([], [(1, [0])]), ([], [(1, [0])])], [], [0, 0]),
  (1, 20, 0, 0, 0, 0, [], [], []),
  (0, 31, 0, 0, 0, 0, [], [], [])]
set_option maxRecDepth 100000 in
theorem sz_sd359_0 : sy_seg sz_E (pv_T (sz_own true) sz_T) sz_RU [sz_cd356] sz_cd359 sz_ud359 ri_m_X0_shutDown 355 none sz_hd359_0 = true := by decide +kernel
theorem sz_okd359 (xs : Nat → Value) (L : Nat) : sy_Cok (sz_env xs L) (pv_T (sz_own true) sz_T) sz_RU sz_cd359 := sy_chk_ok (CT := [sz_cd356]) (CU := sz_ud359) (M := ri_m_X0_shutDown) (List.forall_mem_cons.mpr ⟨sz_okd356 xs L, fun _ h => absurd h List.not_mem_nil⟩) rfl rfl ⟨_, _, sz_sd359_0⟩ (fun _ h => absurd h List.not_mem_nil)

/-! X0_shutDown  -/
set_option maxRecDepth 100000 in
noncomputable def sz_cd360 : sy_Ct := (221, 3, 64, [(3, .inr 171, .inl 0), (0, .inl 0, .inl 0), (0, .inl 0, .inl 0)], ([], []), [], [], [(175, 2, 2), (176, 0, 239), (179, 5, 5), (179, 12, 13), (179, 16, 16), (190, 0, 0)], [(.inl none, 0, 0, ([], []), [], [])])
set_option maxRecDepth 100000 in
noncomputable def sz_ud360 : List sy_Cut := []
set_option maxRecDepth 100000 in
noncomputable def sz_hd360_0 : List sy_Hn := [(32, 4, 182, 0, 0, 0, [], [], []),
  (0, 4, 182, 1, 0, 0, [], [], []),
  (0, 4, 189, 2, 0, 0, [], [], []),
  (0, 4, 189, 0, 0, 0, [], [], []),
  (0, 6, 440, 0, 0, 0, [([], [(1, [0])]), ([], [(1, [0])])], [], [0, 0]),
  (0, 4, 189, 5, 0, 0, [], [], []),
  (0, 4, 189, 6, 0, 0, [], [], []),
  (0, 6, 441, 0, 0, 0, [([], [(1, [0])]), ([], [(1, [0])])], [], [0, 0]),
  (1, 20, 0, 0, 0, 0, [], [], []),
  (0, 31, 0, 0, 0, 0, [], [], [])]
set_option maxRecDepth 100000 in
theorem sz_sd360_0 : sy_seg sz_E (pv_T (sz_own true) sz_T) sz_RU [sz_cd356] sz_cd360 sz_ud360 ri_m_X0_shutDown 49 none sz_hd360_0 = true := by decide +kernel
theorem sz_okd360 (xs : Nat → Value) (L : Nat) : sy_Cok (sz_env xs L) (pv_T (sz_own true) sz_T) sz_RU sz_cd360 := sy_chk_ok (CT := [sz_cd356]) (CU := sz_ud360) (M := ri_m_X0_shutDown) (List.forall_mem_cons.mpr ⟨sz_okd356 xs L, fun _ h => absurd h List.not_mem_nil⟩) rfl rfl ⟨_, _, sz_sd360_0⟩ (fun _ h => absurd h List.not_mem_nil)

/-! X1_setFor  -/
set_option maxRecDepth 100000 in
noncomputable def sz_cd361 : sy_Ct := (304, 0, 0, [(3, .inr 184, .inl 0), (0, .inr 0, .inl 0), (0, .inr 1, .inl 0)], ([(0, 2), ((-2147483648), 2147483647)], []), [], [], [], [(.inl (some (0, .inr 2, .inl 0)), 0, 0, ([(0, 2), (0, 2), ((-2147483648), 2147483647)], []), [], [])])
set_option maxRecDepth 100000 in
noncomputable def sz_ud361 : List sy_Cut := [(4, [(0, (3, .inr 184, .inl 0)), (1, (0, .inr 0, .inl 0)), (2, (0, .inr 1, .inl 0)), (3, (0, .inr 2, .inl 0)), (4, (0, .inr 3, .inl 0))], ([(1, 3), (0, 2), (0, 2), ((-2147483648), 2147483647)], []), [], [], [(3, []), ((-1), [3])])]
set_option maxRecDepth 100000 in
noncomputable def sz_hd361_0 : List sy_Hn := [(0, 30, 0, 0, 0, 0, [([], [(1, [0])]), ([], [])], [], [])]
set_option maxRecDepth 100000 in
theorem sz_sd361_0 : sy_seg sz_E (pv_T (sz_own true) sz_T) sz_RU [] sz_cd361 sz_ud361 ri_m_X1_setFor 11 none sz_hd361_0 = true := by decide +kernel
set_option maxRecDepth 100000 in
noncomputable def sz_hd361_1 : List sy_Hn := [(0, 31, 0, 0, 0, 0, [], [], []),
  (0, 31, 0, 0, 0, 0, [], [], []),
  (0, 31, 0, 0, 0, 0, [], [], []),
  (0, 31, 0, 0, 0, 0, [], [], []),
  (0, 30, 0, 0, 0, 0, [([6], [(1, [0]), (1, [2])]), ([], [(1, [0]), (1, [1])])], [], []),
  (0, 30, 0, 0, 0, 0, [([6], [(1, [0]), (1, [2])]), ([], [(1, [0]), (1, [1])])], [], [])]
set_option maxRecDepth 100000 in
theorem sz_sd361_1 : sy_seg sz_E (pv_T (sz_own true) sz_T) sz_RU [] sz_cd361 sz_ud361 ri_m_X1_setFor 72 (some ((4, [(0, (3, .inr 184, .inl 0)), (1, (0, .inr 0, .inl 0)), (2, (0, .inr 1, .inl 0)), (3, (0, .inr 2, .inl 0)), (4, (0, .inr 3, .inl 0))], ([(1, 3), (0, 2), (0, 2), ((-2147483648), 2147483647)], []), [], [], [(3, []), ((-1), [3])]))) sz_hd361_1 = true := by decide +kernel
theorem sz_okd361 (xs : Nat → Value) (L : Nat) : sy_Cok (sz_env xs L) (pv_T (sz_own true) sz_T) sz_RU sz_cd361 := sy_chk_ok (CT := []) (CU := sz_ud361) (M := ri_m_X1_setFor) (fun _ h => absurd h List.not_mem_nil) rfl rfl ⟨_, _, sz_sd361_0⟩ (List.forall_mem_cons.mpr ⟨⟨_, _, sz_sd361_1⟩, fun _ h => absurd h List.not_mem_nil⟩)

/-! X2_chooseSet  -/
set_option maxRecDepth 100000 in
noncomputable def sz_cd362 : sy_Ct := (276, 2, 47, [(3, .inr 179, .inl 0)], ([], []), [], [], [(179, 8, 8), (179, 11, 11)], [(.inl (some (0, .inr 0, .inl 0)), 0, 0, ([(0, 1)], []), [], [])])
set_option maxRecDepth 100000 in
noncomputable def sz_ud362 : List sy_Cut := []
set_option maxRecDepth 100000 in
noncomputable def sz_hd362_0 : List sy_Hn := [(13, 20, 1, 0, 0, 0, [], [], []),
  (98, 20, 0, 0, 0, 0, [], [], []),
  (0, 31, 0, 0, 0, 0, [], [], []),
  (93, 20, 0, 0, 0, 0, [], [], []),
  (0, 31, 0, 0, 0, 0, [], [], []),
  (0, 31, 0, 0, 0, 0, [], [], [])]
set_option maxRecDepth 100000 in
theorem sz_sd362_0 : sy_seg sz_E (pv_T (sz_own true) sz_T) sz_RU [sz_cd354, sz_cd361] sz_cd362 sz_ud362 ri_m_X2_chooseSet 227 none sz_hd362_0 = true := by decide +kernel
theorem sz_okd362 (xs : Nat → Value) (L : Nat) : sy_Cok (sz_env xs L) (pv_T (sz_own true) sz_T) sz_RU sz_cd362 := sy_chk_ok (CT := [sz_cd354, sz_cd361]) (CU := sz_ud362) (M := ri_m_X2_chooseSet) (List.forall_mem_cons.mpr ⟨sz_okd354 xs L, List.forall_mem_cons.mpr ⟨sz_okd361 xs L, fun _ h => absurd h List.not_mem_nil⟩⟩) rfl rfl ⟨_, _, sz_sd362_0⟩ (fun _ h => absurd h List.not_mem_nil)

/-! X2_filterRate  -/
set_option maxRecDepth 100000 in
noncomputable def sz_cd363 : sy_Ct := (277, 1, 20, [(3, .inr 179, .inl 0)], ([], []), [], [], [(179, 9, 10)], [(.inl none, 0, 0, ([], []), [], [])])
set_option maxRecDepth 100000 in
noncomputable def sz_ud363 : List sy_Cut := []
set_option maxRecDepth 100000 in
noncomputable def sz_hd363_0 : List sy_Hn := [(0, 31, 0, 0, 0, 0, [], [], [])]
set_option maxRecDepth 100000 in
theorem sz_sd363_0 : sy_seg sz_E (pv_T (sz_own true) sz_T) sz_RU [] sz_cd363 sz_ud363 ri_m_X2_filterRate 47 none sz_hd363_0 = true := by decide +kernel
theorem sz_okd363 (xs : Nat → Value) (L : Nat) : sy_Cok (sz_env xs L) (pv_T (sz_own true) sz_T) sz_RU sz_cd363 := sy_chk_ok (CT := []) (CU := sz_ud363) (M := ri_m_X2_filterRate) (fun _ h => absurd h List.not_mem_nil) rfl rfl ⟨_, _, sz_sd363_0⟩ (fun _ h => absurd h List.not_mem_nil)

/-! X0_takeSp  -/
set_option maxRecDepth 100000 in
noncomputable def sz_cd364 : sy_Ct := (232, 0, 0, [(3, .inr 171, .inl 0), (3, .inr 179, .inl 0)], ([], []), [], [], [(179, 6, 6)], [(.inl none, 0, 0, ([], []), [], [])])
set_option maxRecDepth 100000 in
noncomputable def sz_ud364 : List sy_Cut := []
set_option maxRecDepth 100000 in
noncomputable def sz_hd364_0 : List sy_Hn := [(0, 31, 0, 0, 0, 0, [], [], []),
  (5, 1, 0, 0, 0, 0, [], [], []),
  (0, 31, 0, 0, 0, 0, [], [], []),
  (0, 1, 0, 0, 1, 0, [], [], []),
  (0, 31, 0, 0, 0, 0, [], [], []),
  (0, 1, 0, 0, 2, 0, [], [], []),
  (0, 31, 0, 0, 0, 0, [], [], []),
  (0, 31, 0, 0, 0, 0, [], [], [])]
set_option maxRecDepth 100000 in
theorem sz_sd364_0 : sy_seg sz_E (pv_T (sz_own true) sz_T) sz_RU [] sz_cd364 sz_ud364 ri_m_X0_takeSp 42 none sz_hd364_0 = true := by decide +kernel
theorem sz_okd364 (xs : Nat → Value) (L : Nat) : sy_Cok (sz_env xs L) (pv_T (sz_own true) sz_T) sz_RU sz_cd364 := sy_chk_ok (CT := []) (CU := sz_ud364) (M := ri_m_X0_takeSp) (fun _ h => absurd h List.not_mem_nil) rfl rfl ⟨_, _, sz_sd364_0⟩ (fun _ h => absurd h List.not_mem_nil)

/-! X0_measure  -/
set_option maxRecDepth 100000 in
noncomputable def sz_cd365 : sy_Ct := (222, 3, 68, [(3, .inr 171, .inl 0), (0, .inl 0, .inl 0)], ([], []), [], [], [(175, 2, 2), (176, 0, 239), (179, 6, 6), (179, 8, 11)], [(.inl none, 0, 0, ([], []), [], [])])
set_option maxRecDepth 100000 in
noncomputable def sz_ud365 : List sy_Cut := []
set_option maxRecDepth 100000 in
noncomputable def sz_hd365_0 : List sy_Hn := [(11, 20, 1, 0, 0, 0, [], [], []),
  (3, 20, 2, 0, 0, 0, [], [], []),
  (0, 31, 0, 0, 0, 0, [], [], []),
  (9, 20, 0, 0, 0, 0, [], [], []),
  (2, 20, 2, 0, 0, 0, [], [], []),
  (0, 31, 0, 0, 0, 0, [], [], []),
  (2, 20, 1, 0, 0, 0, [], [], []),
  (3, 20, 2, 0, 0, 0, [], [], []),
  (0, 31, 0, 0, 0, 0, [], [], []),
  (9, 20, 0, 0, 0, 0, [], [], []),
  (2, 20, 2, 0, 0, 0, [], [], []),
  (0, 31, 0, 0, 0, 0, [], [], []),
  (3, 20, 3, 0, 0, 0, [], [], []),
  (2, 20, 1, 0, 0, 0, [], [], []),
  (3, 20, 2, 0, 0, 0, [], [], []),
  (0, 31, 0, 0, 0, 0, [], [], []),
  (9, 20, 0, 0, 0, 0, [], [], []),
  (2, 20, 2, 0, 0, 0, [], [], []),
  (0, 31, 0, 0, 0, 0, [], [], [])]
set_option maxRecDepth 100000 in
theorem sz_sd365_0 : sy_seg sz_E (pv_T (sz_own true) sz_T) sz_RU [sz_cd356, sz_cd362, sz_cd363, sz_cd364] sz_cd365 sz_ud365 ri_m_X0_measure 90 none sz_hd365_0 = true := by decide +kernel
theorem sz_okd365 (xs : Nat → Value) (L : Nat) : sy_Cok (sz_env xs L) (pv_T (sz_own true) sz_T) sz_RU sz_cd365 := sy_chk_ok (CT := [sz_cd356, sz_cd362, sz_cd363, sz_cd364]) (CU := sz_ud365) (M := ri_m_X0_measure) (List.forall_mem_cons.mpr ⟨sz_okd356 xs L, List.forall_mem_cons.mpr ⟨sz_okd362 xs L, List.forall_mem_cons.mpr ⟨sz_okd363 xs L, List.forall_mem_cons.mpr ⟨sz_okd364 xs L, fun _ h => absurd h List.not_mem_nil⟩⟩⟩⟩) rfl rfl ⟨_, _, sz_sd365_0⟩ (fun _ h => absurd h List.not_mem_nil)

/-! X0_leads  -/
set_option maxRecDepth 100000 in
noncomputable def sz_cd366 : sy_Ct := (287, 0, 0, [(3, .inr 171, .inl 0), (0, .inl 0, .inl 0)], ([], []), [], [], [], [(.inl (some (0, .inr 0, .inl 0)), 0, 0, ([(0, 1)], []), [], [])])
set_option maxRecDepth 100000 in
noncomputable def sz_ud366 : List sy_Cut := [(4, [(0, (3, .inr 171, .inl 0)), (1, (0, .inl 0, .inl 0)), (2, (0, .inr 0, .inl 0))], ([(1, 4)], []), [], [], [(4, []), ((-1), [0])])]
set_option maxRecDepth 100000 in
noncomputable def sz_hd366_0 : List sy_Hn := [(0, 30, 0, 0, 0, 0, [([], [(1, [0])]), ([], [])], [], [])]
set_option maxRecDepth 100000 in
theorem sz_sd366_0 : sy_seg sz_E (pv_T (sz_own true) sz_T) sz_RU [] sz_cd366 sz_ud366 ri_m_X0_leads 11 none sz_hd366_0 = true := by decide +kernel
set_option maxRecDepth 100000 in
noncomputable def sz_hd366_1 : List sy_Hn := [(0, 31, 0, 0, 0, 0, [], [], []),
  (3, 1, 0, 0, 1, 0, [], [], []),
  (0, 30, 0, 0, 0, 0, [([], [(1, [0])]), ([0], [(1, [0]), (1, [2])])], [], []),
  (0, 30, 0, 0, 0, 0, [([], [(1, [0])]), ([0], [(1, [0]), (1, [2])])], [], []),
  (0, 30, 0, 0, 0, 0, [([], [(1, [0])]), ([0], [(1, [0]), (1, [2])])], [], []),
  (0, 30, 0, 0, 0, 0, [([], [(1, [0])]), ([0], [(1, [0]), (1, [2])])], [], []),
  (0, 31, 0, 0, 0, 0, [], [], []),
  (0, 1, 0, 0, 2, 0, [], [], []),
  (0, 30, 0, 0, 0, 0, [([], [(1, [0])]), ([0], [(1, [0]), (1, [2])])], [], []),
  (0, 30, 0, 0, 0, 0, [([], [(1, [0])]), ([0], [(1, [0]), (1, [2])])], [], []),
  (0, 30, 0, 0, 0, 0, [([], [(1, [0])]), ([0], [(1, [0]), (1, [2])])], [], []),
  (0, 30, 0, 0, 0, 0, [([], [(1, [0])]), ([0], [(1, [0]), (1, [2])])], [], []),
  (0, 31, 0, 0, 0, 0, [], [], []),
  (0, 30, 0, 0, 0, 0, [([], [(1, [0])]), ([0], [(1, [0]), (1, [2])])], [], []),
  (0, 30, 0, 0, 0, 0, [([], [(1, [0])]), ([0], [(1, [0]), (1, [2])])], [], []),
  (0, 30, 0, 0, 0, 0, [([], [(1, [0])]), ([0], [(1, [0]), (1, [2])])], [], []),
  (0, 30, 0, 0, 0, 0, [([], [(1, [0])]), ([0], [(1, [0]), (1, [2])])], [], []),
  (0, 31, 0, 0, 0, 0, [], [], [])]
set_option maxRecDepth 100000 in
theorem sz_sd366_1 : sy_seg sz_E (pv_T (sz_own true) sz_T) sz_RU [] sz_cd366 sz_ud366 ri_m_X0_leads 109 (some ((4, [(0, (3, .inr 171, .inl 0)), (1, (0, .inl 0, .inl 0)), (2, (0, .inr 0, .inl 0))], ([(1, 4)], []), [], [], [(4, []), ((-1), [0])]))) sz_hd366_1 = true := by decide +kernel
theorem sz_okd366 (xs : Nat → Value) (L : Nat) : sy_Cok (sz_env xs L) (pv_T (sz_own true) sz_T) sz_RU sz_cd366 := sy_chk_ok (CT := []) (CU := sz_ud366) (M := ri_m_X0_leads) (fun _ h => absurd h List.not_mem_nil) rfl rfl ⟨_, _, sz_sd366_0⟩ (List.forall_mem_cons.mpr ⟨⟨_, _, sz_sd366_1⟩, fun _ h => absurd h List.not_mem_nil⟩)

/-! X0_leastOn  -/
set_option maxRecDepth 100000 in
noncomputable def sz_cd367 : sy_Ct := (224, 0, 0, [(3, .inr 171, .inl 0), (0, .inl 0, .inl 0)], ([], []), [], [], [], [(.inl (some (0, .inr 0, .inl 0)), 0, 0, ([((-1), 3)], []), [], [])])
set_option maxRecDepth 100000 in
noncomputable def sz_ud367 : List sy_Cut := [(4, [(0, (3, .inr 171, .inl 0)), (1, (0, .inl 0, .inl 0)), (2, (0, .inr 0, .inl 0))], ([(1, 4)], []), [], [], [(4, []), ((-1), [0])])]
set_option maxRecDepth 100000 in
noncomputable def sz_hd367_0 : List sy_Hn := [(0, 30, 0, 0, 0, 0, [([], [(1, [0])]), ([], [])], [], [])]
set_option maxRecDepth 100000 in
theorem sz_sd367_0 : sy_seg sz_E (pv_T (sz_own true) sz_T) sz_RU [] sz_cd367 sz_ud367 ri_m_X0_leastOn 11 none sz_hd367_0 = true := by decide +kernel
set_option maxRecDepth 100000 in
noncomputable def sz_hd367_1 : List sy_Hn := [(0, 31, 0, 0, 0, 0, [], [], []),
  (3, 1, 0, 0, 1, 0, [], [], []),
  (0, 30, 0, 0, 0, 0, [([], [(1, [0])]), ([0], [(1, [0]), (1, [2])])], [], []),
  (0, 30, 0, 0, 0, 0, [([], [(1, [0])]), ([0], [(1, [0]), (1, [2])])], [], []),
  (0, 31, 0, 0, 0, 0, [], [], []),
  (0, 1, 0, 0, 2, 0, [], [], []),
  (0, 30, 0, 0, 0, 0, [([], [(1, [0])]), ([0], [(1, [0]), (1, [2])])], [], []),
  (0, 30, 0, 0, 0, 0, [([], [(1, [0])]), ([0], [(1, [0]), (1, [2])])], [], []),
  (0, 31, 0, 0, 0, 0, [], [], []),
  (0, 30, 0, 0, 0, 0, [([], [(1, [0])]), ([0], [(1, [0]), (1, [2])])], [], []),
  (0, 30, 0, 0, 0, 0, [([], [(1, [0])]), ([0], [(1, [0]), (1, [2])])], [], []),
  (0, 31, 0, 0, 0, 0, [], [], [])]
set_option maxRecDepth 100000 in
theorem sz_sd367_1 : sy_seg sz_E (pv_T (sz_own true) sz_T) sz_RU [] sz_cd367 sz_ud367 ri_m_X0_leastOn 64 (some ((4, [(0, (3, .inr 171, .inl 0)), (1, (0, .inl 0, .inl 0)), (2, (0, .inr 0, .inl 0))], ([(1, 4)], []), [], [], [(4, []), ((-1), [0])]))) sz_hd367_1 = true := by decide +kernel
theorem sz_okd367 (xs : Nat → Value) (L : Nat) : sy_Cok (sz_env xs L) (pv_T (sz_own true) sz_T) sz_RU sz_cd367 := sy_chk_ok (CT := []) (CU := sz_ud367) (M := ri_m_X0_leastOn) (fun _ h => absurd h List.not_mem_nil) rfl rfl ⟨_, _, sz_sd367_0⟩ (List.forall_mem_cons.mpr ⟨⟨_, _, sz_sd367_1⟩, fun _ h => absurd h List.not_mem_nil⟩)

/-! X0_followedOf  -/
set_option maxRecDepth 100000 in
noncomputable def sz_cd368 : sy_Ct := (252, 1, 22, [(3, .inr 171, .inl 0), (0, .inl 0, .inl 0)], ([], []), [], [], [], [(.inl (some (0, .inr 0, .inl 0)), 0, 0, ([((-1), 3)], []), [], [])])
set_option maxRecDepth 100000 in
noncomputable def sz_ud368 : List sy_Cut := []
set_option maxRecDepth 100000 in
noncomputable def sz_hd368_0 : List sy_Hn := [(12, 20, 0, 0, 0, 0, [], [], []),
  (0, 31, 0, 0, 0, 0, [], [], []),
  (3, 20, 1, 0, 0, 0, [], [], []),
  (0, 31, 0, 0, 0, 0, [], [], []),
  (0, 31, 0, 0, 0, 0, [], [], []),
  (0, 31, 0, 0, 0, 0, [], [], []),
  (3, 20, 0, 0, 0, 0, [], [], []),
  (0, 31, 0, 0, 0, 0, [], [], []),
  (3, 20, 1, 0, 0, 0, [], [], []),
  (0, 31, 0, 0, 0, 0, [], [], [])]
set_option maxRecDepth 100000 in
theorem sz_sd368_0 : sy_seg sz_E (pv_T (sz_own true) sz_T) sz_RU [sz_cd366, sz_cd367] sz_cd368 sz_ud368 ri_m_X0_followedOf 56 none sz_hd368_0 = true := by decide +kernel
theorem sz_okd368 (xs : Nat → Value) (L : Nat) : sy_Cok (sz_env xs L) (pv_T (sz_own true) sz_T) sz_RU sz_cd368 := sy_chk_ok (CT := [sz_cd366, sz_cd367]) (CU := sz_ud368) (M := ri_m_X0_followedOf) (List.forall_mem_cons.mpr ⟨sz_okd366 xs L, List.forall_mem_cons.mpr ⟨sz_okd367 xs L, fun _ h => absurd h List.not_mem_nil⟩⟩) rfl rfl ⟨_, _, sz_sd368_0⟩ (fun _ h => absurd h List.not_mem_nil)

/-! X0_heldAt  -/
set_option maxRecDepth 100000 in
noncomputable def sz_cd369 : sy_Ct := (305, 0, 0, [(3, .inr 171, .inl 0), (0, .inl 0, .inl 0), (0, .inl (-1), .inl 0)], ([], []), [], [], [], [(.inl (some (0, .inr 0, .inl 0)), 0, 0, ([(0, 1)], []), [], [])])
set_option maxRecDepth 100000 in
noncomputable def sz_ud369 : List sy_Cut := [(4, [(0, (3, .inr 171, .inl 0)), (1, (0, .inl 0, .inl 0)), (2, (0, .inl (-1), .inl 0)), (3, (0, .inr 0, .inl 0))], ([(1, 4)], []), [], [], [(4, []), ((-1), [0])])]
set_option maxRecDepth 100000 in
noncomputable def sz_hd369_0 : List sy_Hn := [(0, 30, 0, 0, 0, 0, [([], [(1, [0])]), ([], [])], [], [])]
set_option maxRecDepth 100000 in
theorem sz_sd369_0 : sy_seg sz_E (pv_T (sz_own true) sz_T) sz_RU [] sz_cd369 sz_ud369 ri_m_X0_heldAt 11 none sz_hd369_0 = true := by decide +kernel
set_option maxRecDepth 100000 in
noncomputable def sz_hd369_1 : List sy_Hn := [(0, 31, 0, 0, 0, 0, [], [], []),
  (3, 1, 0, 0, 1, 0, [], [], []),
  (0, 30, 0, 0, 0, 0, [([], [(1, [0])]), ([0], [(1, [0]), (1, [2])])], [], []),
  (0, 30, 0, 0, 0, 0, [([], [(1, [0])]), ([0], [(1, [0]), (1, [2])])], [], []),
  (0, 30, 0, 0, 0, 0, [([], [(1, [0])]), ([0], [(1, [0]), (1, [2])])], [], []),
  (0, 30, 0, 0, 0, 0, [([], [(1, [0])]), ([0], [(1, [0]), (1, [2])])], [], []),
  (0, 30, 0, 0, 0, 0, [([], [(1, [0])]), ([0], [(1, [0]), (1, [2])])], [], []),
  (0, 31, 0, 0, 0, 0, [], [], []),
  (0, 1, 0, 0, 2, 0, [], [], []),
  (0, 30, 0, 0, 0, 0, [([], [(1, [0])]), ([0], [(1, [0]), (1, [2])])], [], []),
  (0, 30, 0, 0, 0, 0, [([], [(1, [0])]), ([0], [(1, [0]), (1, [2])])], [], []),
  (0, 30, 0, 0, 0, 0, [([], [(1, [0])]), ([0], [(1, [0]), (1, [2])])], [], []),
  (0, 30, 0, 0, 0, 0, [([], [(1, [0])]), ([0], [(1, [0]), (1, [2])])], [], []),
  (0, 30, 0, 0, 0, 0, [([], [(1, [0])]), ([0], [(1, [0]), (1, [2])])], [], []),
  (0, 31, 0, 0, 0, 0, [], [], []),
  (0, 30, 0, 0, 0, 0, [([], [(1, [0])]), ([0], [(1, [0]), (1, [2])])], [], []),
  (0, 30, 0, 0, 0, 0, [([], [(1, [0])]), ([0], [(1, [0]), (1, [2])])], [], []),
  (0, 30, 0, 0, 0, 0, [([], [(1, [0])]), ([0], [(1, [0]), (1, [2])])], [], []),
  (0, 30, 0, 0, 0, 0, [([], [(1, [0])]), ([0], [(1, [0]), (1, [2])])], [], []),
  (0, 30, 0, 0, 0, 0, [([], [(1, [0])]), ([0], [(1, [0]), (1, [2])])], [], []),
  (0, 31, 0, 0, 0, 0, [], [], [])]
set_option maxRecDepth 100000 in
theorem sz_sd369_1 : sy_seg sz_E (pv_T (sz_own true) sz_T) sz_RU [] sz_cd369 sz_ud369 ri_m_X0_heldAt 130 (some ((4, [(0, (3, .inr 171, .inl 0)), (1, (0, .inl 0, .inl 0)), (2, (0, .inl (-1), .inl 0)), (3, (0, .inr 0, .inl 0))], ([(1, 4)], []), [], [], [(4, []), ((-1), [0])]))) sz_hd369_1 = true := by decide +kernel
theorem sz_okd369 (xs : Nat → Value) (L : Nat) : sy_Cok (sz_env xs L) (pv_T (sz_own true) sz_T) sz_RU sz_cd369 := sy_chk_ok (CT := []) (CU := sz_ud369) (M := ri_m_X0_heldAt) (fun _ h => absurd h List.not_mem_nil) rfl rfl ⟨_, _, sz_sd369_0⟩ (List.forall_mem_cons.mpr ⟨⟨_, _, sz_sd369_1⟩, fun _ h => absurd h List.not_mem_nil⟩)

/-! X0_heldAt  -/
set_option maxRecDepth 100000 in
noncomputable def sz_cd370 : sy_Ct := (305, 0, 0, [(3, .inr 171, .inl 0), (0, .inl 0, .inl 0), (0, .inl 1, .inl 0)], ([], []), [], [], [], [(.inl (some (0, .inr 0, .inl 0)), 0, 0, ([(0, 1)], []), [], [])])
set_option maxRecDepth 100000 in
noncomputable def sz_ud370 : List sy_Cut := [(4, [(0, (3, .inr 171, .inl 0)), (1, (0, .inl 0, .inl 0)), (2, (0, .inl 1, .inl 0)), (3, (0, .inr 0, .inl 0))], ([(1, 4)], []), [], [], [(4, []), ((-1), [0])])]
set_option maxRecDepth 100000 in
noncomputable def sz_hd370_0 : List sy_Hn := [(0, 30, 0, 0, 0, 0, [([], [(1, [0])]), ([], [])], [], [])]
set_option maxRecDepth 100000 in
theorem sz_sd370_0 : sy_seg sz_E (pv_T (sz_own true) sz_T) sz_RU [] sz_cd370 sz_ud370 ri_m_X0_heldAt 11 none sz_hd370_0 = true := by decide +kernel
set_option maxRecDepth 100000 in
noncomputable def sz_hd370_1 : List sy_Hn := [(0, 31, 0, 0, 0, 0, [], [], []),
  (3, 1, 0, 0, 1, 0, [], [], []),
  (0, 30, 0, 0, 0, 0, [([], [(1, [0])]), ([0], [(1, [0]), (1, [2])])], [], []),
  (0, 30, 0, 0, 0, 0, [([], [(1, [0])]), ([0], [(1, [0]), (1, [2])])], [], []),
  (0, 30, 0, 0, 0, 0, [([], [(1, [0])]), ([0], [(1, [0]), (1, [2])])], [], []),
  (0, 30, 0, 0, 0, 0, [([], [(1, [0])]), ([0], [(1, [0]), (1, [2])])], [], []),
  (0, 30, 0, 0, 0, 0, [([], [(1, [0])]), ([0], [(1, [0]), (1, [2])])], [], []),
  (0, 31, 0, 0, 0, 0, [], [], []),
  (0, 1, 0, 0, 2, 0, [], [], []),
  (0, 30, 0, 0, 0, 0, [([], [(1, [0])]), ([0], [(1, [0]), (1, [2])])], [], []),
  (0, 30, 0, 0, 0, 0, [([], [(1, [0])]), ([0], [(1, [0]), (1, [2])])], [], []),
  (0, 30, 0, 0, 0, 0, [([], [(1, [0])]), ([0], [(1, [0]), (1, [2])])], [], []),
  (0, 30, 0, 0, 0, 0, [([], [(1, [0])]), ([0], [(1, [0]), (1, [2])])], [], []),
  (0, 30, 0, 0, 0, 0, [([], [(1, [0])]), ([0], [(1, [0]), (1, [2])])], [], []),
  (0, 31, 0, 0, 0, 0, [], [], []),
  (0, 30, 0, 0, 0, 0, [([], [(1, [0])]), ([0], [(1, [0]), (1, [2])])], [], []),
  (0, 30, 0, 0, 0, 0, [([], [(1, [0])]), ([0], [(1, [0]), (1, [2])])], [], []),
  (0, 30, 0, 0, 0, 0, [([], [(1, [0])]), ([0], [(1, [0]), (1, [2])])], [], []),
  (0, 30, 0, 0, 0, 0, [([], [(1, [0])]), ([0], [(1, [0]), (1, [2])])], [], []),
  (0, 30, 0, 0, 0, 0, [([], [(1, [0])]), ([0], [(1, [0]), (1, [2])])], [], []),
  (0, 31, 0, 0, 0, 0, [], [], [])]
set_option maxRecDepth 100000 in
theorem sz_sd370_1 : sy_seg sz_E (pv_T (sz_own true) sz_T) sz_RU [] sz_cd370 sz_ud370 ri_m_X0_heldAt 130 (some ((4, [(0, (3, .inr 171, .inl 0)), (1, (0, .inl 0, .inl 0)), (2, (0, .inl 1, .inl 0)), (3, (0, .inr 0, .inl 0))], ([(1, 4)], []), [], [], [(4, []), ((-1), [0])]))) sz_hd370_1 = true := by decide +kernel
theorem sz_okd370 (xs : Nat → Value) (L : Nat) : sy_Cok (sz_env xs L) (pv_T (sz_own true) sz_T) sz_RU sz_cd370 := sy_chk_ok (CT := []) (CU := sz_ud370) (M := ri_m_X0_heldAt) (fun _ h => absurd h List.not_mem_nil) rfl rfl ⟨_, _, sz_sd370_0⟩ (List.forall_mem_cons.mpr ⟨⟨_, _, sz_sd370_1⟩, fun _ h => absurd h List.not_mem_nil⟩)

/-! X0_rule  -/
set_option maxRecDepth 100000 in
noncomputable def sz_cd371 : sy_Ct := (278, 2, 47, [(3, .inr 171, .inl 0), (0, .inl 0, .inl 0)], ([], []), [], [], [(177, 0, 0), (179, 7, 8), (179, 12, 12)], [(.inl none, 0, 0, ([], []), [], [])])
set_option maxRecDepth 100000 in
noncomputable def sz_ud371 : List sy_Cut := [(29, [(0, (3, .inr 171, .inl 0)), (1, (0, .inl 0, .inl 0)), (2, (3, .inr 179, .inl 0)), (3, (1, .inr 0, .inl 0)), (5, (1, .inr 1, .inl 0))], ([((-140737488355328), 140737488355327), ((-9223372036854775808), 9223372036854775807)], []), [], [], [(3, [])]), (50, [(0, (3, .inr 171, .inl 0)), (1, (0, .inl 0, .inl 0)), (2, (3, .inr 179, .inl 0)), (3, (1, .inr 0, .inl 0)), (5, (1, .inr 1, .inl 0))], ([((-140737488355328), 140737488355327), ((-9223372036854775808), 9223372036854775807)], []), [], [], [(2, [])]), (79, [(0, (3, .inr 171, .inl 0)), (1, (0, .inl 0, .inl 0)), (2, (3, .inr 179, .inl 0)), (3, (1, .inr 0, .inl 0)), (5, (1, .inr 1, .inl 0)), (7, (1, .inr 2, .inl 0))], ([((-9223372036854775808), 9223372036854775807), ((-140737488355328), 140737488355327), ((-9223372036854775808), 9223372036854775807)], []), [], [], [(1, [])]), (100, [(0, (3, .inr 171, .inl 0)), (1, (0, .inl 0, .inl 0)), (2, (3, .inr 179, .inl 0)), (3, (1, .inr 0, .inl 0)), (5, (1, .inr 1, .inl 0)), (7, (1, .inr 2, .inl 0))], ([((-9223372036854775808), 9223372036854775807), ((-140737488355328), 140737488355327), ((-9223372036854775808), 9223372036854775807)], []), [], [], [(0, [])])]
set_option maxRecDepth 100000 in
noncomputable def sz_hd371_0 : List sy_Hn := [(95, 6, 439, 0, 0, 0, [([], [(1, [0]), (1, [2])]), ([], [(1, [0]), (1, [1])])], [], [1, 1]),
  (0, 30, 0, 0, 0, 0, [([], [(1, [0])]), ([], [])], [], []),
  (6, 5, 437, 0, 0, 0, [], [], []),
  (0, 6, 439, 0, 0, 0, [([], [(1, [0]), (1, [1])]), ([], [(1, [0]), (1, [1])])], [], [0, 0]),
  (0, 30, 0, 0, 0, 0, [([], [(1, [0])]), ([], [])], [], []),
  (0, 6, 439, 0, 0, 0, [([], [(1, [0]), (1, [1])]), ([], [(1, [0])])], [], [1, 1]),
  (0, 30, 0, 0, 0, 0, [([], [(1, [0])]), ([], [])], [], []),
  (6, 5, 437, 0, 0, 0, [], [], []),
  (0, 6, 439, 0, 0, 0, [([], [(1, [0]), (1, [1])]), ([], [(1, [0]), (1, [1])])], [], [0, 0]),
  (0, 30, 0, 0, 0, 0, [([], [(1, [0])]), ([], [])], [], []),
  (0, 6, 439, 0, 0, 0, [([], [(1, [0])]), ([], [(1, [0]), (1, [1])])], [], [1, 1]),
  (0, 30, 0, 0, 0, 0, [([], [(1, [0])]), ([], [])], [], []),
  (31, 6, 439, 0, 0, 0, [([], [(1, [0]), (1, [2])]), ([], [(1, [0]), (1, [1])])], [], [1, 1]),
  (0, 30, 0, 0, 0, 0, [([], [(1, [0])]), ([], [])], [], []),
  (6, 5, 437, 0, 0, 0, [], [], []),
  (0, 6, 439, 0, 0, 0, [([], [(1, [0]), (1, [1])]), ([], [(1, [0]), (1, [1])])], [], [0, 0]),
  (0, 30, 0, 0, 0, 0, [([], [(1, [0])]), ([], [])], [], []),
  (0, 6, 439, 0, 0, 0, [([], [(1, [0]), (1, [1])]), ([], [(1, [0])])], [], [1, 1]),
  (0, 30, 0, 0, 0, 0, [([], [(1, [0])]), ([], [])], [], []),
  (6, 5, 437, 0, 0, 0, [], [], []),
  (0, 6, 439, 0, 0, 0, [([], [(1, [0]), (1, [1])]), ([], [(1, [0]), (1, [1])])], [], [0, 0]),
  (0, 30, 0, 0, 0, 0, [([], [(1, [0])]), ([], [])], [], []),
  (0, 6, 439, 0, 0, 0, [([], [(1, [0])]), ([], [(1, [0]), (1, [1])])], [], [1, 1]),
  (0, 30, 0, 0, 0, 0, [([], [(1, [0])]), ([], [])], [], [])]
set_option maxRecDepth 100000 in
theorem sz_sd371_0 : sy_seg sz_E (pv_T (sz_own true) sz_T) sz_RU [sz_cd354, sz_cd369, sz_cd370] sz_cd371 sz_ud371 ri_m_X0_rule 193 none sz_hd371_0 = true := by decide +kernel
set_option maxRecDepth 100000 in
noncomputable def sz_hd371_1 : List sy_Hn := [(0, 30, 0, 0, 0, 0, [([], [(1, [0])]), ([], [(1, [0])])], [], []),
  (0, 30, 0, 0, 0, 0, [([], [(1, [0])]), ([], [(1, [0])])], [], []),
  (0, 30, 0, 0, 0, 0, [([], [(1, [0])]), ([], [(1, [0])])], [], [])]
set_option maxRecDepth 100000 in
theorem sz_sd371_1 : sy_seg sz_E (pv_T (sz_own true) sz_T) sz_RU [sz_cd354, sz_cd369, sz_cd370] sz_cd371 sz_ud371 ri_m_X0_rule 34 (some ((29, [(0, (3, .inr 171, .inl 0)), (1, (0, .inl 0, .inl 0)), (2, (3, .inr 179, .inl 0)), (3, (1, .inr 0, .inl 0)), (5, (1, .inr 1, .inl 0))], ([((-140737488355328), 140737488355327), ((-9223372036854775808), 9223372036854775807)], []), [], [], [(3, [])]))) sz_hd371_1 = true := by decide +kernel
set_option maxRecDepth 100000 in
noncomputable def sz_hd371_2 : List sy_Hn := [(0, 30, 0, 0, 0, 0, [([], [(1, [0])]), ([], [(1, [0])])], [], [])]
set_option maxRecDepth 100000 in
theorem sz_sd371_2 : sy_seg sz_E (pv_T (sz_own true) sz_T) sz_RU [sz_cd354, sz_cd369, sz_cd370] sz_cd371 sz_ud371 ri_m_X0_rule 41 (some ((50, [(0, (3, .inr 171, .inl 0)), (1, (0, .inl 0, .inl 0)), (2, (3, .inr 179, .inl 0)), (3, (1, .inr 0, .inl 0)), (5, (1, .inr 1, .inl 0))], ([((-140737488355328), 140737488355327), ((-9223372036854775808), 9223372036854775807)], []), [], [], [(2, [])]))) sz_hd371_2 = true := by decide +kernel
set_option maxRecDepth 100000 in
noncomputable def sz_hd371_3 : List sy_Hn := [(0, 30, 0, 0, 0, 0, [([], [(1, [0])]), ([], [(1, [0])])], [], []),
  (8, 20, 1, 0, 0, 0, [], [], []),
  (0, 30, 0, 0, 0, 0, [([], [(1, [0])]), ([], [(1, [0])])], [], []),
  (6, 20, 0, 0, 0, 0, [], [], []),
  (0, 30, 0, 0, 0, 0, [([], [(1, [0])]), ([], [(1, [0])])], [], []),
  (3, 20, 2, 0, 0, 0, [], [], []),
  (0, 30, 0, 0, 0, 0, [([], [(1, [0])]), ([], [(1, [0])])], [], []),
  (6, 20, 0, 0, 0, 0, [], [], []),
  (0, 30, 0, 0, 0, 0, [([], [(1, [0])]), ([], [(1, [0])])], [], [])]
set_option maxRecDepth 100000 in
theorem sz_sd371_3 : sy_seg sz_E (pv_T (sz_own true) sz_T) sz_RU [sz_cd354, sz_cd369, sz_cd370] sz_cd371 sz_ud371 ri_m_X0_rule 48 (some ((79, [(0, (3, .inr 171, .inl 0)), (1, (0, .inl 0, .inl 0)), (2, (3, .inr 179, .inl 0)), (3, (1, .inr 0, .inl 0)), (5, (1, .inr 1, .inl 0)), (7, (1, .inr 2, .inl 0))], ([((-9223372036854775808), 9223372036854775807), ((-140737488355328), 140737488355327), ((-9223372036854775808), 9223372036854775807)], []), [], [], [(1, [])]))) sz_hd371_3 = true := by decide +kernel
set_option maxRecDepth 100000 in
noncomputable def sz_hd371_4 : List sy_Hn := [(0, 31, 0, 0, 0, 0, [], [], [])]
set_option maxRecDepth 100000 in
theorem sz_sd371_4 : sy_seg sz_E (pv_T (sz_own true) sz_T) sz_RU [sz_cd354, sz_cd369, sz_cd370] sz_cd371 sz_ud371 ri_m_X0_rule 7 (some ((100, [(0, (3, .inr 171, .inl 0)), (1, (0, .inl 0, .inl 0)), (2, (3, .inr 179, .inl 0)), (3, (1, .inr 0, .inl 0)), (5, (1, .inr 1, .inl 0)), (7, (1, .inr 2, .inl 0))], ([((-9223372036854775808), 9223372036854775807), ((-140737488355328), 140737488355327), ((-9223372036854775808), 9223372036854775807)], []), [], [], [(0, [])]))) sz_hd371_4 = true := by decide +kernel
theorem sz_okd371 (xs : Nat → Value) (L : Nat) : sy_Cok (sz_env xs L) (pv_T (sz_own true) sz_T) sz_RU sz_cd371 := sy_chk_ok (CT := [sz_cd354, sz_cd369, sz_cd370]) (CU := sz_ud371) (M := ri_m_X0_rule) (List.forall_mem_cons.mpr ⟨sz_okd354 xs L, List.forall_mem_cons.mpr ⟨sz_okd369 xs L, List.forall_mem_cons.mpr ⟨sz_okd370 xs L, fun _ h => absurd h List.not_mem_nil⟩⟩⟩) rfl rfl ⟨_, _, sz_sd371_0⟩ (List.forall_mem_cons.mpr ⟨⟨_, _, sz_sd371_1⟩, List.forall_mem_cons.mpr ⟨⟨_, _, sz_sd371_2⟩, List.forall_mem_cons.mpr ⟨⟨_, _, sz_sd371_3⟩, List.forall_mem_cons.mpr ⟨⟨_, _, sz_sd371_4⟩, fun _ h => absurd h List.not_mem_nil⟩⟩⟩⟩)

/-! X2_relayEnds  -/
set_option maxRecDepth 100000 in
noncomputable def sz_cd372 : sy_Ct := (280, 2, 45, [(3, .inr 179, .inl 0)], ([], []), [((179, 5), (0, .inl 3, .inl 0))], [], [(179, 5, 5), (179, 7, 7), (179, 17, 18), (189, 3, 8)], [(.inl (some (0, .inr 0, .inl 0)), 0, 0, ([(0, 1)], []), [], [])])
set_option maxRecDepth 100000 in
noncomputable def sz_ud372 : List sy_Cut := []
set_option maxRecDepth 100000 in
noncomputable def sz_hd372_0_0 : List sy_Hn := [(22, 20, 0, 0, 0, 0, [], [], []),
  (6, 20, 1, 0, 0, 0, [], [], []),
  (6, 4, 189, 6, 0, 0, [], [], []),
  (0, 5, 441, 0, 0, 0, [], [], []),
  (0, 7, 0, 0, 0, 0, [([], [(1, [0])])], [], []),
  (0, 3, 9, 0, 1, 240, [([9], [(1, [0]), (1, [1])]), ([], [(1, [0]), (1, [3]), (1, [1])])], [], []),
  (0, 5, 441, 1, 0, 0, [], [], []),
  (0, 7, 0, 0, 0, 0, [([], [(1, [0])])], [], []),
  (6, 3, 11, 0, 1, 240, [([11], [(1, [0]), (1, [1])]), ([], [(1, [0]), (1, [2]), (1, [3]), (1, [4])])], [], []),
  (39, 4, 182, 0, 0, 0, [], [], []),
  (0, 4, 182, 1, 0, 0, [], [], []),
  (0, 5, 437, 0, 0, 0, [], [], []),
  (0, 6, 439, 0, 0, 0, [([], [(1, [0]), (1, [1])]), ([], [(1, [0]), (1, [1])])], [], [0, 0]),
  (0, 6, 441, 0, 0, 0, [([9], [(1, [0]), (1, [2])]), ([], [(1, [0]), (1, [8]), (1, [6]), (1, [5])])], [], [1, 1]),
  (0, 31, 0, 0, 0, 0, [], [], []),
  (0, 4, 182, 3, 0, 0, [], [], []),
  (0, 5, 438, 0, 0, 0, [], [], []),
  (0, 6, 439, 0, 0, 0, [([], [(1, [0]), (1, [1])]), ([], [(1, [0]), (1, [1])])], [], [0, 0]),
  (0, 6, 441, 0, 0, 0, [([9], [(1, [0]), (1, [2])]), ([], [(1, [0]), (1, [9]), (1, [7]), (1, [6])])], [], [1, 1]),
  (0, 31, 0, 0, 0, 0, [], [], []),
  (0, 5, 438, 1, 0, 0, [], [], []),
  (0, 6, 439, 0, 0, 0, [([], [(1, [0]), (1, [1])]), ([], [(1, [0]), (1, [1])])], [], [0, 0]),
  (0, 6, 441, 0, 0, 0, [([9], [(1, [0]), (1, [2])]), ([], [(1, [0]), (1, [10]), (1, [8]), (1, [7])])], [], [1, 1]),
  (0, 31, 0, 0, 0, 0, [], [], []),
  (0, 5, 440, 0, 0, 0, [], [], []),
  (0, 7, 0, 0, 0, 0, [([], [(1, [0])])], [], []),
  (0, 5, 440, 1, 0, 0, [], [], []),
  (0, 7, 0, 0, 0, 0, [([], [(1, [0])])], [], []),
  (0, 6, 439, 0, 0, 0, [([14], [(1, [0]), (1, [8]), (1, [4]), (1, [1])]), ([14], [(1, [0]), (1, [9]), (1, [3]), (1, [1])])], [], [1, 1]),
  (0, 6, 441, 0, 0, 0, [([9], [(1, [0]), (1, [2])]), ([], [(1, [0]), (1, [12]), (1, [10]), (1, [9])])], [], [1, 1]),
  (0, 31, 0, 0, 0, 0, [], [], []),
  (11, 4, 182, 0, 0, 0, [], [], []),
  (0, 4, 182, 1, 0, 0, [], [], []),
  (0, 4, 189, 2, 0, 0, [], [], []),
  (0, 4, 189, 0, 0, 0, [], [], []),
  (0, 5, 440, 0, 0, 0, [], [], []),
  (0, 7, 0, 0, 0, 0, [([], [(1, [0])])], [], []),
  (0, 5, 440, 1, 0, 0, [], [], []),
  (0, 7, 0, 0, 0, 0, [([], [(1, [0])])], [], []),
  (8, 6, 439, 0, 0, 0, [([16], [(1, [0]), (1, [4]), (1, [1])]), ([16], [(1, [0]), (1, [3]), (1, [1])])], [], [1, 1]),
  (0, 6, 440, 0, 0, 0, [([], [(1, [0])]), ([], [(1, [0])])], [], [0, 0]),
  (0, 6, 441, 0, 0, 0, [([], [(1, [0])]), ([], [(1, [0])])], [], [0, 0]),
  (0, 31, 0, 0, 0, 0, [], [], []),
  (33, 4, 182, 0, 0, 0, [], [], []),
  (0, 4, 182, 1, 0, 0, [], [], []),
  (0, 5, 440, 0, 0, 0, [], [], []),
  (0, 7, 0, 0, 0, 0, [([], [(1, [0])])], [], []),
  (0, 5, 437, 0, 0, 0, [], [], []),
  (0, 4, 182, 3, 0, 0, [], [], []),
  (0, 5, 438, 0, 0, 0, [], [], []),
  (0, 5, 438, 1, 0, 0, [], [], []),
  (0, 4, 179, 7, 0, 0, [], [], []),
  (0, 5, 439, 0, 0, 0, [], [], []),
  (0, 5, 439, 1, 0, 0, [], [], []),
  (0, 5, 440, 1, 0, 0, [], [], []),
  (0, 7, 0, 0, 0, 0, [([], [(1, [0])])], [], []),
  (0, 3, 18, 0, (-9999), 9999, [([18], [(1, [0]), (1, [1])]), ([12, 15, 16, 17, 18, 19, 20], [(1, [0]), (999, [2]), (1, [14]), (1, [15]), (1, [23]), (1, [25]), (1, [1, 6])])], [], []),
  (2, 6, 439, 0, 0, 0, [([], [(1, [0]), (1, [2])]), ([], [(1, [0]), (1, [2])])], [], [0, 0]),
  (0, 6, 441, 0, 0, 0, [([9], [(1, [0]), (1, [2])]), ([], [(1, [0]), (1, [17]), (1, [15]), (1, [14])])], [], [1, 1]),
  (0, 31, 0, 0, 0, 0, [], [], []),
  (0, 5, 440, 1, 0, 0, [], [], []),
  (0, 7, 0, 0, 0, 0, [([], [(1, [0])])], [], []),
  (0, 3, 18, 0, (-9999), 9999, [([18], [(1, [0]), (1, [1])]), ([12, 15, 16, 17, 18, 19, 20], [(1, [0]), (999, [2]), (1, [14]), (1, [15]), (1, [23]), (1, [25]), (1, [1, 6])])], [], []),
  (2, 6, 439, 0, 0, 0, [([], [(1, [0]), (1, [3])]), ([], [(1, [0]), (1, [3])])], [], [0, 0]),
  (0, 6, 441, 0, 0, 0, [([9], [(1, [0]), (1, [2])]), ([], [(1, [0]), (1, [17]), (1, [15]), (1, [14])])], [], [1, 1]),
  (0, 31, 0, 0, 0, 0, [], [], []),
  (0, 5, 439, 1, 0, 0, [], [], []),
  (0, 5, 440, 1, 0, 0, [], [], []),
  (0, 7, 0, 0, 0, 0, [([], [(1, [0])])], [], []),
  (0, 3, 18, 0, (-9999), 9999, [([18], [(1, [0]), (1, [1])]), ([12, 15, 16, 17, 18, 19, 20], [(1, [0]), (999, [2]), (1, [14]), (1, [15]), (1, [23]), (1, [25]), (1, [1, 6])])], [], []),
  (2, 6, 439, 0, 0, 0, [([], [(1, [0]), (1, [2])]), ([], [(1, [0]), (1, [2])])], [], [0, 0]),
  (0, 6, 441, 0, 0, 0, [([9], [(1, [0]), (1, [2])]), ([], [(1, [0]), (1, [17]), (1, [15]), (1, [14])])], [], [1, 1]),
  (0, 31, 0, 0, 0, 0, [], [], []),
  (0, 5, 440, 1, 0, 0, [], [], []),
  (0, 7, 0, 0, 0, 0, [([], [(1, [0])])], [], []),
  (0, 3, 18, 0, (-9999), 9999, [([18], [(1, [0]), (1, [1])]), ([12, 15, 16, 17, 18, 19, 20], [(1, [0]), (999, [2]), (1, [14]), (1, [15]), (1, [23]), (1, [25]), (1, [1, 6])])], [], []),
  (2, 6, 439, 0, 0, 0, [([], [(1, [0]), (1, [4])]), ([], [(1, [0]), (1, [4])])], [], [0, 0]),
  (0, 6, 441, 0, 0, 0, [([9], [(1, [0]), (1, [2])]), ([], [(1, [0]), (1, [17]), (1, [15]), (1, [14])])], [], [1, 1]),
  (0, 31, 0, 0, 0, 0, [], [], []),
  (0, 4, 179, 7, 0, 0, [], [], []),
  (0, 5, 439, 0, 0, 0, [], [], []),
  (0, 5, 439, 1, 0, 0, [], [], []),
  (0, 5, 440, 1, 0, 0, [], [], []),
  (0, 7, 0, 0, 0, 0, [([], [(1, [0])])], [], []),
  (0, 3, 18, 0, (-9999), 9999, [([18], [(1, [0]), (1, [1])]), ([12, 15, 16, 17, 18, 19, 20], [(1, [0]), (999, [2]), (1, [14]), (1, [15]), (1, [23]), (1, [25]), (1, [1, 6])])], [], []),
  (2, 6, 439, 0, 0, 0, [([], [(1, [0]), (1, [2])]), ([], [(1, [0]), (1, [2])])], [], [0, 0]),
  (0, 6, 441, 0, 0, 0, [([9], [(1, [0]), (1, [2])]), ([], [(1, [0]), (1, [17]), (1, [15]), (1, [14])])], [], [1, 1]),
  (0, 31, 0, 0, 0, 0, [], [], []),
  (0, 5, 440, 1, 0, 0, [], [], []),
  (0, 7, 0, 0, 0, 0, [([], [(1, [0])])], [], []),
  (0, 3, 18, 0, (-9999), 9999, [([18], [(1, [0]), (1, [1])]), ([12, 15, 16, 17, 18, 19, 20], [(1, [0]), (999, [2]), (1, [14]), (1, [15]), (1, [23]), (1, [25]), (1, [1, 6])])], [], []),
  (2, 6, 439, 0, 0, 0, [([], [(1, [0]), (1, [3])]), ([], [(1, [0]), (1, [3])])], [], [0, 0]),
  (0, 6, 441, 0, 0, 0, [([9], [(1, [0]), (1, [2])]), ([], [(1, [0]), (1, [17]), (1, [15]), (1, [14])])], [], [1, 1]),
  (0, 31, 0, 0, 0, 0, [], [], []),
  (0, 5, 439, 1, 0, 0, [], [], []),
  (0, 5, 440, 1, 0, 0, [], [], []),
  (0, 7, 0, 0, 0, 0, [([], [(1, [0])])], [], []),
  (0, 3, 18, 0, (-9999), 9999, [([18], [(1, [0]), (1, [1])]), ([12, 15, 16, 17, 18, 19, 20], [(1, [0]), (999, [2]), (1, [14]), (1, [15]), (1, [23]), (1, [25]), (1, [1, 6])])], [], []),
  (2, 6, 439, 0, 0, 0, [([], [(1, [0]), (1, [2])]), ([], [(1, [0]), (1, [2])])], [], [0, 0]),
  (0, 6, 441, 0, 0, 0, [([9], [(1, [0]), (1, [2])]), ([], [(1, [0]), (1, [17]), (1, [15]), (1, [14])])], [], [1, 1]),
  (0, 31, 0, 0, 0, 0, [], [], []),
  (0, 5, 440, 1, 0, 0, [], [], []),
  (0, 7, 0, 0, 0, 0, [([], [(1, [0])])], [], []),
  (0, 3, 18, 0, (-9999), 9999, [([18], [(1, [0]), (1, [1])]), ([12, 15, 16, 17, 18, 19, 20], [(1, [0]), (999, [2]), (1, [14]), (1, [15]), (1, [23]), (1, [25]), (1, [1, 6])])], [], []),
  (2, 6, 439, 0, 0, 0, [([], [(1, [0]), (1, [5])]), ([], [(1, [0]), (1, [5])])], [], [0, 0]),
  (0, 6, 441, 0, 0, 0, [([9], [(1, [0]), (1, [2])]), ([], [(1, [0]), (1, [17]), (1, [15]), (1, [14])])], [], [1, 1]),
  (0, 31, 0, 0, 0, 0, [], [], []),
  (0, 5, 438, 1, 0, 0, [], [], []),
  (0, 4, 179, 7, 0, 0, [], [], []),
  (0, 5, 439, 0, 0, 0, [], [], []),
  (0, 5, 439, 1, 0, 0, [], [], []),
  (0, 5, 440, 1, 0, 0, [], [], []),
  (0, 7, 0, 0, 0, 0, [([], [(1, [0])])], [], []),
  (0, 3, 18, 0, (-9999), 9999, [([18], [(1, [0]), (1, [1])]), ([12, 15, 16, 17, 18, 19, 20], [(1, [0]), (999, [2]), (1, [14]), (1, [15]), (1, [23]), (1, [25]), (1, [1, 6])])], [], []),
  (2, 6, 439, 0, 0, 0, [([], [(1, [0]), (1, [2])]), ([], [(1, [0]), (1, [2])])], [], [0, 0]),
  (0, 6, 441, 0, 0, 0, [([9], [(1, [0]), (1, [2])]), ([], [(1, [0]), (1, [17]), (1, [15]), (1, [14])])], [], [1, 1]),
  (0, 31, 0, 0, 0, 0, [], [], []),
  (0, 5, 440, 1, 0, 0, [], [], []),
  (0, 7, 0, 0, 0, 0, [([], [(1, [0])])], [], []),
  (0, 3, 18, 0, (-9999), 9999, [([18], [(1, [0]), (1, [1])]), ([12, 15, 16, 17, 18, 19, 20], [(1, [0]), (999, [2]), (1, [14]), (1, [15]), (1, [23]), (1, [25]), (1, [1, 6])])], [], []),
  (2, 6, 439, 0, 0, 0, [([], [(1, [0]), (1, [3])]), ([], [(1, [0]), (1, [3])])], [], [0, 0]),
  (0, 6, 441, 0, 0, 0, [([9], [(1, [0]), (1, [2])]), ([], [(1, [0]), (1, [17]), (1, [15]), (1, [14])])], [], [1, 1]),
  (0, 31, 0, 0, 0, 0, [], [], []),
  (0, 5, 439, 1, 0, 0, [], [], []),
  (0, 5, 440, 1, 0, 0, [], [], []),
  (0, 7, 0, 0, 0, 0, [([], [(1, [0])])], [], []),
  (0, 3, 18, 0, (-9999), 9999, [([18], [(1, [0]), (1, [1])]), ([12, 15, 16, 17, 18, 19, 20], [(1, [0]), (999, [2]), (1, [14]), (1, [15]), (1, [23]), (1, [25]), (1, [1, 6])])], [], []),
  (2, 6, 439, 0, 0, 0, [([], [(1, [0]), (1, [2])]), ([], [(1, [0]), (1, [2])])], [], [0, 0]),
  (0, 6, 441, 0, 0, 0, [([9], [(1, [0]), (1, [2])]), ([], [(1, [0]), (1, [17]), (1, [15]), (1, [14])])], [], [1, 1]),
  (0, 31, 0, 0, 0, 0, [], [], []),
  (0, 5, 440, 1, 0, 0, [], [], []),
  (0, 7, 0, 0, 0, 0, [([], [(1, [0])])], [], []),
  (0, 3, 18, 0, (-9999), 9999, [([18], [(1, [0]), (1, [1])]), ([12, 15, 16, 17, 18, 19, 20], [(1, [0]), (999, [2]), (1, [14]), (1, [15]), (1, [23]), (1, [25]), (1, [1, 6])])], [], []),
  (2, 6, 439, 0, 0, 0, [([], [(1, [0]), (1, [4])]), ([], [(1, [0]), (1, [4])])], [], [0, 0]),
  (0, 6, 441, 0, 0, 0, [([9], [(1, [0]), (1, [2])]), ([], [(1, [0]), (1, [17]), (1, [15]), (1, [14])])], [], [1, 1]),
  (0, 31, 0, 0, 0, 0, [], [], []),
  (0, 4, 179, 7, 0, 0, [], [], []),
  (0, 5, 439, 0, 0, 0, [], [], []),
  (0, 5, 439, 1, 0, 0, [], [], []),
  (0, 5, 440, 1, 0, 0, [], [], []),
  (0, 7, 0, 0, 0, 0, [([], [(1, [0])])], [], []),
  (0, 3, 18, 0, (-9999), 9999, [([18], [(1, [0]), (1, [1])]), ([12, 15, 16, 17, 18, 19, 20], [(1, [0]), (999, [2]), (1, [14]), (1, [15]), (1, [23]), (1, [25]), (1, [1, 6])])], [], []),
  (2, 6, 439, 0, 0, 0, [([], [(1, [0]), (1, [2])]), ([], [(1, [0]), (1, [2])])], [], [0, 0]),
  (0, 6, 441, 0, 0, 0, [([9], [(1, [0]), (1, [2])]), ([], [(1, [0]), (1, [17]), (1, [15]), (1, [14])])], [], [1, 1]),
  (0, 31, 0, 0, 0, 0, [], [], []),
  (0, 5, 440, 1, 0, 0, [], [], []),
  (0, 7, 0, 0, 0, 0, [([], [(1, [0])])], [], []),
  (0, 3, 18, 0, (-9999), 9999, [([18], [(1, [0]), (1, [1])]), ([12, 15, 16, 17, 18, 19, 20], [(1, [0]), (999, [2]), (1, [14]), (1, [15]), (1, [23]), (1, [25]), (1, [1, 6])])], [], []),
  (2, 6, 439, 0, 0, 0, [([], [(1, [0]), (1, [3])]), ([], [(1, [0]), (1, [3])])], [], [0, 0]),
  (0, 6, 441, 0, 0, 0, [([9], [(1, [0]), (1, [2])]), ([], [(1, [0]), (1, [17]), (1, [15]), (1, [14])])], [], [1, 1])]
set_option maxRecDepth 100000 in
noncomputable def sz_hd372_0_1 : List sy_Hn := [(0, 31, 0, 0, 0, 0, [], [], []),
  (0, 5, 439, 1, 0, 0, [], [], []),
  (0, 5, 440, 1, 0, 0, [], [], []),
  (0, 7, 0, 0, 0, 0, [([], [(1, [0])])], [], []),
  (0, 3, 18, 0, (-9999), 9999, [([18], [(1, [0]), (1, [1])]), ([12, 15, 16, 17, 18, 19, 20], [(1, [0]), (999, [2]), (1, [14]), (1, [15]), (1, [23]), (1, [25]), (1, [1, 6])])], [], []),
  (2, 6, 439, 0, 0, 0, [([], [(1, [0]), (1, [2])]), ([], [(1, [0]), (1, [2])])], [], [0, 0]),
  (0, 6, 441, 0, 0, 0, [([9], [(1, [0]), (1, [2])]), ([], [(1, [0]), (1, [17]), (1, [15]), (1, [14])])], [], [1, 1]),
  (0, 31, 0, 0, 0, 0, [], [], []),
  (0, 5, 440, 1, 0, 0, [], [], []),
  (0, 7, 0, 0, 0, 0, [([], [(1, [0])])], [], []),
  (0, 3, 18, 0, (-9999), 9999, [([18], [(1, [0]), (1, [1])]), ([12, 15, 16, 17, 18, 19, 20], [(1, [0]), (999, [2]), (1, [14]), (1, [15]), (1, [23]), (1, [25]), (1, [1, 6])])], [], []),
  (2, 6, 439, 0, 0, 0, [([], [(1, [0]), (1, [6])]), ([], [(1, [0]), (1, [6])])], [], [0, 0]),
  (0, 6, 441, 0, 0, 0, [([9], [(1, [0]), (1, [2])]), ([], [(1, [0]), (1, [17]), (1, [15]), (1, [14])])], [], [1, 1]),
  (0, 31, 0, 0, 0, 0, [], [], []),
  (0, 4, 182, 3, 0, 0, [], [], []),
  (0, 5, 438, 0, 0, 0, [], [], []),
  (0, 3, 18, 0, (-9999), 9999, [([18], [(1, [0]), (1, [1])]), ([12, 15, 16, 17, 18, 19, 20], [(1, [15]), (1, [16])])], [], []),
  (2, 6, 439, 0, 0, 0, [([], [(1, [0]), (1, [1])]), ([], [(1, [0]), (1, [1])])], [], [0, 0]),
  (0, 6, 441, 0, 0, 0, [([9], [(1, [0]), (1, [2])]), ([], [(1, [0]), (1, [13]), (1, [11]), (1, [10])])], [], [1, 1]),
  (0, 31, 0, 0, 0, 0, [], [], []),
  (0, 5, 438, 1, 0, 0, [], [], []),
  (0, 3, 18, 0, (-9999), 9999, [([18], [(1, [0]), (1, [1])]), ([12, 15, 16, 17, 18, 19, 20, 21], [(1, [17]), (1, [19])])], [], []),
  (2, 6, 439, 0, 0, 0, [([], [(1, [0]), (1, [1])]), ([], [(1, [0]), (1, [1])])], [], [0, 0]),
  (0, 6, 441, 0, 0, 0, [([9], [(1, [0]), (1, [2])]), ([], [(1, [0]), (1, [14]), (1, [12]), (1, [11])])], [], [1, 1]),
  (0, 31, 0, 0, 0, 0, [], [], []),
  (0, 4, 179, 7, 0, 0, [], [], []),
  (0, 5, 439, 0, 0, 0, [], [], []),
  (0, 3, 18, 0, (-9999), 9999, [([18], [(1, [0]), (1, [1])]), ([12, 15, 16, 17, 18, 19, 20, 21], [(1, [17]), (1, [20])])], [], []),
  (2, 6, 439, 0, 0, 0, [([], [(1, [0]), (1, [1])]), ([], [(1, [0]), (1, [1])])], [], [0, 0]),
  (0, 6, 441, 0, 0, 0, [([9], [(1, [0]), (1, [2])]), ([], [(1, [0]), (1, [15]), (1, [13]), (1, [12])])], [], [1, 1]),
  (0, 31, 0, 0, 0, 0, [], [], []),
  (0, 5, 439, 1, 0, 0, [], [], []),
  (0, 3, 18, 0, (-9999), 9999, [([18], [(1, [0]), (1, [1])]), ([12, 15, 16, 17, 18, 19, 20, 21, 22], [(1, [19]), (1, [23])])], [], []),
  (2, 6, 439, 0, 0, 0, [([], [(1, [0]), (1, [1])]), ([], [(1, [0]), (1, [1])])], [], [0, 0]),
  (0, 6, 441, 0, 0, 0, [([9], [(1, [0]), (1, [2])]), ([], [(1, [0]), (1, [16]), (1, [14]), (1, [13])])], [], [1, 1]),
  (0, 31, 0, 0, 0, 0, [], [], []),
  (0, 5, 440, 1, 0, 0, [], [], []),
  (0, 7, 0, 0, 0, 0, [([], [(1, [0])])], [], []),
  (0, 3, 18, 0, (-9999), 9999, [([18], [(1, [0]), (1, [1])]), ([12, 15, 16, 17, 18, 19, 20], [(1, [0]), (999, [2]), (1, [14]), (1, [15]), (1, [23]), (1, [25]), (1, [1, 6])])], [], []),
  (2, 6, 439, 0, 0, 0, [([16, 17], [(1, [0]), (1, [12]), (1, [11]), (1, [1]), (1, [3])]), ([12, 15, 16, 17, 18, 19, 20, 21, 22], [(1, [0]), (999, [2]), (1, [19]), (1, [27]), (1, [29]), (1, [1, 6])])], [], [1, 1]),
  (0, 6, 441, 0, 0, 0, [([9], [(1, [0]), (1, [2])]), ([], [(1, [0]), (1, [17]), (1, [15]), (1, [14])])], [], [1, 1]),
  (0, 31, 0, 0, 0, 0, [], [], []),
  (11, 4, 182, 0, 0, 0, [], [], []),
  (0, 4, 182, 1, 0, 0, [], [], []),
  (0, 4, 189, 2, 0, 0, [], [], []),
  (0, 4, 189, 0, 0, 0, [], [], []),
  (0, 5, 440, 0, 0, 0, [], [], []),
  (0, 7, 0, 0, 0, 0, [([], [(1, [0])])], [], []),
  (0, 5, 440, 1, 0, 0, [], [], []),
  (0, 7, 0, 0, 0, 0, [([], [(1, [0])])], [], []),
  (8, 6, 439, 0, 0, 0, [([18], [(1, [0]), (1, [4]), (1, [1])]), ([18], [(1, [0]), (1, [3]), (1, [1])])], [], [1, 1]),
  (0, 6, 440, 0, 0, 0, [([], [(1, [0])]), ([], [(1, [0])])], [], [0, 0]),
  (0, 6, 441, 0, 0, 0, [([], [(1, [0])]), ([], [(1, [0])])], [], [0, 0]),
  (0, 31, 0, 0, 0, 0, [], [], []),
  (31, 4, 182, 0, 0, 0, [], [], []),
  (0, 4, 182, 1, 0, 0, [], [], []),
  (0, 5, 440, 0, 0, 0, [], [], []),
  (0, 7, 0, 0, 0, 0, [([], [(1, [0])])], [], []),
  (0, 3, 18, 0, (-9999), 9999, [([19], [(1, [0]), (1, [4]), (1, [3]), (1, [6]), (1, [1])]), ([18], [(1, [0]), (1, [2])])], [], []),
  (2, 5, 437, 0, 0, 0, [], [], []),
  (0, 6, 439, 0, 0, 0, [([], [(1, [0]), (1, [1])]), ([], [(1, [0]), (1, [1])])], [], [0, 0]),
  (0, 6, 441, 0, 0, 0, [([9], [(1, [0]), (1, [2])]), ([], [(1, [0]), (1, [12]), (1, [10]), (1, [9])])], [], [1, 1]),
  (0, 31, 0, 0, 0, 0, [], [], []),
  (0, 4, 182, 3, 0, 0, [], [], []),
  (0, 5, 438, 0, 0, 0, [], [], []),
  (0, 6, 439, 0, 0, 0, [([], [(1, [0]), (1, [1])]), ([], [(1, [0]), (1, [1])])], [], [0, 0]),
  (0, 6, 441, 0, 0, 0, [([9], [(1, [0]), (1, [2])]), ([], [(1, [0]), (1, [13]), (1, [11]), (1, [10])])], [], [1, 1]),
  (0, 31, 0, 0, 0, 0, [], [], []),
  (0, 5, 438, 1, 0, 0, [], [], []),
  (0, 6, 439, 0, 0, 0, [([], [(1, [0]), (1, [1])]), ([], [(1, [0]), (1, [1])])], [], [0, 0]),
  (0, 6, 441, 0, 0, 0, [([9], [(1, [0]), (1, [2])]), ([], [(1, [0]), (1, [14]), (1, [12]), (1, [11])])], [], [1, 1]),
  (0, 31, 0, 0, 0, 0, [], [], []),
  (0, 5, 440, 1, 0, 0, [], [], []),
  (0, 7, 0, 0, 0, 0, [([], [(1, [0])])], [], []),
  (0, 6, 439, 0, 0, 0, [([], [(1, [0]), (1, [6]), (1, [5]), (1, [8])]), ([16, 17], [(1, [0]), (1, [11]), (1, [5]), (1, [1]), (1, [4])])], [], [1, 1]),
  (0, 6, 441, 0, 0, 0, [([9], [(1, [0]), (1, [2])]), ([], [(1, [0]), (1, [15]), (1, [13]), (1, [12])])], [], [1, 1]),
  (0, 31, 0, 0, 0, 0, [], [], []),
  (11, 4, 182, 0, 0, 0, [], [], []),
  (0, 4, 182, 1, 0, 0, [], [], []),
  (0, 4, 189, 2, 0, 0, [], [], []),
  (0, 4, 189, 0, 0, 0, [], [], []),
  (0, 5, 440, 0, 0, 0, [], [], []),
  (0, 7, 0, 0, 0, 0, [([], [(1, [0])])], [], []),
  (0, 5, 440, 1, 0, 0, [], [], []),
  (0, 7, 0, 0, 0, 0, [([], [(1, [0])])], [], []),
  (8, 6, 439, 0, 0, 0, [([18], [(1, [0]), (1, [4]), (1, [1])]), ([18], [(1, [0]), (1, [3]), (1, [1])])], [], [1, 1]),
  (0, 6, 440, 0, 0, 0, [([], [(1, [0])]), ([], [(1, [0])])], [], [0, 0]),
  (0, 6, 441, 0, 0, 0, [([], [(1, [0])]), ([], [(1, [0])])], [], [0, 0]),
  (0, 31, 0, 0, 0, 0, [], [], []),
  (36, 4, 182, 0, 0, 0, [], [], []),
  (0, 4, 182, 1, 0, 0, [], [], []),
  (0, 5, 440, 0, 0, 0, [], [], []),
  (0, 7, 0, 0, 0, 0, [([], [(1, [0])])], [], []),
  (0, 3, 17, 0, (-9999), 9999, [([12, 14, 15, 16, 17, 18], [(1, [0]), (1, [11]), (1, [13]), (1, [14]), (1, [16]), (1, [1, 5])]), ([17], [(1, [0]), (1, [2])])], [], []),
  (2, 5, 437, 0, 0, 0, [], [], []),
  (0, 6, 439, 0, 0, 0, [([], [(1, [0]), (1, [1])]), ([], [(1, [0]), (1, [1])])], [], [0, 0]),
  (0, 6, 441, 0, 0, 0, [([9], [(1, [0]), (1, [2])]), ([], [(1, [0]), (1, [12]), (1, [10]), (1, [9])])], [], [1, 1]),
  (0, 31, 0, 0, 0, 0, [], [], []),
  (0, 4, 182, 3, 0, 0, [], [], []),
  (0, 5, 438, 0, 0, 0, [], [], []),
  (0, 6, 439, 0, 0, 0, [([], [(1, [0]), (1, [1])]), ([], [(1, [0]), (1, [1])])], [], [0, 0]),
  (0, 6, 441, 0, 0, 0, [([9], [(1, [0]), (1, [2])]), ([], [(1, [0]), (1, [13]), (1, [11]), (1, [10])])], [], [1, 1]),
  (0, 31, 0, 0, 0, 0, [], [], []),
  (0, 5, 438, 1, 0, 0, [], [], []),
  (0, 6, 439, 0, 0, 0, [([], [(1, [0]), (1, [1])]), ([], [(1, [0]), (1, [1])])], [], [0, 0]),
  (0, 6, 441, 0, 0, 0, [([9], [(1, [0]), (1, [2])]), ([], [(1, [0]), (1, [14]), (1, [12]), (1, [11])])], [], [1, 1]),
  (0, 31, 0, 0, 0, 0, [], [], []),
  (0, 5, 440, 1, 0, 0, [], [], []),
  (0, 7, 0, 0, 0, 0, [([], [(1, [0])])], [], []),
  (0, 6, 439, 0, 0, 0, [([12, 14, 15, 16, 17, 18, 19, 20], [(1, [0]), (1, [21]), (1, [22]), (1, [24]), (1, [1, 5])]), ([15, 16], [(1, [0]), (1, [11]), (1, [5]), (1, [1]), (1, [4])])], [], [1, 1]),
  (0, 6, 441, 0, 0, 0, [([9], [(1, [0]), (1, [2])]), ([], [(1, [0]), (1, [15]), (1, [13]), (1, [12])])], [], [1, 1]),
  (0, 31, 0, 0, 0, 0, [], [], []),
  (11, 4, 182, 0, 0, 0, [], [], []),
  (0, 4, 182, 1, 0, 0, [], [], []),
  (0, 4, 189, 2, 0, 0, [], [], []),
  (0, 4, 189, 0, 0, 0, [], [], []),
  (0, 5, 440, 0, 0, 0, [], [], []),
  (0, 7, 0, 0, 0, 0, [([], [(1, [0])])], [], []),
  (0, 5, 440, 1, 0, 0, [], [], []),
  (0, 7, 0, 0, 0, 0, [([], [(1, [0])])], [], []),
  (8, 6, 439, 0, 0, 0, [([17], [(1, [0]), (1, [4]), (1, [1])]), ([17], [(1, [0]), (1, [3]), (1, [1])])], [], [1, 1]),
  (0, 6, 440, 0, 0, 0, [([], [(1, [0])]), ([], [(1, [0])])], [], [0, 0]),
  (0, 6, 441, 0, 0, 0, [([], [(1, [0])]), ([], [(1, [0])])], [], [0, 0]),
  (0, 31, 0, 0, 0, 0, [], [], []),
  (58, 4, 182, 0, 0, 0, [], [], []),
  (0, 4, 182, 1, 0, 0, [], [], []),
  (0, 5, 440, 0, 0, 0, [], [], []),
  (0, 7, 0, 0, 0, 0, [([], [(1, [0])])], [], []),
  (0, 5, 437, 0, 0, 0, [], [], []),
  (0, 4, 182, 3, 0, 0, [], [], []),
  (0, 5, 438, 0, 0, 0, [], [], []),
  (0, 5, 438, 1, 0, 0, [], [], []),
  (0, 4, 179, 7, 0, 0, [], [], []),
  (0, 5, 439, 0, 0, 0, [], [], []),
  (0, 5, 439, 1, 0, 0, [], [], []),
  (0, 5, 440, 1, 0, 0, [], [], []),
  (0, 7, 0, 0, 0, 0, [([], [(1, [0])])], [], []),
  (0, 3, 19, 0, (-9999), 9999, [([19], [(1, [0]), (1, [1])]), ([21], [(1, [0]), (1, [11]), (1, [3]), (1, [13]), (1, [2])])], [], []),
  (2, 6, 439, 0, 0, 0, [([], [(1, [0]), (1, [2])]), ([], [(1, [0]), (1, [2])])], [], [0, 0]),
  (0, 6, 441, 0, 0, 0, [([9], [(1, [0]), (1, [2])]), ([9], [(1, [0]), (1, [1])])], [], [1, 1]),
  (0, 31, 0, 0, 0, 0, [], [], []),
  (0, 5, 440, 1, 0, 0, [], [], []),
  (0, 7, 0, 0, 0, 0, [([], [(1, [0])])], [], []),
  (0, 3, 19, 0, (-9999), 9999, [([19], [(1, [0]), (1, [1])]), ([21], [(1, [0]), (1, [11]), (1, [3]), (1, [13]), (1, [2])])], [], []),
  (2, 6, 439, 0, 0, 0, [([], [(1, [0]), (1, [3])]), ([], [(1, [0]), (1, [3])])], [], [0, 0]),
  (0, 6, 441, 0, 0, 0, [([9], [(1, [0]), (1, [2])]), ([9], [(1, [0]), (1, [1])])], [], [1, 1]),
  (0, 31, 0, 0, 0, 0, [], [], []),
  (0, 5, 439, 1, 0, 0, [], [], []),
  (0, 5, 440, 1, 0, 0, [], [], []),
  (0, 7, 0, 0, 0, 0, [([], [(1, [0])])], [], [])]
set_option maxRecDepth 100000 in
noncomputable def sz_hd372_0_2 : List sy_Hn := [(0, 3, 19, 0, (-9999), 9999, [([19], [(1, [0]), (1, [1])]), ([21], [(1, [0]), (1, [11]), (1, [3]), (1, [13]), (1, [2])])], [], []),
  (2, 6, 439, 0, 0, 0, [([], [(1, [0]), (1, [2])]), ([], [(1, [0]), (1, [2])])], [], [0, 0]),
  (0, 6, 441, 0, 0, 0, [([9], [(1, [0]), (1, [2])]), ([9], [(1, [0]), (1, [1])])], [], [1, 1]),
  (0, 31, 0, 0, 0, 0, [], [], []),
  (0, 5, 440, 1, 0, 0, [], [], []),
  (0, 7, 0, 0, 0, 0, [([], [(1, [0])])], [], []),
  (0, 3, 19, 0, (-9999), 9999, [([19], [(1, [0]), (1, [1])]), ([21], [(1, [0]), (1, [11]), (1, [3]), (1, [13]), (1, [2])])], [], []),
  (2, 6, 439, 0, 0, 0, [([], [(1, [0]), (1, [4])]), ([], [(1, [0]), (1, [4])])], [], [0, 0]),
  (0, 6, 441, 0, 0, 0, [([9], [(1, [0]), (1, [2])]), ([9], [(1, [0]), (1, [1])])], [], [1, 1]),
  (0, 31, 0, 0, 0, 0, [], [], []),
  (0, 4, 179, 7, 0, 0, [], [], []),
  (0, 5, 439, 0, 0, 0, [], [], []),
  (0, 5, 439, 1, 0, 0, [], [], []),
  (0, 5, 440, 1, 0, 0, [], [], []),
  (0, 7, 0, 0, 0, 0, [([], [(1, [0])])], [], []),
  (0, 3, 19, 0, (-9999), 9999, [([19], [(1, [0]), (1, [1])]), ([21], [(1, [0]), (1, [11]), (1, [3]), (1, [13]), (1, [2])])], [], []),
  (2, 6, 439, 0, 0, 0, [([], [(1, [0]), (1, [2])]), ([], [(1, [0]), (1, [2])])], [], [0, 0]),
  (0, 6, 441, 0, 0, 0, [([9], [(1, [0]), (1, [2])]), ([9], [(1, [0]), (1, [1])])], [], [1, 1]),
  (0, 31, 0, 0, 0, 0, [], [], []),
  (0, 5, 440, 1, 0, 0, [], [], []),
  (0, 7, 0, 0, 0, 0, [([], [(1, [0])])], [], []),
  (0, 3, 19, 0, (-9999), 9999, [([19], [(1, [0]), (1, [1])]), ([21], [(1, [0]), (1, [11]), (1, [3]), (1, [13]), (1, [2])])], [], []),
  (2, 6, 439, 0, 0, 0, [([], [(1, [0]), (1, [3])]), ([], [(1, [0]), (1, [3])])], [], [0, 0]),
  (0, 6, 441, 0, 0, 0, [([9], [(1, [0]), (1, [2])]), ([9], [(1, [0]), (1, [1])])], [], [1, 1]),
  (0, 31, 0, 0, 0, 0, [], [], []),
  (0, 5, 439, 1, 0, 0, [], [], []),
  (0, 5, 440, 1, 0, 0, [], [], []),
  (0, 7, 0, 0, 0, 0, [([], [(1, [0])])], [], []),
  (0, 3, 19, 0, (-9999), 9999, [([19], [(1, [0]), (1, [1])]), ([21], [(1, [0]), (1, [11]), (1, [3]), (1, [13]), (1, [2])])], [], []),
  (2, 6, 439, 0, 0, 0, [([], [(1, [0]), (1, [2])]), ([], [(1, [0]), (1, [2])])], [], [0, 0]),
  (0, 6, 441, 0, 0, 0, [([9], [(1, [0]), (1, [2])]), ([9], [(1, [0]), (1, [1])])], [], [1, 1]),
  (0, 31, 0, 0, 0, 0, [], [], []),
  (0, 5, 440, 1, 0, 0, [], [], []),
  (0, 7, 0, 0, 0, 0, [([], [(1, [0])])], [], []),
  (0, 3, 19, 0, (-9999), 9999, [([19], [(1, [0]), (1, [1])]), ([21], [(1, [0]), (1, [11]), (1, [3]), (1, [13]), (1, [2])])], [], []),
  (2, 6, 439, 0, 0, 0, [([], [(1, [0]), (1, [5])]), ([], [(1, [0]), (1, [5])])], [], [0, 0]),
  (0, 6, 441, 0, 0, 0, [([9], [(1, [0]), (1, [2])]), ([9], [(1, [0]), (1, [1])])], [], [1, 1]),
  (0, 31, 0, 0, 0, 0, [], [], []),
  (0, 5, 438, 1, 0, 0, [], [], []),
  (0, 4, 179, 7, 0, 0, [], [], []),
  (0, 5, 439, 0, 0, 0, [], [], []),
  (0, 5, 439, 1, 0, 0, [], [], []),
  (0, 5, 440, 1, 0, 0, [], [], []),
  (0, 7, 0, 0, 0, 0, [([], [(1, [0])])], [], []),
  (0, 3, 19, 0, (-9999), 9999, [([19], [(1, [0]), (1, [1])]), ([21], [(1, [0]), (1, [11]), (1, [3]), (1, [13]), (1, [2])])], [], []),
  (2, 6, 439, 0, 0, 0, [([], [(1, [0]), (1, [2])]), ([], [(1, [0]), (1, [2])])], [], [0, 0]),
  (0, 6, 441, 0, 0, 0, [([9], [(1, [0]), (1, [2])]), ([9], [(1, [0]), (1, [1])])], [], [1, 1]),
  (0, 31, 0, 0, 0, 0, [], [], []),
  (0, 5, 440, 1, 0, 0, [], [], []),
  (0, 7, 0, 0, 0, 0, [([], [(1, [0])])], [], []),
  (0, 3, 19, 0, (-9999), 9999, [([19], [(1, [0]), (1, [1])]), ([21], [(1, [0]), (1, [11]), (1, [3]), (1, [13]), (1, [2])])], [], []),
  (2, 6, 439, 0, 0, 0, [([], [(1, [0]), (1, [3])]), ([], [(1, [0]), (1, [3])])], [], [0, 0]),
  (0, 6, 441, 0, 0, 0, [([9], [(1, [0]), (1, [2])]), ([9], [(1, [0]), (1, [1])])], [], [1, 1]),
  (0, 31, 0, 0, 0, 0, [], [], []),
  (0, 5, 439, 1, 0, 0, [], [], []),
  (0, 5, 440, 1, 0, 0, [], [], []),
  (0, 7, 0, 0, 0, 0, [([], [(1, [0])])], [], []),
  (0, 3, 19, 0, (-9999), 9999, [([19], [(1, [0]), (1, [1])]), ([21], [(1, [0]), (1, [11]), (1, [3]), (1, [13]), (1, [2])])], [], []),
  (2, 6, 439, 0, 0, 0, [([], [(1, [0]), (1, [2])]), ([], [(1, [0]), (1, [2])])], [], [0, 0]),
  (0, 6, 441, 0, 0, 0, [([9], [(1, [0]), (1, [2])]), ([9], [(1, [0]), (1, [1])])], [], [1, 1]),
  (0, 31, 0, 0, 0, 0, [], [], []),
  (0, 5, 440, 1, 0, 0, [], [], []),
  (0, 7, 0, 0, 0, 0, [([], [(1, [0])])], [], []),
  (0, 3, 19, 0, (-9999), 9999, [([19], [(1, [0]), (1, [1])]), ([21], [(1, [0]), (1, [11]), (1, [3]), (1, [13]), (1, [2])])], [], []),
  (2, 6, 439, 0, 0, 0, [([], [(1, [0]), (1, [4])]), ([], [(1, [0]), (1, [4])])], [], [0, 0]),
  (0, 6, 441, 0, 0, 0, [([9], [(1, [0]), (1, [2])]), ([9], [(1, [0]), (1, [1])])], [], [1, 1]),
  (0, 31, 0, 0, 0, 0, [], [], []),
  (0, 4, 179, 7, 0, 0, [], [], []),
  (0, 5, 439, 0, 0, 0, [], [], []),
  (0, 5, 439, 1, 0, 0, [], [], []),
  (0, 5, 440, 1, 0, 0, [], [], []),
  (0, 7, 0, 0, 0, 0, [([], [(1, [0])])], [], []),
  (0, 3, 19, 0, (-9999), 9999, [([19], [(1, [0]), (1, [1])]), ([21], [(1, [0]), (1, [11]), (1, [3]), (1, [13]), (1, [2])])], [], []),
  (2, 6, 439, 0, 0, 0, [([], [(1, [0]), (1, [2])]), ([], [(1, [0]), (1, [2])])], [], [0, 0]),
  (0, 6, 441, 0, 0, 0, [([9], [(1, [0]), (1, [2])]), ([9], [(1, [0]), (1, [1])])], [], [1, 1]),
  (0, 31, 0, 0, 0, 0, [], [], []),
  (0, 5, 440, 1, 0, 0, [], [], []),
  (0, 7, 0, 0, 0, 0, [([], [(1, [0])])], [], []),
  (0, 3, 19, 0, (-9999), 9999, [([19], [(1, [0]), (1, [1])]), ([21], [(1, [0]), (1, [11]), (1, [3]), (1, [13]), (1, [2])])], [], []),
  (2, 6, 439, 0, 0, 0, [([], [(1, [0]), (1, [3])]), ([], [(1, [0]), (1, [3])])], [], [0, 0]),
  (0, 6, 441, 0, 0, 0, [([9], [(1, [0]), (1, [2])]), ([9], [(1, [0]), (1, [1])])], [], [1, 1]),
  (0, 31, 0, 0, 0, 0, [], [], []),
  (0, 5, 439, 1, 0, 0, [], [], []),
  (0, 5, 440, 1, 0, 0, [], [], []),
  (0, 7, 0, 0, 0, 0, [([], [(1, [0])])], [], []),
  (0, 3, 19, 0, (-9999), 9999, [([19], [(1, [0]), (1, [1])]), ([21], [(1, [0]), (1, [11]), (1, [3]), (1, [13]), (1, [2])])], [], []),
  (2, 6, 439, 0, 0, 0, [([], [(1, [0]), (1, [2])]), ([], [(1, [0]), (1, [2])])], [], [0, 0]),
  (0, 6, 441, 0, 0, 0, [([9], [(1, [0]), (1, [2])]), ([9], [(1, [0]), (1, [1])])], [], [1, 1]),
  (0, 31, 0, 0, 0, 0, [], [], []),
  (0, 5, 440, 1, 0, 0, [], [], []),
  (0, 7, 0, 0, 0, 0, [([], [(1, [0])])], [], []),
  (0, 3, 19, 0, (-9999), 9999, [([19], [(1, [0]), (1, [1])]), ([21], [(1, [0]), (1, [11]), (1, [3]), (1, [13]), (1, [2])])], [], []),
  (2, 6, 439, 0, 0, 0, [([], [(1, [0]), (1, [6])]), ([], [(1, [0]), (1, [6])])], [], [0, 0]),
  (0, 6, 441, 0, 0, 0, [([9], [(1, [0]), (1, [2])]), ([9], [(1, [0]), (1, [1])])], [], [1, 1]),
  (0, 31, 0, 0, 0, 0, [], [], []),
  (0, 4, 182, 3, 0, 0, [], [], []),
  (0, 5, 438, 0, 0, 0, [], [], []),
  (0, 3, 19, 0, (-9999), 9999, [([19], [(1, [0]), (1, [1])]), ([16, 17, 18, 19, 20, 21], [(1, [13]), (1, [14])])], [], []),
  (2, 6, 439, 0, 0, 0, [([], [(1, [0]), (1, [1])]), ([], [(1, [0]), (1, [1])])], [], [0, 0]),
  (0, 6, 441, 0, 0, 0, [([9], [(1, [0]), (1, [2])]), ([9], [(1, [0]), (1, [1])])], [], [1, 1]),
  (0, 31, 0, 0, 0, 0, [], [], []),
  (0, 5, 438, 1, 0, 0, [], [], []),
  (0, 3, 19, 0, (-9999), 9999, [([19], [(1, [0]), (1, [1])]), ([16, 17, 18, 19, 20, 21, 22], [(1, [15]), (1, [17])])], [], []),
  (2, 6, 439, 0, 0, 0, [([], [(1, [0]), (1, [1])]), ([], [(1, [0]), (1, [1])])], [], [0, 0]),
  (0, 6, 441, 0, 0, 0, [([9], [(1, [0]), (1, [2])]), ([9], [(1, [0]), (1, [1])])], [], [1, 1]),
  (0, 31, 0, 0, 0, 0, [], [], []),
  (0, 4, 179, 7, 0, 0, [], [], []),
  (0, 5, 439, 0, 0, 0, [], [], []),
  (0, 3, 19, 0, (-9999), 9999, [([19], [(1, [0]), (1, [1])]), ([16, 17, 18, 19, 20, 21, 22], [(1, [15]), (1, [18])])], [], []),
  (2, 6, 439, 0, 0, 0, [([], [(1, [0]), (1, [1])]), ([], [(1, [0]), (1, [1])])], [], [0, 0]),
  (0, 6, 441, 0, 0, 0, [([9], [(1, [0]), (1, [2])]), ([9], [(1, [0]), (1, [1])])], [], [1, 1]),
  (0, 31, 0, 0, 0, 0, [], [], []),
  (0, 5, 439, 1, 0, 0, [], [], []),
  (0, 3, 19, 0, (-9999), 9999, [([19], [(1, [0]), (1, [1])]), ([16, 17, 18, 19, 20, 21, 22, 23], [(1, [17]), (1, [21])])], [], []),
  (2, 6, 439, 0, 0, 0, [([], [(1, [0]), (1, [1])]), ([], [(1, [0]), (1, [1])])], [], [0, 0]),
  (0, 6, 441, 0, 0, 0, [([9], [(1, [0]), (1, [2])]), ([9], [(1, [0]), (1, [1])])], [], [1, 1]),
  (0, 31, 0, 0, 0, 0, [], [], []),
  (0, 5, 440, 1, 0, 0, [], [], []),
  (0, 7, 0, 0, 0, 0, [([], [(1, [0])])], [], []),
  (0, 3, 19, 0, (-9999), 9999, [([19], [(1, [0]), (1, [1])]), ([21], [(1, [0]), (1, [11]), (1, [3]), (1, [13]), (1, [2])])], [], []),
  (2, 6, 439, 0, 0, 0, [([17, 18], [(1, [0]), (1, [12]), (1, [11]), (1, [1]), (1, [3])]), ([], [(1, [0]), (1, [9]), (1, [1]), (1, [11])])], [], [1, 1]),
  (0, 6, 441, 0, 0, 0, [([9], [(1, [0]), (1, [2])]), ([9], [(1, [0]), (1, [1])])], [], [1, 1]),
  (0, 31, 0, 0, 0, 0, [], [], []),
  (48, 4, 182, 0, 0, 0, [], [], []),
  (0, 4, 182, 1, 0, 0, [], [], []),
  (0, 4, 189, 2, 0, 0, [], [], []),
  (0, 5, 440, 0, 0, 0, [], [], []),
  (0, 7, 0, 0, 0, 0, [([], [(1, [0])])], [], []),
  (0, 5, 440, 1, 0, 0, [], [], []),
  (0, 7, 0, 0, 0, 0, [([], [(1, [0])])], [], []),
  (8, 6, 439, 0, 0, 0, [([17], [(1, [0]), (1, [4]), (1, [1])]), ([17], [(1, [0]), (1, [3]), (1, [1])])], [], [1, 1]),
  (0, 6, 440, 0, 0, 0, [([], [(1, [0])]), ([], [(1, [0])])], [], [0, 0]),
  (0, 6, 441, 0, 0, 0, [([], [(1, [0])]), ([], [(1, [0])])], [], [0, 0]),
  (0, 31, 0, 0, 0, 0, [], [], []),
  (11, 4, 182, 0, 0, 0, [], [], []),
  (0, 4, 182, 1, 0, 0, [], [], []),
  (0, 4, 189, 2, 0, 0, [], [], []),
  (0, 5, 440, 0, 0, 0, [], [], []),
  (0, 7, 0, 0, 0, 0, [([], [(1, [0])])], [], []),
  (0, 5, 440, 1, 0, 0, [], [], []),
  (0, 7, 0, 0, 0, 0, [([], [(1, [0])])], [], []),
  (8, 6, 439, 0, 0, 0, [([17], [(1, [0]), (1, [4]), (1, [1])]), ([17], [(1, [0]), (1, [3]), (1, [1])])], [], [1, 1]),
  (0, 6, 440, 0, 0, 0, [([], [(1, [0])]), ([], [(1, [0])])], [], [0, 0]),
  (0, 6, 441, 0, 0, 0, [([], [(1, [0])]), ([], [(1, [0])])], [], [0, 0]),
  (0, 31, 0, 0, 0, 0, [], [], []),
  (8, 4, 182, 0, 0, 0, [], [], []),
  (0, 4, 182, 1, 0, 0, [], [], []),
  (0, 4, 189, 2, 0, 0, [], [], []),
  (0, 4, 189, 0, 0, 0, [], [], []),
  (0, 5, 440, 0, 0, 0, [], [], [])]
set_option maxRecDepth 100000 in
noncomputable def sz_hd372_0_3 : List sy_Hn := [(0, 7, 0, 0, 0, 0, [([], [(1, [0])])], [], []),
  (0, 5, 440, 1, 0, 0, [], [], []),
  (0, 7, 0, 0, 0, 0, [([], [(1, [0])])], [], []),
  (8, 6, 439, 0, 0, 0, [([20], [(1, [0]), (1, [4]), (1, [1])]), ([20], [(1, [0]), (1, [3]), (1, [1])])], [], [1, 1]),
  (0, 6, 440, 0, 0, 0, [([], [(1, [0])]), ([], [(1, [0])])], [], [0, 0]),
  (0, 6, 441, 0, 0, 0, [([], [(1, [0])]), ([], [(1, [0])])], [], [0, 0]),
  (0, 31, 0, 0, 0, 0, [], [], []),
  (32, 4, 182, 0, 0, 0, [], [], []),
  (0, 4, 182, 1, 0, 0, [], [], []),
  (0, 4, 189, 2, 0, 0, [], [], []),
  (0, 4, 189, 0, 0, 0, [], [], []),
  (0, 5, 440, 0, 0, 0, [], [], []),
  (0, 7, 0, 0, 0, 0, [([], [(1, [0])])], [], []),
  (0, 5, 440, 1, 0, 0, [], [], []),
  (0, 7, 0, 0, 0, 0, [([], [(1, [0])])], [], []),
  (8, 6, 439, 0, 0, 0, [([19], [(1, [0]), (1, [4]), (1, [1])]), ([19], [(1, [0]), (1, [3]), (1, [1])])], [], [1, 1]),
  (0, 6, 440, 0, 0, 0, [([], [(1, [0])]), ([], [(1, [0])])], [], [0, 0]),
  (0, 6, 441, 0, 0, 0, [([], [(1, [0])]), ([], [(1, [0])])], [], [0, 0]),
  (0, 31, 0, 0, 0, 0, [], [], []),
  (48, 4, 182, 0, 0, 0, [], [], []),
  (0, 4, 182, 1, 0, 0, [], [], []),
  (0, 4, 189, 2, 0, 0, [], [], []),
  (0, 5, 440, 0, 0, 0, [], [], []),
  (0, 7, 0, 0, 0, 0, [([], [(1, [0])])], [], []),
  (0, 5, 440, 1, 0, 0, [], [], []),
  (0, 7, 0, 0, 0, 0, [([], [(1, [0])])], [], []),
  (8, 6, 439, 0, 0, 0, [([17], [(1, [0]), (1, [4]), (1, [1])]), ([17], [(1, [0]), (1, [3]), (1, [1])])], [], [1, 1]),
  (0, 6, 440, 0, 0, 0, [([], [(1, [0])]), ([], [(1, [0])])], [], [0, 0]),
  (0, 6, 441, 0, 0, 0, [([], [(1, [0])]), ([], [(1, [0])])], [], [0, 0]),
  (0, 31, 0, 0, 0, 0, [], [], []),
  (11, 4, 182, 0, 0, 0, [], [], []),
  (0, 4, 182, 1, 0, 0, [], [], []),
  (0, 4, 189, 2, 0, 0, [], [], []),
  (0, 5, 440, 0, 0, 0, [], [], []),
  (0, 7, 0, 0, 0, 0, [([], [(1, [0])])], [], []),
  (0, 5, 440, 1, 0, 0, [], [], []),
  (0, 7, 0, 0, 0, 0, [([], [(1, [0])])], [], []),
  (8, 6, 439, 0, 0, 0, [([17], [(1, [0]), (1, [4]), (1, [1])]), ([17], [(1, [0]), (1, [3]), (1, [1])])], [], [1, 1]),
  (0, 6, 440, 0, 0, 0, [([], [(1, [0])]), ([], [(1, [0])])], [], [0, 0]),
  (0, 6, 441, 0, 0, 0, [([], [(1, [0])]), ([], [(1, [0])])], [], [0, 0]),
  (0, 31, 0, 0, 0, 0, [], [], []),
  (8, 4, 182, 0, 0, 0, [], [], []),
  (0, 4, 182, 1, 0, 0, [], [], []),
  (0, 4, 189, 2, 0, 0, [], [], []),
  (0, 4, 189, 0, 0, 0, [], [], []),
  (0, 5, 440, 0, 0, 0, [], [], []),
  (0, 7, 0, 0, 0, 0, [([], [(1, [0])])], [], []),
  (0, 5, 440, 1, 0, 0, [], [], []),
  (0, 7, 0, 0, 0, 0, [([], [(1, [0])])], [], []),
  (8, 6, 439, 0, 0, 0, [([20], [(1, [0]), (1, [4]), (1, [1])]), ([20], [(1, [0]), (1, [3]), (1, [1])])], [], [1, 1]),
  (0, 6, 440, 0, 0, 0, [([], [(1, [0])]), ([], [(1, [0])])], [], [0, 0]),
  (0, 6, 441, 0, 0, 0, [([], [(1, [0])]), ([], [(1, [0])])], [], [0, 0]),
  (0, 31, 0, 0, 0, 0, [], [], [])]
noncomputable def sz_hd372_0 : List sy_Hn := sz_hd372_0_0 ++ (sz_hd372_0_1 ++ (sz_hd372_0_2 ++ (sz_hd372_0_3)))
set_option maxRecDepth 100000 in
theorem sz_sd372_0 : sy_seg sz_E (pv_T (sz_own true) sz_T) sz_RU [sz_cd85, sz_cd86] sz_cd372 sz_ud372 ri_m_X2_relayEnds 1354 none sz_hd372_0 = true := by decide +kernel
theorem sz_okd372 (xs : Nat → Value) (L : Nat) : sy_Cok (sz_env xs L) (pv_T (sz_own true) sz_T) sz_RU sz_cd372 := sy_chk_ok (CT := [sz_cd85, sz_cd86]) (CU := sz_ud372) (M := ri_m_X2_relayEnds) (List.forall_mem_cons.mpr ⟨sz_okd85 xs L, List.forall_mem_cons.mpr ⟨sz_okd86 xs L, fun _ h => absurd h List.not_mem_nil⟩⟩) rfl rfl ⟨_, _, sz_sd372_0⟩ (fun _ h => absurd h List.not_mem_nil)

/-! X0_drive  -/
set_option maxRecDepth 100000 in
noncomputable def sz_cd373 : sy_Ct := (223, 3, 75, [(3, .inr 171, .inl 0), (0, .inl 0, .inl 0)], ([], []), [], [], [(175, 2, 2), (176, 0, 239), (177, 0, 0), (179, 5, 5), (179, 7, 8), (179, 12, 13), (179, 17, 18), (182, 3, 3), (189, 3, 8)], [(.inl none, 0, 0, ([], []), [], [])])
set_option maxRecDepth 100000 in
noncomputable def sz_ud373 : List sy_Cut := [(17, [(0, (3, .inr 171, .inl 0)), (1, (0, .inl 0, .inl 0)), (2, (3, .inr 179, .inl 0)), (3, (0, .inr 0, .inl 0))], ([((-1), 3)], []), [], [], [(4, [])]), (47, [(0, (3, .inr 171, .inl 0)), (1, (0, .inl 0, .inl 0)), (2, (3, .inr 179, .inl 0)), (3, (0, .inr 0, .inl 0))], ([((-1), (-1))], []), [], [], [(3, [])]), (63, [(0, (3, .inr 171, .inl 0)), (1, (0, .inl 0, .inl 0)), (2, (3, .inr 179, .inl 0)), (3, (0, .inr 0, .inl 0))], ([((-1), 3)], []), [], [], [(2, [])]), (65, [(0, (3, .inr 171, .inl 0)), (1, (0, .inl 0, .inl 0)), (2, (3, .inr 179, .inl 0)), (3, (0, .inr 0, .inl 0))], ([((-1), 3)], []), [], [], [(1, [])]), (78, [(0, (3, .inr 171, .inl 0)), (1, (0, .inl 0, .inl 0)), (2, (3, .inr 179, .inl 0)), (3, (0, .inr 0, .inl 0))], ([((-1), 3)], []), [], [], [(0, [])])]
set_option maxRecDepth 100000 in
noncomputable def sz_hd373_0 : List sy_Hn := [(16, 20, 2, 0, 0, 0, [], [], []),
  (0, 30, 0, 0, 0, 0, [([], [(1, [0])]), ([], [])], [], [])]
set_option maxRecDepth 100000 in
theorem sz_sd373_0 : sy_seg sz_E (pv_T (sz_own true) sz_T) sz_RU [sz_cd355, sz_cd356, sz_cd368, sz_cd371, sz_cd372] sz_cd373 sz_ud373 ri_m_X0_drive 25 none sz_hd373_0 = true := by decide +kernel
set_option maxRecDepth 100000 in
noncomputable def sz_hd373_1_0 : List sy_Hn := [(15, 1, 0, 0, 0, 0, [], [], []),
  (26, 6, 439, 0, 0, 0, [([], [(1, [0]), (1, [2])]), ([], [(1, [0]), (1, [1])])], [], [1, 1]),
  (0, 30, 0, 0, 0, 0, [([], [(1, [0])]), ([], [(1, [0])])], [], []),
  (7, 5, 437, 0, 0, 0, [], [], []),
  (0, 6, 439, 0, 0, 0, [([], [(1, [0]), (1, [1])]), ([], [(1, [0]), (1, [1])])], [], [0, 0]),
  (0, 30, 0, 0, 0, 0, [([], [(1, [0])]), ([], [(1, [0])])], [], []),
  (0, 6, 439, 0, 0, 0, [([], [(1, [0]), (1, [1])]), ([], [(1, [0])])], [], [1, 1]),
  (0, 30, 0, 0, 0, 0, [([], [(1, [0])]), ([], [(1, [0])])], [], []),
  (7, 5, 437, 0, 0, 0, [], [], []),
  (0, 6, 439, 0, 0, 0, [([], [(1, [0]), (1, [1])]), ([], [(1, [0]), (1, [1])])], [], [0, 0]),
  (0, 30, 0, 0, 0, 0, [([], [(1, [0])]), ([], [(1, [0])])], [], []),
  (0, 6, 439, 0, 0, 0, [([], [(1, [0])]), ([], [(1, [0]), (1, [1])])], [], [1, 1]),
  (0, 30, 0, 0, 0, 0, [([], [(1, [0])]), ([], [(1, [0])])], [], []),
  (0, 1, 0, 0, 1, 0, [], [], []),
  (26, 6, 439, 0, 0, 0, [([], [(1, [0]), (1, [2])]), ([], [(1, [0]), (1, [1])])], [], [1, 1]),
  (0, 30, 0, 0, 0, 0, [([], [(1, [0])]), ([], [(1, [0])])], [], []),
  (7, 5, 437, 0, 0, 0, [], [], []),
  (0, 6, 439, 0, 0, 0, [([], [(1, [0]), (1, [1])]), ([], [(1, [0]), (1, [1])])], [], [0, 0]),
  (0, 30, 0, 0, 0, 0, [([], [(1, [0])]), ([], [(1, [0])])], [], []),
  (0, 6, 439, 0, 0, 0, [([], [(1, [0]), (1, [1])]), ([], [(1, [0])])], [], [1, 1]),
  (0, 30, 0, 0, 0, 0, [([], [(1, [0])]), ([], [(1, [0])])], [], []),
  (7, 5, 437, 0, 0, 0, [], [], []),
  (0, 6, 439, 0, 0, 0, [([], [(1, [0]), (1, [1])]), ([], [(1, [0]), (1, [1])])], [], [0, 0]),
  (0, 30, 0, 0, 0, 0, [([], [(1, [0])]), ([], [(1, [0])])], [], []),
  (0, 6, 439, 0, 0, 0, [([], [(1, [0])]), ([], [(1, [0]), (1, [1])])], [], [1, 1]),
  (0, 30, 0, 0, 0, 0, [([], [(1, [0])]), ([], [(1, [0])])], [], []),
  (0, 1, 0, 0, 2, 0, [], [], []),
  (26, 6, 439, 0, 0, 0, [([], [(1, [0]), (1, [2])]), ([], [(1, [0]), (1, [1])])], [], [1, 1]),
  (0, 30, 0, 0, 0, 0, [([], [(1, [0])]), ([], [(1, [0])])], [], []),
  (7, 5, 437, 0, 0, 0, [], [], []),
  (0, 6, 439, 0, 0, 0, [([], [(1, [0]), (1, [1])]), ([], [(1, [0]), (1, [1])])], [], [0, 0]),
  (0, 30, 0, 0, 0, 0, [([], [(1, [0])]), ([], [(1, [0])])], [], []),
  (0, 6, 439, 0, 0, 0, [([], [(1, [0]), (1, [1])]), ([], [(1, [0])])], [], [1, 1]),
  (0, 30, 0, 0, 0, 0, [([], [(1, [0])]), ([], [(1, [0])])], [], []),
  (7, 5, 437, 0, 0, 0, [], [], []),
  (0, 6, 439, 0, 0, 0, [([], [(1, [0]), (1, [1])]), ([], [(1, [0]), (1, [1])])], [], [0, 0]),
  (0, 30, 0, 0, 0, 0, [([], [(1, [0])]), ([], [(1, [0])])], [], []),
  (0, 6, 439, 0, 0, 0, [([], [(1, [0])]), ([], [(1, [0]), (1, [1])])], [], [1, 1]),
  (0, 30, 0, 0, 0, 0, [([], [(1, [0])]), ([], [(1, [0])])], [], []),
  (26, 6, 439, 0, 0, 0, [([], [(1, [0]), (1, [2])]), ([], [(1, [0]), (1, [1])])], [], [1, 1]),
  (0, 30, 0, 0, 0, 0, [([], [(1, [0])]), ([], [(1, [0])])], [], []),
  (7, 5, 437, 0, 0, 0, [], [], []),
  (0, 6, 439, 0, 0, 0, [([], [(1, [0]), (1, [1])]), ([], [(1, [0]), (1, [1])])], [], [0, 0]),
  (0, 30, 0, 0, 0, 0, [([], [(1, [0])]), ([], [(1, [0])])], [], []),
  (0, 6, 439, 0, 0, 0, [([], [(1, [0]), (1, [1])]), ([], [(1, [0])])], [], [1, 1]),
  (0, 30, 0, 0, 0, 0, [([], [(1, [0])]), ([], [(1, [0])])], [], []),
  (7, 5, 437, 0, 0, 0, [], [], []),
  (0, 6, 439, 0, 0, 0, [([], [(1, [0]), (1, [1])]), ([], [(1, [0]), (1, [1])])], [], [0, 0]),
  (0, 30, 0, 0, 0, 0, [([], [(1, [0])]), ([], [(1, [0])])], [], []),
  (0, 6, 439, 0, 0, 0, [([], [(1, [0])]), ([], [(1, [0]), (1, [1])])], [], [1, 1]),
  (0, 30, 0, 0, 0, 0, [([], [(1, [0])]), ([], [(1, [0])])], [], []),
  (3, 20, 3, 0, 0, 0, [], [], []),
  (0, 30, 0, 0, 0, 0, [([], [(1, [0])]), ([], [(1, [0])])], [], []),
  (0, 30, 0, 0, 0, 0, [([], [(1, [0])]), ([], [(1, [0])])], [], []),
  (6, 1, 0, 0, 0, 0, [], [], []),
  (26, 6, 439, 0, 0, 0, [([], [(1, [0]), (1, [2])]), ([], [(1, [0]), (1, [1])])], [], [1, 1]),
  (0, 30, 0, 0, 0, 0, [([], [(1, [0])]), ([], [(1, [0])])], [], []),
  (7, 5, 437, 0, 0, 0, [], [], []),
  (0, 6, 439, 0, 0, 0, [([], [(1, [0]), (1, [1])]), ([], [(1, [0]), (1, [1])])], [], [0, 0]),
  (0, 30, 0, 0, 0, 0, [([], [(1, [0])]), ([], [(1, [0])])], [], []),
  (0, 6, 439, 0, 0, 0, [([], [(1, [0]), (1, [1])]), ([], [(1, [0])])], [], [1, 1]),
  (0, 30, 0, 0, 0, 0, [([], [(1, [0])]), ([], [(1, [0])])], [], []),
  (7, 5, 437, 0, 0, 0, [], [], []),
  (0, 6, 439, 0, 0, 0, [([], [(1, [0]), (1, [1])]), ([], [(1, [0]), (1, [1])])], [], [0, 0]),
  (0, 30, 0, 0, 0, 0, [([], [(1, [0])]), ([], [(1, [0])])], [], []),
  (0, 6, 439, 0, 0, 0, [([], [(1, [0])]), ([], [(1, [0]), (1, [1])])], [], [1, 1]),
  (0, 30, 0, 0, 0, 0, [([], [(1, [0])]), ([], [(1, [0])])], [], []),
  (0, 1, 0, 0, 1, 0, [], [], []),
  (26, 6, 439, 0, 0, 0, [([], [(1, [0]), (1, [2])]), ([], [(1, [0]), (1, [1])])], [], [1, 1]),
  (0, 30, 0, 0, 0, 0, [([], [(1, [0])]), ([], [(1, [0])])], [], []),
  (7, 5, 437, 0, 0, 0, [], [], []),
  (0, 6, 439, 0, 0, 0, [([], [(1, [0]), (1, [1])]), ([], [(1, [0]), (1, [1])])], [], [0, 0]),
  (0, 30, 0, 0, 0, 0, [([], [(1, [0])]), ([], [(1, [0])])], [], []),
  (0, 6, 439, 0, 0, 0, [([], [(1, [0]), (1, [1])]), ([], [(1, [0])])], [], [1, 1]),
  (0, 30, 0, 0, 0, 0, [([], [(1, [0])]), ([], [(1, [0])])], [], []),
  (7, 5, 437, 0, 0, 0, [], [], []),
  (0, 6, 439, 0, 0, 0, [([], [(1, [0]), (1, [1])]), ([], [(1, [0]), (1, [1])])], [], [0, 0]),
  (0, 30, 0, 0, 0, 0, [([], [(1, [0])]), ([], [(1, [0])])], [], []),
  (0, 6, 439, 0, 0, 0, [([], [(1, [0])]), ([], [(1, [0]), (1, [1])])], [], [1, 1]),
  (0, 30, 0, 0, 0, 0, [([], [(1, [0])]), ([], [(1, [0])])], [], []),
  (0, 1, 0, 0, 2, 0, [], [], []),
  (26, 6, 439, 0, 0, 0, [([], [(1, [0]), (1, [2])]), ([], [(1, [0]), (1, [1])])], [], [1, 1]),
  (0, 30, 0, 0, 0, 0, [([], [(1, [0])]), ([], [(1, [0])])], [], []),
  (7, 5, 437, 0, 0, 0, [], [], []),
  (0, 6, 439, 0, 0, 0, [([], [(1, [0]), (1, [1])]), ([], [(1, [0]), (1, [1])])], [], [0, 0]),
  (0, 30, 0, 0, 0, 0, [([], [(1, [0])]), ([], [(1, [0])])], [], []),
  (0, 6, 439, 0, 0, 0, [([], [(1, [0]), (1, [1])]), ([], [(1, [0])])], [], [1, 1]),
  (0, 30, 0, 0, 0, 0, [([], [(1, [0])]), ([], [(1, [0])])], [], []),
  (7, 5, 437, 0, 0, 0, [], [], []),
  (0, 6, 439, 0, 0, 0, [([], [(1, [0]), (1, [1])]), ([], [(1, [0]), (1, [1])])], [], [0, 0]),
  (0, 30, 0, 0, 0, 0, [([], [(1, [0])]), ([], [(1, [0])])], [], []),
  (0, 6, 439, 0, 0, 0, [([], [(1, [0])]), ([], [(1, [0]), (1, [1])])], [], [1, 1]),
  (0, 30, 0, 0, 0, 0, [([], [(1, [0])]), ([], [(1, [0])])], [], []),
  (26, 6, 439, 0, 0, 0, [([], [(1, [0]), (1, [2])]), ([], [(1, [0]), (1, [1])])], [], [1, 1]),
  (0, 30, 0, 0, 0, 0, [([], [(1, [0])]), ([], [(1, [0])])], [], []),
  (7, 5, 437, 0, 0, 0, [], [], []),
  (0, 6, 439, 0, 0, 0, [([], [(1, [0]), (1, [1])]), ([], [(1, [0]), (1, [1])])], [], [0, 0]),
  (0, 30, 0, 0, 0, 0, [([], [(1, [0])]), ([], [(1, [0])])], [], []),
  (0, 6, 439, 0, 0, 0, [([], [(1, [0]), (1, [1])]), ([], [(1, [0])])], [], [1, 1]),
  (0, 30, 0, 0, 0, 0, [([], [(1, [0])]), ([], [(1, [0])])], [], []),
  (7, 5, 437, 0, 0, 0, [], [], []),
  (0, 6, 439, 0, 0, 0, [([], [(1, [0]), (1, [1])]), ([], [(1, [0]), (1, [1])])], [], [0, 0]),
  (0, 30, 0, 0, 0, 0, [([], [(1, [0])]), ([], [(1, [0])])], [], []),
  (0, 6, 439, 0, 0, 0, [([], [(1, [0])]), ([], [(1, [0]), (1, [1])])], [], [1, 1]),
  (0, 30, 0, 0, 0, 0, [([], [(1, [0])]), ([], [(1, [0])])], [], []),
  (0, 30, 0, 0, 0, 0, [([], [(1, [0])]), ([], [(1, [0])])], [], []),
  (6, 1, 0, 0, 0, 0, [], [], []),
  (26, 6, 439, 0, 0, 0, [([], [(1, [0]), (1, [2])]), ([], [(1, [0]), (1, [1])])], [], [1, 1]),
  (0, 30, 0, 0, 0, 0, [([], [(1, [0])]), ([], [(1, [0])])], [], []),
  (7, 5, 437, 0, 0, 0, [], [], []),
  (0, 6, 439, 0, 0, 0, [([], [(1, [0]), (1, [1])]), ([], [(1, [0]), (1, [1])])], [], [0, 0]),
  (0, 30, 0, 0, 0, 0, [([], [(1, [0])]), ([], [(1, [0])])], [], []),
  (0, 6, 439, 0, 0, 0, [([], [(1, [0]), (1, [1])]), ([], [(1, [0])])], [], [1, 1]),
  (0, 30, 0, 0, 0, 0, [([], [(1, [0])]), ([], [(1, [0])])], [], []),
  (7, 5, 437, 0, 0, 0, [], [], []),
  (0, 6, 439, 0, 0, 0, [([], [(1, [0]), (1, [1])]), ([], [(1, [0]), (1, [1])])], [], [0, 0]),
  (0, 30, 0, 0, 0, 0, [([], [(1, [0])]), ([], [(1, [0])])], [], []),
  (0, 6, 439, 0, 0, 0, [([], [(1, [0])]), ([], [(1, [0]), (1, [1])])], [], [1, 1]),
  (0, 30, 0, 0, 0, 0, [([], [(1, [0])]), ([], [(1, [0])])], [], []),
  (0, 1, 0, 0, 1, 0, [], [], []),
  (26, 6, 439, 0, 0, 0, [([], [(1, [0]), (1, [2])]), ([], [(1, [0]), (1, [1])])], [], [1, 1]),
  (0, 30, 0, 0, 0, 0, [([], [(1, [0])]), ([], [(1, [0])])], [], []),
  (7, 5, 437, 0, 0, 0, [], [], []),
  (0, 6, 439, 0, 0, 0, [([], [(1, [0]), (1, [1])]), ([], [(1, [0]), (1, [1])])], [], [0, 0]),
  (0, 30, 0, 0, 0, 0, [([], [(1, [0])]), ([], [(1, [0])])], [], []),
  (0, 6, 439, 0, 0, 0, [([], [(1, [0]), (1, [1])]), ([], [(1, [0])])], [], [1, 1]),
  (0, 30, 0, 0, 0, 0, [([], [(1, [0])]), ([], [(1, [0])])], [], []),
  (7, 5, 437, 0, 0, 0, [], [], []),
  (0, 6, 439, 0, 0, 0, [([], [(1, [0]), (1, [1])]), ([], [(1, [0]), (1, [1])])], [], [0, 0]),
  (0, 30, 0, 0, 0, 0, [([], [(1, [0])]), ([], [(1, [0])])], [], []),
  (0, 6, 439, 0, 0, 0, [([], [(1, [0])]), ([], [(1, [0]), (1, [1])])], [], [1, 1]),
  (0, 30, 0, 0, 0, 0, [([], [(1, [0])]), ([], [(1, [0])])], [], []),
  (0, 1, 0, 0, 2, 0, [], [], []),
  (26, 6, 439, 0, 0, 0, [([], [(1, [0]), (1, [2])]), ([], [(1, [0]), (1, [1])])], [], [1, 1]),
  (0, 30, 0, 0, 0, 0, [([], [(1, [0])]), ([], [(1, [0])])], [], []),
  (7, 5, 437, 0, 0, 0, [], [], []),
  (0, 6, 439, 0, 0, 0, [([], [(1, [0]), (1, [1])]), ([], [(1, [0]), (1, [1])])], [], [0, 0]),
  (0, 30, 0, 0, 0, 0, [([], [(1, [0])]), ([], [(1, [0])])], [], []),
  (0, 6, 439, 0, 0, 0, [([], [(1, [0]), (1, [1])]), ([], [(1, [0])])], [], [1, 1]),
  (0, 30, 0, 0, 0, 0, [([], [(1, [0])]), ([], [(1, [0])])], [], []),
  (7, 5, 437, 0, 0, 0, [], [], []),
  (0, 6, 439, 0, 0, 0, [([], [(1, [0]), (1, [1])]), ([], [(1, [0]), (1, [1])])], [], [0, 0]),
  (0, 30, 0, 0, 0, 0, [([], [(1, [0])]), ([], [(1, [0])])], [], []),
  (0, 6, 439, 0, 0, 0, [([], [(1, [0])]), ([], [(1, [0]), (1, [1])])], [], [1, 1]),
  (0, 30, 0, 0, 0, 0, [([], [(1, [0])]), ([], [(1, [0])])], [], []),
  (26, 6, 439, 0, 0, 0, [([], [(1, [0]), (1, [2])]), ([], [(1, [0]), (1, [1])])], [], [1, 1]),
  (0, 30, 0, 0, 0, 0, [([], [(1, [0])]), ([], [(1, [0])])], [], []),
  (7, 5, 437, 0, 0, 0, [], [], []),
  (0, 6, 439, 0, 0, 0, [([], [(1, [0]), (1, [1])]), ([], [(1, [0]), (1, [1])])], [], [0, 0]),
  (0, 30, 0, 0, 0, 0, [([], [(1, [0])]), ([], [(1, [0])])], [], [])]
set_option maxRecDepth 100000 in
noncomputable def sz_hd373_1_1 : List sy_Hn := [(0, 6, 439, 0, 0, 0, [([], [(1, [0]), (1, [1])]), ([], [(1, [0])])], [], [1, 1]),
  (0, 30, 0, 0, 0, 0, [([], [(1, [0])]), ([], [(1, [0])])], [], []),
  (7, 5, 437, 0, 0, 0, [], [], []),
  (0, 6, 439, 0, 0, 0, [([], [(1, [0]), (1, [1])]), ([], [(1, [0]), (1, [1])])], [], [0, 0]),
  (0, 30, 0, 0, 0, 0, [([], [(1, [0])]), ([], [(1, [0])])], [], []),
  (0, 6, 439, 0, 0, 0, [([], [(1, [0])]), ([], [(1, [0]), (1, [1])])], [], [1, 1]),
  (0, 30, 0, 0, 0, 0, [([], [(1, [0])]), ([], [(1, [0])])], [], []),
  (12, 1, 0, 0, 0, 0, [], [], []),
  (26, 6, 439, 0, 0, 0, [([], [(1, [0]), (1, [2])]), ([], [(1, [0]), (1, [1])])], [], [1, 1]),
  (0, 30, 0, 0, 0, 0, [([], [(1, [0])]), ([], [(1, [0])])], [], []),
  (7, 5, 437, 0, 0, 0, [], [], []),
  (0, 6, 439, 0, 0, 0, [([], [(1, [0]), (1, [1])]), ([], [(1, [0]), (1, [1])])], [], [0, 0]),
  (0, 30, 0, 0, 0, 0, [([], [(1, [0])]), ([], [(1, [0])])], [], []),
  (0, 6, 439, 0, 0, 0, [([], [(1, [0]), (1, [1])]), ([], [(1, [0])])], [], [1, 1]),
  (0, 30, 0, 0, 0, 0, [([], [(1, [0])]), ([], [(1, [0])])], [], []),
  (7, 5, 437, 0, 0, 0, [], [], []),
  (0, 6, 439, 0, 0, 0, [([], [(1, [0]), (1, [1])]), ([], [(1, [0]), (1, [1])])], [], [0, 0]),
  (0, 30, 0, 0, 0, 0, [([], [(1, [0])]), ([], [(1, [0])])], [], []),
  (0, 6, 439, 0, 0, 0, [([], [(1, [0])]), ([], [(1, [0]), (1, [1])])], [], [1, 1]),
  (0, 30, 0, 0, 0, 0, [([], [(1, [0])]), ([], [(1, [0])])], [], []),
  (0, 1, 0, 0, 1, 0, [], [], []),
  (26, 6, 439, 0, 0, 0, [([], [(1, [0]), (1, [2])]), ([], [(1, [0]), (1, [1])])], [], [1, 1]),
  (0, 30, 0, 0, 0, 0, [([], [(1, [0])]), ([], [(1, [0])])], [], []),
  (7, 5, 437, 0, 0, 0, [], [], []),
  (0, 6, 439, 0, 0, 0, [([], [(1, [0]), (1, [1])]), ([], [(1, [0]), (1, [1])])], [], [0, 0]),
  (0, 30, 0, 0, 0, 0, [([], [(1, [0])]), ([], [(1, [0])])], [], []),
  (0, 6, 439, 0, 0, 0, [([], [(1, [0]), (1, [1])]), ([], [(1, [0])])], [], [1, 1]),
  (0, 30, 0, 0, 0, 0, [([], [(1, [0])]), ([], [(1, [0])])], [], []),
  (7, 5, 437, 0, 0, 0, [], [], []),
  (0, 6, 439, 0, 0, 0, [([], [(1, [0]), (1, [1])]), ([], [(1, [0]), (1, [1])])], [], [0, 0]),
  (0, 30, 0, 0, 0, 0, [([], [(1, [0])]), ([], [(1, [0])])], [], []),
  (0, 6, 439, 0, 0, 0, [([], [(1, [0])]), ([], [(1, [0]), (1, [1])])], [], [1, 1]),
  (0, 30, 0, 0, 0, 0, [([], [(1, [0])]), ([], [(1, [0])])], [], []),
  (0, 1, 0, 0, 2, 0, [], [], []),
  (26, 6, 439, 0, 0, 0, [([], [(1, [0]), (1, [2])]), ([], [(1, [0]), (1, [1])])], [], [1, 1]),
  (0, 30, 0, 0, 0, 0, [([], [(1, [0])]), ([], [(1, [0])])], [], []),
  (7, 5, 437, 0, 0, 0, [], [], []),
  (0, 6, 439, 0, 0, 0, [([], [(1, [0]), (1, [1])]), ([], [(1, [0]), (1, [1])])], [], [0, 0]),
  (0, 30, 0, 0, 0, 0, [([], [(1, [0])]), ([], [(1, [0])])], [], []),
  (0, 6, 439, 0, 0, 0, [([], [(1, [0]), (1, [1])]), ([], [(1, [0])])], [], [1, 1]),
  (0, 30, 0, 0, 0, 0, [([], [(1, [0])]), ([], [(1, [0])])], [], []),
  (7, 5, 437, 0, 0, 0, [], [], []),
  (0, 6, 439, 0, 0, 0, [([], [(1, [0]), (1, [1])]), ([], [(1, [0]), (1, [1])])], [], [0, 0]),
  (0, 30, 0, 0, 0, 0, [([], [(1, [0])]), ([], [(1, [0])])], [], []),
  (0, 6, 439, 0, 0, 0, [([], [(1, [0])]), ([], [(1, [0]), (1, [1])])], [], [1, 1]),
  (0, 30, 0, 0, 0, 0, [([], [(1, [0])]), ([], [(1, [0])])], [], []),
  (26, 6, 439, 0, 0, 0, [([], [(1, [0]), (1, [2])]), ([], [(1, [0]), (1, [1])])], [], [1, 1]),
  (0, 30, 0, 0, 0, 0, [([], [(1, [0])]), ([], [(1, [0])])], [], []),
  (7, 5, 437, 0, 0, 0, [], [], []),
  (0, 6, 439, 0, 0, 0, [([], [(1, [0]), (1, [1])]), ([], [(1, [0]), (1, [1])])], [], [0, 0]),
  (0, 30, 0, 0, 0, 0, [([], [(1, [0])]), ([], [(1, [0])])], [], []),
  (0, 6, 439, 0, 0, 0, [([], [(1, [0]), (1, [1])]), ([], [(1, [0])])], [], [1, 1]),
  (0, 30, 0, 0, 0, 0, [([], [(1, [0])]), ([], [(1, [0])])], [], []),
  (7, 5, 437, 0, 0, 0, [], [], []),
  (0, 6, 439, 0, 0, 0, [([], [(1, [0]), (1, [1])]), ([], [(1, [0]), (1, [1])])], [], [0, 0]),
  (0, 30, 0, 0, 0, 0, [([], [(1, [0])]), ([], [(1, [0])])], [], []),
  (0, 6, 439, 0, 0, 0, [([], [(1, [0])]), ([], [(1, [0]), (1, [1])])], [], [1, 1]),
  (0, 30, 0, 0, 0, 0, [([], [(1, [0])]), ([], [(1, [0])])], [], []),
  (3, 20, 3, 0, 0, 0, [], [], []),
  (0, 30, 0, 0, 0, 0, [([], [(1, [0])]), ([], [(1, [0])])], [], [])]
noncomputable def sz_hd373_1 : List sy_Hn := sz_hd373_1_0 ++ (sz_hd373_1_1)
set_option maxRecDepth 100000 in
theorem sz_sd373_1 : sy_seg sz_E (pv_T (sz_own true) sz_T) sz_RU [sz_cd355, sz_cd356, sz_cd368, sz_cd371, sz_cd372] sz_cd373 sz_ud373 ri_m_X0_drive 1045 (some ((17, [(0, (3, .inr 171, .inl 0)), (1, (0, .inl 0, .inl 0)), (2, (3, .inr 179, .inl 0)), (3, (0, .inr 0, .inl 0))], ([((-1), 3)], []), [], [], [(4, [])]))) sz_hd373_1 = true := by decide +kernel
set_option maxRecDepth 100000 in
noncomputable def sz_hd373_2 : List sy_Hn := [(0, 30, 0, 0, 0, 0, [([], [(1, [0])]), ([], [(1, [0])])], [], []),
  (2, 20, 4, 0, 0, 0, [], [], []),
  (0, 30, 0, 0, 0, 0, [([], [(1, [0])]), ([], [(1, [0])])], [], []),
  (9, 20, 1, 0, 0, 0, [], [], []),
  (0, 30, 0, 0, 0, 0, [([], [(1, [0])]), ([], [(1, [0])])], [], [])]
set_option maxRecDepth 100000 in
theorem sz_sd373_2 : sy_seg sz_E (pv_T (sz_own true) sz_T) sz_RU [sz_cd355, sz_cd356, sz_cd368, sz_cd371, sz_cd372] sz_cd373 sz_ud373 ri_m_X0_drive 29 (some ((47, [(0, (3, .inr 171, .inl 0)), (1, (0, .inl 0, .inl 0)), (2, (3, .inr 179, .inl 0)), (3, (0, .inr 0, .inl 0))], ([((-1), (-1))], []), [], [], [(3, [])]))) sz_hd373_2 = true := by decide +kernel
set_option maxRecDepth 100000 in
noncomputable def sz_hd373_3 : List sy_Hn := [(1, 20, 0, 0, 0, 0, [], [], []),
  (0, 30, 0, 0, 0, 0, [([], [(1, [0])]), ([], [(1, [0])])], [], [])]
set_option maxRecDepth 100000 in
theorem sz_sd373_3 : sy_seg sz_E (pv_T (sz_own true) sz_T) sz_RU [sz_cd355, sz_cd356, sz_cd368, sz_cd371, sz_cd372] sz_cd373 sz_ud373 ri_m_X0_drive 10 (some ((63, [(0, (3, .inr 171, .inl 0)), (1, (0, .inl 0, .inl 0)), (2, (3, .inr 179, .inl 0)), (3, (0, .inr 0, .inl 0))], ([((-1), 3)], []), [], [], [(2, [])]))) sz_hd373_3 = true := by decide +kernel
set_option maxRecDepth 100000 in
noncomputable def sz_hd373_4 : List sy_Hn := [(0, 30, 0, 0, 0, 0, [([], [(1, [0])]), ([], [(1, [0])])], [], []),
  (0, 30, 0, 0, 0, 0, [([], [(1, [0])]), ([], [(1, [0])])], [], []),
  (0, 30, 0, 0, 0, 0, [([], [(1, [0])]), ([], [(1, [0])])], [], []),
  (0, 30, 0, 0, 0, 0, [([], [(1, [0])]), ([], [(1, [0])])], [], []),
  (0, 30, 0, 0, 0, 0, [([], [(1, [0])]), ([], [(1, [0])])], [], [])]
set_option maxRecDepth 100000 in
theorem sz_sd373_4 : sy_seg sz_E (pv_T (sz_own true) sz_T) sz_RU [sz_cd355, sz_cd356, sz_cd368, sz_cd371, sz_cd372] sz_cd373 sz_ud373 ri_m_X0_drive 54 (some ((65, [(0, (3, .inr 171, .inl 0)), (1, (0, .inl 0, .inl 0)), (2, (3, .inr 179, .inl 0)), (3, (0, .inr 0, .inl 0))], ([((-1), 3)], []), [], [], [(1, [])]))) sz_hd373_4 = true := by decide +kernel
set_option maxRecDepth 100000 in
noncomputable def sz_hd373_5 : List sy_Hn := [(0, 31, 0, 0, 0, 0, [], [], []),
  (4, 4, 182, 0, 0, 0, [], [], []),
  (0, 4, 182, 1, 0, 0, [], [], []),
  (0, 5, 437, 0, 0, 0, [], [], []),
  (0, 6, 438, 0, 0, 0, [([], [(1, [0]), (1, [1])]), ([], [(1, [0]), (1, [1])])], [], [0, 0]),
  (0, 31, 0, 0, 0, 0, [], [], []),
  (0, 5, 439, 0, 0, 0, [], [], []),
  (0, 6, 438, 0, 0, 0, [([], [(1, [0]), (1, [1])]), ([], [(1, [0]), (1, [1])])], [], [0, 0]),
  (0, 31, 0, 0, 0, 0, [], [], []),
  (0, 5, 439, 1, 0, 0, [], [], []),
  (0, 6, 438, 0, 0, 0, [([], [(1, [0]), (1, [1])]), ([], [(1, [0]), (1, [1])])], [], [0, 0]),
  (0, 31, 0, 0, 0, 0, [], [], []),
  (0, 6, 438, 0, 0, 0, [([], [(1, [0]), (1, [2])]), ([], [(1, [0]), (1, [1])])], [], [1, 1]),
  (0, 31, 0, 0, 0, 0, [], [], []),
  (0, 31, 0, 0, 0, 0, [], [], []),
  (4, 4, 182, 0, 0, 0, [], [], []),
  (0, 4, 182, 1, 0, 0, [], [], []),
  (0, 5, 437, 0, 0, 0, [], [], []),
  (0, 6, 438, 0, 0, 0, [([], [(1, [0]), (1, [1])]), ([], [(1, [0]), (1, [1])])], [], [0, 0]),
  (0, 31, 0, 0, 0, 0, [], [], []),
  (0, 5, 439, 0, 0, 0, [], [], []),
  (0, 6, 438, 0, 0, 0, [([], [(1, [0]), (1, [1])]), ([], [(1, [0]), (1, [1])])], [], [0, 0]),
  (0, 31, 0, 0, 0, 0, [], [], []),
  (0, 5, 439, 1, 0, 0, [], [], []),
  (0, 6, 438, 0, 0, 0, [([], [(1, [0]), (1, [1])]), ([], [(1, [0]), (1, [1])])], [], [0, 0]),
  (0, 31, 0, 0, 0, 0, [], [], []),
  (0, 6, 438, 0, 0, 0, [([], [(1, [0]), (1, [2])]), ([], [(1, [0]), (1, [1])])], [], [1, 1]),
  (0, 31, 0, 0, 0, 0, [], [], [])]
set_option maxRecDepth 100000 in
theorem sz_sd373_5 : sy_seg sz_E (pv_T (sz_own true) sz_T) sz_RU [sz_cd355, sz_cd356, sz_cd368, sz_cd371, sz_cd372] sz_cd373 sz_ud373 ri_m_X0_drive 83 (some ((78, [(0, (3, .inr 171, .inl 0)), (1, (0, .inl 0, .inl 0)), (2, (3, .inr 179, .inl 0)), (3, (0, .inr 0, .inl 0))], ([((-1), 3)], []), [], [], [(0, [])]))) sz_hd373_5 = true := by decide +kernel
theorem sz_okd373 (xs : Nat → Value) (L : Nat) : sy_Cok (sz_env xs L) (pv_T (sz_own true) sz_T) sz_RU sz_cd373 := sy_chk_ok (CT := [sz_cd355, sz_cd356, sz_cd368, sz_cd371, sz_cd372]) (CU := sz_ud373) (M := ri_m_X0_drive) (List.forall_mem_cons.mpr ⟨sz_okd355 xs L, List.forall_mem_cons.mpr ⟨sz_okd356 xs L, List.forall_mem_cons.mpr ⟨sz_okd368 xs L, List.forall_mem_cons.mpr ⟨sz_okd371 xs L, List.forall_mem_cons.mpr ⟨sz_okd372 xs L, fun _ h => absurd h List.not_mem_nil⟩⟩⟩⟩⟩) rfl rfl ⟨_, _, sz_sd373_0⟩ (List.forall_mem_cons.mpr ⟨⟨_, _, sz_sd373_1⟩, List.forall_mem_cons.mpr ⟨⟨_, _, sz_sd373_2⟩, List.forall_mem_cons.mpr ⟨⟨_, _, sz_sd373_3⟩, List.forall_mem_cons.mpr ⟨⟨_, _, sz_sd373_4⟩, List.forall_mem_cons.mpr ⟨⟨_, _, sz_sd373_5⟩, fun _ h => absurd h List.not_mem_nil⟩⟩⟩⟩⟩)

/-! X0_shutDown  -/
set_option maxRecDepth 100000 in
noncomputable def sz_cd374 : sy_Ct := (221, 3, 64, [(3, .inr 171, .inl 0), (0, .inl 1, .inl 0), (0, .inl 2, .inl 0)], ([], []), [], [], [(175, 2, 2), (176, 0, 239), (191, 5, 5), (191, 12, 13), (191, 16, 16), (202, 0, 0)], [(.inl none, 0, 0, ([], []), [], [])])
set_option maxRecDepth 100000 in
noncomputable def sz_ud374 : List sy_Cut := []
set_option maxRecDepth 100000 in
noncomputable def sz_hd374_0 : List sy_Hn := [(32, 4, 194, 0, 0, 0, [], [], []),
  (0, 4, 194, 1, 0, 0, [], [], []),
  (0, 4, 201, 2, 0, 0, [], [], []),
  (0, 4, 201, 0, 0, 0, [], [], []),
  (0, 6, 445, 0, 0, 0, [([], [(1, [0])]), ([], [(1, [0])])], [], [0, 0]),
  (0, 4, 201, 5, 0, 0, [], [], []),
  (0, 4, 201, 6, 0, 0, [], [], []),
  (0, 6, 446, 0, 0, 0, [([], [(1, [0])]), ([], [(1, [0])])], [], [0, 0]),
  (1, 20, 0, 0, 0, 0, [], [], []),
  (0, 31, 0, 0, 0, 0, [], [], [])]
set_option maxRecDepth 100000 in
theorem sz_sd374_0 : sy_seg sz_E (pv_T (sz_own true) sz_T) sz_RU [sz_cd356] sz_cd374 sz_ud374 ri_m_X0_shutDown 49 none sz_hd374_0 = true := by decide +kernel
theorem sz_okd374 (xs : Nat → Value) (L : Nat) : sy_Cok (sz_env xs L) (pv_T (sz_own true) sz_T) sz_RU sz_cd374 := sy_chk_ok (CT := [sz_cd356]) (CU := sz_ud374) (M := ri_m_X0_shutDown) (List.forall_mem_cons.mpr ⟨sz_okd356 xs L, fun _ h => absurd h List.not_mem_nil⟩) rfl rfl ⟨_, _, sz_sd374_0⟩ (fun _ h => absurd h List.not_mem_nil)

/-! X0_shutDown  -/
set_option maxRecDepth 100000 in
noncomputable def sz_cd375 : sy_Ct := (221, 3, 64, [(3, .inr 171, .inl 0), (0, .inl 1, .inl 0), (0, .inl 1, .inl 0)], ([], []), [], [], [(175, 2, 2), (176, 0, 239), (191, 5, 5), (191, 12, 13), (191, 16, 16), (202, 0, 4)], [(.inl none, 0, 0, ([], []), [], [])])
set_option maxRecDepth 100000 in
noncomputable def sz_ud375 : List sy_Cut := []
set_option maxRecDepth 100000 in
noncomputable def sz_hd375_0 : List sy_Hn := [(36, 4, 194, 0, 0, 0, [], [], []),
  (0, 4, 194, 1, 0, 0, [], [], []),
  (0, 4, 201, 2, 0, 0, [], [], []),
  (0, 4, 201, 0, 0, 0, [], [], []),
  (0, 6, 445, 0, 0, 0, [([], [(1, [0])]), ([], [(1, [0])])], [], [0, 0]),
  (0, 4, 201, 5, 0, 0, [], [], []),
  (0, 4, 201, 6, 0, 0, [], [], []),
  (0, 6, 446, 0, 0, 0, [([], [(1, [0])]), ([], [(1, [0])])], [], [0, 0]),
  (1, 20, 0, 0, 0, 0, [], [], []),
  (0, 31, 0, 0, 0, 0, [], [], []),
  (4, 1, 0, 0, 0, 0, [], [], []),
  (33, 4, 194, 0, 0, 0, [], [], []),
  (0, 4, 194, 1, 0, 0, [], [], []),
  (0, 4, 201, 2, 0, 0, [], [], []),
  (0, 4, 201, 0, 0, 0, [], [], []),
  (0, 6, 445, 0, 0, 0, [([], [(1, [0])]), ([], [(1, [0])])], [], [0, 0]),
  (0, 4, 201, 5, 0, 0, [], [], []),
  (0, 4, 201, 6, 0, 0, [], [], []),
  (0, 6, 446, 0, 0, 0, [([], [(1, [0])]), ([], [(1, [0])])], [], [0, 0]),
  (1, 20, 0, 0, 0, 0, [], [], []),
  (0, 31, 0, 0, 0, 0, [], [], []),
  (25, 4, 194, 0, 0, 0, [], [], []),
  (0, 4, 194, 1, 0, 0, [], [], []),
  (0, 4, 201, 2, 0, 0, [], [], []),
  (0, 4, 201, 0, 0, 0, [], [], []),
  (0, 6, 445, 0, 0, 0, [([], [(1, [0])]), ([], [(1, [0])])], [], [0, 0]),
  (0, 4, 201, 5, 0, 0, [], [], []),
  (0, 4, 201, 6, 0, 0, [], [], []),
  (0, 6, 446, 0, 0, 0, [([], [(1, [0])]), ([], [(1, [0])])], [], [0, 0]),
  (1, 20, 0, 0, 0, 0, [], [], []),
  (0, 31, 0, 0, 0, 0, [], [], []),
  (0, 1, 0, 0, 1, 0, [], [], []),
  (34, 4, 194, 0, 0, 0, [], [], []),
  (0, 4, 194, 1, 0, 0, [], [], []),
  (0, 4, 201, 2, 0, 0, [], [], []),
  (0, 4, 201, 0, 0, 0, [], [], []),
  (0, 6, 445, 0, 0, 0, [([], [(1, [0])]), ([], [(1, [0])])], [], [0, 0]),
  (0, 4, 201, 5, 0, 0, [], [], []),
  (0, 4, 201, 6, 0, 0, [], [], []),
  (0, 6, 446, 0, 0, 0, [([], [(1, [0])]), ([], [(1, [0])])], [], [0, 0]),
  (1, 20, 0, 0, 0, 0, [], [], []),
  (0, 31, 0, 0, 0, 0, [], [], []),
  (0, 1, 0, 0, 2, 0, [], [], []),
  (33, 4, 194, 0, 0, 0, [], [], []),
  (0, 4, 194, 1, 0, 0, [], [], []),
  (0, 4, 201, 2, 0, 0, [], [], []),
  (0, 4, 201, 0, 0, 0, [], [], []),
  (0, 6, 445, 0, 0, 0, [([], [(1, [0])]), ([], [(1, [0])])], [], [0, 0]),
  (0, 4, 201, 5, 0, 0, [], [], []),
  (0, 4, 201, 6, 0, 0, [], [], []),
  (0, 6, 446, 0, 0, 0, [([], [(1, [0])]), ([], [(1, [0])])], [], [0, 0]),
  (1, 20, 0, 0, 0, 0, [], [], []),
  (0, 31, 0, 0, 0, 0, [], [], []),
  (25, 4, 194, 0, 0, 0, [], [], []),
  (0, 4, 194, 1, 0, 0, [], [], []),
  (0, 4, 201, 2, 0, 0, [], [], []),
  (0, 4, 201, 0, 0, 0, [], [], []),
  (0, 6, 445, 0, 0, 0, [([], [(1, [0])]), ([], [(1, [0])])], [], [0, 0]),
  (0, 4, 201, 5, 0, 0, [], [], []),
  (0, 4, 201, 6, 0, 0, [], [], []),
  (0, 6, 446, 0, 0, 0, [([], [(1, [0])]), ([], [(1, [0])])], [], [0, 0]),
  (1, 20, 0, 0, 0, 0, [], [], []),
  (0, 31, 0, 0, 0, 0, [], [], []),
  (33, 4, 194, 0, 0, 0, [], [], []),
  (0, 4, 194, 1, 0, 0, [], [], []),
  (0, 4, 201, 2, 0, 0, [], [], []),
  (0, 4, 201, 0, 0, 0, [], [], []),
  (0, 6, 445, 0, 0, 0, [([], [(1, [0])]), ([], [(1, [0])])], [], [0, 0]),
  (0, 4, 201, 5, 0, 0, [], [], []),
  (0, 4, 201, 6, 0, 0, [], [], []),
  (0, 6, 446, 0, 0, 0, [([], [(1, [0])]), ([], [(1, [0])])], [], [0, 0]),
  (1, 20, 0, 0, 0, 0, [], [], []),
  (0, 31, 0, 0, 0, 0, [], [], []),
  (25, 4, 194, 0, 0, 0, [], [], []),
  (0, 4, 194, 1, 0, 0, [], [], []),
  (0, 4, 201, 2, 0, 0, [], [], []),
  (0, 4, 201, 0, 0, 0, [], [], []),
  (0, 6, 445, 0, 0, 0, [([], [(1, [0])]), ([], [(1, [0])])], [], [0, 0]),
  (0, 4, 201, 5, 0, 0, [], [], []),
  (0, 4, 201, 6, 0, 0, [], [], []),
  (0, 6, 446, 0, 0, 0, [([], [(1, [0])]), ([], [(1, [0])])], [], [0, 0]),
  (1, 20, 0, 0, 0, 0, [], [], []),
  (0, 31, 0, 0, 0, 0, [], [], [])]
set_option maxRecDepth 100000 in
theorem sz_sd375_0 : sy_seg sz_E (pv_T (sz_own true) sz_T) sz_RU [sz_cd356] sz_cd375 sz_ud375 ri_m_X0_shutDown 355 none sz_hd375_0 = true := by decide +kernel
theorem sz_okd375 (xs : Nat → Value) (L : Nat) : sy_Cok (sz_env xs L) (pv_T (sz_own true) sz_T) sz_RU sz_cd375 := sy_chk_ok (CT := [sz_cd356]) (CU := sz_ud375) (M := ri_m_X0_shutDown) (List.forall_mem_cons.mpr ⟨sz_okd356 xs L, fun _ h => absurd h List.not_mem_nil⟩) rfl rfl ⟨_, _, sz_sd375_0⟩ (fun _ h => absurd h List.not_mem_nil)

/-! X0_shutDown  -/
set_option maxRecDepth 100000 in
noncomputable def sz_cd376 : sy_Ct := (221, 3, 64, [(3, .inr 171, .inl 0), (0, .inl 1, .inl 0), (0, .inl 0, .inl 0)], ([], []), [], [], [(175, 2, 2), (176, 0, 239), (191, 5, 5), (191, 12, 13), (191, 16, 16), (202, 0, 0)], [(.inl none, 0, 0, ([], []), [], [])])
set_option maxRecDepth 100000 in
noncomputable def sz_ud376 : List sy_Cut := []
set_option maxRecDepth 100000 in
noncomputable def sz_hd376_0 : List sy_Hn := [(32, 4, 194, 0, 0, 0, [], [], []),
  (0, 4, 194, 1, 0, 0, [], [], []),
  (0, 4, 201, 2, 0, 0, [], [], []),
  (0, 4, 201, 0, 0, 0, [], [], []),
  (0, 6, 445, 0, 0, 0, [([], [(1, [0])]), ([], [(1, [0])])], [], [0, 0]),
  (0, 4, 201, 5, 0, 0, [], [], []),
  (0, 4, 201, 6, 0, 0, [], [], []),
  (0, 6, 446, 0, 0, 0, [([], [(1, [0])]), ([], [(1, [0])])], [], [0, 0]),
  (1, 20, 0, 0, 0, 0, [], [], []),
  (0, 31, 0, 0, 0, 0, [], [], [])]
set_option maxRecDepth 100000 in
theorem sz_sd376_0 : sy_seg sz_E (pv_T (sz_own true) sz_T) sz_RU [sz_cd356] sz_cd376 sz_ud376 ri_m_X0_shutDown 49 none sz_hd376_0 = true := by decide +kernel
theorem sz_okd376 (xs : Nat → Value) (L : Nat) : sy_Cok (sz_env xs L) (pv_T (sz_own true) sz_T) sz_RU sz_cd376 := sy_chk_ok (CT := [sz_cd356]) (CU := sz_ud376) (M := ri_m_X0_shutDown) (List.forall_mem_cons.mpr ⟨sz_okd356 xs L, fun _ h => absurd h List.not_mem_nil⟩) rfl rfl ⟨_, _, sz_sd376_0⟩ (fun _ h => absurd h List.not_mem_nil)

/-! X0_leastOn  -/
set_option maxRecDepth 100000 in
noncomputable def sz_cd377 : sy_Ct := (224, 0, 0, [(3, .inr 171, .inl 0), (0, .inl 1, .inl 0)], ([], []), [], [], [], [(.inl (some (0, .inr 0, .inl 0)), 0, 0, ([((-1), 3)], []), [], [])])
set_option maxRecDepth 100000 in
noncomputable def sz_ud377 : List sy_Cut := [(4, [(0, (3, .inr 171, .inl 0)), (1, (0, .inl 1, .inl 0)), (2, (0, .inr 0, .inl 0))], ([(2, 4)], []), [], [], [(4, []), ((-1), [0])])]
set_option maxRecDepth 100000 in
noncomputable def sz_hd377_0 : List sy_Hn := [(0, 30, 0, 0, 0, 0, [([], [(1, [0])]), ([], [])], [], [])]
set_option maxRecDepth 100000 in
theorem sz_sd377_0 : sy_seg sz_E (pv_T (sz_own true) sz_T) sz_RU [] sz_cd377 sz_ud377 ri_m_X0_leastOn 11 none sz_hd377_0 = true := by decide +kernel
set_option maxRecDepth 100000 in
noncomputable def sz_hd377_1 : List sy_Hn := [(0, 31, 0, 0, 0, 0, [], [], []),
  (3, 1, 0, 0, 2, 0, [], [], []),
  (0, 30, 0, 0, 0, 0, [([], [(1, [0])]), ([0], [(1, [0]), (1, [2])])], [], []),
  (0, 30, 0, 0, 0, 0, [([], [(1, [0])]), ([0], [(1, [0]), (1, [2])])], [], []),
  (0, 31, 0, 0, 0, 0, [], [], []),
  (0, 30, 0, 0, 0, 0, [([], [(1, [0])]), ([0], [(1, [0]), (1, [2])])], [], []),
  (0, 30, 0, 0, 0, 0, [([], [(1, [0])]), ([0], [(1, [0]), (1, [2])])], [], []),
  (0, 31, 0, 0, 0, 0, [], [], [])]
set_option maxRecDepth 100000 in
theorem sz_sd377_1 : sy_seg sz_E (pv_T (sz_own true) sz_T) sz_RU [] sz_cd377 sz_ud377 ri_m_X0_leastOn 47 (some ((4, [(0, (3, .inr 171, .inl 0)), (1, (0, .inl 1, .inl 0)), (2, (0, .inr 0, .inl 0))], ([(2, 4)], []), [], [], [(4, []), ((-1), [0])]))) sz_hd377_1 = true := by decide +kernel
theorem sz_okd377 (xs : Nat → Value) (L : Nat) : sy_Cok (sz_env xs L) (pv_T (sz_own true) sz_T) sz_RU sz_cd377 := sy_chk_ok (CT := []) (CU := sz_ud377) (M := ri_m_X0_leastOn) (fun _ h => absurd h List.not_mem_nil) rfl rfl ⟨_, _, sz_sd377_0⟩ (List.forall_mem_cons.mpr ⟨⟨_, _, sz_sd377_1⟩, fun _ h => absurd h List.not_mem_nil⟩)

/-! X1_setFor  -/
set_option maxRecDepth 100000 in
noncomputable def sz_cd378 : sy_Ct := (304, 0, 0, [(3, .inr 196, .inl 0), (0, .inr 0, .inl 0), (0, .inr 1, .inl 0)], ([(0, 2), ((-2147483648), 2147483647)], []), [], [], [], [(.inl (some (0, .inr 2, .inl 0)), 0, 0, ([(0, 2), (0, 2), ((-2147483648), 2147483647)], []), [], [])])
set_option maxRecDepth 100000 in
noncomputable def sz_ud378 : List sy_Cut := [(4, [(0, (3, .inr 196, .inl 0)), (1, (0, .inr 0, .inl 0)), (2, (0, .inr 1, .inl 0)), (3, (0, .inr 2, .inl 0)), (4, (0, .inr 3, .inl 0))], ([(1, 3), (0, 2), (0, 2), ((-2147483648), 2147483647)], []), [], [], [(3, []), ((-1), [3])])]
set_option maxRecDepth 100000 in
noncomputable def sz_hd378_0 : List sy_Hn := [(0, 30, 0, 0, 0, 0, [([], [(1, [0])]), ([], [])], [], [])]
set_option maxRecDepth 100000 in
theorem sz_sd378_0 : sy_seg sz_E (pv_T (sz_own true) sz_T) sz_RU [] sz_cd378 sz_ud378 ri_m_X1_setFor 11 none sz_hd378_0 = true := by decide +kernel
set_option maxRecDepth 100000 in
noncomputable def sz_hd378_1 : List sy_Hn := [(0, 31, 0, 0, 0, 0, [], [], []),
  (0, 31, 0, 0, 0, 0, [], [], []),
  (0, 31, 0, 0, 0, 0, [], [], []),
  (0, 31, 0, 0, 0, 0, [], [], []),
  (0, 30, 0, 0, 0, 0, [([6], [(1, [0]), (1, [2])]), ([], [(1, [0]), (1, [1])])], [], []),
  (0, 30, 0, 0, 0, 0, [([6], [(1, [0]), (1, [2])]), ([], [(1, [0]), (1, [1])])], [], [])]
set_option maxRecDepth 100000 in
theorem sz_sd378_1 : sy_seg sz_E (pv_T (sz_own true) sz_T) sz_RU [] sz_cd378 sz_ud378 ri_m_X1_setFor 72 (some ((4, [(0, (3, .inr 196, .inl 0)), (1, (0, .inr 0, .inl 0)), (2, (0, .inr 1, .inl 0)), (3, (0, .inr 2, .inl 0)), (4, (0, .inr 3, .inl 0))], ([(1, 3), (0, 2), (0, 2), ((-2147483648), 2147483647)], []), [], [], [(3, []), ((-1), [3])]))) sz_hd378_1 = true := by decide +kernel
theorem sz_okd378 (xs : Nat → Value) (L : Nat) : sy_Cok (sz_env xs L) (pv_T (sz_own true) sz_T) sz_RU sz_cd378 := sy_chk_ok (CT := []) (CU := sz_ud378) (M := ri_m_X1_setFor) (fun _ h => absurd h List.not_mem_nil) rfl rfl ⟨_, _, sz_sd378_0⟩ (List.forall_mem_cons.mpr ⟨⟨_, _, sz_sd378_1⟩, fun _ h => absurd h List.not_mem_nil⟩)

/-! X2_keepI  -/
set_option maxRecDepth 100000 in
noncomputable def sz_cd379 : sy_Ct := (235, 1, 25, [(3, .inr 191, .inl 0), (1, .inr 0, .inl 0)], ([((-9223372036854775808), 9223372036854775807)], []), [], [], [(191, 8, 8)], [(.inl none, 0, 0, ([((-9223372036854775808), 9223372036854775807)], []), [], [])])
set_option maxRecDepth 100000 in
noncomputable def sz_ud379 : List sy_Cut := []
set_option maxRecDepth 100000 in
noncomputable def sz_hd379_0 : List sy_Hn := [(0, 31, 0, 0, 0, 0, [], [], []),
  (0, 31, 0, 0, 0, 0, [], [], []),
  (0, 31, 0, 0, 0, 0, [], [], [])]
set_option maxRecDepth 100000 in
theorem sz_sd379_0 : sy_seg sz_E (pv_T (sz_own true) sz_T) sz_RU [] sz_cd379 sz_ud379 ri_m_X2_keepI 35 none sz_hd379_0 = true := by decide +kernel
theorem sz_okd379 (xs : Nat → Value) (L : Nat) : sy_Cok (sz_env xs L) (pv_T (sz_own true) sz_T) sz_RU sz_cd379 := sy_chk_ok (CT := []) (CU := sz_ud379) (M := ri_m_X2_keepI) (fun _ h => absurd h List.not_mem_nil) rfl rfl ⟨_, _, sz_sd379_0⟩ (fun _ h => absurd h List.not_mem_nil)

/-! X2_chooseSet  -/
set_option maxRecDepth 100000 in
noncomputable def sz_cd380 : sy_Ct := (276, 2, 47, [(3, .inr 191, .inl 0)], ([], []), [], [], [(191, 8, 8), (191, 11, 11)], [(.inl (some (0, .inr 0, .inl 0)), 0, 0, ([(0, 1)], []), [], [])])
set_option maxRecDepth 100000 in
noncomputable def sz_ud380 : List sy_Cut := []
set_option maxRecDepth 100000 in
noncomputable def sz_hd380_0 : List sy_Hn := [(13, 20, 0, 0, 0, 0, [], [], []),
  (98, 20, 1, 0, 0, 0, [], [], []),
  (0, 31, 0, 0, 0, 0, [], [], []),
  (93, 20, 1, 0, 0, 0, [], [], []),
  (0, 31, 0, 0, 0, 0, [], [], []),
  (0, 31, 0, 0, 0, 0, [], [], [])]
set_option maxRecDepth 100000 in
theorem sz_sd380_0 : sy_seg sz_E (pv_T (sz_own true) sz_T) sz_RU [sz_cd378, sz_cd379] sz_cd380 sz_ud380 ri_m_X2_chooseSet 227 none sz_hd380_0 = true := by decide +kernel
theorem sz_okd380 (xs : Nat → Value) (L : Nat) : sy_Cok (sz_env xs L) (pv_T (sz_own true) sz_T) sz_RU sz_cd380 := sy_chk_ok (CT := [sz_cd378, sz_cd379]) (CU := sz_ud380) (M := ri_m_X2_chooseSet) (List.forall_mem_cons.mpr ⟨sz_okd378 xs L, List.forall_mem_cons.mpr ⟨sz_okd379 xs L, fun _ h => absurd h List.not_mem_nil⟩⟩) rfl rfl ⟨_, _, sz_sd380_0⟩ (fun _ h => absurd h List.not_mem_nil)

/-! X2_filterRate  -/
set_option maxRecDepth 100000 in
noncomputable def sz_cd381 : sy_Ct := (277, 1, 20, [(3, .inr 191, .inl 0)], ([], []), [], [], [(191, 9, 10)], [(.inl none, 0, 0, ([], []), [], [])])
set_option maxRecDepth 100000 in
noncomputable def sz_ud381 : List sy_Cut := []
set_option maxRecDepth 100000 in
noncomputable def sz_hd381_0 : List sy_Hn := [(0, 31, 0, 0, 0, 0, [], [], [])]
set_option maxRecDepth 100000 in
theorem sz_sd381_0 : sy_seg sz_E (pv_T (sz_own true) sz_T) sz_RU [] sz_cd381 sz_ud381 ri_m_X2_filterRate 47 none sz_hd381_0 = true := by decide +kernel
theorem sz_okd381 (xs : Nat → Value) (L : Nat) : sy_Cok (sz_env xs L) (pv_T (sz_own true) sz_T) sz_RU sz_cd381 := sy_chk_ok (CT := []) (CU := sz_ud381) (M := ri_m_X2_filterRate) (fun _ h => absurd h List.not_mem_nil) rfl rfl ⟨_, _, sz_sd381_0⟩ (fun _ h => absurd h List.not_mem_nil)

/-! X0_takeSp  -/
set_option maxRecDepth 100000 in
noncomputable def sz_cd382 : sy_Ct := (232, 0, 0, [(3, .inr 171, .inl 0), (3, .inr 191, .inl 0)], ([], []), [], [], [(191, 6, 6)], [(.inl none, 0, 0, ([], []), [], [])])
set_option maxRecDepth 100000 in
noncomputable def sz_ud382 : List sy_Cut := []
set_option maxRecDepth 100000 in
noncomputable def sz_hd382_0 : List sy_Hn := [(0, 31, 0, 0, 0, 0, [], [], []),
  (5, 1, 0, 0, 0, 0, [], [], []),
  (0, 31, 0, 0, 0, 0, [], [], []),
  (0, 1, 0, 0, 1, 0, [], [], []),
  (0, 31, 0, 0, 0, 0, [], [], []),
  (0, 1, 0, 0, 2, 0, [], [], []),
  (0, 31, 0, 0, 0, 0, [], [], []),
  (0, 31, 0, 0, 0, 0, [], [], [])]
set_option maxRecDepth 100000 in
theorem sz_sd382_0 : sy_seg sz_E (pv_T (sz_own true) sz_T) sz_RU [] sz_cd382 sz_ud382 ri_m_X0_takeSp 42 none sz_hd382_0 = true := by decide +kernel
theorem sz_okd382 (xs : Nat → Value) (L : Nat) : sy_Cok (sz_env xs L) (pv_T (sz_own true) sz_T) sz_RU sz_cd382 := sy_chk_ok (CT := []) (CU := sz_ud382) (M := ri_m_X0_takeSp) (fun _ h => absurd h List.not_mem_nil) rfl rfl ⟨_, _, sz_sd382_0⟩ (fun _ h => absurd h List.not_mem_nil)

/-! X0_measure  -/
set_option maxRecDepth 100000 in
noncomputable def sz_cd383 : sy_Ct := (222, 3, 68, [(3, .inr 171, .inl 0), (0, .inl 1, .inl 0)], ([], []), [], [], [(175, 2, 2), (176, 0, 239), (191, 6, 6), (191, 8, 11)], [(.inl none, 0, 0, ([], []), [], [])])
set_option maxRecDepth 100000 in
noncomputable def sz_ud383 : List sy_Cut := []
set_option maxRecDepth 100000 in
noncomputable def sz_hd383_0 : List sy_Hn := [(11, 20, 1, 0, 0, 0, [], [], []),
  (3, 20, 2, 0, 0, 0, [], [], []),
  (0, 31, 0, 0, 0, 0, [], [], []),
  (9, 20, 0, 0, 0, 0, [], [], []),
  (2, 20, 2, 0, 0, 0, [], [], []),
  (0, 31, 0, 0, 0, 0, [], [], []),
  (2, 20, 1, 0, 0, 0, [], [], []),
  (3, 20, 2, 0, 0, 0, [], [], []),
  (0, 31, 0, 0, 0, 0, [], [], []),
  (9, 20, 0, 0, 0, 0, [], [], []),
  (2, 20, 2, 0, 0, 0, [], [], []),
  (0, 31, 0, 0, 0, 0, [], [], []),
  (3, 20, 3, 0, 0, 0, [], [], []),
  (2, 20, 1, 0, 0, 0, [], [], []),
  (3, 20, 2, 0, 0, 0, [], [], []),
  (0, 31, 0, 0, 0, 0, [], [], []),
  (9, 20, 0, 0, 0, 0, [], [], []),
  (2, 20, 2, 0, 0, 0, [], [], []),
  (0, 31, 0, 0, 0, 0, [], [], [])]
set_option maxRecDepth 100000 in
theorem sz_sd383_0 : sy_seg sz_E (pv_T (sz_own true) sz_T) sz_RU [sz_cd356, sz_cd380, sz_cd381, sz_cd382] sz_cd383 sz_ud383 ri_m_X0_measure 90 none sz_hd383_0 = true := by decide +kernel
theorem sz_okd383 (xs : Nat → Value) (L : Nat) : sy_Cok (sz_env xs L) (pv_T (sz_own true) sz_T) sz_RU sz_cd383 := sy_chk_ok (CT := [sz_cd356, sz_cd380, sz_cd381, sz_cd382]) (CU := sz_ud383) (M := ri_m_X0_measure) (List.forall_mem_cons.mpr ⟨sz_okd356 xs L, List.forall_mem_cons.mpr ⟨sz_okd380 xs L, List.forall_mem_cons.mpr ⟨sz_okd381 xs L, List.forall_mem_cons.mpr ⟨sz_okd382 xs L, fun _ h => absurd h List.not_mem_nil⟩⟩⟩⟩) rfl rfl ⟨_, _, sz_sd383_0⟩ (fun _ h => absurd h List.not_mem_nil)

/-! X0_leads  -/
set_option maxRecDepth 100000 in
noncomputable def sz_cd384 : sy_Ct := (287, 0, 0, [(3, .inr 171, .inl 0), (0, .inl 1, .inl 0)], ([], []), [], [], [], [(.inl (some (0, .inr 0, .inl 0)), 0, 0, ([(0, 1)], []), [], [])])
set_option maxRecDepth 100000 in
noncomputable def sz_ud384 : List sy_Cut := [(4, [(0, (3, .inr 171, .inl 0)), (1, (0, .inl 1, .inl 0)), (2, (0, .inr 0, .inl 0))], ([(2, 4)], []), [], [], [(4, []), ((-1), [0])])]
set_option maxRecDepth 100000 in
noncomputable def sz_hd384_0 : List sy_Hn := [(0, 30, 0, 0, 0, 0, [([], [(1, [0])]), ([], [])], [], [])]
set_option maxRecDepth 100000 in
theorem sz_sd384_0 : sy_seg sz_E (pv_T (sz_own true) sz_T) sz_RU [] sz_cd384 sz_ud384 ri_m_X0_leads 11 none sz_hd384_0 = true := by decide +kernel
set_option maxRecDepth 100000 in
noncomputable def sz_hd384_1 : List sy_Hn := [(0, 31, 0, 0, 0, 0, [], [], []),
  (3, 1, 0, 0, 2, 0, [], [], []),
  (0, 30, 0, 0, 0, 0, [([], [(1, [0])]), ([0], [(1, [0]), (1, [2])])], [], []),
  (0, 30, 0, 0, 0, 0, [([], [(1, [0])]), ([0], [(1, [0]), (1, [2])])], [], []),
  (0, 30, 0, 0, 0, 0, [([], [(1, [0])]), ([0], [(1, [0]), (1, [2])])], [], []),
  (0, 30, 0, 0, 0, 0, [([], [(1, [0])]), ([0], [(1, [0]), (1, [2])])], [], []),
  (0, 31, 0, 0, 0, 0, [], [], []),
  (0, 30, 0, 0, 0, 0, [([], [(1, [0])]), ([0], [(1, [0]), (1, [2])])], [], []),
  (0, 30, 0, 0, 0, 0, [([], [(1, [0])]), ([0], [(1, [0]), (1, [2])])], [], []),
  (0, 30, 0, 0, 0, 0, [([], [(1, [0])]), ([0], [(1, [0]), (1, [2])])], [], []),
  (0, 30, 0, 0, 0, 0, [([], [(1, [0])]), ([0], [(1, [0]), (1, [2])])], [], []),
  (0, 31, 0, 0, 0, 0, [], [], [])]
set_option maxRecDepth 100000 in
theorem sz_sd384_1 : sy_seg sz_E (pv_T (sz_own true) sz_T) sz_RU [] sz_cd384 sz_ud384 ri_m_X0_leads 77 (some ((4, [(0, (3, .inr 171, .inl 0)), (1, (0, .inl 1, .inl 0)), (2, (0, .inr 0, .inl 0))], ([(2, 4)], []), [], [], [(4, []), ((-1), [0])]))) sz_hd384_1 = true := by decide +kernel
theorem sz_okd384 (xs : Nat → Value) (L : Nat) : sy_Cok (sz_env xs L) (pv_T (sz_own true) sz_T) sz_RU sz_cd384 := sy_chk_ok (CT := []) (CU := sz_ud384) (M := ri_m_X0_leads) (fun _ h => absurd h List.not_mem_nil) rfl rfl ⟨_, _, sz_sd384_0⟩ (List.forall_mem_cons.mpr ⟨⟨_, _, sz_sd384_1⟩, fun _ h => absurd h List.not_mem_nil⟩)

/-! X0_followedOf  -/
set_option maxRecDepth 100000 in
noncomputable def sz_cd385 : sy_Ct := (252, 1, 22, [(3, .inr 171, .inl 0), (0, .inl 1, .inl 0)], ([], []), [], [], [], [(.inl (some (0, .inr 0, .inl 0)), 0, 0, ([((-1), 3)], []), [], [])])
set_option maxRecDepth 100000 in
noncomputable def sz_ud385 : List sy_Cut := []
set_option maxRecDepth 100000 in
noncomputable def sz_hd385_0 : List sy_Hn := [(12, 20, 1, 0, 0, 0, [], [], []),
  (0, 31, 0, 0, 0, 0, [], [], []),
  (3, 20, 0, 0, 0, 0, [], [], []),
  (0, 31, 0, 0, 0, 0, [], [], []),
  (0, 31, 0, 0, 0, 0, [], [], []),
  (0, 31, 0, 0, 0, 0, [], [], []),
  (3, 20, 1, 0, 0, 0, [], [], []),
  (0, 31, 0, 0, 0, 0, [], [], []),
  (3, 20, 0, 0, 0, 0, [], [], []),
  (0, 31, 0, 0, 0, 0, [], [], [])]
set_option maxRecDepth 100000 in
theorem sz_sd385_0 : sy_seg sz_E (pv_T (sz_own true) sz_T) sz_RU [sz_cd377, sz_cd384] sz_cd385 sz_ud385 ri_m_X0_followedOf 56 none sz_hd385_0 = true := by decide +kernel
theorem sz_okd385 (xs : Nat → Value) (L : Nat) : sy_Cok (sz_env xs L) (pv_T (sz_own true) sz_T) sz_RU sz_cd385 := sy_chk_ok (CT := [sz_cd377, sz_cd384]) (CU := sz_ud385) (M := ri_m_X0_followedOf) (List.forall_mem_cons.mpr ⟨sz_okd377 xs L, List.forall_mem_cons.mpr ⟨sz_okd384 xs L, fun _ h => absurd h List.not_mem_nil⟩⟩) rfl rfl ⟨_, _, sz_sd385_0⟩ (fun _ h => absurd h List.not_mem_nil)

/-! X0_heldAt  -/
set_option maxRecDepth 100000 in
noncomputable def sz_cd386 : sy_Ct := (305, 0, 0, [(3, .inr 171, .inl 0), (0, .inl 1, .inl 0), (0, .inl (-1), .inl 0)], ([], []), [], [], [], [(.inl (some (0, .inr 0, .inl 0)), 0, 0, ([(0, 1)], []), [], [])])
set_option maxRecDepth 100000 in
noncomputable def sz_ud386 : List sy_Cut := [(4, [(0, (3, .inr 171, .inl 0)), (1, (0, .inl 1, .inl 0)), (2, (0, .inl (-1), .inl 0)), (3, (0, .inr 0, .inl 0))], ([(2, 4)], []), [], [], [(4, []), ((-1), [0])])]
set_option maxRecDepth 100000 in
noncomputable def sz_hd386_0 : List sy_Hn := [(0, 30, 0, 0, 0, 0, [([], [(1, [0])]), ([], [])], [], [])]
set_option maxRecDepth 100000 in
theorem sz_sd386_0 : sy_seg sz_E (pv_T (sz_own true) sz_T) sz_RU [] sz_cd386 sz_ud386 ri_m_X0_heldAt 11 none sz_hd386_0 = true := by decide +kernel
set_option maxRecDepth 100000 in
noncomputable def sz_hd386_1 : List sy_Hn := [(0, 31, 0, 0, 0, 0, [], [], []),
  (3, 1, 0, 0, 2, 0, [], [], []),
  (0, 30, 0, 0, 0, 0, [([], [(1, [0])]), ([0], [(1, [0]), (1, [2])])], [], []),
  (0, 30, 0, 0, 0, 0, [([], [(1, [0])]), ([0], [(1, [0]), (1, [2])])], [], []),
  (0, 30, 0, 0, 0, 0, [([], [(1, [0])]), ([0], [(1, [0]), (1, [2])])], [], []),
  (0, 30, 0, 0, 0, 0, [([], [(1, [0])]), ([0], [(1, [0]), (1, [2])])], [], []),
  (0, 30, 0, 0, 0, 0, [([], [(1, [0])]), ([0], [(1, [0]), (1, [2])])], [], []),
  (0, 31, 0, 0, 0, 0, [], [], []),
  (0, 30, 0, 0, 0, 0, [([], [(1, [0])]), ([0], [(1, [0]), (1, [2])])], [], []),
  (0, 30, 0, 0, 0, 0, [([], [(1, [0])]), ([0], [(1, [0]), (1, [2])])], [], []),
  (0, 30, 0, 0, 0, 0, [([], [(1, [0])]), ([0], [(1, [0]), (1, [2])])], [], []),
  (0, 30, 0, 0, 0, 0, [([], [(1, [0])]), ([0], [(1, [0]), (1, [2])])], [], []),
  (0, 30, 0, 0, 0, 0, [([], [(1, [0])]), ([0], [(1, [0]), (1, [2])])], [], []),
  (0, 31, 0, 0, 0, 0, [], [], [])]
set_option maxRecDepth 100000 in
theorem sz_sd386_1 : sy_seg sz_E (pv_T (sz_own true) sz_T) sz_RU [] sz_cd386 sz_ud386 ri_m_X0_heldAt 91 (some ((4, [(0, (3, .inr 171, .inl 0)), (1, (0, .inl 1, .inl 0)), (2, (0, .inl (-1), .inl 0)), (3, (0, .inr 0, .inl 0))], ([(2, 4)], []), [], [], [(4, []), ((-1), [0])]))) sz_hd386_1 = true := by decide +kernel
theorem sz_okd386 (xs : Nat → Value) (L : Nat) : sy_Cok (sz_env xs L) (pv_T (sz_own true) sz_T) sz_RU sz_cd386 := sy_chk_ok (CT := []) (CU := sz_ud386) (M := ri_m_X0_heldAt) (fun _ h => absurd h List.not_mem_nil) rfl rfl ⟨_, _, sz_sd386_0⟩ (List.forall_mem_cons.mpr ⟨⟨_, _, sz_sd386_1⟩, fun _ h => absurd h List.not_mem_nil⟩)

/-! X0_heldAt  -/
set_option maxRecDepth 100000 in
noncomputable def sz_cd387 : sy_Ct := (305, 0, 0, [(3, .inr 171, .inl 0), (0, .inl 1, .inl 0), (0, .inl 1, .inl 0)], ([], []), [], [], [], [(.inl (some (0, .inr 0, .inl 0)), 0, 0, ([(0, 1)], []), [], [])])
set_option maxRecDepth 100000 in
noncomputable def sz_ud387 : List sy_Cut := [(4, [(0, (3, .inr 171, .inl 0)), (1, (0, .inl 1, .inl 0)), (2, (0, .inl 1, .inl 0)), (3, (0, .inr 0, .inl 0))], ([(2, 4)], []), [], [], [(4, []), ((-1), [0])])]
set_option maxRecDepth 100000 in
noncomputable def sz_hd387_0 : List sy_Hn := [(0, 30, 0, 0, 0, 0, [([], [(1, [0])]), ([], [])], [], [])]
set_option maxRecDepth 100000 in
theorem sz_sd387_0 : sy_seg sz_E (pv_T (sz_own true) sz_T) sz_RU [] sz_cd387 sz_ud387 ri_m_X0_heldAt 11 none sz_hd387_0 = true := by decide +kernel
set_option maxRecDepth 100000 in
noncomputable def sz_hd387_1 : List sy_Hn := [(0, 31, 0, 0, 0, 0, [], [], []),
  (3, 1, 0, 0, 2, 0, [], [], []),
  (0, 30, 0, 0, 0, 0, [([], [(1, [0])]), ([0], [(1, [0]), (1, [2])])], [], []),
  (0, 30, 0, 0, 0, 0, [([], [(1, [0])]), ([0], [(1, [0]), (1, [2])])], [], []),
  (0, 30, 0, 0, 0, 0, [([], [(1, [0])]), ([0], [(1, [0]), (1, [2])])], [], []),
  (0, 30, 0, 0, 0, 0, [([], [(1, [0])]), ([0], [(1, [0]), (1, [2])])], [], []),
  (0, 30, 0, 0, 0, 0, [([], [(1, [0])]), ([0], [(1, [0]), (1, [2])])], [], []),
  (0, 31, 0, 0, 0, 0, [], [], []),
  (0, 30, 0, 0, 0, 0, [([], [(1, [0])]), ([0], [(1, [0]), (1, [2])])], [], []),
  (0, 30, 0, 0, 0, 0, [([], [(1, [0])]), ([0], [(1, [0]), (1, [2])])], [], []),
  (0, 30, 0, 0, 0, 0, [([], [(1, [0])]), ([0], [(1, [0]), (1, [2])])], [], []),
  (0, 30, 0, 0, 0, 0, [([], [(1, [0])]), ([0], [(1, [0]), (1, [2])])], [], []),
  (0, 30, 0, 0, 0, 0, [([], [(1, [0])]), ([0], [(1, [0]), (1, [2])])], [], []),
  (0, 31, 0, 0, 0, 0, [], [], [])]
set_option maxRecDepth 100000 in
theorem sz_sd387_1 : sy_seg sz_E (pv_T (sz_own true) sz_T) sz_RU [] sz_cd387 sz_ud387 ri_m_X0_heldAt 91 (some ((4, [(0, (3, .inr 171, .inl 0)), (1, (0, .inl 1, .inl 0)), (2, (0, .inl 1, .inl 0)), (3, (0, .inr 0, .inl 0))], ([(2, 4)], []), [], [], [(4, []), ((-1), [0])]))) sz_hd387_1 = true := by decide +kernel
theorem sz_okd387 (xs : Nat → Value) (L : Nat) : sy_Cok (sz_env xs L) (pv_T (sz_own true) sz_T) sz_RU sz_cd387 := sy_chk_ok (CT := []) (CU := sz_ud387) (M := ri_m_X0_heldAt) (fun _ h => absurd h List.not_mem_nil) rfl rfl ⟨_, _, sz_sd387_0⟩ (List.forall_mem_cons.mpr ⟨⟨_, _, sz_sd387_1⟩, fun _ h => absurd h List.not_mem_nil⟩)

/-! X0_rule  -/
set_option maxRecDepth 100000 in
noncomputable def sz_cd388 : sy_Ct := (278, 2, 47, [(3, .inr 171, .inl 0), (0, .inl 1, .inl 0)], ([], []), [], [], [(177, 1, 1), (191, 7, 8), (191, 12, 12)], [(.inl none, 0, 0, ([], []), [], [])])
set_option maxRecDepth 100000 in
noncomputable def sz_ud388 : List sy_Cut := [(29, [(0, (3, .inr 171, .inl 0)), (1, (0, .inl 1, .inl 0)), (2, (3, .inr 191, .inl 0)), (3, (1, .inr 0, .inl 0)), (5, (1, .inr 1, .inl 0))], ([((-140737488355328), 140737488355327), ((-9223372036854775808), 9223372036854775807)], []), [], [], [(3, [])]), (50, [(0, (3, .inr 171, .inl 0)), (1, (0, .inl 1, .inl 0)), (2, (3, .inr 191, .inl 0)), (3, (1, .inr 0, .inl 0)), (5, (1, .inr 1, .inl 0))], ([((-140737488355328), 140737488355327), ((-9223372036854775808), 9223372036854775807)], []), [], [], [(2, [])]), (79, [(0, (3, .inr 171, .inl 0)), (1, (0, .inl 1, .inl 0)), (2, (3, .inr 191, .inl 0)), (3, (1, .inr 0, .inl 0)), (5, (1, .inr 1, .inl 0)), (7, (1, .inr 2, .inl 0))], ([((-9223372036854775808), 9223372036854775807), ((-140737488355328), 140737488355327), ((-9223372036854775808), 9223372036854775807)], []), [], [], [(1, [])]), (100, [(0, (3, .inr 171, .inl 0)), (1, (0, .inl 1, .inl 0)), (2, (3, .inr 191, .inl 0)), (3, (1, .inr 0, .inl 0)), (5, (1, .inr 1, .inl 0)), (7, (1, .inr 2, .inl 0))], ([((-9223372036854775808), 9223372036854775807), ((-140737488355328), 140737488355327), ((-9223372036854775808), 9223372036854775807)], []), [], [], [(0, [])])]
set_option maxRecDepth 100000 in
noncomputable def sz_hd388_0 : List sy_Hn := [(95, 6, 444, 0, 0, 0, [([], [(1, [0]), (1, [2])]), ([], [(1, [0]), (1, [1])])], [], [1, 1]),
  (0, 30, 0, 0, 0, 0, [([], [(1, [0])]), ([], [])], [], []),
  (6, 5, 442, 0, 0, 0, [], [], []),
  (0, 6, 444, 0, 0, 0, [([], [(1, [0]), (1, [1])]), ([], [(1, [0]), (1, [1])])], [], [0, 0]),
  (0, 30, 0, 0, 0, 0, [([], [(1, [0])]), ([], [])], [], []),
  (0, 6, 444, 0, 0, 0, [([], [(1, [0]), (1, [1])]), ([], [(1, [0])])], [], [1, 1]),
  (0, 30, 0, 0, 0, 0, [([], [(1, [0])]), ([], [])], [], []),
  (6, 5, 442, 0, 0, 0, [], [], []),
  (0, 6, 444, 0, 0, 0, [([], [(1, [0]), (1, [1])]), ([], [(1, [0]), (1, [1])])], [], [0, 0]),
  (0, 30, 0, 0, 0, 0, [([], [(1, [0])]), ([], [])], [], []),
  (0, 6, 444, 0, 0, 0, [([], [(1, [0])]), ([], [(1, [0]), (1, [1])])], [], [1, 1]),
  (0, 30, 0, 0, 0, 0, [([], [(1, [0])]), ([], [])], [], []),
  (31, 6, 444, 0, 0, 0, [([], [(1, [0]), (1, [2])]), ([], [(1, [0]), (1, [1])])], [], [1, 1]),
  (0, 30, 0, 0, 0, 0, [([], [(1, [0])]), ([], [])], [], []),
  (6, 5, 442, 0, 0, 0, [], [], []),
  (0, 6, 444, 0, 0, 0, [([], [(1, [0]), (1, [1])]), ([], [(1, [0]), (1, [1])])], [], [0, 0]),
  (0, 30, 0, 0, 0, 0, [([], [(1, [0])]), ([], [])], [], []),
  (0, 6, 444, 0, 0, 0, [([], [(1, [0]), (1, [1])]), ([], [(1, [0])])], [], [1, 1]),
  (0, 30, 0, 0, 0, 0, [([], [(1, [0])]), ([], [])], [], []),
  (6, 5, 442, 0, 0, 0, [], [], []),
  (0, 6, 444, 0, 0, 0, [([], [(1, [0]), (1, [1])]), ([], [(1, [0]), (1, [1])])], [], [0, 0]),
  (0, 30, 0, 0, 0, 0, [([], [(1, [0])]), ([], [])], [], []),
  (0, 6, 444, 0, 0, 0, [([], [(1, [0])]), ([], [(1, [0]), (1, [1])])], [], [1, 1]),
  (0, 30, 0, 0, 0, 0, [([], [(1, [0])]), ([], [])], [], [])]
set_option maxRecDepth 100000 in
theorem sz_sd388_0 : sy_seg sz_E (pv_T (sz_own true) sz_T) sz_RU [sz_cd379, sz_cd386, sz_cd387] sz_cd388 sz_ud388 ri_m_X0_rule 193 none sz_hd388_0 = true := by decide +kernel
set_option maxRecDepth 100000 in
noncomputable def sz_hd388_1 : List sy_Hn := [(0, 30, 0, 0, 0, 0, [([], [(1, [0])]), ([], [(1, [0])])], [], []),
  (0, 30, 0, 0, 0, 0, [([], [(1, [0])]), ([], [(1, [0])])], [], []),
  (0, 30, 0, 0, 0, 0, [([], [(1, [0])]), ([], [(1, [0])])], [], [])]
set_option maxRecDepth 100000 in
theorem sz_sd388_1 : sy_seg sz_E (pv_T (sz_own true) sz_T) sz_RU [sz_cd379, sz_cd386, sz_cd387] sz_cd388 sz_ud388 ri_m_X0_rule 34 (some ((29, [(0, (3, .inr 171, .inl 0)), (1, (0, .inl 1, .inl 0)), (2, (3, .inr 191, .inl 0)), (3, (1, .inr 0, .inl 0)), (5, (1, .inr 1, .inl 0))], ([((-140737488355328), 140737488355327), ((-9223372036854775808), 9223372036854775807)], []), [], [], [(3, [])]))) sz_hd388_1 = true := by decide +kernel
set_option maxRecDepth 100000 in
noncomputable def sz_hd388_2 : List sy_Hn := [(0, 30, 0, 0, 0, 0, [([], [(1, [0])]), ([], [(1, [0])])], [], [])]
set_option maxRecDepth 100000 in
theorem sz_sd388_2 : sy_seg sz_E (pv_T (sz_own true) sz_T) sz_RU [sz_cd379, sz_cd386, sz_cd387] sz_cd388 sz_ud388 ri_m_X0_rule 41 (some ((50, [(0, (3, .inr 171, .inl 0)), (1, (0, .inl 1, .inl 0)), (2, (3, .inr 191, .inl 0)), (3, (1, .inr 0, .inl 0)), (5, (1, .inr 1, .inl 0))], ([((-140737488355328), 140737488355327), ((-9223372036854775808), 9223372036854775807)], []), [], [], [(2, [])]))) sz_hd388_2 = true := by decide +kernel
set_option maxRecDepth 100000 in
noncomputable def sz_hd388_3 : List sy_Hn := [(0, 30, 0, 0, 0, 0, [([], [(1, [0])]), ([], [(1, [0])])], [], []),
  (8, 20, 1, 0, 0, 0, [], [], []),
  (0, 30, 0, 0, 0, 0, [([], [(1, [0])]), ([], [(1, [0])])], [], []),
  (6, 20, 0, 0, 0, 0, [], [], []),
  (0, 30, 0, 0, 0, 0, [([], [(1, [0])]), ([], [(1, [0])])], [], []),
  (3, 20, 2, 0, 0, 0, [], [], []),
  (0, 30, 0, 0, 0, 0, [([], [(1, [0])]), ([], [(1, [0])])], [], []),
  (6, 20, 0, 0, 0, 0, [], [], []),
  (0, 30, 0, 0, 0, 0, [([], [(1, [0])]), ([], [(1, [0])])], [], [])]
set_option maxRecDepth 100000 in
theorem sz_sd388_3 : sy_seg sz_E (pv_T (sz_own true) sz_T) sz_RU [sz_cd379, sz_cd386, sz_cd387] sz_cd388 sz_ud388 ri_m_X0_rule 48 (some ((79, [(0, (3, .inr 171, .inl 0)), (1, (0, .inl 1, .inl 0)), (2, (3, .inr 191, .inl 0)), (3, (1, .inr 0, .inl 0)), (5, (1, .inr 1, .inl 0)), (7, (1, .inr 2, .inl 0))], ([((-9223372036854775808), 9223372036854775807), ((-140737488355328), 140737488355327), ((-9223372036854775808), 9223372036854775807)], []), [], [], [(1, [])]))) sz_hd388_3 = true := by decide +kernel
set_option maxRecDepth 100000 in
noncomputable def sz_hd388_4 : List sy_Hn := [(0, 31, 0, 0, 0, 0, [], [], [])]
set_option maxRecDepth 100000 in
theorem sz_sd388_4 : sy_seg sz_E (pv_T (sz_own true) sz_T) sz_RU [sz_cd379, sz_cd386, sz_cd387] sz_cd388 sz_ud388 ri_m_X0_rule 7 (some ((100, [(0, (3, .inr 171, .inl 0)), (1, (0, .inl 1, .inl 0)), (2, (3, .inr 191, .inl 0)), (3, (1, .inr 0, .inl 0)), (5, (1, .inr 1, .inl 0)), (7, (1, .inr 2, .inl 0))], ([((-9223372036854775808), 9223372036854775807), ((-140737488355328), 140737488355327), ((-9223372036854775808), 9223372036854775807)], []), [], [], [(0, [])]))) sz_hd388_4 = true := by decide +kernel
theorem sz_okd388 (xs : Nat → Value) (L : Nat) : sy_Cok (sz_env xs L) (pv_T (sz_own true) sz_T) sz_RU sz_cd388 := sy_chk_ok (CT := [sz_cd379, sz_cd386, sz_cd387]) (CU := sz_ud388) (M := ri_m_X0_rule) (List.forall_mem_cons.mpr ⟨sz_okd379 xs L, List.forall_mem_cons.mpr ⟨sz_okd386 xs L, List.forall_mem_cons.mpr ⟨sz_okd387 xs L, fun _ h => absurd h List.not_mem_nil⟩⟩⟩) rfl rfl ⟨_, _, sz_sd388_0⟩ (List.forall_mem_cons.mpr ⟨⟨_, _, sz_sd388_1⟩, List.forall_mem_cons.mpr ⟨⟨_, _, sz_sd388_2⟩, List.forall_mem_cons.mpr ⟨⟨_, _, sz_sd388_3⟩, List.forall_mem_cons.mpr ⟨⟨_, _, sz_sd388_4⟩, fun _ h => absurd h List.not_mem_nil⟩⟩⟩⟩)

/-! X2_relayEnds  -/
set_option maxRecDepth 100000 in
noncomputable def sz_cd389 : sy_Ct := (280, 2, 45, [(3, .inr 191, .inl 0)], ([], []), [((191, 5), (0, .inl 3, .inl 0))], [], [(191, 5, 5), (191, 7, 7), (191, 17, 18), (201, 3, 8)], [(.inl (some (0, .inr 0, .inl 0)), 0, 0, ([(0, 1)], []), [], [])])
set_option maxRecDepth 100000 in
noncomputable def sz_ud389 : List sy_Cut := []
set_option maxRecDepth 100000 in
noncomputable def sz_hd389_0_0 : List sy_Hn := [(22, 20, 0, 0, 0, 0, [], [], []),
  (6, 20, 1, 0, 0, 0, [], [], []),
  (6, 4, 201, 6, 0, 0, [], [], []),
  (0, 5, 446, 0, 0, 0, [], [], []),
  (0, 7, 0, 0, 0, 0, [([], [(1, [0])])], [], []),
  (0, 3, 9, 0, 1, 240, [([9], [(1, [0]), (1, [1])]), ([], [(1, [0]), (1, [3]), (1, [1])])], [], []),
  (0, 5, 446, 1, 0, 0, [], [], []),
  (0, 7, 0, 0, 0, 0, [([], [(1, [0])])], [], []),
  (6, 3, 11, 0, 1, 240, [([11], [(1, [0]), (1, [1])]), ([], [(1, [0]), (1, [2]), (1, [3]), (1, [4])])], [], []),
  (39, 4, 194, 0, 0, 0, [], [], []),
  (0, 4, 194, 1, 0, 0, [], [], []),
  (0, 5, 442, 0, 0, 0, [], [], []),
  (0, 6, 444, 0, 0, 0, [([], [(1, [0]), (1, [1])]), ([], [(1, [0]), (1, [1])])], [], [0, 0]),
  (0, 6, 446, 0, 0, 0, [([9], [(1, [0]), (1, [2])]), ([], [(1, [0]), (1, [8]), (1, [6]), (1, [5])])], [], [1, 1]),
  (0, 31, 0, 0, 0, 0, [], [], []),
  (0, 4, 194, 3, 0, 0, [], [], []),
  (0, 5, 443, 0, 0, 0, [], [], []),
  (0, 6, 444, 0, 0, 0, [([], [(1, [0]), (1, [1])]), ([], [(1, [0]), (1, [1])])], [], [0, 0]),
  (0, 6, 446, 0, 0, 0, [([9], [(1, [0]), (1, [2])]), ([], [(1, [0]), (1, [9]), (1, [7]), (1, [6])])], [], [1, 1]),
  (0, 31, 0, 0, 0, 0, [], [], []),
  (0, 5, 443, 1, 0, 0, [], [], []),
  (0, 6, 444, 0, 0, 0, [([], [(1, [0]), (1, [1])]), ([], [(1, [0]), (1, [1])])], [], [0, 0]),
  (0, 6, 446, 0, 0, 0, [([9], [(1, [0]), (1, [2])]), ([], [(1, [0]), (1, [10]), (1, [8]), (1, [7])])], [], [1, 1]),
  (0, 31, 0, 0, 0, 0, [], [], []),
  (0, 5, 445, 0, 0, 0, [], [], []),
  (0, 7, 0, 0, 0, 0, [([], [(1, [0])])], [], []),
  (0, 5, 445, 1, 0, 0, [], [], []),
  (0, 7, 0, 0, 0, 0, [([], [(1, [0])])], [], []),
  (0, 6, 444, 0, 0, 0, [([14], [(1, [0]), (1, [8]), (1, [4]), (1, [1])]), ([14], [(1, [0]), (1, [9]), (1, [3]), (1, [1])])], [], [1, 1]),
  (0, 6, 446, 0, 0, 0, [([9], [(1, [0]), (1, [2])]), ([], [(1, [0]), (1, [12]), (1, [10]), (1, [9])])], [], [1, 1]),
  (0, 31, 0, 0, 0, 0, [], [], []),
  (11, 4, 194, 0, 0, 0, [], [], []),
  (0, 4, 194, 1, 0, 0, [], [], []),
  (0, 4, 201, 2, 0, 0, [], [], []),
  (0, 4, 201, 0, 0, 0, [], [], []),
  (0, 5, 445, 0, 0, 0, [], [], []),
  (0, 7, 0, 0, 0, 0, [([], [(1, [0])])], [], []),
  (0, 5, 445, 1, 0, 0, [], [], []),
  (0, 7, 0, 0, 0, 0, [([], [(1, [0])])], [], []),
  (8, 6, 444, 0, 0, 0, [([16], [(1, [0]), (1, [4]), (1, [1])]), ([16], [(1, [0]), (1, [3]), (1, [1])])], [], [1, 1]),
  (0, 6, 445, 0, 0, 0, [([], [(1, [0])]), ([], [(1, [0])])], [], [0, 0]),
  (0, 6, 446, 0, 0, 0, [([], [(1, [0])]), ([], [(1, [0])])], [], [0, 0]),
  (0, 31, 0, 0, 0, 0, [], [], []),
  (33, 4, 194, 0, 0, 0, [], [], []),
  (0, 4, 194, 1, 0, 0, [], [], []),
  (0, 5, 445, 0, 0, 0, [], [], []),
  (0, 7, 0, 0, 0, 0, [([], [(1, [0])])], [], []),
  (0, 5, 442, 0, 0, 0, [], [], []),
  (0, 4, 194, 3, 0, 0, [], [], []),
  (0, 5, 443, 0, 0, 0, [], [], []),
  (0, 5, 443, 1, 0, 0, [], [], []),
  (0, 4, 191, 7, 0, 0, [], [], []),
  (0, 5, 444, 0, 0, 0, [], [], []),
  (0, 5, 444, 1, 0, 0, [], [], []),
  (0, 5, 445, 1, 0, 0, [], [], []),
  (0, 7, 0, 0, 0, 0, [([], [(1, [0])])], [], []),
  (0, 3, 18, 0, (-9999), 9999, [([18], [(1, [0]), (1, [1])]), ([12, 15, 16, 17, 18, 19, 20], [(1, [0]), (999, [2]), (1, [14]), (1, [15]), (1, [23]), (1, [25]), (1, [1, 6])])], [], []),
  (2, 6, 444, 0, 0, 0, [([], [(1, [0]), (1, [2])]), ([], [(1, [0]), (1, [2])])], [], [0, 0]),
  (0, 6, 446, 0, 0, 0, [([9], [(1, [0]), (1, [2])]), ([], [(1, [0]), (1, [17]), (1, [15]), (1, [14])])], [], [1, 1]),
  (0, 31, 0, 0, 0, 0, [], [], []),
  (0, 5, 445, 1, 0, 0, [], [], []),
  (0, 7, 0, 0, 0, 0, [([], [(1, [0])])], [], []),
  (0, 3, 18, 0, (-9999), 9999, [([18], [(1, [0]), (1, [1])]), ([12, 15, 16, 17, 18, 19, 20], [(1, [0]), (999, [2]), (1, [14]), (1, [15]), (1, [23]), (1, [25]), (1, [1, 6])])], [], []),
  (2, 6, 444, 0, 0, 0, [([], [(1, [0]), (1, [3])]), ([], [(1, [0]), (1, [3])])], [], [0, 0]),
  (0, 6, 446, 0, 0, 0, [([9], [(1, [0]), (1, [2])]), ([], [(1, [0]), (1, [17]), (1, [15]), (1, [14])])], [], [1, 1]),
  (0, 31, 0, 0, 0, 0, [], [], []),
  (0, 5, 444, 1, 0, 0, [], [], []),
  (0, 5, 445, 1, 0, 0, [], [], []),
  (0, 7, 0, 0, 0, 0, [([], [(1, [0])])], [], []),
  (0, 3, 18, 0, (-9999), 9999, [([18], [(1, [0]), (1, [1])]), ([12, 15, 16, 17, 18, 19, 20], [(1, [0]), (999, [2]), (1, [14]), (1, [15]), (1, [23]), (1, [25]), (1, [1, 6])])], [], []),
  (2, 6, 444, 0, 0, 0, [([], [(1, [0]), (1, [2])]), ([], [(1, [0]), (1, [2])])], [], [0, 0]),
  (0, 6, 446, 0, 0, 0, [([9], [(1, [0]), (1, [2])]), ([], [(1, [0]), (1, [17]), (1, [15]), (1, [14])])], [], [1, 1]),
  (0, 31, 0, 0, 0, 0, [], [], []),
  (0, 5, 445, 1, 0, 0, [], [], []),
  (0, 7, 0, 0, 0, 0, [([], [(1, [0])])], [], []),
  (0, 3, 18, 0, (-9999), 9999, [([18], [(1, [0]), (1, [1])]), ([12, 15, 16, 17, 18, 19, 20], [(1, [0]), (999, [2]), (1, [14]), (1, [15]), (1, [23]), (1, [25]), (1, [1, 6])])], [], []),
  (2, 6, 444, 0, 0, 0, [([], [(1, [0]), (1, [4])]), ([], [(1, [0]), (1, [4])])], [], [0, 0]),
  (0, 6, 446, 0, 0, 0, [([9], [(1, [0]), (1, [2])]), ([], [(1, [0]), (1, [17]), (1, [15]), (1, [14])])], [], [1, 1]),
  (0, 31, 0, 0, 0, 0, [], [], []),
  (0, 4, 191, 7, 0, 0, [], [], []),
  (0, 5, 444, 0, 0, 0, [], [], []),
  (0, 5, 444, 1, 0, 0, [], [], []),
  (0, 5, 445, 1, 0, 0, [], [], []),
  (0, 7, 0, 0, 0, 0, [([], [(1, [0])])], [], []),
  (0, 3, 18, 0, (-9999), 9999, [([18], [(1, [0]), (1, [1])]), ([12, 15, 16, 17, 18, 19, 20], [(1, [0]), (999, [2]), (1, [14]), (1, [15]), (1, [23]), (1, [25]), (1, [1, 6])])], [], []),
  (2, 6, 444, 0, 0, 0, [([], [(1, [0]), (1, [2])]), ([], [(1, [0]), (1, [2])])], [], [0, 0]),
  (0, 6, 446, 0, 0, 0, [([9], [(1, [0]), (1, [2])]), ([], [(1, [0]), (1, [17]), (1, [15]), (1, [14])])], [], [1, 1]),
  (0, 31, 0, 0, 0, 0, [], [], []),
  (0, 5, 445, 1, 0, 0, [], [], []),
  (0, 7, 0, 0, 0, 0, [([], [(1, [0])])], [], []),
  (0, 3, 18, 0, (-9999), 9999, [([18], [(1, [0]), (1, [1])]), ([12, 15, 16, 17, 18, 19, 20], [(1, [0]), (999, [2]), (1, [14]), (1, [15]), (1, [23]), (1, [25]), (1, [1, 6])])], [], []),
  (2, 6, 444, 0, 0, 0, [([], [(1, [0]), (1, [3])]), ([], [(1, [0]), (1, [3])])], [], [0, 0]),
  (0, 6, 446, 0, 0, 0, [([9], [(1, [0]), (1, [2])]), ([], [(1, [0]), (1, [17]), (1, [15]), (1, [14])])], [], [1, 1]),
  (0, 31, 0, 0, 0, 0, [], [], []),
  (0, 5, 444, 1, 0, 0, [], [], []),
  (0, 5, 445, 1, 0, 0, [], [], []),
  (0, 7, 0, 0, 0, 0, [([], [(1, [0])])], [], []),
  (0, 3, 18, 0, (-9999), 9999, [([18], [(1, [0]), (1, [1])]), ([12, 15, 16, 17, 18, 19, 20], [(1, [0]), (999, [2]), (1, [14]), (1, [15]), (1, [23]), (1, [25]), (1, [1, 6])])], [], []),
  (2, 6, 444, 0, 0, 0, [([], [(1, [0]), (1, [2])]), ([], [(1, [0]), (1, [2])])], [], [0, 0]),
  (0, 6, 446, 0, 0, 0, [([9], [(1, [0]), (1, [2])]), ([], [(1, [0]), (1, [17]), (1, [15]), (1, [14])])], [], [1, 1]),
  (0, 31, 0, 0, 0, 0, [], [], []),
  (0, 5, 445, 1, 0, 0, [], [], []),
  (0, 7, 0, 0, 0, 0, [([], [(1, [0])])], [], []),
  (0, 3, 18, 0, (-9999), 9999, [([18], [(1, [0]), (1, [1])]), ([12, 15, 16, 17, 18, 19, 20], [(1, [0]), (999, [2]), (1, [14]), (1, [15]), (1, [23]), (1, [25]), (1, [1, 6])])], [], []),
  (2, 6, 444, 0, 0, 0, [([], [(1, [0]), (1, [5])]), ([], [(1, [0]), (1, [5])])], [], [0, 0]),
  (0, 6, 446, 0, 0, 0, [([9], [(1, [0]), (1, [2])]), ([], [(1, [0]), (1, [17]), (1, [15]), (1, [14])])], [], [1, 1]),
  (0, 31, 0, 0, 0, 0, [], [], []),
  (0, 5, 443, 1, 0, 0, [], [], []),
  (0, 4, 191, 7, 0, 0, [], [], []),
  (0, 5, 444, 0, 0, 0, [], [], []),
  (0, 5, 444, 1, 0, 0, [], [], []),
  (0, 5, 445, 1, 0, 0, [], [], []),
  (0, 7, 0, 0, 0, 0, [([], [(1, [0])])], [], []),
  (0, 3, 18, 0, (-9999), 9999, [([18], [(1, [0]), (1, [1])]), ([12, 15, 16, 17, 18, 19, 20], [(1, [0]), (999, [2]), (1, [14]), (1, [15]), (1, [23]), (1, [25]), (1, [1, 6])])], [], []),
  (2, 6, 444, 0, 0, 0, [([], [(1, [0]), (1, [2])]), ([], [(1, [0]), (1, [2])])], [], [0, 0]),
  (0, 6, 446, 0, 0, 0, [([9], [(1, [0]), (1, [2])]), ([], [(1, [0]), (1, [17]), (1, [15]), (1, [14])])], [], [1, 1]),
  (0, 31, 0, 0, 0, 0, [], [], []),
  (0, 5, 445, 1, 0, 0, [], [], []),
  (0, 7, 0, 0, 0, 0, [([], [(1, [0])])], [], []),
  (0, 3, 18, 0, (-9999), 9999, [([18], [(1, [0]), (1, [1])]), ([12, 15, 16, 17, 18, 19, 20], [(1, [0]), (999, [2]), (1, [14]), (1, [15]), (1, [23]), (1, [25]), (1, [1, 6])])], [], []),
  (2, 6, 444, 0, 0, 0, [([], [(1, [0]), (1, [3])]), ([], [(1, [0]), (1, [3])])], [], [0, 0]),
  (0, 6, 446, 0, 0, 0, [([9], [(1, [0]), (1, [2])]), ([], [(1, [0]), (1, [17]), (1, [15]), (1, [14])])], [], [1, 1]),
  (0, 31, 0, 0, 0, 0, [], [], []),
  (0, 5, 444, 1, 0, 0, [], [], []),
  (0, 5, 445, 1, 0, 0, [], [], []),
  (0, 7, 0, 0, 0, 0, [([], [(1, [0])])], [], []),
  (0, 3, 18, 0, (-9999), 9999, [([18], [(1, [0]), (1, [1])]), ([12, 15, 16, 17, 18, 19, 20], [(1, [0]), (999, [2]), (1, [14]), (1, [15]), (1, [23]), (1, [25]), (1, [1, 6])])], [], []),
  (2, 6, 444, 0, 0, 0, [([], [(1, [0]), (1, [2])]), ([], [(1, [0]), (1, [2])])], [], [0, 0]),
  (0, 6, 446, 0, 0, 0, [([9], [(1, [0]), (1, [2])]), ([], [(1, [0]), (1, [17]), (1, [15]), (1, [14])])], [], [1, 1]),
  (0, 31, 0, 0, 0, 0, [], [], []),
  (0, 5, 445, 1, 0, 0, [], [], []),
  (0, 7, 0, 0, 0, 0, [([], [(1, [0])])], [], []),
  (0, 3, 18, 0, (-9999), 9999, [([18], [(1, [0]), (1, [1])]), ([12, 15, 16, 17, 18, 19, 20], [(1, [0]), (999, [2]), (1, [14]), (1, [15]), (1, [23]), (1, [25]), (1, [1, 6])])], [], []),
  (2, 6, 444, 0, 0, 0, [([], [(1, [0]), (1, [4])]), ([], [(1, [0]), (1, [4])])], [], [0, 0]),
  (0, 6, 446, 0, 0, 0, [([9], [(1, [0]), (1, [2])]), ([], [(1, [0]), (1, [17]), (1, [15]), (1, [14])])], [], [1, 1]),
  (0, 31, 0, 0, 0, 0, [], [], []),
  (0, 4, 191, 7, 0, 0, [], [], []),
  (0, 5, 444, 0, 0, 0, [], [], []),
  (0, 5, 444, 1, 0, 0, [], [], []),
  (0, 5, 445, 1, 0, 0, [], [], []),
  (0, 7, 0, 0, 0, 0, [([], [(1, [0])])], [], []),
  (0, 3, 18, 0, (-9999), 9999, [([18], [(1, [0]), (1, [1])]), ([12, 15, 16, 17, 18, 19, 20], [(1, [0]), (999, [2]), (1, [14]), (1, [15]), (1, [23]), (1, [25]), (1, [1, 6])])], [], []),
  (2, 6, 444, 0, 0, 0, [([], [(1, [0]), (1, [2])]), ([], [(1, [0]), (1, [2])])], [], [0, 0]),
  (0, 6, 446, 0, 0, 0, [([9], [(1, [0]), (1, [2])]), ([], [(1, [0]), (1, [17]), (1, [15]), (1, [14])])], [], [1, 1]),
  (0, 31, 0, 0, 0, 0, [], [], []),
  (0, 5, 445, 1, 0, 0, [], [], []),
  (0, 7, 0, 0, 0, 0, [([], [(1, [0])])], [], []),
  (0, 3, 18, 0, (-9999), 9999, [([18], [(1, [0]), (1, [1])]), ([12, 15, 16, 17, 18, 19, 20], [(1, [0]), (999, [2]), (1, [14]), (1, [15]), (1, [23]), (1, [25]), (1, [1, 6])])], [], []),
  (2, 6, 444, 0, 0, 0, [([], [(1, [0]), (1, [3])]), ([], [(1, [0]), (1, [3])])], [], [0, 0]),
  (0, 6, 446, 0, 0, 0, [([9], [(1, [0]), (1, [2])]), ([], [(1, [0]), (1, [17]), (1, [15]), (1, [14])])], [], [1, 1])]
set_option maxRecDepth 100000 in
noncomputable def sz_hd389_0_1 : List sy_Hn := [(0, 31, 0, 0, 0, 0, [], [], []),
  (0, 5, 444, 1, 0, 0, [], [], []),
  (0, 5, 445, 1, 0, 0, [], [], []),
  (0, 7, 0, 0, 0, 0, [([], [(1, [0])])], [], []),
  (0, 3, 18, 0, (-9999), 9999, [([18], [(1, [0]), (1, [1])]), ([12, 15, 16, 17, 18, 19, 20], [(1, [0]), (999, [2]), (1, [14]), (1, [15]), (1, [23]), (1, [25]), (1, [1, 6])])], [], []),
  (2, 6, 444, 0, 0, 0, [([], [(1, [0]), (1, [2])]), ([], [(1, [0]), (1, [2])])], [], [0, 0]),
  (0, 6, 446, 0, 0, 0, [([9], [(1, [0]), (1, [2])]), ([], [(1, [0]), (1, [17]), (1, [15]), (1, [14])])], [], [1, 1]),
  (0, 31, 0, 0, 0, 0, [], [], []),
  (0, 5, 445, 1, 0, 0, [], [], []),
  (0, 7, 0, 0, 0, 0, [([], [(1, [0])])], [], []),
  (0, 3, 18, 0, (-9999), 9999, [([18], [(1, [0]), (1, [1])]), ([12, 15, 16, 17, 18, 19, 20], [(1, [0]), (999, [2]), (1, [14]), (1, [15]), (1, [23]), (1, [25]), (1, [1, 6])])], [], []),
  (2, 6, 444, 0, 0, 0, [([], [(1, [0]), (1, [6])]), ([], [(1, [0]), (1, [6])])], [], [0, 0]),
  (0, 6, 446, 0, 0, 0, [([9], [(1, [0]), (1, [2])]), ([], [(1, [0]), (1, [17]), (1, [15]), (1, [14])])], [], [1, 1]),
  (0, 31, 0, 0, 0, 0, [], [], []),
  (0, 4, 194, 3, 0, 0, [], [], []),
  (0, 5, 443, 0, 0, 0, [], [], []),
  (0, 3, 18, 0, (-9999), 9999, [([18], [(1, [0]), (1, [1])]), ([12, 15, 16, 17, 18, 19, 20], [(1, [15]), (1, [16])])], [], []),
  (2, 6, 444, 0, 0, 0, [([], [(1, [0]), (1, [1])]), ([], [(1, [0]), (1, [1])])], [], [0, 0]),
  (0, 6, 446, 0, 0, 0, [([9], [(1, [0]), (1, [2])]), ([], [(1, [0]), (1, [13]), (1, [11]), (1, [10])])], [], [1, 1]),
  (0, 31, 0, 0, 0, 0, [], [], []),
  (0, 5, 443, 1, 0, 0, [], [], []),
  (0, 3, 18, 0, (-9999), 9999, [([18], [(1, [0]), (1, [1])]), ([12, 15, 16, 17, 18, 19, 20, 21], [(1, [17]), (1, [19])])], [], []),
  (2, 6, 444, 0, 0, 0, [([], [(1, [0]), (1, [1])]), ([], [(1, [0]), (1, [1])])], [], [0, 0]),
  (0, 6, 446, 0, 0, 0, [([9], [(1, [0]), (1, [2])]), ([], [(1, [0]), (1, [14]), (1, [12]), (1, [11])])], [], [1, 1]),
  (0, 31, 0, 0, 0, 0, [], [], []),
  (0, 4, 191, 7, 0, 0, [], [], []),
  (0, 5, 444, 0, 0, 0, [], [], []),
  (0, 3, 18, 0, (-9999), 9999, [([18], [(1, [0]), (1, [1])]), ([12, 15, 16, 17, 18, 19, 20, 21], [(1, [17]), (1, [20])])], [], []),
  (2, 6, 444, 0, 0, 0, [([], [(1, [0]), (1, [1])]), ([], [(1, [0]), (1, [1])])], [], [0, 0]),
  (0, 6, 446, 0, 0, 0, [([9], [(1, [0]), (1, [2])]), ([], [(1, [0]), (1, [15]), (1, [13]), (1, [12])])], [], [1, 1]),
  (0, 31, 0, 0, 0, 0, [], [], []),
  (0, 5, 444, 1, 0, 0, [], [], []),
  (0, 3, 18, 0, (-9999), 9999, [([18], [(1, [0]), (1, [1])]), ([12, 15, 16, 17, 18, 19, 20, 21, 22], [(1, [19]), (1, [23])])], [], []),
  (2, 6, 444, 0, 0, 0, [([], [(1, [0]), (1, [1])]), ([], [(1, [0]), (1, [1])])], [], [0, 0]),
  (0, 6, 446, 0, 0, 0, [([9], [(1, [0]), (1, [2])]), ([], [(1, [0]), (1, [16]), (1, [14]), (1, [13])])], [], [1, 1]),
  (0, 31, 0, 0, 0, 0, [], [], []),
  (0, 5, 445, 1, 0, 0, [], [], []),
  (0, 7, 0, 0, 0, 0, [([], [(1, [0])])], [], []),
  (0, 3, 18, 0, (-9999), 9999, [([18], [(1, [0]), (1, [1])]), ([12, 15, 16, 17, 18, 19, 20], [(1, [0]), (999, [2]), (1, [14]), (1, [15]), (1, [23]), (1, [25]), (1, [1, 6])])], [], []),
  (2, 6, 444, 0, 0, 0, [([16, 17], [(1, [0]), (1, [12]), (1, [11]), (1, [1]), (1, [3])]), ([12, 15, 16, 17, 18, 19, 20, 21, 22], [(1, [0]), (999, [2]), (1, [19]), (1, [27]), (1, [29]), (1, [1, 6])])], [], [1, 1]),
  (0, 6, 446, 0, 0, 0, [([9], [(1, [0]), (1, [2])]), ([], [(1, [0]), (1, [17]), (1, [15]), (1, [14])])], [], [1, 1]),
  (0, 31, 0, 0, 0, 0, [], [], []),
  (11, 4, 194, 0, 0, 0, [], [], []),
  (0, 4, 194, 1, 0, 0, [], [], []),
  (0, 4, 201, 2, 0, 0, [], [], []),
  (0, 4, 201, 0, 0, 0, [], [], []),
  (0, 5, 445, 0, 0, 0, [], [], []),
  (0, 7, 0, 0, 0, 0, [([], [(1, [0])])], [], []),
  (0, 5, 445, 1, 0, 0, [], [], []),
  (0, 7, 0, 0, 0, 0, [([], [(1, [0])])], [], []),
  (8, 6, 444, 0, 0, 0, [([18], [(1, [0]), (1, [4]), (1, [1])]), ([18], [(1, [0]), (1, [3]), (1, [1])])], [], [1, 1]),
  (0, 6, 445, 0, 0, 0, [([], [(1, [0])]), ([], [(1, [0])])], [], [0, 0]),
  (0, 6, 446, 0, 0, 0, [([], [(1, [0])]), ([], [(1, [0])])], [], [0, 0]),
  (0, 31, 0, 0, 0, 0, [], [], []),
  (31, 4, 194, 0, 0, 0, [], [], []),
  (0, 4, 194, 1, 0, 0, [], [], []),
  (0, 5, 445, 0, 0, 0, [], [], []),
  (0, 7, 0, 0, 0, 0, [([], [(1, [0])])], [], []),
  (0, 3, 18, 0, (-9999), 9999, [([19], [(1, [0]), (1, [4]), (1, [3]), (1, [6]), (1, [1])]), ([18], [(1, [0]), (1, [2])])], [], []),
  (2, 5, 442, 0, 0, 0, [], [], []),
  (0, 6, 444, 0, 0, 0, [([], [(1, [0]), (1, [1])]), ([], [(1, [0]), (1, [1])])], [], [0, 0]),
  (0, 6, 446, 0, 0, 0, [([9], [(1, [0]), (1, [2])]), ([], [(1, [0]), (1, [12]), (1, [10]), (1, [9])])], [], [1, 1]),
  (0, 31, 0, 0, 0, 0, [], [], []),
  (0, 4, 194, 3, 0, 0, [], [], []),
  (0, 5, 443, 0, 0, 0, [], [], []),
  (0, 6, 444, 0, 0, 0, [([], [(1, [0]), (1, [1])]), ([], [(1, [0]), (1, [1])])], [], [0, 0]),
  (0, 6, 446, 0, 0, 0, [([9], [(1, [0]), (1, [2])]), ([], [(1, [0]), (1, [13]), (1, [11]), (1, [10])])], [], [1, 1]),
  (0, 31, 0, 0, 0, 0, [], [], []),
  (0, 5, 443, 1, 0, 0, [], [], []),
  (0, 6, 444, 0, 0, 0, [([], [(1, [0]), (1, [1])]), ([], [(1, [0]), (1, [1])])], [], [0, 0]),
  (0, 6, 446, 0, 0, 0, [([9], [(1, [0]), (1, [2])]), ([], [(1, [0]), (1, [14]), (1, [12]), (1, [11])])], [], [1, 1]),
  (0, 31, 0, 0, 0, 0, [], [], []),
  (0, 5, 445, 1, 0, 0, [], [], []),
  (0, 7, 0, 0, 0, 0, [([], [(1, [0])])], [], []),
  (0, 6, 444, 0, 0, 0, [([], [(1, [0]), (1, [6]), (1, [5]), (1, [8])]), ([16, 17], [(1, [0]), (1, [11]), (1, [5]), (1, [1]), (1, [4])])], [], [1, 1]),
  (0, 6, 446, 0, 0, 0, [([9], [(1, [0]), (1, [2])]), ([], [(1, [0]), (1, [15]), (1, [13]), (1, [12])])], [], [1, 1]),
  (0, 31, 0, 0, 0, 0, [], [], []),
  (11, 4, 194, 0, 0, 0, [], [], []),
  (0, 4, 194, 1, 0, 0, [], [], []),
  (0, 4, 201, 2, 0, 0, [], [], []),
  (0, 4, 201, 0, 0, 0, [], [], []),
  (0, 5, 445, 0, 0, 0, [], [], []),
  (0, 7, 0, 0, 0, 0, [([], [(1, [0])])], [], []),
  (0, 5, 445, 1, 0, 0, [], [], []),
  (0, 7, 0, 0, 0, 0, [([], [(1, [0])])], [], []),
  (8, 6, 444, 0, 0, 0, [([18], [(1, [0]), (1, [4]), (1, [1])]), ([18], [(1, [0]), (1, [3]), (1, [1])])], [], [1, 1]),
  (0, 6, 445, 0, 0, 0, [([], [(1, [0])]), ([], [(1, [0])])], [], [0, 0]),
  (0, 6, 446, 0, 0, 0, [([], [(1, [0])]), ([], [(1, [0])])], [], [0, 0]),
  (0, 31, 0, 0, 0, 0, [], [], []),
  (36, 4, 194, 0, 0, 0, [], [], []),
  (0, 4, 194, 1, 0, 0, [], [], []),
  (0, 5, 445, 0, 0, 0, [], [], []),
  (0, 7, 0, 0, 0, 0, [([], [(1, [0])])], [], []),
  (0, 3, 17, 0, (-9999), 9999, [([12, 14, 15, 16, 17, 18], [(1, [0]), (1, [11]), (1, [13]), (1, [14]), (1, [16]), (1, [1, 5])]), ([17], [(1, [0]), (1, [2])])], [], []),
  (2, 5, 442, 0, 0, 0, [], [], []),
  (0, 6, 444, 0, 0, 0, [([], [(1, [0]), (1, [1])]), ([], [(1, [0]), (1, [1])])], [], [0, 0]),
  (0, 6, 446, 0, 0, 0, [([9], [(1, [0]), (1, [2])]), ([], [(1, [0]), (1, [12]), (1, [10]), (1, [9])])], [], [1, 1]),
  (0, 31, 0, 0, 0, 0, [], [], []),
  (0, 4, 194, 3, 0, 0, [], [], []),
  (0, 5, 443, 0, 0, 0, [], [], []),
  (0, 6, 444, 0, 0, 0, [([], [(1, [0]), (1, [1])]), ([], [(1, [0]), (1, [1])])], [], [0, 0]),
  (0, 6, 446, 0, 0, 0, [([9], [(1, [0]), (1, [2])]), ([], [(1, [0]), (1, [13]), (1, [11]), (1, [10])])], [], [1, 1]),
  (0, 31, 0, 0, 0, 0, [], [], []),
  (0, 5, 443, 1, 0, 0, [], [], []),
  (0, 6, 444, 0, 0, 0, [([], [(1, [0]), (1, [1])]), ([], [(1, [0]), (1, [1])])], [], [0, 0]),
  (0, 6, 446, 0, 0, 0, [([9], [(1, [0]), (1, [2])]), ([], [(1, [0]), (1, [14]), (1, [12]), (1, [11])])], [], [1, 1]),
  (0, 31, 0, 0, 0, 0, [], [], []),
  (0, 5, 445, 1, 0, 0, [], [], []),
  (0, 7, 0, 0, 0, 0, [([], [(1, [0])])], [], []),
  (0, 6, 444, 0, 0, 0, [([12, 14, 15, 16, 17, 18, 19, 20], [(1, [0]), (1, [21]), (1, [22]), (1, [24]), (1, [1, 5])]), ([15, 16], [(1, [0]), (1, [11]), (1, [5]), (1, [1]), (1, [4])])], [], [1, 1]),
  (0, 6, 446, 0, 0, 0, [([9], [(1, [0]), (1, [2])]), ([], [(1, [0]), (1, [15]), (1, [13]), (1, [12])])], [], [1, 1]),
  (0, 31, 0, 0, 0, 0, [], [], []),
  (11, 4, 194, 0, 0, 0, [], [], []),
  (0, 4, 194, 1, 0, 0, [], [], []),
  (0, 4, 201, 2, 0, 0, [], [], []),
  (0, 4, 201, 0, 0, 0, [], [], []),
  (0, 5, 445, 0, 0, 0, [], [], []),
  (0, 7, 0, 0, 0, 0, [([], [(1, [0])])], [], []),
  (0, 5, 445, 1, 0, 0, [], [], []),
  (0, 7, 0, 0, 0, 0, [([], [(1, [0])])], [], []),
  (8, 6, 444, 0, 0, 0, [([17], [(1, [0]), (1, [4]), (1, [1])]), ([17], [(1, [0]), (1, [3]), (1, [1])])], [], [1, 1]),
  (0, 6, 445, 0, 0, 0, [([], [(1, [0])]), ([], [(1, [0])])], [], [0, 0]),
  (0, 6, 446, 0, 0, 0, [([], [(1, [0])]), ([], [(1, [0])])], [], [0, 0]),
  (0, 31, 0, 0, 0, 0, [], [], []),
  (58, 4, 194, 0, 0, 0, [], [], []),
  (0, 4, 194, 1, 0, 0, [], [], []),
  (0, 5, 445, 0, 0, 0, [], [], []),
  (0, 7, 0, 0, 0, 0, [([], [(1, [0])])], [], []),
  (0, 5, 442, 0, 0, 0, [], [], []),
  (0, 4, 194, 3, 0, 0, [], [], []),
  (0, 5, 443, 0, 0, 0, [], [], []),
  (0, 5, 443, 1, 0, 0, [], [], []),
  (0, 4, 191, 7, 0, 0, [], [], []),
  (0, 5, 444, 0, 0, 0, [], [], []),
  (0, 5, 444, 1, 0, 0, [], [], []),
  (0, 5, 445, 1, 0, 0, [], [], []),
  (0, 7, 0, 0, 0, 0, [([], [(1, [0])])], [], []),
  (0, 3, 19, 0, (-9999), 9999, [([19], [(1, [0]), (1, [1])]), ([21], [(1, [0]), (1, [11]), (1, [3]), (1, [13]), (1, [2])])], [], []),
  (2, 6, 444, 0, 0, 0, [([], [(1, [0]), (1, [2])]), ([], [(1, [0]), (1, [2])])], [], [0, 0]),
  (0, 6, 446, 0, 0, 0, [([9], [(1, [0]), (1, [2])]), ([9], [(1, [0]), (1, [1])])], [], [1, 1]),
  (0, 31, 0, 0, 0, 0, [], [], []),
  (0, 5, 445, 1, 0, 0, [], [], []),
  (0, 7, 0, 0, 0, 0, [([], [(1, [0])])], [], []),
  (0, 3, 19, 0, (-9999), 9999, [([19], [(1, [0]), (1, [1])]), ([21], [(1, [0]), (1, [11]), (1, [3]), (1, [13]), (1, [2])])], [], []),
  (2, 6, 444, 0, 0, 0, [([], [(1, [0]), (1, [3])]), ([], [(1, [0]), (1, [3])])], [], [0, 0]),
  (0, 6, 446, 0, 0, 0, [([9], [(1, [0]), (1, [2])]), ([9], [(1, [0]), (1, [1])])], [], [1, 1]),
  (0, 31, 0, 0, 0, 0, [], [], []),
  (0, 5, 444, 1, 0, 0, [], [], []),
  (0, 5, 445, 1, 0, 0, [], [], []),
  (0, 7, 0, 0, 0, 0, [([], [(1, [0])])], [], [])]
set_option maxRecDepth 100000 in
noncomputable def sz_hd389_0_2 : List sy_Hn := [(0, 3, 19, 0, (-9999), 9999, [([19], [(1, [0]), (1, [1])]), ([21], [(1, [0]), (1, [11]), (1, [3]), (1, [13]), (1, [2])])], [], []),
  (2, 6, 444, 0, 0, 0, [([], [(1, [0]), (1, [2])]), ([], [(1, [0]), (1, [2])])], [], [0, 0]),
  (0, 6, 446, 0, 0, 0, [([9], [(1, [0]), (1, [2])]), ([9], [(1, [0]), (1, [1])])], [], [1, 1]),
  (0, 31, 0, 0, 0, 0, [], [], []),
  (0, 5, 445, 1, 0, 0, [], [], []),
  (0, 7, 0, 0, 0, 0, [([], [(1, [0])])], [], []),
  (0, 3, 19, 0, (-9999), 9999, [([19], [(1, [0]), (1, [1])]), ([21], [(1, [0]), (1, [11]), (1, [3]), (1, [13]), (1, [2])])], [], []),
  (2, 6, 444, 0, 0, 0, [([], [(1, [0]), (1, [4])]), ([], [(1, [0]), (1, [4])])], [], [0, 0]),
  (0, 6, 446, 0, 0, 0, [([9], [(1, [0]), (1, [2])]), ([9], [(1, [0]), (1, [1])])], [], [1, 1]),
  (0, 31, 0, 0, 0, 0, [], [], []),
  (0, 4, 191, 7, 0, 0, [], [], []),
  (0, 5, 444, 0, 0, 0, [], [], []),
  (0, 5, 444, 1, 0, 0, [], [], []),
  (0, 5, 445, 1, 0, 0, [], [], []),
  (0, 7, 0, 0, 0, 0, [([], [(1, [0])])], [], []),
  (0, 3, 19, 0, (-9999), 9999, [([19], [(1, [0]), (1, [1])]), ([21], [(1, [0]), (1, [11]), (1, [3]), (1, [13]), (1, [2])])], [], []),
  (2, 6, 444, 0, 0, 0, [([], [(1, [0]), (1, [2])]), ([], [(1, [0]), (1, [2])])], [], [0, 0]),
  (0, 6, 446, 0, 0, 0, [([9], [(1, [0]), (1, [2])]), ([9], [(1, [0]), (1, [1])])], [], [1, 1]),
  (0, 31, 0, 0, 0, 0, [], [], []),
  (0, 5, 445, 1, 0, 0, [], [], []),
  (0, 7, 0, 0, 0, 0, [([], [(1, [0])])], [], []),
  (0, 3, 19, 0, (-9999), 9999, [([19], [(1, [0]), (1, [1])]), ([21], [(1, [0]), (1, [11]), (1, [3]), (1, [13]), (1, [2])])], [], []),
  (2, 6, 444, 0, 0, 0, [([], [(1, [0]), (1, [3])]), ([], [(1, [0]), (1, [3])])], [], [0, 0]),
  (0, 6, 446, 0, 0, 0, [([9], [(1, [0]), (1, [2])]), ([9], [(1, [0]), (1, [1])])], [], [1, 1]),
  (0, 31, 0, 0, 0, 0, [], [], []),
  (0, 5, 444, 1, 0, 0, [], [], []),
  (0, 5, 445, 1, 0, 0, [], [], []),
  (0, 7, 0, 0, 0, 0, [([], [(1, [0])])], [], []),
  (0, 3, 19, 0, (-9999), 9999, [([19], [(1, [0]), (1, [1])]), ([21], [(1, [0]), (1, [11]), (1, [3]), (1, [13]), (1, [2])])], [], []),
  (2, 6, 444, 0, 0, 0, [([], [(1, [0]), (1, [2])]), ([], [(1, [0]), (1, [2])])], [], [0, 0]),
  (0, 6, 446, 0, 0, 0, [([9], [(1, [0]), (1, [2])]), ([9], [(1, [0]), (1, [1])])], [], [1, 1]),
  (0, 31, 0, 0, 0, 0, [], [], []),
  (0, 5, 445, 1, 0, 0, [], [], []),
  (0, 7, 0, 0, 0, 0, [([], [(1, [0])])], [], []),
  (0, 3, 19, 0, (-9999), 9999, [([19], [(1, [0]), (1, [1])]), ([21], [(1, [0]), (1, [11]), (1, [3]), (1, [13]), (1, [2])])], [], []),
  (2, 6, 444, 0, 0, 0, [([], [(1, [0]), (1, [5])]), ([], [(1, [0]), (1, [5])])], [], [0, 0]),
  (0, 6, 446, 0, 0, 0, [([9], [(1, [0]), (1, [2])]), ([9], [(1, [0]), (1, [1])])], [], [1, 1]),
  (0, 31, 0, 0, 0, 0, [], [], []),
  (0, 5, 443, 1, 0, 0, [], [], []),
  (0, 4, 191, 7, 0, 0, [], [], []),
  (0, 5, 444, 0, 0, 0, [], [], []),
  (0, 5, 444, 1, 0, 0, [], [], []),
  (0, 5, 445, 1, 0, 0, [], [], []),
  (0, 7, 0, 0, 0, 0, [([], [(1, [0])])], [], []),
  (0, 3, 19, 0, (-9999), 9999, [([19], [(1, [0]), (1, [1])]), ([21], [(1, [0]), (1, [11]), (1, [3]), (1, [13]), (1, [2])])], [], []),
  (2, 6, 444, 0, 0, 0, [([], [(1, [0]), (1, [2])]), ([], [(1, [0]), (1, [2])])], [], [0, 0]),
  (0, 6, 446, 0, 0, 0, [([9], [(1, [0]), (1, [2])]), ([9], [(1, [0]), (1, [1])])], [], [1, 1]),
  (0, 31, 0, 0, 0, 0, [], [], []),
  (0, 5, 445, 1, 0, 0, [], [], []),
  (0, 7, 0, 0, 0, 0, [([], [(1, [0])])], [], []),
  (0, 3, 19, 0, (-9999), 9999, [([19], [(1, [0]), (1, [1])]), ([21], [(1, [0]), (1, [11]), (1, [3]), (1, [13]), (1, [2])])], [], []),
  (2, 6, 444, 0, 0, 0, [([], [(1, [0]), (1, [3])]), ([], [(1, [0]), (1, [3])])], [], [0, 0]),
  (0, 6, 446, 0, 0, 0, [([9], [(1, [0]), (1, [2])]), ([9], [(1, [0]), (1, [1])])], [], [1, 1]),
  (0, 31, 0, 0, 0, 0, [], [], []),
  (0, 5, 444, 1, 0, 0, [], [], []),
  (0, 5, 445, 1, 0, 0, [], [], []),
  (0, 7, 0, 0, 0, 0, [([], [(1, [0])])], [], []),
  (0, 3, 19, 0, (-9999), 9999, [([19], [(1, [0]), (1, [1])]), ([21], [(1, [0]), (1, [11]), (1, [3]), (1, [13]), (1, [2])])], [], []),
  (2, 6, 444, 0, 0, 0, [([], [(1, [0]), (1, [2])]), ([], [(1, [0]), (1, [2])])], [], [0, 0]),
  (0, 6, 446, 0, 0, 0, [([9], [(1, [0]), (1, [2])]), ([9], [(1, [0]), (1, [1])])], [], [1, 1]),
  (0, 31, 0, 0, 0, 0, [], [], []),
  (0, 5, 445, 1, 0, 0, [], [], []),
  (0, 7, 0, 0, 0, 0, [([], [(1, [0])])], [], []),
  (0, 3, 19, 0, (-9999), 9999, [([19], [(1, [0]), (1, [1])]), ([21], [(1, [0]), (1, [11]), (1, [3]), (1, [13]), (1, [2])])], [], []),
  (2, 6, 444, 0, 0, 0, [([], [(1, [0]), (1, [4])]), ([], [(1, [0]), (1, [4])])], [], [0, 0]),
  (0, 6, 446, 0, 0, 0, [([9], [(1, [0]), (1, [2])]), ([9], [(1, [0]), (1, [1])])], [], [1, 1]),
  (0, 31, 0, 0, 0, 0, [], [], []),
  (0, 4, 191, 7, 0, 0, [], [], []),
  (0, 5, 444, 0, 0, 0, [], [], []),
  (0, 5, 444, 1, 0, 0, [], [], []),
  (0, 5, 445, 1, 0, 0, [], [], []),
  (0, 7, 0, 0, 0, 0, [([], [(1, [0])])], [], []),
  (0, 3, 19, 0, (-9999), 9999, [([19], [(1, [0]), (1, [1])]), ([21], [(1, [0]), (1, [11]), (1, [3]), (1, [13]), (1, [2])])], [], []),
  (2, 6, 444, 0, 0, 0, [([], [(1, [0]), (1, [2])]), ([], [(1, [0]), (1, [2])])], [], [0, 0]),
  (0, 6, 446, 0, 0, 0, [([9], [(1, [0]), (1, [2])]), ([9], [(1, [0]), (1, [1])])], [], [1, 1]),
  (0, 31, 0, 0, 0, 0, [], [], []),
  (0, 5, 445, 1, 0, 0, [], [], []),
  (0, 7, 0, 0, 0, 0, [([], [(1, [0])])], [], []),
  (0, 3, 19, 0, (-9999), 9999, [([19], [(1, [0]), (1, [1])]), ([21], [(1, [0]), (1, [11]), (1, [3]), (1, [13]), (1, [2])])], [], []),
  (2, 6, 444, 0, 0, 0, [([], [(1, [0]), (1, [3])]), ([], [(1, [0]), (1, [3])])], [], [0, 0]),
  (0, 6, 446, 0, 0, 0, [([9], [(1, [0]), (1, [2])]), ([9], [(1, [0]), (1, [1])])], [], [1, 1]),
  (0, 31, 0, 0, 0, 0, [], [], []),
  (0, 5, 444, 1, 0, 0, [], [], []),
  (0, 5, 445, 1, 0, 0, [], [], []),
  (0, 7, 0, 0, 0, 0, [([], [(1, [0])])], [], []),
  (0, 3, 19, 0, (-9999), 9999, [([19], [(1, [0]), (1, [1])]), ([21], [(1, [0]), (1, [11]), (1, [3]), (1, [13]), (1, [2])])], [], []),
  (2, 6, 444, 0, 0, 0, [([], [(1, [0]), (1, [2])]), ([], [(1, [0]), (1, [2])])], [], [0, 0]),
  (0, 6, 446, 0, 0, 0, [([9], [(1, [0]), (1, [2])]), ([9], [(1, [0]), (1, [1])])], [], [1, 1]),
  (0, 31, 0, 0, 0, 0, [], [], []),
  (0, 5, 445, 1, 0, 0, [], [], []),
  (0, 7, 0, 0, 0, 0, [([], [(1, [0])])], [], []),
  (0, 3, 19, 0, (-9999), 9999, [([19], [(1, [0]), (1, [1])]), ([21], [(1, [0]), (1, [11]), (1, [3]), (1, [13]), (1, [2])])], [], []),
  (2, 6, 444, 0, 0, 0, [([], [(1, [0]), (1, [6])]), ([], [(1, [0]), (1, [6])])], [], [0, 0]),
  (0, 6, 446, 0, 0, 0, [([9], [(1, [0]), (1, [2])]), ([9], [(1, [0]), (1, [1])])], [], [1, 1]),
  (0, 31, 0, 0, 0, 0, [], [], []),
  (0, 4, 194, 3, 0, 0, [], [], []),
  (0, 5, 443, 0, 0, 0, [], [], []),
  (0, 3, 19, 0, (-9999), 9999, [([19], [(1, [0]), (1, [1])]), ([16, 17, 18, 19, 20, 21], [(1, [13]), (1, [14])])], [], []),
  (2, 6, 444, 0, 0, 0, [([], [(1, [0]), (1, [1])]), ([], [(1, [0]), (1, [1])])], [], [0, 0]),
  (0, 6, 446, 0, 0, 0, [([9], [(1, [0]), (1, [2])]), ([9], [(1, [0]), (1, [1])])], [], [1, 1]),
  (0, 31, 0, 0, 0, 0, [], [], []),
  (0, 5, 443, 1, 0, 0, [], [], []),
  (0, 3, 19, 0, (-9999), 9999, [([19], [(1, [0]), (1, [1])]), ([16, 17, 18, 19, 20, 21, 22], [(1, [15]), (1, [17])])], [], []),
  (2, 6, 444, 0, 0, 0, [([], [(1, [0]), (1, [1])]), ([], [(1, [0]), (1, [1])])], [], [0, 0]),
  (0, 6, 446, 0, 0, 0, [([9], [(1, [0]), (1, [2])]), ([9], [(1, [0]), (1, [1])])], [], [1, 1]),
  (0, 31, 0, 0, 0, 0, [], [], []),
  (0, 4, 191, 7, 0, 0, [], [], []),
  (0, 5, 444, 0, 0, 0, [], [], []),
  (0, 3, 19, 0, (-9999), 9999, [([19], [(1, [0]), (1, [1])]), ([16, 17, 18, 19, 20, 21, 22], [(1, [15]), (1, [18])])], [], []),
  (2, 6, 444, 0, 0, 0, [([], [(1, [0]), (1, [1])]), ([], [(1, [0]), (1, [1])])], [], [0, 0]),
  (0, 6, 446, 0, 0, 0, [([9], [(1, [0]), (1, [2])]), ([9], [(1, [0]), (1, [1])])], [], [1, 1]),
  (0, 31, 0, 0, 0, 0, [], [], []),
  (0, 5, 444, 1, 0, 0, [], [], []),
  (0, 3, 19, 0, (-9999), 9999, [([19], [(1, [0]), (1, [1])]), ([16, 17, 18, 19, 20, 21, 22, 23], [(1, [17]), (1, [21])])], [], []),
  (2, 6, 444, 0, 0, 0, [([], [(1, [0]), (1, [1])]), ([], [(1, [0]), (1, [1])])], [], [0, 0]),
  (0, 6, 446, 0, 0, 0, [([9], [(1, [0]), (1, [2])]), ([9], [(1, [0]), (1, [1])])], [], [1, 1]),
  (0, 31, 0, 0, 0, 0, [], [], []),
  (0, 5, 445, 1, 0, 0, [], [], []),
  (0, 7, 0, 0, 0, 0, [([], [(1, [0])])], [], []),
  (0, 3, 19, 0, (-9999), 9999, [([19], [(1, [0]), (1, [1])]), ([21], [(1, [0]), (1, [11]), (1, [3]), (1, [13]), (1, [2])])], [], []),
  (2, 6, 444, 0, 0, 0, [([17, 18], [(1, [0]), (1, [12]), (1, [11]), (1, [1]), (1, [3])]), ([], [(1, [0]), (1, [9]), (1, [1]), (1, [11])])], [], [1, 1]),
  (0, 6, 446, 0, 0, 0, [([9], [(1, [0]), (1, [2])]), ([9], [(1, [0]), (1, [1])])], [], [1, 1]),
  (0, 31, 0, 0, 0, 0, [], [], []),
  (48, 4, 194, 0, 0, 0, [], [], []),
  (0, 4, 194, 1, 0, 0, [], [], []),
  (0, 4, 201, 2, 0, 0, [], [], []),
  (0, 5, 445, 0, 0, 0, [], [], []),
  (0, 7, 0, 0, 0, 0, [([], [(1, [0])])], [], []),
  (0, 5, 445, 1, 0, 0, [], [], []),
  (0, 7, 0, 0, 0, 0, [([], [(1, [0])])], [], []),
  (8, 6, 444, 0, 0, 0, [([17], [(1, [0]), (1, [4]), (1, [1])]), ([17], [(1, [0]), (1, [3]), (1, [1])])], [], [1, 1]),
  (0, 6, 445, 0, 0, 0, [([], [(1, [0])]), ([], [(1, [0])])], [], [0, 0]),
  (0, 6, 446, 0, 0, 0, [([], [(1, [0])]), ([], [(1, [0])])], [], [0, 0]),
  (0, 31, 0, 0, 0, 0, [], [], []),
  (11, 4, 194, 0, 0, 0, [], [], []),
  (0, 4, 194, 1, 0, 0, [], [], []),
  (0, 4, 201, 2, 0, 0, [], [], []),
  (0, 5, 445, 0, 0, 0, [], [], []),
  (0, 7, 0, 0, 0, 0, [([], [(1, [0])])], [], []),
  (0, 5, 445, 1, 0, 0, [], [], []),
  (0, 7, 0, 0, 0, 0, [([], [(1, [0])])], [], []),
  (8, 6, 444, 0, 0, 0, [([17], [(1, [0]), (1, [4]), (1, [1])]), ([17], [(1, [0]), (1, [3]), (1, [1])])], [], [1, 1]),
  (0, 6, 445, 0, 0, 0, [([], [(1, [0])]), ([], [(1, [0])])], [], [0, 0]),
  (0, 6, 446, 0, 0, 0, [([], [(1, [0])]), ([], [(1, [0])])], [], [0, 0]),
  (0, 31, 0, 0, 0, 0, [], [], []),
  (8, 4, 194, 0, 0, 0, [], [], []),
  (0, 4, 194, 1, 0, 0, [], [], []),
  (0, 4, 201, 2, 0, 0, [], [], []),
  (0, 4, 201, 0, 0, 0, [], [], []),
  (0, 5, 445, 0, 0, 0, [], [], [])]
set_option maxRecDepth 100000 in
noncomputable def sz_hd389_0_3 : List sy_Hn := [(0, 7, 0, 0, 0, 0, [([], [(1, [0])])], [], []),
  (0, 5, 445, 1, 0, 0, [], [], []),
  (0, 7, 0, 0, 0, 0, [([], [(1, [0])])], [], []),
  (8, 6, 444, 0, 0, 0, [([20], [(1, [0]), (1, [4]), (1, [1])]), ([20], [(1, [0]), (1, [3]), (1, [1])])], [], [1, 1]),
  (0, 6, 445, 0, 0, 0, [([], [(1, [0])]), ([], [(1, [0])])], [], [0, 0]),
  (0, 6, 446, 0, 0, 0, [([], [(1, [0])]), ([], [(1, [0])])], [], [0, 0]),
  (0, 31, 0, 0, 0, 0, [], [], []),
  (32, 4, 194, 0, 0, 0, [], [], []),
  (0, 4, 194, 1, 0, 0, [], [], []),
  (0, 4, 201, 2, 0, 0, [], [], []),
  (0, 4, 201, 0, 0, 0, [], [], []),
  (0, 5, 445, 0, 0, 0, [], [], []),
  (0, 7, 0, 0, 0, 0, [([], [(1, [0])])], [], []),
  (0, 5, 445, 1, 0, 0, [], [], []),
  (0, 7, 0, 0, 0, 0, [([], [(1, [0])])], [], []),
  (8, 6, 444, 0, 0, 0, [([19], [(1, [0]), (1, [4]), (1, [1])]), ([19], [(1, [0]), (1, [3]), (1, [1])])], [], [1, 1]),
  (0, 6, 445, 0, 0, 0, [([], [(1, [0])]), ([], [(1, [0])])], [], [0, 0]),
  (0, 6, 446, 0, 0, 0, [([], [(1, [0])]), ([], [(1, [0])])], [], [0, 0]),
  (0, 31, 0, 0, 0, 0, [], [], []),
  (48, 4, 194, 0, 0, 0, [], [], []),
  (0, 4, 194, 1, 0, 0, [], [], []),
  (0, 4, 201, 2, 0, 0, [], [], []),
  (0, 5, 445, 0, 0, 0, [], [], []),
  (0, 7, 0, 0, 0, 0, [([], [(1, [0])])], [], []),
  (0, 5, 445, 1, 0, 0, [], [], []),
  (0, 7, 0, 0, 0, 0, [([], [(1, [0])])], [], []),
  (8, 6, 444, 0, 0, 0, [([17], [(1, [0]), (1, [4]), (1, [1])]), ([17], [(1, [0]), (1, [3]), (1, [1])])], [], [1, 1]),
  (0, 6, 445, 0, 0, 0, [([], [(1, [0])]), ([], [(1, [0])])], [], [0, 0]),
  (0, 6, 446, 0, 0, 0, [([], [(1, [0])]), ([], [(1, [0])])], [], [0, 0]),
  (0, 31, 0, 0, 0, 0, [], [], []),
  (11, 4, 194, 0, 0, 0, [], [], []),
  (0, 4, 194, 1, 0, 0, [], [], []),
  (0, 4, 201, 2, 0, 0, [], [], []),
  (0, 5, 445, 0, 0, 0, [], [], []),
  (0, 7, 0, 0, 0, 0, [([], [(1, [0])])], [], []),
  (0, 5, 445, 1, 0, 0, [], [], []),
  (0, 7, 0, 0, 0, 0, [([], [(1, [0])])], [], []),
  (8, 6, 444, 0, 0, 0, [([17], [(1, [0]), (1, [4]), (1, [1])]), ([17], [(1, [0]), (1, [3]), (1, [1])])], [], [1, 1]),
  (0, 6, 445, 0, 0, 0, [([], [(1, [0])]), ([], [(1, [0])])], [], [0, 0]),
  (0, 6, 446, 0, 0, 0, [([], [(1, [0])]), ([], [(1, [0])])], [], [0, 0]),
  (0, 31, 0, 0, 0, 0, [], [], []),
  (8, 4, 194, 0, 0, 0, [], [], []),
  (0, 4, 194, 1, 0, 0, [], [], []),
  (0, 4, 201, 2, 0, 0, [], [], []),
  (0, 4, 201, 0, 0, 0, [], [], []),
  (0, 5, 445, 0, 0, 0, [], [], []),
  (0, 7, 0, 0, 0, 0, [([], [(1, [0])])], [], []),
  (0, 5, 445, 1, 0, 0, [], [], []),
  (0, 7, 0, 0, 0, 0, [([], [(1, [0])])], [], []),
  (8, 6, 444, 0, 0, 0, [([20], [(1, [0]), (1, [4]), (1, [1])]), ([20], [(1, [0]), (1, [3]), (1, [1])])], [], [1, 1]),
  (0, 6, 445, 0, 0, 0, [([], [(1, [0])]), ([], [(1, [0])])], [], [0, 0]),
  (0, 6, 446, 0, 0, 0, [([], [(1, [0])]), ([], [(1, [0])])], [], [0, 0]),
  (0, 31, 0, 0, 0, 0, [], [], [])]
noncomputable def sz_hd389_0 : List sy_Hn := sz_hd389_0_0 ++ (sz_hd389_0_1 ++ (sz_hd389_0_2 ++ (sz_hd389_0_3)))
set_option maxRecDepth 100000 in
theorem sz_sd389_0 : sy_seg sz_E (pv_T (sz_own true) sz_T) sz_RU [sz_cd85, sz_cd86] sz_cd389 sz_ud389 ri_m_X2_relayEnds 1354 none sz_hd389_0 = true := by decide +kernel
theorem sz_okd389 (xs : Nat → Value) (L : Nat) : sy_Cok (sz_env xs L) (pv_T (sz_own true) sz_T) sz_RU sz_cd389 := sy_chk_ok (CT := [sz_cd85, sz_cd86]) (CU := sz_ud389) (M := ri_m_X2_relayEnds) (List.forall_mem_cons.mpr ⟨sz_okd85 xs L, List.forall_mem_cons.mpr ⟨sz_okd86 xs L, fun _ h => absurd h List.not_mem_nil⟩⟩) rfl rfl ⟨_, _, sz_sd389_0⟩ (fun _ h => absurd h List.not_mem_nil)

/-! X2_balance  -/
set_option maxRecDepth 100000 in
noncomputable def sz_cd390 : sy_Ct := (173, 2, 47, [(3, .inr 191, .inl 0)], ([], []), [], [], [(191, 8, 8)], [(.inl none, 0, 0, ([], []), [], [])])
set_option maxRecDepth 100000 in
noncomputable def sz_ud390 : List sy_Cut := []
set_option maxRecDepth 100000 in
noncomputable def sz_hd390_0 : List sy_Hn := [(52, 20, 0, 0, 0, 0, [], [], []),
  (0, 31, 0, 0, 0, 0, [], [], [])]
set_option maxRecDepth 100000 in
theorem sz_sd390_0 : sy_seg sz_E (pv_T (sz_own true) sz_T) sz_RU [sz_cd379] sz_cd390 sz_ud390 ri_m_X2_balance 60 none sz_hd390_0 = true := by decide +kernel
theorem sz_okd390 (xs : Nat → Value) (L : Nat) : sy_Cok (sz_env xs L) (pv_T (sz_own true) sz_T) sz_RU sz_cd390 := sy_chk_ok (CT := [sz_cd379]) (CU := sz_ud390) (M := ri_m_X2_balance) (List.forall_mem_cons.mpr ⟨sz_okd379 xs L, fun _ h => absurd h List.not_mem_nil⟩) rfl rfl ⟨_, _, sz_sd390_0⟩ (fun _ h => absurd h List.not_mem_nil)

/-! X0_drive  -/
set_option maxRecDepth 100000 in
noncomputable def sz_cd391 : sy_Ct := (223, 3, 75, [(3, .inr 171, .inl 0), (0, .inl 1, .inl 0)], ([], []), [], [], [(175, 2, 2), (176, 0, 239), (177, 1, 1), (191, 5, 5), (191, 7, 8), (191, 12, 13), (191, 17, 18), (194, 3, 3), (201, 3, 8)], [(.inl none, 0, 0, ([], []), [], [])])
set_option maxRecDepth 100000 in
noncomputable def sz_ud391 : List sy_Cut := [(17, [(0, (3, .inr 171, .inl 0)), (1, (0, .inl 1, .inl 0)), (2, (3, .inr 191, .inl 0)), (3, (0, .inr 0, .inl 0))], ([((-1), 3)], []), [], [], [(4, [])]), (47, [(0, (3, .inr 171, .inl 0)), (1, (0, .inl 1, .inl 0)), (2, (3, .inr 191, .inl 0)), (3, (0, .inr 0, .inl 0))], ([((-1), (-1))], []), [], [], [(3, [])]), (63, [(0, (3, .inr 171, .inl 0)), (1, (0, .inl 1, .inl 0)), (2, (3, .inr 191, .inl 0)), (3, (0, .inr 0, .inl 0))], ([((-1), 3)], []), [], [], [(2, [])]), (65, [(0, (3, .inr 171, .inl 0)), (1, (0, .inl 1, .inl 0)), (2, (3, .inr 191, .inl 0)), (3, (0, .inr 0, .inl 0))], ([((-1), 3)], []), [], [], [(1, [])]), (78, [(0, (3, .inr 171, .inl 0)), (1, (0, .inl 1, .inl 0)), (2, (3, .inr 191, .inl 0)), (3, (0, .inr 0, .inl 0))], ([((-1), 3)], []), [], [], [(0, [])])]
set_option maxRecDepth 100000 in
noncomputable def sz_hd391_0 : List sy_Hn := [(16, 20, 1, 0, 0, 0, [], [], []),
  (0, 30, 0, 0, 0, 0, [([], [(1, [0])]), ([], [])], [], [])]
set_option maxRecDepth 100000 in
theorem sz_sd391_0 : sy_seg sz_E (pv_T (sz_own true) sz_T) sz_RU [sz_cd356, sz_cd385, sz_cd388, sz_cd389, sz_cd390] sz_cd391 sz_ud391 ri_m_X0_drive 25 none sz_hd391_0 = true := by decide +kernel
set_option maxRecDepth 100000 in
noncomputable def sz_hd391_1_0 : List sy_Hn := [(15, 1, 0, 0, 0, 0, [], [], []),
  (26, 6, 444, 0, 0, 0, [([], [(1, [0]), (1, [2])]), ([], [(1, [0]), (1, [1])])], [], [1, 1]),
  (0, 30, 0, 0, 0, 0, [([], [(1, [0])]), ([], [(1, [0])])], [], []),
  (7, 5, 442, 0, 0, 0, [], [], []),
  (0, 6, 444, 0, 0, 0, [([], [(1, [0]), (1, [1])]), ([], [(1, [0]), (1, [1])])], [], [0, 0]),
  (0, 30, 0, 0, 0, 0, [([], [(1, [0])]), ([], [(1, [0])])], [], []),
  (0, 6, 444, 0, 0, 0, [([], [(1, [0]), (1, [1])]), ([], [(1, [0])])], [], [1, 1]),
  (0, 30, 0, 0, 0, 0, [([], [(1, [0])]), ([], [(1, [0])])], [], []),
  (7, 5, 442, 0, 0, 0, [], [], []),
  (0, 6, 444, 0, 0, 0, [([], [(1, [0]), (1, [1])]), ([], [(1, [0]), (1, [1])])], [], [0, 0]),
  (0, 30, 0, 0, 0, 0, [([], [(1, [0])]), ([], [(1, [0])])], [], []),
  (0, 6, 444, 0, 0, 0, [([], [(1, [0])]), ([], [(1, [0]), (1, [1])])], [], [1, 1]),
  (0, 30, 0, 0, 0, 0, [([], [(1, [0])]), ([], [(1, [0])])], [], []),
  (0, 1, 0, 0, 1, 0, [], [], []),
  (26, 6, 444, 0, 0, 0, [([], [(1, [0]), (1, [2])]), ([], [(1, [0]), (1, [1])])], [], [1, 1]),
  (0, 30, 0, 0, 0, 0, [([], [(1, [0])]), ([], [(1, [0])])], [], []),
  (7, 5, 442, 0, 0, 0, [], [], []),
  (0, 6, 444, 0, 0, 0, [([], [(1, [0]), (1, [1])]), ([], [(1, [0]), (1, [1])])], [], [0, 0]),
  (0, 30, 0, 0, 0, 0, [([], [(1, [0])]), ([], [(1, [0])])], [], []),
  (0, 6, 444, 0, 0, 0, [([], [(1, [0]), (1, [1])]), ([], [(1, [0])])], [], [1, 1]),
  (0, 30, 0, 0, 0, 0, [([], [(1, [0])]), ([], [(1, [0])])], [], []),
  (7, 5, 442, 0, 0, 0, [], [], []),
  (0, 6, 444, 0, 0, 0, [([], [(1, [0]), (1, [1])]), ([], [(1, [0]), (1, [1])])], [], [0, 0]),
  (0, 30, 0, 0, 0, 0, [([], [(1, [0])]), ([], [(1, [0])])], [], []),
  (0, 6, 444, 0, 0, 0, [([], [(1, [0])]), ([], [(1, [0]), (1, [1])])], [], [1, 1]),
  (0, 30, 0, 0, 0, 0, [([], [(1, [0])]), ([], [(1, [0])])], [], []),
  (0, 1, 0, 0, 2, 0, [], [], []),
  (26, 6, 444, 0, 0, 0, [([], [(1, [0]), (1, [2])]), ([], [(1, [0]), (1, [1])])], [], [1, 1]),
  (0, 30, 0, 0, 0, 0, [([], [(1, [0])]), ([], [(1, [0])])], [], []),
  (7, 5, 442, 0, 0, 0, [], [], []),
  (0, 6, 444, 0, 0, 0, [([], [(1, [0]), (1, [1])]), ([], [(1, [0]), (1, [1])])], [], [0, 0]),
  (0, 30, 0, 0, 0, 0, [([], [(1, [0])]), ([], [(1, [0])])], [], []),
  (0, 6, 444, 0, 0, 0, [([], [(1, [0]), (1, [1])]), ([], [(1, [0])])], [], [1, 1]),
  (0, 30, 0, 0, 0, 0, [([], [(1, [0])]), ([], [(1, [0])])], [], []),
  (7, 5, 442, 0, 0, 0, [], [], []),
  (0, 6, 444, 0, 0, 0, [([], [(1, [0]), (1, [1])]), ([], [(1, [0]), (1, [1])])], [], [0, 0]),
  (0, 30, 0, 0, 0, 0, [([], [(1, [0])]), ([], [(1, [0])])], [], []),
  (0, 6, 444, 0, 0, 0, [([], [(1, [0])]), ([], [(1, [0]), (1, [1])])], [], [1, 1]),
  (0, 30, 0, 0, 0, 0, [([], [(1, [0])]), ([], [(1, [0])])], [], []),
  (26, 6, 444, 0, 0, 0, [([], [(1, [0]), (1, [2])]), ([], [(1, [0]), (1, [1])])], [], [1, 1]),
  (0, 30, 0, 0, 0, 0, [([], [(1, [0])]), ([], [(1, [0])])], [], []),
  (7, 5, 442, 0, 0, 0, [], [], []),
  (0, 6, 444, 0, 0, 0, [([], [(1, [0]), (1, [1])]), ([], [(1, [0]), (1, [1])])], [], [0, 0]),
  (0, 30, 0, 0, 0, 0, [([], [(1, [0])]), ([], [(1, [0])])], [], []),
  (0, 6, 444, 0, 0, 0, [([], [(1, [0]), (1, [1])]), ([], [(1, [0])])], [], [1, 1]),
  (0, 30, 0, 0, 0, 0, [([], [(1, [0])]), ([], [(1, [0])])], [], []),
  (7, 5, 442, 0, 0, 0, [], [], []),
  (0, 6, 444, 0, 0, 0, [([], [(1, [0]), (1, [1])]), ([], [(1, [0]), (1, [1])])], [], [0, 0]),
  (0, 30, 0, 0, 0, 0, [([], [(1, [0])]), ([], [(1, [0])])], [], []),
  (0, 6, 444, 0, 0, 0, [([], [(1, [0])]), ([], [(1, [0]), (1, [1])])], [], [1, 1]),
  (0, 30, 0, 0, 0, 0, [([], [(1, [0])]), ([], [(1, [0])])], [], []),
  (3, 20, 2, 0, 0, 0, [], [], []),
  (0, 30, 0, 0, 0, 0, [([], [(1, [0])]), ([], [(1, [0])])], [], []),
  (0, 30, 0, 0, 0, 0, [([], [(1, [0])]), ([], [(1, [0])])], [], []),
  (6, 1, 0, 0, 0, 0, [], [], []),
  (26, 6, 444, 0, 0, 0, [([], [(1, [0]), (1, [2])]), ([], [(1, [0]), (1, [1])])], [], [1, 1]),
  (0, 30, 0, 0, 0, 0, [([], [(1, [0])]), ([], [(1, [0])])], [], []),
  (7, 5, 442, 0, 0, 0, [], [], []),
  (0, 6, 444, 0, 0, 0, [([], [(1, [0]), (1, [1])]), ([], [(1, [0]), (1, [1])])], [], [0, 0]),
  (0, 30, 0, 0, 0, 0, [([], [(1, [0])]), ([], [(1, [0])])], [], []),
  (0, 6, 444, 0, 0, 0, [([], [(1, [0]), (1, [1])]), ([], [(1, [0])])], [], [1, 1]),
  (0, 30, 0, 0, 0, 0, [([], [(1, [0])]), ([], [(1, [0])])], [], []),
  (7, 5, 442, 0, 0, 0, [], [], []),
  (0, 6, 444, 0, 0, 0, [([], [(1, [0]), (1, [1])]), ([], [(1, [0]), (1, [1])])], [], [0, 0]),
  (0, 30, 0, 0, 0, 0, [([], [(1, [0])]), ([], [(1, [0])])], [], []),
  (0, 6, 444, 0, 0, 0, [([], [(1, [0])]), ([], [(1, [0]), (1, [1])])], [], [1, 1]),
  (0, 30, 0, 0, 0, 0, [([], [(1, [0])]), ([], [(1, [0])])], [], []),
  (0, 1, 0, 0, 1, 0, [], [], []),
  (26, 6, 444, 0, 0, 0, [([], [(1, [0]), (1, [2])]), ([], [(1, [0]), (1, [1])])], [], [1, 1]),
  (0, 30, 0, 0, 0, 0, [([], [(1, [0])]), ([], [(1, [0])])], [], []),
  (7, 5, 442, 0, 0, 0, [], [], []),
  (0, 6, 444, 0, 0, 0, [([], [(1, [0]), (1, [1])]), ([], [(1, [0]), (1, [1])])], [], [0, 0]),
  (0, 30, 0, 0, 0, 0, [([], [(1, [0])]), ([], [(1, [0])])], [], []),
  (0, 6, 444, 0, 0, 0, [([], [(1, [0]), (1, [1])]), ([], [(1, [0])])], [], [1, 1]),
  (0, 30, 0, 0, 0, 0, [([], [(1, [0])]), ([], [(1, [0])])], [], []),
  (7, 5, 442, 0, 0, 0, [], [], []),
  (0, 6, 444, 0, 0, 0, [([], [(1, [0]), (1, [1])]), ([], [(1, [0]), (1, [1])])], [], [0, 0]),
  (0, 30, 0, 0, 0, 0, [([], [(1, [0])]), ([], [(1, [0])])], [], []),
  (0, 6, 444, 0, 0, 0, [([], [(1, [0])]), ([], [(1, [0]), (1, [1])])], [], [1, 1]),
  (0, 30, 0, 0, 0, 0, [([], [(1, [0])]), ([], [(1, [0])])], [], []),
  (0, 1, 0, 0, 2, 0, [], [], []),
  (26, 6, 444, 0, 0, 0, [([], [(1, [0]), (1, [2])]), ([], [(1, [0]), (1, [1])])], [], [1, 1]),
  (0, 30, 0, 0, 0, 0, [([], [(1, [0])]), ([], [(1, [0])])], [], []),
  (7, 5, 442, 0, 0, 0, [], [], []),
  (0, 6, 444, 0, 0, 0, [([], [(1, [0]), (1, [1])]), ([], [(1, [0]), (1, [1])])], [], [0, 0]),
  (0, 30, 0, 0, 0, 0, [([], [(1, [0])]), ([], [(1, [0])])], [], []),
  (0, 6, 444, 0, 0, 0, [([], [(1, [0]), (1, [1])]), ([], [(1, [0])])], [], [1, 1]),
  (0, 30, 0, 0, 0, 0, [([], [(1, [0])]), ([], [(1, [0])])], [], []),
  (7, 5, 442, 0, 0, 0, [], [], []),
  (0, 6, 444, 0, 0, 0, [([], [(1, [0]), (1, [1])]), ([], [(1, [0]), (1, [1])])], [], [0, 0]),
  (0, 30, 0, 0, 0, 0, [([], [(1, [0])]), ([], [(1, [0])])], [], []),
  (0, 6, 444, 0, 0, 0, [([], [(1, [0])]), ([], [(1, [0]), (1, [1])])], [], [1, 1]),
  (0, 30, 0, 0, 0, 0, [([], [(1, [0])]), ([], [(1, [0])])], [], []),
  (26, 6, 444, 0, 0, 0, [([], [(1, [0]), (1, [2])]), ([], [(1, [0]), (1, [1])])], [], [1, 1]),
  (0, 30, 0, 0, 0, 0, [([], [(1, [0])]), ([], [(1, [0])])], [], []),
  (7, 5, 442, 0, 0, 0, [], [], []),
  (0, 6, 444, 0, 0, 0, [([], [(1, [0]), (1, [1])]), ([], [(1, [0]), (1, [1])])], [], [0, 0]),
  (0, 30, 0, 0, 0, 0, [([], [(1, [0])]), ([], [(1, [0])])], [], []),
  (0, 6, 444, 0, 0, 0, [([], [(1, [0]), (1, [1])]), ([], [(1, [0])])], [], [1, 1]),
  (0, 30, 0, 0, 0, 0, [([], [(1, [0])]), ([], [(1, [0])])], [], []),
  (7, 5, 442, 0, 0, 0, [], [], []),
  (0, 6, 444, 0, 0, 0, [([], [(1, [0]), (1, [1])]), ([], [(1, [0]), (1, [1])])], [], [0, 0]),
  (0, 30, 0, 0, 0, 0, [([], [(1, [0])]), ([], [(1, [0])])], [], []),
  (0, 6, 444, 0, 0, 0, [([], [(1, [0])]), ([], [(1, [0]), (1, [1])])], [], [1, 1]),
  (0, 30, 0, 0, 0, 0, [([], [(1, [0])]), ([], [(1, [0])])], [], []),
  (0, 30, 0, 0, 0, 0, [([], [(1, [0])]), ([], [(1, [0])])], [], []),
  (6, 1, 0, 0, 0, 0, [], [], []),
  (26, 6, 444, 0, 0, 0, [([], [(1, [0]), (1, [2])]), ([], [(1, [0]), (1, [1])])], [], [1, 1]),
  (0, 30, 0, 0, 0, 0, [([], [(1, [0])]), ([], [(1, [0])])], [], []),
  (7, 5, 442, 0, 0, 0, [], [], []),
  (0, 6, 444, 0, 0, 0, [([], [(1, [0]), (1, [1])]), ([], [(1, [0]), (1, [1])])], [], [0, 0]),
  (0, 30, 0, 0, 0, 0, [([], [(1, [0])]), ([], [(1, [0])])], [], []),
  (0, 6, 444, 0, 0, 0, [([], [(1, [0]), (1, [1])]), ([], [(1, [0])])], [], [1, 1]),
  (0, 30, 0, 0, 0, 0, [([], [(1, [0])]), ([], [(1, [0])])], [], []),
  (7, 5, 442, 0, 0, 0, [], [], []),
  (0, 6, 444, 0, 0, 0, [([], [(1, [0]), (1, [1])]), ([], [(1, [0]), (1, [1])])], [], [0, 0]),
  (0, 30, 0, 0, 0, 0, [([], [(1, [0])]), ([], [(1, [0])])], [], []),
  (0, 6, 444, 0, 0, 0, [([], [(1, [0])]), ([], [(1, [0]), (1, [1])])], [], [1, 1]),
  (0, 30, 0, 0, 0, 0, [([], [(1, [0])]), ([], [(1, [0])])], [], []),
  (0, 1, 0, 0, 1, 0, [], [], []),
  (26, 6, 444, 0, 0, 0, [([], [(1, [0]), (1, [2])]), ([], [(1, [0]), (1, [1])])], [], [1, 1]),
  (0, 30, 0, 0, 0, 0, [([], [(1, [0])]), ([], [(1, [0])])], [], []),
  (7, 5, 442, 0, 0, 0, [], [], []),
  (0, 6, 444, 0, 0, 0, [([], [(1, [0]), (1, [1])]), ([], [(1, [0]), (1, [1])])], [], [0, 0]),
  (0, 30, 0, 0, 0, 0, [([], [(1, [0])]), ([], [(1, [0])])], [], []),
  (0, 6, 444, 0, 0, 0, [([], [(1, [0]), (1, [1])]), ([], [(1, [0])])], [], [1, 1]),
  (0, 30, 0, 0, 0, 0, [([], [(1, [0])]), ([], [(1, [0])])], [], []),
  (7, 5, 442, 0, 0, 0, [], [], []),
  (0, 6, 444, 0, 0, 0, [([], [(1, [0]), (1, [1])]), ([], [(1, [0]), (1, [1])])], [], [0, 0]),
  (0, 30, 0, 0, 0, 0, [([], [(1, [0])]), ([], [(1, [0])])], [], []),
  (0, 6, 444, 0, 0, 0, [([], [(1, [0])]), ([], [(1, [0]), (1, [1])])], [], [1, 1]),
  (0, 30, 0, 0, 0, 0, [([], [(1, [0])]), ([], [(1, [0])])], [], []),
  (0, 1, 0, 0, 2, 0, [], [], []),
  (26, 6, 444, 0, 0, 0, [([], [(1, [0]), (1, [2])]), ([], [(1, [0]), (1, [1])])], [], [1, 1]),
  (0, 30, 0, 0, 0, 0, [([], [(1, [0])]), ([], [(1, [0])])], [], []),
  (7, 5, 442, 0, 0, 0, [], [], []),
  (0, 6, 444, 0, 0, 0, [([], [(1, [0]), (1, [1])]), ([], [(1, [0]), (1, [1])])], [], [0, 0]),
  (0, 30, 0, 0, 0, 0, [([], [(1, [0])]), ([], [(1, [0])])], [], []),
  (0, 6, 444, 0, 0, 0, [([], [(1, [0]), (1, [1])]), ([], [(1, [0])])], [], [1, 1]),
  (0, 30, 0, 0, 0, 0, [([], [(1, [0])]), ([], [(1, [0])])], [], []),
  (7, 5, 442, 0, 0, 0, [], [], []),
  (0, 6, 444, 0, 0, 0, [([], [(1, [0]), (1, [1])]), ([], [(1, [0]), (1, [1])])], [], [0, 0]),
  (0, 30, 0, 0, 0, 0, [([], [(1, [0])]), ([], [(1, [0])])], [], []),
  (0, 6, 444, 0, 0, 0, [([], [(1, [0])]), ([], [(1, [0]), (1, [1])])], [], [1, 1]),
  (0, 30, 0, 0, 0, 0, [([], [(1, [0])]), ([], [(1, [0])])], [], []),
  (26, 6, 444, 0, 0, 0, [([], [(1, [0]), (1, [2])]), ([], [(1, [0]), (1, [1])])], [], [1, 1]),
  (0, 30, 0, 0, 0, 0, [([], [(1, [0])]), ([], [(1, [0])])], [], []),
  (7, 5, 442, 0, 0, 0, [], [], []),
  (0, 6, 444, 0, 0, 0, [([], [(1, [0]), (1, [1])]), ([], [(1, [0]), (1, [1])])], [], [0, 0]),
  (0, 30, 0, 0, 0, 0, [([], [(1, [0])]), ([], [(1, [0])])], [], [])]
set_option maxRecDepth 100000 in
noncomputable def sz_hd391_1_1 : List sy_Hn := [(0, 6, 444, 0, 0, 0, [([], [(1, [0]), (1, [1])]), ([], [(1, [0])])], [], [1, 1]),
  (0, 30, 0, 0, 0, 0, [([], [(1, [0])]), ([], [(1, [0])])], [], []),
  (7, 5, 442, 0, 0, 0, [], [], []),
  (0, 6, 444, 0, 0, 0, [([], [(1, [0]), (1, [1])]), ([], [(1, [0]), (1, [1])])], [], [0, 0]),
  (0, 30, 0, 0, 0, 0, [([], [(1, [0])]), ([], [(1, [0])])], [], []),
  (0, 6, 444, 0, 0, 0, [([], [(1, [0])]), ([], [(1, [0]), (1, [1])])], [], [1, 1]),
  (0, 30, 0, 0, 0, 0, [([], [(1, [0])]), ([], [(1, [0])])], [], []),
  (12, 1, 0, 0, 0, 0, [], [], []),
  (26, 6, 444, 0, 0, 0, [([], [(1, [0]), (1, [2])]), ([], [(1, [0]), (1, [1])])], [], [1, 1]),
  (0, 30, 0, 0, 0, 0, [([], [(1, [0])]), ([], [(1, [0])])], [], []),
  (7, 5, 442, 0, 0, 0, [], [], []),
  (0, 6, 444, 0, 0, 0, [([], [(1, [0]), (1, [1])]), ([], [(1, [0]), (1, [1])])], [], [0, 0]),
  (0, 30, 0, 0, 0, 0, [([], [(1, [0])]), ([], [(1, [0])])], [], []),
  (0, 6, 444, 0, 0, 0, [([], [(1, [0]), (1, [1])]), ([], [(1, [0])])], [], [1, 1]),
  (0, 30, 0, 0, 0, 0, [([], [(1, [0])]), ([], [(1, [0])])], [], []),
  (7, 5, 442, 0, 0, 0, [], [], []),
  (0, 6, 444, 0, 0, 0, [([], [(1, [0]), (1, [1])]), ([], [(1, [0]), (1, [1])])], [], [0, 0]),
  (0, 30, 0, 0, 0, 0, [([], [(1, [0])]), ([], [(1, [0])])], [], []),
  (0, 6, 444, 0, 0, 0, [([], [(1, [0])]), ([], [(1, [0]), (1, [1])])], [], [1, 1]),
  (0, 30, 0, 0, 0, 0, [([], [(1, [0])]), ([], [(1, [0])])], [], []),
  (0, 1, 0, 0, 1, 0, [], [], []),
  (26, 6, 444, 0, 0, 0, [([], [(1, [0]), (1, [2])]), ([], [(1, [0]), (1, [1])])], [], [1, 1]),
  (0, 30, 0, 0, 0, 0, [([], [(1, [0])]), ([], [(1, [0])])], [], []),
  (7, 5, 442, 0, 0, 0, [], [], []),
  (0, 6, 444, 0, 0, 0, [([], [(1, [0]), (1, [1])]), ([], [(1, [0]), (1, [1])])], [], [0, 0]),
  (0, 30, 0, 0, 0, 0, [([], [(1, [0])]), ([], [(1, [0])])], [], []),
  (0, 6, 444, 0, 0, 0, [([], [(1, [0]), (1, [1])]), ([], [(1, [0])])], [], [1, 1]),
  (0, 30, 0, 0, 0, 0, [([], [(1, [0])]), ([], [(1, [0])])], [], []),
  (7, 5, 442, 0, 0, 0, [], [], []),
  (0, 6, 444, 0, 0, 0, [([], [(1, [0]), (1, [1])]), ([], [(1, [0]), (1, [1])])], [], [0, 0]),
  (0, 30, 0, 0, 0, 0, [([], [(1, [0])]), ([], [(1, [0])])], [], []),
  (0, 6, 444, 0, 0, 0, [([], [(1, [0])]), ([], [(1, [0]), (1, [1])])], [], [1, 1]),
  (0, 30, 0, 0, 0, 0, [([], [(1, [0])]), ([], [(1, [0])])], [], []),
  (0, 1, 0, 0, 2, 0, [], [], []),
  (26, 6, 444, 0, 0, 0, [([], [(1, [0]), (1, [2])]), ([], [(1, [0]), (1, [1])])], [], [1, 1]),
  (0, 30, 0, 0, 0, 0, [([], [(1, [0])]), ([], [(1, [0])])], [], []),
  (7, 5, 442, 0, 0, 0, [], [], []),
  (0, 6, 444, 0, 0, 0, [([], [(1, [0]), (1, [1])]), ([], [(1, [0]), (1, [1])])], [], [0, 0]),
  (0, 30, 0, 0, 0, 0, [([], [(1, [0])]), ([], [(1, [0])])], [], []),
  (0, 6, 444, 0, 0, 0, [([], [(1, [0]), (1, [1])]), ([], [(1, [0])])], [], [1, 1]),
  (0, 30, 0, 0, 0, 0, [([], [(1, [0])]), ([], [(1, [0])])], [], []),
  (7, 5, 442, 0, 0, 0, [], [], []),
  (0, 6, 444, 0, 0, 0, [([], [(1, [0]), (1, [1])]), ([], [(1, [0]), (1, [1])])], [], [0, 0]),
  (0, 30, 0, 0, 0, 0, [([], [(1, [0])]), ([], [(1, [0])])], [], []),
  (0, 6, 444, 0, 0, 0, [([], [(1, [0])]), ([], [(1, [0]), (1, [1])])], [], [1, 1]),
  (0, 30, 0, 0, 0, 0, [([], [(1, [0])]), ([], [(1, [0])])], [], []),
  (26, 6, 444, 0, 0, 0, [([], [(1, [0]), (1, [2])]), ([], [(1, [0]), (1, [1])])], [], [1, 1]),
  (0, 30, 0, 0, 0, 0, [([], [(1, [0])]), ([], [(1, [0])])], [], []),
  (7, 5, 442, 0, 0, 0, [], [], []),
  (0, 6, 444, 0, 0, 0, [([], [(1, [0]), (1, [1])]), ([], [(1, [0]), (1, [1])])], [], [0, 0]),
  (0, 30, 0, 0, 0, 0, [([], [(1, [0])]), ([], [(1, [0])])], [], []),
  (0, 6, 444, 0, 0, 0, [([], [(1, [0]), (1, [1])]), ([], [(1, [0])])], [], [1, 1]),
  (0, 30, 0, 0, 0, 0, [([], [(1, [0])]), ([], [(1, [0])])], [], []),
  (7, 5, 442, 0, 0, 0, [], [], []),
  (0, 6, 444, 0, 0, 0, [([], [(1, [0]), (1, [1])]), ([], [(1, [0]), (1, [1])])], [], [0, 0]),
  (0, 30, 0, 0, 0, 0, [([], [(1, [0])]), ([], [(1, [0])])], [], []),
  (0, 6, 444, 0, 0, 0, [([], [(1, [0])]), ([], [(1, [0]), (1, [1])])], [], [1, 1]),
  (0, 30, 0, 0, 0, 0, [([], [(1, [0])]), ([], [(1, [0])])], [], []),
  (3, 20, 2, 0, 0, 0, [], [], []),
  (0, 30, 0, 0, 0, 0, [([], [(1, [0])]), ([], [(1, [0])])], [], [])]
noncomputable def sz_hd391_1 : List sy_Hn := sz_hd391_1_0 ++ (sz_hd391_1_1)
set_option maxRecDepth 100000 in
theorem sz_sd391_1 : sy_seg sz_E (pv_T (sz_own true) sz_T) sz_RU [sz_cd356, sz_cd385, sz_cd388, sz_cd389, sz_cd390] sz_cd391 sz_ud391 ri_m_X0_drive 1045 (some ((17, [(0, (3, .inr 171, .inl 0)), (1, (0, .inl 1, .inl 0)), (2, (3, .inr 191, .inl 0)), (3, (0, .inr 0, .inl 0))], ([((-1), 3)], []), [], [], [(4, [])]))) sz_hd391_1 = true := by decide +kernel
set_option maxRecDepth 100000 in
noncomputable def sz_hd391_2 : List sy_Hn := [(0, 30, 0, 0, 0, 0, [([], [(1, [0])]), ([], [(1, [0])])], [], []),
  (2, 20, 3, 0, 0, 0, [], [], []),
  (0, 30, 0, 0, 0, 0, [([], [(1, [0])]), ([], [(1, [0])])], [], []),
  (9, 20, 0, 0, 0, 0, [], [], []),
  (0, 30, 0, 0, 0, 0, [([], [(1, [0])]), ([], [(1, [0])])], [], [])]
set_option maxRecDepth 100000 in
theorem sz_sd391_2 : sy_seg sz_E (pv_T (sz_own true) sz_T) sz_RU [sz_cd356, sz_cd385, sz_cd388, sz_cd389, sz_cd390] sz_cd391 sz_ud391 ri_m_X0_drive 29 (some ((47, [(0, (3, .inr 171, .inl 0)), (1, (0, .inl 1, .inl 0)), (2, (3, .inr 191, .inl 0)), (3, (0, .inr 0, .inl 0))], ([((-1), (-1))], []), [], [], [(3, [])]))) sz_hd391_2 = true := by decide +kernel
set_option maxRecDepth 100000 in
noncomputable def sz_hd391_3 : List sy_Hn := [(1, 20, 4, 0, 0, 0, [], [], []),
  (0, 30, 0, 0, 0, 0, [([], [(1, [0])]), ([], [(1, [0])])], [], [])]
set_option maxRecDepth 100000 in
theorem sz_sd391_3 : sy_seg sz_E (pv_T (sz_own true) sz_T) sz_RU [sz_cd356, sz_cd385, sz_cd388, sz_cd389, sz_cd390] sz_cd391 sz_ud391 ri_m_X0_drive 10 (some ((63, [(0, (3, .inr 171, .inl 0)), (1, (0, .inl 1, .inl 0)), (2, (3, .inr 191, .inl 0)), (3, (0, .inr 0, .inl 0))], ([((-1), 3)], []), [], [], [(2, [])]))) sz_hd391_3 = true := by decide +kernel
set_option maxRecDepth 100000 in
noncomputable def sz_hd391_4 : List sy_Hn := [(0, 30, 0, 0, 0, 0, [([], [(1, [0])]), ([], [(1, [0])])], [], []),
  (0, 30, 0, 0, 0, 0, [([], [(1, [0])]), ([], [(1, [0])])], [], []),
  (0, 30, 0, 0, 0, 0, [([], [(1, [0])]), ([], [(1, [0])])], [], []),
  (0, 30, 0, 0, 0, 0, [([], [(1, [0])]), ([], [(1, [0])])], [], []),
  (0, 30, 0, 0, 0, 0, [([], [(1, [0])]), ([], [(1, [0])])], [], [])]
set_option maxRecDepth 100000 in
theorem sz_sd391_4 : sy_seg sz_E (pv_T (sz_own true) sz_T) sz_RU [sz_cd356, sz_cd385, sz_cd388, sz_cd389, sz_cd390] sz_cd391 sz_ud391 ri_m_X0_drive 54 (some ((65, [(0, (3, .inr 171, .inl 0)), (1, (0, .inl 1, .inl 0)), (2, (3, .inr 191, .inl 0)), (3, (0, .inr 0, .inl 0))], ([((-1), 3)], []), [], [], [(1, [])]))) sz_hd391_4 = true := by decide +kernel
set_option maxRecDepth 100000 in
noncomputable def sz_hd391_5 : List sy_Hn := [(0, 31, 0, 0, 0, 0, [], [], []),
  (4, 4, 194, 0, 0, 0, [], [], []),
  (0, 4, 194, 1, 0, 0, [], [], []),
  (0, 5, 442, 0, 0, 0, [], [], []),
  (0, 6, 443, 0, 0, 0, [([], [(1, [0]), (1, [1])]), ([], [(1, [0]), (1, [1])])], [], [0, 0]),
  (0, 31, 0, 0, 0, 0, [], [], []),
  (0, 5, 444, 0, 0, 0, [], [], []),
  (0, 6, 443, 0, 0, 0, [([], [(1, [0]), (1, [1])]), ([], [(1, [0]), (1, [1])])], [], [0, 0]),
  (0, 31, 0, 0, 0, 0, [], [], []),
  (0, 5, 444, 1, 0, 0, [], [], []),
  (0, 6, 443, 0, 0, 0, [([], [(1, [0]), (1, [1])]), ([], [(1, [0]), (1, [1])])], [], [0, 0]),
  (0, 31, 0, 0, 0, 0, [], [], []),
  (0, 6, 443, 0, 0, 0, [([], [(1, [0]), (1, [2])]), ([], [(1, [0]), (1, [1])])], [], [1, 1]),
  (0, 31, 0, 0, 0, 0, [], [], []),
  (0, 31, 0, 0, 0, 0, [], [], []),
  (4, 4, 194, 0, 0, 0, [], [], []),
  (0, 4, 194, 1, 0, 0, [], [], []),
  (0, 5, 442, 0, 0, 0, [], [], []),
  (0, 6, 443, 0, 0, 0, [([], [(1, [0]), (1, [1])]), ([], [(1, [0]), (1, [1])])], [], [0, 0]),
  (0, 31, 0, 0, 0, 0, [], [], []),
  (0, 5, 444, 0, 0, 0, [], [], []),
  (0, 6, 443, 0, 0, 0, [([], [(1, [0]), (1, [1])]), ([], [(1, [0]), (1, [1])])], [], [0, 0]),
  (0, 31, 0, 0, 0, 0, [], [], []),
  (0, 5, 444, 1, 0, 0, [], [], []),
  (0, 6, 443, 0, 0, 0, [([], [(1, [0]), (1, [1])]), ([], [(1, [0]), (1, [1])])], [], [0, 0]),
  (0, 31, 0, 0, 0, 0, [], [], []),
  (0, 6, 443, 0, 0, 0, [([], [(1, [0]), (1, [2])]), ([], [(1, [0]), (1, [1])])], [], [1, 1]),
  (0, 31, 0, 0, 0, 0, [], [], [])]
set_option maxRecDepth 100000 in
theorem sz_sd391_5 : sy_seg sz_E (pv_T (sz_own true) sz_T) sz_RU [sz_cd356, sz_cd385, sz_cd388, sz_cd389, sz_cd390] sz_cd391 sz_ud391 ri_m_X0_drive 83 (some ((78, [(0, (3, .inr 171, .inl 0)), (1, (0, .inl 1, .inl 0)), (2, (3, .inr 191, .inl 0)), (3, (0, .inr 0, .inl 0))], ([((-1), 3)], []), [], [], [(0, [])]))) sz_hd391_5 = true := by decide +kernel
theorem sz_okd391 (xs : Nat → Value) (L : Nat) : sy_Cok (sz_env xs L) (pv_T (sz_own true) sz_T) sz_RU sz_cd391 := sy_chk_ok (CT := [sz_cd356, sz_cd385, sz_cd388, sz_cd389, sz_cd390]) (CU := sz_ud391) (M := ri_m_X0_drive) (List.forall_mem_cons.mpr ⟨sz_okd356 xs L, List.forall_mem_cons.mpr ⟨sz_okd385 xs L, List.forall_mem_cons.mpr ⟨sz_okd388 xs L, List.forall_mem_cons.mpr ⟨sz_okd389 xs L, List.forall_mem_cons.mpr ⟨sz_okd390 xs L, fun _ h => absurd h List.not_mem_nil⟩⟩⟩⟩⟩) rfl rfl ⟨_, _, sz_sd391_0⟩ (List.forall_mem_cons.mpr ⟨⟨_, _, sz_sd391_1⟩, List.forall_mem_cons.mpr ⟨⟨_, _, sz_sd391_2⟩, List.forall_mem_cons.mpr ⟨⟨_, _, sz_sd391_3⟩, List.forall_mem_cons.mpr ⟨⟨_, _, sz_sd391_4⟩, List.forall_mem_cons.mpr ⟨⟨_, _, sz_sd391_5⟩, fun _ h => absurd h List.not_mem_nil⟩⟩⟩⟩⟩)

/-! X0_leastOn  -/
set_option maxRecDepth 100000 in
noncomputable def sz_cd392 : sy_Ct := (224, 0, 0, [(3, .inr 171, .inl 0), (0, .inl 2, .inl 0)], ([], []), [], [], [], [(.inl (some (0, .inr 0, .inl 0)), 0, 0, ([((-1), 3)], []), [], [])])
set_option maxRecDepth 100000 in
noncomputable def sz_ud392 : List sy_Cut := [(4, [(0, (3, .inr 171, .inl 0)), (1, (0, .inl 2, .inl 0)), (2, (0, .inr 0, .inl 0))], ([(3, 4)], []), [], [], [(4, []), ((-1), [0])])]
set_option maxRecDepth 100000 in
noncomputable def sz_hd392_0 : List sy_Hn := [(0, 30, 0, 0, 0, 0, [([], [(1, [0])]), ([], [])], [], [])]
set_option maxRecDepth 100000 in
theorem sz_sd392_0 : sy_seg sz_E (pv_T (sz_own true) sz_T) sz_RU [] sz_cd392 sz_ud392 ri_m_X0_leastOn 11 none sz_hd392_0 = true := by decide +kernel
set_option maxRecDepth 100000 in
noncomputable def sz_hd392_1 : List sy_Hn := [(0, 31, 0, 0, 0, 0, [], [], []),
  (0, 30, 0, 0, 0, 0, [([], [(1, [0])]), ([0], [(1, [0]), (1, [2])])], [], []),
  (0, 30, 0, 0, 0, 0, [([], [(1, [0])]), ([0], [(1, [0]), (1, [2])])], [], []),
  (0, 31, 0, 0, 0, 0, [], [], [])]
set_option maxRecDepth 100000 in
theorem sz_sd392_1 : sy_seg sz_E (pv_T (sz_own true) sz_T) sz_RU [] sz_cd392 sz_ud392 ri_m_X0_leastOn 30 (some ((4, [(0, (3, .inr 171, .inl 0)), (1, (0, .inl 2, .inl 0)), (2, (0, .inr 0, .inl 0))], ([(3, 4)], []), [], [], [(4, []), ((-1), [0])]))) sz_hd392_1 = true := by decide +kernel
theorem sz_okd392 (xs : Nat → Value) (L : Nat) : sy_Cok (sz_env xs L) (pv_T (sz_own true) sz_T) sz_RU sz_cd392 := sy_chk_ok (CT := []) (CU := sz_ud392) (M := ri_m_X0_leastOn) (fun _ h => absurd h List.not_mem_nil) rfl rfl ⟨_, _, sz_sd392_0⟩ (List.forall_mem_cons.mpr ⟨⟨_, _, sz_sd392_1⟩, fun _ h => absurd h List.not_mem_nil⟩)

/-! X0_shutDown  -/
set_option maxRecDepth 100000 in
noncomputable def sz_cd393 : sy_Ct := (221, 3, 64, [(3, .inr 171, .inl 0), (0, .inl 2, .inl 0), (0, .inl 2, .inl 0)], ([], []), [], [], [(175, 2, 2), (176, 0, 239), (203, 5, 5), (203, 12, 13), (203, 16, 16), (214, 0, 0)], [(.inl none, 0, 0, ([], []), [], [])])
set_option maxRecDepth 100000 in
noncomputable def sz_ud393 : List sy_Cut := []
set_option maxRecDepth 100000 in
noncomputable def sz_hd393_0 : List sy_Hn := [(32, 4, 206, 0, 0, 0, [], [], []),
  (0, 4, 206, 1, 0, 0, [], [], []),
  (0, 4, 213, 2, 0, 0, [], [], []),
  (0, 4, 213, 0, 0, 0, [], [], []),
  (0, 6, 450, 0, 0, 0, [([], [(1, [0])]), ([], [(1, [0])])], [], [0, 0]),
  (0, 4, 213, 5, 0, 0, [], [], []),
  (0, 4, 213, 6, 0, 0, [], [], []),
  (0, 6, 451, 0, 0, 0, [([], [(1, [0])]), ([], [(1, [0])])], [], [0, 0]),
  (1, 20, 0, 0, 0, 0, [], [], []),
  (0, 31, 0, 0, 0, 0, [], [], [])]
set_option maxRecDepth 100000 in
theorem sz_sd393_0 : sy_seg sz_E (pv_T (sz_own true) sz_T) sz_RU [sz_cd356] sz_cd393 sz_ud393 ri_m_X0_shutDown 49 none sz_hd393_0 = true := by decide +kernel
theorem sz_okd393 (xs : Nat → Value) (L : Nat) : sy_Cok (sz_env xs L) (pv_T (sz_own true) sz_T) sz_RU sz_cd393 := sy_chk_ok (CT := [sz_cd356]) (CU := sz_ud393) (M := ri_m_X0_shutDown) (List.forall_mem_cons.mpr ⟨sz_okd356 xs L, fun _ h => absurd h List.not_mem_nil⟩) rfl rfl ⟨_, _, sz_sd393_0⟩ (fun _ h => absurd h List.not_mem_nil)

/-! X0_shutDown  -/
set_option maxRecDepth 100000 in
noncomputable def sz_cd394 : sy_Ct := (221, 3, 64, [(3, .inr 171, .inl 0), (0, .inl 2, .inl 0), (0, .inl 1, .inl 0)], ([], []), [], [], [(175, 2, 2), (176, 0, 239), (203, 5, 5), (203, 12, 13), (203, 16, 16), (214, 0, 4)], [(.inl none, 0, 0, ([], []), [], [])])
set_option maxRecDepth 100000 in
noncomputable def sz_ud394 : List sy_Cut := []
set_option maxRecDepth 100000 in
noncomputable def sz_hd394_0 : List sy_Hn := [(36, 4, 206, 0, 0, 0, [], [], []),
  (0, 4, 206, 1, 0, 0, [], [], []),
  (0, 4, 213, 2, 0, 0, [], [], []),
  (0, 4, 213, 0, 0, 0, [], [], []),
  (0, 6, 450, 0, 0, 0, [([], [(1, [0])]), ([], [(1, [0])])], [], [0, 0]),
  (0, 4, 213, 5, 0, 0, [], [], []),
  (0, 4, 213, 6, 0, 0, [], [], []),
  (0, 6, 451, 0, 0, 0, [([], [(1, [0])]), ([], [(1, [0])])], [], [0, 0]),
  (1, 20, 0, 0, 0, 0, [], [], []),
  (0, 31, 0, 0, 0, 0, [], [], []),
  (4, 1, 0, 0, 0, 0, [], [], []),
  (33, 4, 206, 0, 0, 0, [], [], []),
  (0, 4, 206, 1, 0, 0, [], [], []),
  (0, 4, 213, 2, 0, 0, [], [], []),
  (0, 4, 213, 0, 0, 0, [], [], []),
  (0, 6, 450, 0, 0, 0, [([], [(1, [0])]), ([], [(1, [0])])], [], [0, 0]),
  (0, 4, 213, 5, 0, 0, [], [], []),
  (0, 4, 213, 6, 0, 0, [], [], []),
  (0, 6, 451, 0, 0, 0, [([], [(1, [0])]), ([], [(1, [0])])], [], [0, 0]),
  (1, 20, 0, 0, 0, 0, [], [], []),
  (0, 31, 0, 0, 0, 0, [], [], []),
  (25, 4, 206, 0, 0, 0, [], [], []),
  (0, 4, 206, 1, 0, 0, [], [], []),
  (0, 4, 213, 2, 0, 0, [], [], []),
  (0, 4, 213, 0, 0, 0, [], [], []),
  (0, 6, 450, 0, 0, 0, [([], [(1, [0])]), ([], [(1, [0])])], [], [0, 0]),
  (0, 4, 213, 5, 0, 0, [], [], []),
  (0, 4, 213, 6, 0, 0, [], [], []),
  (0, 6, 451, 0, 0, 0, [([], [(1, [0])]), ([], [(1, [0])])], [], [0, 0]),
  (1, 20, 0, 0, 0, 0, [], [], []),
  (0, 31, 0, 0, 0, 0, [], [], []),
  (0, 1, 0, 0, 1, 0, [], [], []),
  (33, 4, 206, 0, 0, 0, [], [], []),
  (0, 4, 206, 1, 0, 0, [], [], []),
  (0, 4, 213, 2, 0, 0, [], [], []),
  (0, 4, 213, 0, 0, 0, [], [], []),
  (0, 6, 450, 0, 0, 0, [([], [(1, [0])]), ([], [(1, [0])])], [], [0, 0]),
  (0, 4, 213, 5, 0, 0, [], [], []),
  (0, 4, 213, 6, 0, 0, [], [], []),
  (0, 6, 451, 0, 0, 0, [([], [(1, [0])]), ([], [(1, [0])])], [], [0, 0]),
  (1, 20, 0, 0, 0, 0, [], [], []),
  (0, 31, 0, 0, 0, 0, [], [], []),
  (25, 4, 206, 0, 0, 0, [], [], []),
  (0, 4, 206, 1, 0, 0, [], [], []),
  (0, 4, 213, 2, 0, 0, [], [], []),
  (0, 4, 213, 0, 0, 0, [], [], []),
  (0, 6, 450, 0, 0, 0, [([], [(1, [0])]), ([], [(1, [0])])], [], [0, 0]),
  (0, 4, 213, 5, 0, 0, [], [], []),
  (0, 4, 213, 6, 0, 0, [], [], []),
  (0, 6, 451, 0, 0, 0, [([], [(1, [0])]), ([], [(1, [0])])], [], [0, 0]),
  (1, 20, 0, 0, 0, 0, [], [], []),
  (0, 31, 0, 0, 0, 0, [], [], []),
  (0, 1, 0, 0, 2, 0, [], [], []),
  (34, 4, 206, 0, 0, 0, [], [], []),
  (0, 4, 206, 1, 0, 0, [], [], []),
  (0, 4, 213, 2, 0, 0, [], [], []),
  (0, 4, 213, 0, 0, 0, [], [], []),
  (0, 6, 450, 0, 0, 0, [([], [(1, [0])]), ([], [(1, [0])])], [], [0, 0]),
  (0, 4, 213, 5, 0, 0, [], [], []),
  (0, 4, 213, 6, 0, 0, [], [], []),
  (0, 6, 451, 0, 0, 0, [([], [(1, [0])]), ([], [(1, [0])])], [], [0, 0]),
  (1, 20, 0, 0, 0, 0, [], [], []),
  (0, 31, 0, 0, 0, 0, [], [], []),
  (33, 4, 206, 0, 0, 0, [], [], []),
  (0, 4, 206, 1, 0, 0, [], [], []),
  (0, 4, 213, 2, 0, 0, [], [], []),
  (0, 4, 213, 0, 0, 0, [], [], []),
  (0, 6, 450, 0, 0, 0, [([], [(1, [0])]), ([], [(1, [0])])], [], [0, 0]),
  (0, 4, 213, 5, 0, 0, [], [], []),
  (0, 4, 213, 6, 0, 0, [], [], []),
  (0, 6, 451, 0, 0, 0, [([], [(1, [0])]), ([], [(1, [0])])], [], [0, 0]),
  (1, 20, 0, 0, 0, 0, [], [], []),
  (0, 31, 0, 0, 0, 0, [], [], []),
  (25, 4, 206, 0, 0, 0, [], [], []),
  (0, 4, 206, 1, 0, 0, [], [], []),
  (0, 4, 213, 2, 0, 0, [], [], []),
  (0, 4, 213, 0, 0, 0, [], [], []),
  (0, 6, 450, 0, 0, 0, [([], [(1, [0])]), ([], [(1, [0])])], [], [0, 0]),
  (0, 4, 213, 5, 0, 0, [], [], []),
  (0, 4, 213, 6, 0, 0, [], [], []),
  (0, 6, 451, 0, 0, 0, [([], [(1, [0])]), ([], [(1, [0])])], [], [0, 0]),
  (1, 20, 0, 0, 0, 0, [], [], []),
  (0, 31, 0, 0, 0, 0, [], [], [])]
set_option maxRecDepth 100000 in
theorem sz_sd394_0 : sy_seg sz_E (pv_T (sz_own true) sz_T) sz_RU [sz_cd356] sz_cd394 sz_ud394 ri_m_X0_shutDown 355 none sz_hd394_0 = true := by decide +kernel
theorem sz_okd394 (xs : Nat → Value) (L : Nat) : sy_Cok (sz_env xs L) (pv_T (sz_own true) sz_T) sz_RU sz_cd394 := sy_chk_ok (CT := [sz_cd356]) (CU := sz_ud394) (M := ri_m_X0_shutDown) (List.forall_mem_cons.mpr ⟨sz_okd356 xs L, fun _ h => absurd h List.not_mem_nil⟩) rfl rfl ⟨_, _, sz_sd394_0⟩ (fun _ h => absurd h List.not_mem_nil)

/-! X0_shutDown  -/
set_option maxRecDepth 100000 in
noncomputable def sz_cd395 : sy_Ct := (221, 3, 64, [(3, .inr 171, .inl 0), (0, .inl 2, .inl 0), (0, .inl 0, .inl 0)], ([], []), [], [], [(175, 2, 2), (176, 0, 239), (203, 5, 5), (203, 12, 13), (203, 16, 16), (214, 0, 0)], [(.inl none, 0, 0, ([], []), [], [])])
set_option maxRecDepth 100000 in
noncomputable def sz_ud395 : List sy_Cut := []
set_option maxRecDepth 100000 in
noncomputable def sz_hd395_0 : List sy_Hn := [(32, 4, 206, 0, 0, 0, [], [], []),
  (0, 4, 206, 1, 0, 0, [], [], []),
  (0, 4, 213, 2, 0, 0, [], [], []),
  (0, 4, 213, 0, 0, 0, [], [], []),
  (0, 6, 450, 0, 0, 0, [([], [(1, [0])]), ([], [(1, [0])])], [], [0, 0]),
  (0, 4, 213, 5, 0, 0, [], [], []),
  (0, 4, 213, 6, 0, 0, [], [], []),
  (0, 6, 451, 0, 0, 0, [([], [(1, [0])]), ([], [(1, [0])])], [], [0, 0]),
  (1, 20, 0, 0, 0, 0, [], [], []),
  (0, 31, 0, 0, 0, 0, [], [], [])]
set_option maxRecDepth 100000 in
theorem sz_sd395_0 : sy_seg sz_E (pv_T (sz_own true) sz_T) sz_RU [sz_cd356] sz_cd395 sz_ud395 ri_m_X0_shutDown 49 none sz_hd395_0 = true := by decide +kernel
theorem sz_okd395 (xs : Nat → Value) (L : Nat) : sy_Cok (sz_env xs L) (pv_T (sz_own true) sz_T) sz_RU sz_cd395 := sy_chk_ok (CT := [sz_cd356]) (CU := sz_ud395) (M := ri_m_X0_shutDown) (List.forall_mem_cons.mpr ⟨sz_okd356 xs L, fun _ h => absurd h List.not_mem_nil⟩) rfl rfl ⟨_, _, sz_sd395_0⟩ (fun _ h => absurd h List.not_mem_nil)

/-! X0_leastOn  -/
set_option maxRecDepth 100000 in
noncomputable def sz_cd396 : sy_Ct := (224, 0, 0, [(3, .inr 171, .inl 0), (0, .inl 3, .inl 0)], ([], []), [], [], [], [(.inl (some (0, .inl (-1), .inl 0)), 0, 0, ([], []), [], [])])
set_option maxRecDepth 100000 in
noncomputable def sz_ud396 : List sy_Cut := [(4, [(0, (3, .inr 171, .inl 0)), (1, (0, .inl 3, .inl 0)), (2, (0, .inr 0, .inl 0))], ([(4, 4)], []), [], [], [(4, []), ((-1), [0])])]
set_option maxRecDepth 100000 in
noncomputable def sz_hd396_0 : List sy_Hn := [(0, 30, 0, 0, 0, 0, [([], [(1, [0])]), ([], [])], [], [])]
set_option maxRecDepth 100000 in
theorem sz_sd396_0 : sy_seg sz_E (pv_T (sz_own true) sz_T) sz_RU [] sz_cd396 sz_ud396 ri_m_X0_leastOn 11 none sz_hd396_0 = true := by decide +kernel
set_option maxRecDepth 100000 in
noncomputable def sz_hd396_1 : List sy_Hn := [(0, 31, 0, 0, 0, 0, [], [], [])]
set_option maxRecDepth 100000 in
theorem sz_sd396_1 : sy_seg sz_E (pv_T (sz_own true) sz_T) sz_RU [] sz_cd396 sz_ud396 ri_m_X0_leastOn 12 (some ((4, [(0, (3, .inr 171, .inl 0)), (1, (0, .inl 3, .inl 0)), (2, (0, .inr 0, .inl 0))], ([(4, 4)], []), [], [], [(4, []), ((-1), [0])]))) sz_hd396_1 = true := by decide +kernel
theorem sz_okd396 (xs : Nat → Value) (L : Nat) : sy_Cok (sz_env xs L) (pv_T (sz_own true) sz_T) sz_RU sz_cd396 := sy_chk_ok (CT := []) (CU := sz_ud396) (M := ri_m_X0_leastOn) (fun _ h => absurd h List.not_mem_nil) rfl rfl ⟨_, _, sz_sd396_0⟩ (List.forall_mem_cons.mpr ⟨⟨_, _, sz_sd396_1⟩, fun _ h => absurd h List.not_mem_nil⟩)

/-! X1_setFor  -/
set_option maxRecDepth 100000 in
noncomputable def sz_cd397 : sy_Ct := (304, 0, 0, [(3, .inr 208, .inl 0), (0, .inr 0, .inl 0), (0, .inr 1, .inl 0)], ([(0, 2), ((-2147483648), 2147483647)], []), [], [], [], [(.inl (some (0, .inr 2, .inl 0)), 0, 0, ([(0, 2), (0, 2), ((-2147483648), 2147483647)], []), [], [])])
set_option maxRecDepth 100000 in
noncomputable def sz_ud397 : List sy_Cut := [(4, [(0, (3, .inr 208, .inl 0)), (1, (0, .inr 0, .inl 0)), (2, (0, .inr 1, .inl 0)), (3, (0, .inr 2, .inl 0)), (4, (0, .inr 3, .inl 0))], ([(1, 3), (0, 2), (0, 2), ((-2147483648), 2147483647)], []), [], [], [(3, []), ((-1), [3])])]
set_option maxRecDepth 100000 in
noncomputable def sz_hd397_0 : List sy_Hn := [(0, 30, 0, 0, 0, 0, [([], [(1, [0])]), ([], [])], [], [])]
set_option maxRecDepth 100000 in
theorem sz_sd397_0 : sy_seg sz_E (pv_T (sz_own true) sz_T) sz_RU [] sz_cd397 sz_ud397 ri_m_X1_setFor 11 none sz_hd397_0 = true := by decide +kernel
set_option maxRecDepth 100000 in
noncomputable def sz_hd397_1 : List sy_Hn := [(0, 31, 0, 0, 0, 0, [], [], []),
  (0, 31, 0, 0, 0, 0, [], [], []),
  (0, 31, 0, 0, 0, 0, [], [], []),
  (0, 31, 0, 0, 0, 0, [], [], []),
  (0, 30, 0, 0, 0, 0, [([6], [(1, [0]), (1, [2])]), ([], [(1, [0]), (1, [1])])], [], []),
  (0, 30, 0, 0, 0, 0, [([6], [(1, [0]), (1, [2])]), ([], [(1, [0]), (1, [1])])], [], [])]
set_option maxRecDepth 100000 in
theorem sz_sd397_1 : sy_seg sz_E (pv_T (sz_own true) sz_T) sz_RU [] sz_cd397 sz_ud397 ri_m_X1_setFor 72 (some ((4, [(0, (3, .inr 208, .inl 0)), (1, (0, .inr 0, .inl 0)), (2, (0, .inr 1, .inl 0)), (3, (0, .inr 2, .inl 0)), (4, (0, .inr 3, .inl 0))], ([(1, 3), (0, 2), (0, 2), ((-2147483648), 2147483647)], []), [], [], [(3, []), ((-1), [3])]))) sz_hd397_1 = true := by decide +kernel
theorem sz_okd397 (xs : Nat → Value) (L : Nat) : sy_Cok (sz_env xs L) (pv_T (sz_own true) sz_T) sz_RU sz_cd397 := sy_chk_ok (CT := []) (CU := sz_ud397) (M := ri_m_X1_setFor) (fun _ h => absurd h List.not_mem_nil) rfl rfl ⟨_, _, sz_sd397_0⟩ (List.forall_mem_cons.mpr ⟨⟨_, _, sz_sd397_1⟩, fun _ h => absurd h List.not_mem_nil⟩)

/-! X2_keepI  -/
set_option maxRecDepth 100000 in
noncomputable def sz_cd398 : sy_Ct := (235, 1, 25, [(3, .inr 203, .inl 0), (1, .inr 0, .inl 0)], ([((-9223372036854775808), 9223372036854775807)], []), [], [], [(203, 8, 8)], [(.inl none, 0, 0, ([((-9223372036854775808), 9223372036854775807)], []), [], [])])
set_option maxRecDepth 100000 in
noncomputable def sz_ud398 : List sy_Cut := []
set_option maxRecDepth 100000 in
noncomputable def sz_hd398_0 : List sy_Hn := [(0, 31, 0, 0, 0, 0, [], [], []),
  (0, 31, 0, 0, 0, 0, [], [], []),
  (0, 31, 0, 0, 0, 0, [], [], [])]
set_option maxRecDepth 100000 in
theorem sz_sd398_0 : sy_seg sz_E (pv_T (sz_own true) sz_T) sz_RU [] sz_cd398 sz_ud398 ri_m_X2_keepI 35 none sz_hd398_0 = true := by decide +kernel
theorem sz_okd398 (xs : Nat → Value) (L : Nat) : sy_Cok (sz_env xs L) (pv_T (sz_own true) sz_T) sz_RU sz_cd398 := sy_chk_ok (CT := []) (CU := sz_ud398) (M := ri_m_X2_keepI) (fun _ h => absurd h List.not_mem_nil) rfl rfl ⟨_, _, sz_sd398_0⟩ (fun _ h => absurd h List.not_mem_nil)

/-! X2_chooseSet  -/
set_option maxRecDepth 100000 in
noncomputable def sz_cd399 : sy_Ct := (276, 2, 47, [(3, .inr 203, .inl 0)], ([], []), [], [], [(203, 8, 8), (203, 11, 11)], [(.inl (some (0, .inr 0, .inl 0)), 0, 0, ([(0, 1)], []), [], [])])
set_option maxRecDepth 100000 in
noncomputable def sz_ud399 : List sy_Cut := []
set_option maxRecDepth 100000 in
noncomputable def sz_hd399_0 : List sy_Hn := [(13, 20, 0, 0, 0, 0, [], [], []),
  (98, 20, 1, 0, 0, 0, [], [], []),
  (0, 31, 0, 0, 0, 0, [], [], []),
  (93, 20, 1, 0, 0, 0, [], [], []),
  (0, 31, 0, 0, 0, 0, [], [], []),
  (0, 31, 0, 0, 0, 0, [], [], [])]
set_option maxRecDepth 100000 in
theorem sz_sd399_0 : sy_seg sz_E (pv_T (sz_own true) sz_T) sz_RU [sz_cd397, sz_cd398] sz_cd399 sz_ud399 ri_m_X2_chooseSet 227 none sz_hd399_0 = true := by decide +kernel
theorem sz_okd399 (xs : Nat → Value) (L : Nat) : sy_Cok (sz_env xs L) (pv_T (sz_own true) sz_T) sz_RU sz_cd399 := sy_chk_ok (CT := [sz_cd397, sz_cd398]) (CU := sz_ud399) (M := ri_m_X2_chooseSet) (List.forall_mem_cons.mpr ⟨sz_okd397 xs L, List.forall_mem_cons.mpr ⟨sz_okd398 xs L, fun _ h => absurd h List.not_mem_nil⟩⟩) rfl rfl ⟨_, _, sz_sd399_0⟩ (fun _ h => absurd h List.not_mem_nil)
