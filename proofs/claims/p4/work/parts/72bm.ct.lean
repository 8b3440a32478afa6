/-! ===== contracts, 38 ===== -/
/-! X11_isGained  -/
set_option maxRecDepth 100000 in
noncomputable def sz_cd276 : sy_Ct := (110, 5, 116, [(3, .inr 244, .inl 0), (0, .inl 0, .inl 0), (1, .inr 0, .inl 0), (1, .inr 1, .inl 0), (1, .inr 2, .inl 0)], ([(0, 9999), (0, 9999), (0, 9999)], []), [], [], [(245, 33, 35), (245, 37, 39), (245, 41, 43), (245, 54, 54)], [(.inl none, 0, 0, ([(0, 9999), (0, 9999), (0, 9999)], []), [], [])])
set_option maxRecDepth 100000 in
noncomputable def sz_ud276 : List sy_Cut := []
set_option maxRecDepth 100000 in
noncomputable def sz_hd276_0 : List sy_Hn := [(69, 1, 5, 0, 0, 0, [], [], []),
  (277, 20, 0, 0, 0, 0, [], [], []),
  (0, 31, 0, 0, 0, 0, [], [], []),
  (0, 1, 5, 0, 1, 0, [], [], []),
  (277, 20, 0, 0, 0, 0, [], [], []),
  (0, 31, 0, 0, 0, 0, [], [], []),
  (277, 20, 0, 0, 0, 0, [], [], []),
  (0, 31, 0, 0, 0, 0, [], [], [])]
set_option maxRecDepth 100000 in
theorem sz_sd276_0 : sy_seg sz_E (pv_T (sz_own false) sz_T) sz_RU [sz_cd275] sz_cd276 sz_ud276 ri_m_X11_isGained 918 none sz_hd276_0 = true := by decide +kernel
theorem sz_okd276 (xs : Nat → Value) (L : Nat) : sy_Cok (sz_env xs L) (pv_T (sz_own false) sz_T) sz_RU sz_cd276 := sy_chk_ok (CT := [sz_cd275]) (CU := sz_ud276) (M := ri_m_X11_isGained) (List.forall_mem_cons.mpr ⟨sz_okd275 xs L, fun _ h => absurd h List.not_mem_nil⟩) rfl rfl ⟨_, _, sz_sd276_0⟩ (fun _ h => absurd h List.not_mem_nil)

/-! X11_makesUp  -/
set_option maxRecDepth 100000 in
noncomputable def sz_cd277 : sy_Ct := (178, 4, 91, [(3, .inr 244, .inl 0), (0, .inl 1, .inl 0), (1, .inr 0, .inl 0), (1, .inr 1, .inl 0)], ([((-9999), 9999), ((-9223372036854775808), 9223372036854775807)], []), [], [], [(245, 131, 131)], [(.inl none, 0, 0, ([((-9999), 9999), ((-9223372036854775808), 9223372036854775807)], []), [], [])])
set_option maxRecDepth 100000 in
noncomputable def sz_ud277 : List sy_Cut := []
set_option maxRecDepth 100000 in
noncomputable def sz_hd277_0 : List sy_Hn := [(63, 1, 4, 0, 0, 0, [], [], []),
  (0, 31, 0, 0, 0, 0, [], [], []),
  (0, 31, 0, 0, 0, 0, [], [], []),
  (0, 31, 0, 0, 0, 0, [], [], []),
  (0, 1, 4, 0, 1, 0, [], [], []),
  (0, 31, 0, 0, 0, 0, [], [], []),
  (0, 31, 0, 0, 0, 0, [], [], []),
  (0, 31, 0, 0, 0, 0, [], [], []),
  (0, 31, 0, 0, 0, 0, [], [], []),
  (0, 31, 0, 0, 0, 0, [], [], []),
  (0, 31, 0, 0, 0, 0, [], [], [])]
set_option maxRecDepth 100000 in
theorem sz_sd277_0 : sy_seg sz_E (pv_T (sz_own false) sz_T) sz_RU [] sz_cd277 sz_ud277 ri_m_X11_makesUp 798 none sz_hd277_0 = true := by decide +kernel
theorem sz_okd277 (xs : Nat → Value) (L : Nat) : sy_Cok (sz_env xs L) (pv_T (sz_own false) sz_T) sz_RU sz_cd277 := sy_chk_ok (CT := []) (CU := sz_ud277) (M := ri_m_X11_makesUp) (fun _ h => absurd h List.not_mem_nil) rfl rfl ⟨_, _, sz_sd277_0⟩ (fun _ h => absurd h List.not_mem_nil)

/-! X11_isGained  -/
set_option maxRecDepth 100000 in
noncomputable def sz_cd278 : sy_Ct := (110, 5, 116, [(3, .inr 244, .inl 0), (0, .inl 1, .inl 0), (1, .inr 0, .inl 0), (1, .inr 1, .inl 0), (1, .inr 2, .inl 0)], ([(0, 9999), (0, 9999), (0, 9999)], []), [], [], [(245, 110, 112), (245, 114, 116), (245, 118, 120), (245, 131, 131)], [(.inl none, 0, 0, ([(0, 9999), (0, 9999), (0, 9999)], []), [], [])])
set_option maxRecDepth 100000 in
noncomputable def sz_ud278 : List sy_Cut := []
set_option maxRecDepth 100000 in
noncomputable def sz_hd278_0 : List sy_Hn := [(69, 1, 5, 0, 0, 0, [], [], []),
  (277, 20, 0, 0, 0, 0, [], [], []),
  (0, 31, 0, 0, 0, 0, [], [], []),
  (0, 1, 5, 0, 1, 0, [], [], []),
  (277, 20, 0, 0, 0, 0, [], [], []),
  (0, 31, 0, 0, 0, 0, [], [], []),
  (277, 20, 0, 0, 0, 0, [], [], []),
  (0, 31, 0, 0, 0, 0, [], [], [])]
set_option maxRecDepth 100000 in
theorem sz_sd278_0 : sy_seg sz_E (pv_T (sz_own false) sz_T) sz_RU [sz_cd277] sz_cd278 sz_ud278 ri_m_X11_isGained 918 none sz_hd278_0 = true := by decide +kernel
theorem sz_okd278 (xs : Nat → Value) (L : Nat) : sy_Cok (sz_env xs L) (pv_T (sz_own false) sz_T) sz_RU sz_cd278 := sy_chk_ok (CT := [sz_cd277]) (CU := sz_ud278) (M := ri_m_X11_isGained) (List.forall_mem_cons.mpr ⟨sz_okd277 xs L, fun _ h => absurd h List.not_mem_nil⟩) rfl rfl ⟨_, _, sz_sd278_0⟩ (fun _ h => absurd h List.not_mem_nil)

/-! X11_makesUp  -/
set_option maxRecDepth 100000 in
noncomputable def sz_cd279 : sy_Ct := (178, 4, 91, [(3, .inr 244, .inl 0), (0, .inl 2, .inl 0), (1, .inr 0, .inl 0), (1, .inr 1, .inl 0)], ([((-9999), 9999), ((-9223372036854775808), 9223372036854775807)], []), [], [], [(245, 208, 208)], [(.inl none, 0, 0, ([((-9999), 9999), ((-9223372036854775808), 9223372036854775807)], []), [], [])])
set_option maxRecDepth 100000 in
noncomputable def sz_ud279 : List sy_Cut := []
set_option maxRecDepth 100000 in
noncomputable def sz_hd279_0 : List sy_Hn := [(63, 1, 4, 0, 0, 0, [], [], []),
  (0, 31, 0, 0, 0, 0, [], [], []),
  (0, 31, 0, 0, 0, 0, [], [], []),
  (0, 31, 0, 0, 0, 0, [], [], []),
  (0, 1, 4, 0, 1, 0, [], [], []),
  (0, 31, 0, 0, 0, 0, [], [], []),
  (0, 31, 0, 0, 0, 0, [], [], []),
  (0, 31, 0, 0, 0, 0, [], [], []),
  (0, 31, 0, 0, 0, 0, [], [], []),
  (0, 31, 0, 0, 0, 0, [], [], []),
  (0, 31, 0, 0, 0, 0, [], [], [])]
set_option maxRecDepth 100000 in
theorem sz_sd279_0 : sy_seg sz_E (pv_T (sz_own false) sz_T) sz_RU [] sz_cd279 sz_ud279 ri_m_X11_makesUp 798 none sz_hd279_0 = true := by decide +kernel
theorem sz_okd279 (xs : Nat → Value) (L : Nat) : sy_Cok (sz_env xs L) (pv_T (sz_own false) sz_T) sz_RU sz_cd279 := sy_chk_ok (CT := []) (CU := sz_ud279) (M := ri_m_X11_makesUp) (fun _ h => absurd h List.not_mem_nil) rfl rfl ⟨_, _, sz_sd279_0⟩ (fun _ h => absurd h List.not_mem_nil)

/-! X11_isGained  -/
set_option maxRecDepth 100000 in
noncomputable def sz_cd280 : sy_Ct := (110, 5, 116, [(3, .inr 244, .inl 0), (0, .inl 2, .inl 0), (1, .inr 0, .inl 0), (1, .inr 1, .inl 0), (1, .inr 2, .inl 0)], ([(0, 9999), (0, 9999), (0, 9999)], []), [], [], [(245, 187, 189), (245, 191, 193), (245, 195, 197), (245, 208, 208)], [(.inl none, 0, 0, ([(0, 9999), (0, 9999), (0, 9999)], []), [], [])])
set_option maxRecDepth 100000 in
noncomputable def sz_ud280 : List sy_Cut := []
set_option maxRecDepth 100000 in
noncomputable def sz_hd280_0 : List sy_Hn := [(69, 1, 5, 0, 0, 0, [], [], []),
  (277, 20, 0, 0, 0, 0, [], [], []),
  (0, 31, 0, 0, 0, 0, [], [], []),
  (0, 1, 5, 0, 1, 0, [], [], []),
  (277, 20, 0, 0, 0, 0, [], [], []),
  (0, 31, 0, 0, 0, 0, [], [], []),
  (277, 20, 0, 0, 0, 0, [], [], []),
  (0, 31, 0, 0, 0, 0, [], [], [])]
set_option maxRecDepth 100000 in
theorem sz_sd280_0 : sy_seg sz_E (pv_T (sz_own false) sz_T) sz_RU [sz_cd279] sz_cd280 sz_ud280 ri_m_X11_isGained 918 none sz_hd280_0 = true := by decide +kernel
theorem sz_okd280 (xs : Nat → Value) (L : Nat) : sy_Cok (sz_env xs L) (pv_T (sz_own false) sz_T) sz_RU sz_cd280 := sy_chk_ok (CT := [sz_cd279]) (CU := sz_ud280) (M := ri_m_X11_isGained) (List.forall_mem_cons.mpr ⟨sz_okd279 xs L, fun _ h => absurd h List.not_mem_nil⟩) rfl rfl ⟨_, _, sz_sd280_0⟩ (fun _ h => absurd h List.not_mem_nil)

/-! X11_makesUp  -/
set_option maxRecDepth 100000 in
noncomputable def sz_cd281 : sy_Ct := (178, 4, 91, [(3, .inr 244, .inl 0), (0, .inl 3, .inl 0), (1, .inr 0, .inl 0), (1, .inr 1, .inl 0)], ([((-9999), 9999), ((-9223372036854775808), 9223372036854775807)], []), [], [], [(245, 285, 285)], [(.inl none, 0, 0, ([((-9999), 9999), ((-9223372036854775808), 9223372036854775807)], []), [], [])])
set_option maxRecDepth 100000 in
noncomputable def sz_ud281 : List sy_Cut := []
set_option maxRecDepth 100000 in
noncomputable def sz_hd281_0 : List sy_Hn := [(63, 1, 4, 0, 0, 0, [], [], []),
  (0, 31, 0, 0, 0, 0, [], [], []),
  (0, 31, 0, 0, 0, 0, [], [], []),
  (0, 31, 0, 0, 0, 0, [], [], []),
  (0, 1, 4, 0, 1, 0, [], [], []),
  (0, 31, 0, 0, 0, 0, [], [], []),
  (0, 31, 0, 0, 0, 0, [], [], []),
  (0, 31, 0, 0, 0, 0, [], [], []),
  (0, 31, 0, 0, 0, 0, [], [], []),
  (0, 31, 0, 0, 0, 0, [], [], []),
  (0, 31, 0, 0, 0, 0, [], [], [])]
set_option maxRecDepth 100000 in
theorem sz_sd281_0 : sy_seg sz_E (pv_T (sz_own false) sz_T) sz_RU [] sz_cd281 sz_ud281 ri_m_X11_makesUp 798 none sz_hd281_0 = true := by decide +kernel
theorem sz_okd281 (xs : Nat → Value) (L : Nat) : sy_Cok (sz_env xs L) (pv_T (sz_own false) sz_T) sz_RU sz_cd281 := sy_chk_ok (CT := []) (CU := sz_ud281) (M := ri_m_X11_makesUp) (fun _ h => absurd h List.not_mem_nil) rfl rfl ⟨_, _, sz_sd281_0⟩ (fun _ h => absurd h List.not_mem_nil)

/-! X11_isGained  -/
set_option maxRecDepth 100000 in
noncomputable def sz_cd282 : sy_Ct := (110, 5, 116, [(3, .inr 244, .inl 0), (0, .inl 3, .inl 0), (1, .inr 0, .inl 0), (1, .inr 1, .inl 0), (1, .inr 2, .inl 0)], ([(0, 9999), (0, 9999), (0, 9999)], []), [], [], [(245, 264, 266), (245, 268, 270), (245, 272, 274), (245, 285, 285)], [(.inl none, 0, 0, ([(0, 9999), (0, 9999), (0, 9999)], []), [], [])])
set_option maxRecDepth 100000 in
noncomputable def sz_ud282 : List sy_Cut := []
set_option maxRecDepth 100000 in
noncomputable def sz_hd282_0 : List sy_Hn := [(69, 1, 5, 0, 0, 0, [], [], []),
  (277, 20, 0, 0, 0, 0, [], [], []),
  (0, 31, 0, 0, 0, 0, [], [], []),
  (0, 1, 5, 0, 1, 0, [], [], []),
  (277, 20, 0, 0, 0, 0, [], [], []),
  (0, 31, 0, 0, 0, 0, [], [], []),
  (277, 20, 0, 0, 0, 0, [], [], []),
  (0, 31, 0, 0, 0, 0, [], [], [])]
set_option maxRecDepth 100000 in
theorem sz_sd282_0 : sy_seg sz_E (pv_T (sz_own false) sz_T) sz_RU [sz_cd281] sz_cd282 sz_ud282 ri_m_X11_isGained 918 none sz_hd282_0 = true := by decide +kernel
theorem sz_okd282 (xs : Nat → Value) (L : Nat) : sy_Cok (sz_env xs L) (pv_T (sz_own false) sz_T) sz_RU sz_cd282 := sy_chk_ok (CT := [sz_cd281]) (CU := sz_ud282) (M := ri_m_X11_isGained) (List.forall_mem_cons.mpr ⟨sz_okd281 xs L, fun _ h => absurd h List.not_mem_nil⟩) rfl rfl ⟨_, _, sz_sd282_0⟩ (fun _ h => absurd h List.not_mem_nil)

/-! X11_gains  -/
set_option maxRecDepth 100000 in
noncomputable def sz_cd283 : sy_Ct := (35, 6, 146, [(3, .inr 244, .inl 0), (0, .inr 0, .inl 0), (0, .inr 1, .inl 0), (0, .inr 2, .inl 0), (0, .inr 3, .inl 0)], ([((-2147483648), 2147483647), ((-2147483648), 2147483647), ((-2147483648), 2147483647), ((-2147483648), 2147483647)], []), [], [], [(244, 0, 0), (245, 33, 35), (245, 37, 39), (245, 41, 43), (245, 54, 54), (245, 110, 112), (245, 114, 116), (245, 118, 120), (245, 131, 131), (245, 187, 189), (245, 191, 193), (245, 195, 197), (245, 208, 208), (245, 264, 266), (245, 268, 270), (245, 272, 274), (245, 285, 285)], [(.inl (some (0, .inr 4, .inl 0)), 0, 0, ([(0, 2), ((-2147483648), 2147483647), ((-2147483648), 2147483647), ((-2147483648), 2147483647), ((-2147483648), 2147483647)], []), [], [])])
set_option maxRecDepth 100000 in
noncomputable def sz_ud283 : List sy_Cut := []
set_option maxRecDepth 100000 in
noncomputable def sz_hd283_0 : List sy_Hn := [(0, 31, 0, 0, 0, 0, [], [], []),
  (0, 31, 0, 0, 0, 0, [], [], []),
  (0, 31, 0, 0, 0, 0, [], [], []),
  (0, 31, 0, 0, 0, 0, [], [], []),
  (0, 31, 0, 0, 0, 0, [], [], []),
  (0, 31, 0, 0, 0, 0, [], [], []),
  (0, 31, 0, 0, 0, 0, [], [], []),
  (0, 31, 0, 0, 0, 0, [], [], []),
  (20, 1, 0, 0, 0, 0, [], [], []),
  (1, 20, 0, 0, 0, 0, [], [], []),
  (0, 31, 0, 0, 0, 0, [], [], []),
  (0, 1, 0, 0, 1, 0, [], [], []),
  (1, 20, 1, 0, 0, 0, [], [], []),
  (0, 31, 0, 0, 0, 0, [], [], []),
  (0, 1, 0, 0, 2, 0, [], [], []),
  (1, 20, 2, 0, 0, 0, [], [], []),
  (0, 31, 0, 0, 0, 0, [], [], []),
  (1, 20, 3, 0, 0, 0, [], [], []),
  (0, 31, 0, 0, 0, 0, [], [], [])]
set_option maxRecDepth 100000 in
theorem sz_sd283_0 : sy_seg sz_E (pv_T (sz_own false) sz_T) sz_RU [sz_cd276, sz_cd278, sz_cd280, sz_cd282] sz_cd283 sz_ud283 ri_m_X11_gains 351 none sz_hd283_0 = true := by decide +kernel
theorem sz_okd283 (xs : Nat → Value) (L : Nat) : sy_Cok (sz_env xs L) (pv_T (sz_own false) sz_T) sz_RU sz_cd283 := sy_chk_ok (CT := [sz_cd276, sz_cd278, sz_cd280, sz_cd282]) (CU := sz_ud283) (M := ri_m_X11_gains) (List.forall_mem_cons.mpr ⟨sz_okd276 xs L, List.forall_mem_cons.mpr ⟨sz_okd278 xs L, List.forall_mem_cons.mpr ⟨sz_okd280 xs L, List.forall_mem_cons.mpr ⟨sz_okd282 xs L, fun _ h => absurd h List.not_mem_nil⟩⟩⟩⟩) rfl rfl ⟨_, _, sz_sd283_0⟩ (fun _ h => absurd h List.not_mem_nil)

/-! X10_load  -/
set_option maxRecDepth 100000 in
noncomputable def sz_cd284 : sy_Ct := (111, 7, 103, [(3, .inr 0, .inl 0), (0, .inr 0, .inl 0), (0, .inr 1, .inl 0)], ([((-2147483648), 2147483647), ((-2147483648), 2147483647)], []), [], [], [(68, 4, 4), (80, 4, 4), (92, 4, 4), (104, 4, 4)], [(.inl (some (0, .inr 2, .inl 0)), 0, 0, ([((-2147483648), 2147483647), ((-2147483648), 2147483647), ((-2147483648), 2147483647)], []), [], []), (.inr 0, 1, 6, ([((-2147483648), 2147483647), ((-2147483648), 2147483647)], []), [], []), (.inr 2, 1, 6, ([((-2147483648), 2147483647), ((-2147483648), 2147483647)], []), [], [])])
set_option maxRecDepth 100000 in
noncomputable def sz_ud284 : List sy_Cut := []
set_option maxRecDepth 100000 in
noncomputable def sz_hd284_0 : List sy_Hn := [(0, 31, 2, 0, 0, 0, [], [], []),
  (9, 1, 0, 0, 0, 0, [], [], []),
  (0, 31, 1, 0, 0, 0, [], [], []),
  (0, 31, 0, 0, 0, 0, [], [], []),
  (0, 31, 1, 0, 0, 0, [], [], []),
  (0, 1, 0, 0, 1, 0, [], [], []),
  (0, 31, 1, 0, 0, 0, [], [], []),
  (0, 31, 0, 0, 0, 0, [], [], []),
  (0, 31, 1, 0, 0, 0, [], [], []),
  (0, 1, 0, 0, 2, 0, [], [], []),
  (0, 31, 1, 0, 0, 0, [], [], []),
  (0, 31, 0, 0, 0, 0, [], [], []),
  (0, 31, 1, 0, 0, 0, [], [], []),
  (0, 31, 1, 0, 0, 0, [], [], []),
  (0, 31, 0, 0, 0, 0, [], [], []),
  (0, 31, 1, 0, 0, 0, [], [], []),
  (0, 31, 2, 0, 0, 0, [], [], [])]
set_option maxRecDepth 100000 in
theorem sz_sd284_0 : sy_seg sz_E (pv_T (sz_own true) sz_T) sz_RU [] sz_cd284 sz_ud284 ri_m_X10_load 141 none sz_hd284_0 = true := by decide +kernel
theorem sz_okd284 (xs : Nat → Value) (L : Nat) : sy_Cok (sz_env xs L) (pv_T (sz_own true) sz_T) sz_RU sz_cd284 := sy_chk_ok (CT := []) (CU := sz_ud284) (M := ri_m_X10_load) (fun _ h => absurd h List.not_mem_nil) rfl rfl ⟨_, _, sz_sd284_0⟩ (fun _ h => absurd h List.not_mem_nil)

/-! L_load  -/
set_option maxRecDepth 100000 in
noncomputable def sz_cd285 : sy_Ct := (36, 8, 127, [(3, .inr 0, .inl 0), (0, .inr 0, .inl 0), (0, .inr 1, .inl 0), (3, .inr 265, .inl 0)], ([((-2147483648), 2147483647), ((-2147483648), 2147483647)], []), [], [], [(68, 4, 4), (80, 4, 4), (92, 4, 4), (104, 4, 4), (265, 0, 0)], [(.inl (some (0, .inl 0, .inl 0)), 0, 0, ([((-2147483648), 2147483647), ((-2147483648), 2147483647)], []), [], []), (.inl (some (0, .inr 2, .inl 0)), 1, 6, ([(1, 2), ((-2147483648), 2147483647), ((-2147483648), 2147483647)], []), [], [])])
set_option maxRecDepth 100000 in
noncomputable def sz_ud285 : List sy_Cut := []
set_option maxRecDepth 100000 in
noncomputable def sz_hd285_0 : List sy_Hn := [(6, 20, 0, 0, 0, 0, [], [], []),
  (0, 31, 0, 0, 0, 0, [], [], []),
  (0, 31, 1, 0, 0, 0, [], [], []),
  (0, 31, 1, 0, 0, 0, [], [], [])]
set_option maxRecDepth 100000 in
theorem sz_sd285_0 : sy_seg sz_E (pv_T (sz_own true) sz_T) sz_RU [sz_cd284] sz_cd285 sz_ud285 ri_m_L_load 24 none sz_hd285_0 = true := by decide +kernel
theorem sz_okd285 (xs : Nat → Value) (L : Nat) : sy_Cok (sz_env xs L) (pv_T (sz_own true) sz_T) sz_RU sz_cd285 := sy_chk_ok (CT := [sz_cd284]) (CU := sz_ud285) (M := ri_m_L_load) (List.forall_mem_cons.mpr ⟨sz_okd284 xs L, fun _ h => absurd h List.not_mem_nil⟩) rfl rfl ⟨_, _, sz_sd285_0⟩ (fun _ h => absurd h List.not_mem_nil)

/-! X11_load  -/
set_option maxRecDepth 100000 in
noncomputable def sz_cd286 : sy_Ct := (37, 2, 45, [(3, .inr 244, .inl 0), (0, .inr 0, .inl 0), (0, .inr 1, .inl 0)], ([((-2147483648), 2147483647), ((-2147483648), 2147483647)], []), [], [], [(244, 0, 0), (245, 9, 9), (245, 86, 86), (245, 163, 163), (245, 240, 240)], [(.inl (some (0, .inr 2, .inl 0)), 0, 0, ([((-2147483648), 2147483647), ((-2147483648), 2147483647), ((-2147483648), 2147483647)], []), [], [])])
set_option maxRecDepth 100000 in
noncomputable def sz_ud286 : List sy_Cut := []
set_option maxRecDepth 100000 in
noncomputable def sz_hd286_0 : List sy_Hn := [(0, 31, 0, 0, 0, 0, [], [], []),
  (0, 31, 0, 0, 0, 0, [], [], []),
  (0, 31, 0, 0, 0, 0, [], [], []),
  (0, 31, 0, 0, 0, 0, [], [], []),
  (24, 1, 0, 0, 0, 0, [], [], []),
  (0, 31, 0, 0, 0, 0, [], [], []),
  (0, 1, 0, 0, 1, 0, [], [], []),
  (0, 31, 0, 0, 0, 0, [], [], []),
  (0, 1, 0, 0, 2, 0, [], [], []),
  (0, 31, 0, 0, 0, 0, [], [], []),
  (0, 31, 0, 0, 0, 0, [], [], [])]
set_option maxRecDepth 100000 in
theorem sz_sd286_0 : sy_seg sz_E (pv_T (sz_own false) sz_T) sz_RU [] sz_cd286 sz_ud286 ri_m_X11_load 295 none sz_hd286_0 = true := by decide +kernel
theorem sz_okd286 (xs : Nat → Value) (L : Nat) : sy_Cok (sz_env xs L) (pv_T (sz_own false) sz_T) sz_RU sz_cd286 := sy_chk_ok (CT := []) (CU := sz_ud286) (M := ri_m_X11_load) (fun _ h => absurd h List.not_mem_nil) rfl rfl ⟨_, _, sz_sd286_0⟩ (fun _ h => absurd h List.not_mem_nil)

/-! X10_lose  -/
set_option maxRecDepth 100000 in
noncomputable def sz_cd287 : sy_Ct := (112, 7, 102, [(3, .inr 0, .inl 0), (0, .inr 0, .inl 0), (0, .inl 0, .inl 0)], ([((-2147483648), 2147483647)], []), [], [], [(67, 14, 14), (79, 14, 14), (91, 14, 14), (103, 14, 14)], [(.inl (some (0, .inr 1, .inl 0)), 0, 0, ([(0, 1), ((-2147483648), 2147483647)], []), [], []), (.inr 2, 1, 6, ([((-2147483648), 2147483647)], []), [], [])])
set_option maxRecDepth 100000 in
noncomputable def sz_ud287 : List sy_Cut := []
set_option maxRecDepth 100000 in
noncomputable def sz_hd287_0 : List sy_Hn := [(0, 31, 1, 0, 0, 0, [], [], []),
  (9, 1, 0, 0, 0, 0, [], [], []),
  (0, 31, 0, 0, 0, 0, [], [], []),
  (0, 31, 0, 0, 0, 0, [], [], []),
  (0, 1, 0, 0, 1, 0, [], [], []),
  (0, 31, 0, 0, 0, 0, [], [], []),
  (0, 31, 0, 0, 0, 0, [], [], []),
  (0, 1, 0, 0, 2, 0, [], [], []),
  (0, 31, 0, 0, 0, 0, [], [], []),
  (0, 31, 0, 0, 0, 0, [], [], []),
  (0, 31, 0, 0, 0, 0, [], [], []),
  (0, 31, 0, 0, 0, 0, [], [], []),
  (0, 31, 1, 0, 0, 0, [], [], [])]
set_option maxRecDepth 100000 in
theorem sz_sd287_0 : sy_seg sz_E (pv_T (sz_own true) sz_T) sz_RU [] sz_cd287 sz_ud287 ri_m_X10_lose 125 none sz_hd287_0 = true := by decide +kernel
theorem sz_okd287 (xs : Nat → Value) (L : Nat) : sy_Cok (sz_env xs L) (pv_T (sz_own true) sz_T) sz_RU sz_cd287 := sy_chk_ok (CT := []) (CU := sz_ud287) (M := ri_m_X10_lose) (fun _ h => absurd h List.not_mem_nil) rfl rfl ⟨_, _, sz_sd287_0⟩ (fun _ h => absurd h List.not_mem_nil)

/-! L_lose  -/
set_option maxRecDepth 100000 in
noncomputable def sz_cd288 : sy_Ct := (38, 8, 126, [(3, .inr 0, .inl 0), (0, .inr 0, .inl 0), (0, .inl 0, .inl 0), (3, .inr 265, .inl 0)], ([((-2147483648), 2147483647)], []), [], [], [(67, 14, 14), (79, 14, 14), (91, 14, 14), (103, 14, 14), (265, 0, 0)], [(.inl (some (0, .inl 0, .inl 0)), 0, 0, ([((-2147483648), 2147483647)], []), [], []), (.inl (some (0, .inl 1, .inl 0)), 1, 6, ([((-2147483648), 2147483647)], []), [], [])])
set_option maxRecDepth 100000 in
noncomputable def sz_ud288 : List sy_Cut := []
set_option maxRecDepth 100000 in
noncomputable def sz_hd288_0 : List sy_Hn := [(6, 20, 0, 0, 0, 0, [], [], []),
  (0, 31, 0, 0, 0, 0, [], [], []),
  (0, 31, 0, 0, 0, 0, [], [], []),
  (0, 31, 1, 0, 0, 0, [], [], [])]
set_option maxRecDepth 100000 in
theorem sz_sd288_0 : sy_seg sz_E (pv_T (sz_own true) sz_T) sz_RU [sz_cd287] sz_cd288 sz_ud288 ri_m_L_lose 29 none sz_hd288_0 = true := by decide +kernel
theorem sz_okd288 (xs : Nat → Value) (L : Nat) : sy_Cok (sz_env xs L) (pv_T (sz_own true) sz_T) sz_RU sz_cd288 := sy_chk_ok (CT := [sz_cd287]) (CU := sz_ud288) (M := ri_m_L_lose) (List.forall_mem_cons.mpr ⟨sz_okd287 xs L, fun _ h => absurd h List.not_mem_nil⟩) rfl rfl ⟨_, _, sz_sd288_0⟩ (fun _ h => absurd h List.not_mem_nil)

/-! X11_lose  -/
set_option maxRecDepth 100000 in
noncomputable def sz_cd289 : sy_Ct := (39, 2, 45, [(3, .inr 244, .inl 0), (0, .inr 0, .inl 0), (0, .inl 0, .inl 0)], ([((-2147483648), 2147483647)], []), [], [], [(244, 0, 0), (245, 22, 22), (245, 99, 99), (245, 176, 176), (245, 253, 253)], [(.inl (some (0, .inr 1, .inl 0)), 0, 0, ([(0, 1), ((-2147483648), 2147483647)], []), [], [])])
set_option maxRecDepth 100000 in
noncomputable def sz_ud289 : List sy_Cut := []
set_option maxRecDepth 100000 in
noncomputable def sz_hd289_0 : List sy_Hn := [(0, 31, 0, 0, 0, 0, [], [], []),
  (0, 31, 0, 0, 0, 0, [], [], []),
  (25, 1, 0, 0, 0, 0, [], [], []),
  (0, 31, 0, 0, 0, 0, [], [], []),
  (0, 31, 0, 0, 0, 0, [], [], []),
  (0, 1, 0, 0, 1, 0, [], [], []),
  (0, 31, 0, 0, 0, 0, [], [], []),
  (0, 31, 0, 0, 0, 0, [], [], []),
  (0, 1, 0, 0, 2, 0, [], [], []),
  (0, 31, 0, 0, 0, 0, [], [], []),
  (0, 31, 0, 0, 0, 0, [], [], []),
  (0, 31, 0, 0, 0, 0, [], [], []),
  (0, 31, 0, 0, 0, 0, [], [], [])]
set_option maxRecDepth 100000 in
theorem sz_sd289_0 : sy_seg sz_E (pv_T (sz_own false) sz_T) sz_RU [] sz_cd289 sz_ud289 ri_m_X11_lose 396 none sz_hd289_0 = true := by decide +kernel
theorem sz_okd289 (xs : Nat → Value) (L : Nat) : sy_Cok (sz_env xs L) (pv_T (sz_own false) sz_T) sz_RU sz_cd289 := sy_chk_ok (CT := []) (CU := sz_ud289) (M := ri_m_X11_lose) (fun _ h => absurd h List.not_mem_nil) rfl rfl ⟨_, _, sz_sd289_0⟩ (fun _ h => absurd h List.not_mem_nil)

/-! X10_lose  -/
set_option maxRecDepth 100000 in
noncomputable def sz_cd290 : sy_Ct := (112, 7, 102, [(3, .inr 0, .inl 0), (0, .inr 0, .inl 0), (0, .inl 1, .inl 0)], ([((-2147483648), 2147483647)], []), [], [], [(67, 14, 14), (79, 14, 14), (91, 14, 14), (103, 14, 14)], [(.inl (some (0, .inr 1, .inl 0)), 0, 0, ([(0, 1), ((-2147483648), 2147483647)], []), [], []), (.inr 2, 1, 6, ([((-2147483648), 2147483647)], []), [], [])])
set_option maxRecDepth 100000 in
noncomputable def sz_ud290 : List sy_Cut := []
set_option maxRecDepth 100000 in
noncomputable def sz_hd290_0 : List sy_Hn := [(0, 31, 1, 0, 0, 0, [], [], []),
  (9, 1, 0, 0, 0, 0, [], [], []),
  (0, 31, 0, 0, 0, 0, [], [], []),
  (0, 31, 0, 0, 0, 0, [], [], []),
  (0, 1, 0, 0, 1, 0, [], [], []),
  (0, 31, 0, 0, 0, 0, [], [], []),
  (0, 31, 0, 0, 0, 0, [], [], []),
  (0, 1, 0, 0, 2, 0, [], [], []),
  (0, 31, 0, 0, 0, 0, [], [], []),
  (0, 31, 0, 0, 0, 0, [], [], []),
  (0, 31, 0, 0, 0, 0, [], [], []),
  (0, 31, 0, 0, 0, 0, [], [], []),
  (0, 31, 1, 0, 0, 0, [], [], [])]
set_option maxRecDepth 100000 in
theorem sz_sd290_0 : sy_seg sz_E (pv_T (sz_own true) sz_T) sz_RU [] sz_cd290 sz_ud290 ri_m_X10_lose 125 none sz_hd290_0 = true := by decide +kernel
theorem sz_okd290 (xs : Nat → Value) (L : Nat) : sy_Cok (sz_env xs L) (pv_T (sz_own true) sz_T) sz_RU sz_cd290 := sy_chk_ok (CT := []) (CU := sz_ud290) (M := ri_m_X10_lose) (fun _ h => absurd h List.not_mem_nil) rfl rfl ⟨_, _, sz_sd290_0⟩ (fun _ h => absurd h List.not_mem_nil)

/-! L_lose  -/
set_option maxRecDepth 100000 in
noncomputable def sz_cd291 : sy_Ct := (38, 8, 126, [(3, .inr 0, .inl 0), (0, .inr 0, .inl 0), (0, .inl 1, .inl 0), (3, .inr 265, .inl 0)], ([((-2147483648), 2147483647)], []), [], [], [(67, 14, 14), (79, 14, 14), (91, 14, 14), (103, 14, 14), (265, 0, 0)], [(.inl (some (0, .inl 0, .inl 0)), 0, 0, ([((-2147483648), 2147483647)], []), [], []), (.inl (some (0, .inl 1, .inl 0)), 1, 6, ([((-2147483648), 2147483647)], []), [], [])])
set_option maxRecDepth 100000 in
noncomputable def sz_ud291 : List sy_Cut := []
set_option maxRecDepth 100000 in
noncomputable def sz_hd291_0 : List sy_Hn := [(6, 20, 0, 0, 0, 0, [], [], []),
  (0, 31, 0, 0, 0, 0, [], [], []),
  (0, 31, 0, 0, 0, 0, [], [], []),
  (0, 31, 1, 0, 0, 0, [], [], [])]
set_option maxRecDepth 100000 in
theorem sz_sd291_0 : sy_seg sz_E (pv_T (sz_own true) sz_T) sz_RU [sz_cd290] sz_cd291 sz_ud291 ri_m_L_lose 29 none sz_hd291_0 = true := by decide +kernel
theorem sz_okd291 (xs : Nat → Value) (L : Nat) : sy_Cok (sz_env xs L) (pv_T (sz_own true) sz_T) sz_RU sz_cd291 := sy_chk_ok (CT := [sz_cd290]) (CU := sz_ud291) (M := ri_m_L_lose) (List.forall_mem_cons.mpr ⟨sz_okd290 xs L, fun _ h => absurd h List.not_mem_nil⟩) rfl rfl ⟨_, _, sz_sd291_0⟩ (fun _ h => absurd h List.not_mem_nil)

/-! X11_lose  -/
set_option maxRecDepth 100000 in
noncomputable def sz_cd292 : sy_Ct := (39, 2, 45, [(3, .inr 244, .inl 0), (0, .inr 0, .inl 0), (0, .inl 1, .inl 0)], ([((-2147483648), 2147483647)], []), [], [], [(244, 0, 0), (245, 22, 22), (245, 99, 99), (245, 176, 176), (245, 253, 253)], [(.inl (some (0, .inr 1, .inl 0)), 0, 0, ([(0, 1), ((-2147483648), 2147483647)], []), [], [])])
set_option maxRecDepth 100000 in
noncomputable def sz_ud292 : List sy_Cut := []
set_option maxRecDepth 100000 in
noncomputable def sz_hd292_0 : List sy_Hn := [(0, 31, 0, 0, 0, 0, [], [], []),
  (0, 31, 0, 0, 0, 0, [], [], []),
  (25, 1, 0, 0, 0, 0, [], [], []),
  (0, 31, 0, 0, 0, 0, [], [], []),
  (0, 31, 0, 0, 0, 0, [], [], []),
  (0, 1, 0, 0, 1, 0, [], [], []),
  (0, 31, 0, 0, 0, 0, [], [], []),
  (0, 31, 0, 0, 0, 0, [], [], []),
  (0, 1, 0, 0, 2, 0, [], [], []),
  (0, 31, 0, 0, 0, 0, [], [], []),
  (0, 31, 0, 0, 0, 0, [], [], []),
  (0, 31, 0, 0, 0, 0, [], [], []),
  (0, 31, 0, 0, 0, 0, [], [], [])]
set_option maxRecDepth 100000 in
theorem sz_sd292_0 : sy_seg sz_E (pv_T (sz_own false) sz_T) sz_RU [] sz_cd292 sz_ud292 ri_m_X11_lose 404 none sz_hd292_0 = true := by decide +kernel
theorem sz_okd292 (xs : Nat → Value) (L : Nat) : sy_Cok (sz_env xs L) (pv_T (sz_own false) sz_T) sz_RU sz_cd292 := sy_chk_ok (CT := []) (CU := sz_ud292) (M := ri_m_X11_lose) (fun _ h => absurd h List.not_mem_nil) rfl rfl ⟨_, _, sz_sd292_0⟩ (fun _ h => absurd h List.not_mem_nil)

/-! X10_relay  -/
set_option maxRecDepth 100000 in
noncomputable def sz_cd293 : sy_Ct := (113, 7, 103, [(3, .inr 0, .inl 0), (0, .inr 0, .inl 0), (0, .inr 1, .inl 0), (0, .inr 2, .inl 0)], ([((-2147483648), 2147483647), ((-2147483648), 2147483647), ((-2147483648), 2147483647)], []), [], [], [(67, 5, 5), (67, 17, 18), (77, 0, 8), (79, 5, 5), (79, 17, 18), (89, 0, 8), (91, 5, 5), (91, 17, 18), (101, 0, 8), (103, 5, 5), (103, 17, 18), (113, 0, 8)], [(.inl (some (0, .inr 3, .inl 0)), 0, 0, ([((-1), 1), ((-2147483648), 2147483647), ((-2147483648), 2147483647), ((-2147483648), 2147483647)], []), [], []), (.inr 0, 1, 6, ([((-2147483648), 2147483647), ((-2147483648), 2147483647), ((-2147483648), 2147483647)], []), [], []), (.inr 2, 1, 6, ([((-2147483648), 2147483647), ((-2147483648), 2147483647), ((-2147483648), 2147483647)], []), [], []), (.inr 4, 1, 6, ([((-2147483648), 2147483647), ((-2147483648), 2147483647), ((-2147483648), 2147483647)], []), [], [])])
set_option maxRecDepth 100000 in
noncomputable def sz_ud293 : List sy_Cut := []
set_option maxRecDepth 100000 in
noncomputable def sz_hd293_0 : List sy_Hn := [(0, 31, 2, 0, 0, 0, [], [], []),
  (9, 1, 0, 0, 0, 0, [], [], []),
  (0, 31, 1, 0, 0, 0, [], [], []),
  (0, 31, 1, 0, 0, 0, [], [], []),
  (0, 31, 3, 0, 0, 0, [], [], []),
  (77, 6, 376, 0, 0, 0, [([], [(1, [0]), (1, [9]), (1, [7])]), ([], [(1, [0]), (1, [5]), (1, [4])])], [], [1, 1]),
  (0, 6, 377, 0, 0, 0, [([], [(1, [0])]), ([], [(1, [0])])], [], [1, 1]),
  (0, 31, 0, 0, 0, 0, [], [], []),
  (31, 6, 376, 0, 0, 0, [([], [(1, [0]), (1, [9]), (1, [7])]), ([], [(1, [0]), (1, [5]), (1, [4])])], [], [1, 1]),
  (0, 6, 377, 0, 0, 0, [([], [(1, [0])]), ([], [(1, [0])])], [], [1, 1]),
  (0, 31, 0, 0, 0, 0, [], [], []),
  (0, 31, 3, 0, 0, 0, [], [], []),
  (0, 31, 3, 0, 0, 0, [], [], []),
  (0, 31, 1, 0, 0, 0, [], [], []),
  (0, 31, 1, 0, 0, 0, [], [], []),
  (0, 1, 0, 0, 1, 0, [], [], []),
  (0, 31, 1, 0, 0, 0, [], [], []),
  (0, 31, 1, 0, 0, 0, [], [], []),
  (0, 31, 3, 0, 0, 0, [], [], []),
  (77, 6, 381, 0, 0, 0, [([], [(1, [0]), (1, [9]), (1, [7])]), ([], [(1, [0]), (1, [5]), (1, [4])])], [], [1, 1]),
  (0, 6, 382, 0, 0, 0, [([], [(1, [0])]), ([], [(1, [0])])], [], [1, 1]),
  (0, 31, 0, 0, 0, 0, [], [], []),
  (31, 6, 381, 0, 0, 0, [([], [(1, [0]), (1, [9]), (1, [7])]), ([], [(1, [0]), (1, [5]), (1, [4])])], [], [1, 1]),
  (0, 6, 382, 0, 0, 0, [([], [(1, [0])]), ([], [(1, [0])])], [], [1, 1]),
  (0, 31, 0, 0, 0, 0, [], [], []),
  (0, 31, 3, 0, 0, 0, [], [], []),
  (0, 31, 3, 0, 0, 0, [], [], []),
  (0, 31, 1, 0, 0, 0, [], [], []),
  (0, 31, 1, 0, 0, 0, [], [], []),
  (0, 1, 0, 0, 2, 0, [], [], []),
  (0, 31, 1, 0, 0, 0, [], [], []),
  (0, 31, 1, 0, 0, 0, [], [], []),
  (0, 31, 3, 0, 0, 0, [], [], []),
  (77, 6, 386, 0, 0, 0, [([], [(1, [0]), (1, [9]), (1, [7])]), ([], [(1, [0]), (1, [5]), (1, [4])])], [], [1, 1]),
  (0, 6, 387, 0, 0, 0, [([], [(1, [0])]), ([], [(1, [0])])], [], [1, 1]),
  (0, 31, 0, 0, 0, 0, [], [], []),
  (31, 6, 386, 0, 0, 0, [([], [(1, [0]), (1, [9]), (1, [7])]), ([], [(1, [0]), (1, [5]), (1, [4])])], [], [1, 1]),
  (0, 6, 387, 0, 0, 0, [([], [(1, [0])]), ([], [(1, [0])])], [], [1, 1]),
  (0, 31, 0, 0, 0, 0, [], [], []),
  (0, 31, 3, 0, 0, 0, [], [], []),
  (0, 31, 3, 0, 0, 0, [], [], []),
  (0, 31, 1, 0, 0, 0, [], [], []),
  (0, 31, 1, 0, 0, 0, [], [], []),
  (0, 31, 1, 0, 0, 0, [], [], []),
  (0, 31, 1, 0, 0, 0, [], [], []),
  (0, 31, 3, 0, 0, 0, [], [], []),
  (77, 6, 391, 0, 0, 0, [([], [(1, [0]), (1, [9]), (1, [7])]), ([], [(1, [0]), (1, [5]), (1, [4])])], [], [1, 1]),
  (0, 6, 392, 0, 0, 0, [([], [(1, [0])]), ([], [(1, [0])])], [], [1, 1]),
  (0, 31, 0, 0, 0, 0, [], [], []),
  (31, 6, 391, 0, 0, 0, [([], [(1, [0]), (1, [9]), (1, [7])]), ([], [(1, [0]), (1, [5]), (1, [4])])], [], [1, 1]),
  (0, 6, 392, 0, 0, 0, [([], [(1, [0])]), ([], [(1, [0])])], [], [1, 1]),
  (0, 31, 0, 0, 0, 0, [], [], []),
  (0, 31, 3, 0, 0, 0, [], [], []),
  (0, 31, 3, 0, 0, 0, [], [], []),
  (0, 31, 1, 0, 0, 0, [], [], []),
  (0, 31, 1, 0, 0, 0, [], [], []),
  (0, 31, 2, 0, 0, 0, [], [], [])]
set_option maxRecDepth 100000 in
theorem sz_sd293_0 : sy_seg sz_E (pv_T (sz_own true) sz_T) sz_RU [] sz_cd293 sz_ud293 ri_m_X10_relay 713 none sz_hd293_0 = true := by decide +kernel
theorem sz_okd293 (xs : Nat → Value) (L : Nat) : sy_Cok (sz_env xs L) (pv_T (sz_own true) sz_T) sz_RU sz_cd293 := sy_chk_ok (CT := []) (CU := sz_ud293) (M := ri_m_X10_relay) (fun _ h => absurd h List.not_mem_nil) rfl rfl ⟨_, _, sz_sd293_0⟩ (fun _ h => absurd h List.not_mem_nil)

/-! L_relay  -/
set_option maxRecDepth 100000 in
noncomputable def sz_cd294 : sy_Ct := (40, 8, 127, [(3, .inr 0, .inl 0), (0, .inr 0, .inl 0), (0, .inr 1, .inl 0), (0, .inr 2, .inl 0), (3, .inr 265, .inl 0)], ([((-2147483648), 2147483647), ((-2147483648), 2147483647), ((-2147483648), 2147483647)], []), [], [], [(67, 5, 5), (67, 17, 18), (77, 0, 8), (79, 5, 5), (79, 17, 18), (89, 0, 8), (91, 5, 5), (91, 17, 18), (101, 0, 8), (103, 5, 5), (103, 17, 18), (113, 0, 8), (265, 0, 0)], [(.inl (some (0, .inl 0, .inl 0)), 0, 0, ([((-2147483648), 2147483647), ((-2147483648), 2147483647), ((-2147483648), 2147483647)], []), [], []), (.inl (some (0, .inr 3, .inl 0)), 1, 6, ([(1, 3), ((-2147483648), 2147483647), ((-2147483648), 2147483647), ((-2147483648), 2147483647)], []), [], [])])
set_option maxRecDepth 100000 in
noncomputable def sz_ud294 : List sy_Cut := []
set_option maxRecDepth 100000 in
noncomputable def sz_hd294_0 : List sy_Hn := [(7, 20, 0, 0, 0, 0, [], [], []),
  (0, 31, 0, 0, 0, 0, [], [], []),
  (0, 31, 1, 0, 0, 0, [], [], []),
  (0, 31, 1, 0, 0, 0, [], [], []),
  (0, 31, 1, 0, 0, 0, [], [], [])]
set_option maxRecDepth 100000 in
theorem sz_sd294_0 : sy_seg sz_E (pv_T (sz_own true) sz_T) sz_RU [sz_cd293] sz_cd294 sz_ud294 ri_m_L_relay 28 none sz_hd294_0 = true := by decide +kernel
theorem sz_okd294 (xs : Nat → Value) (L : Nat) : sy_Cok (sz_env xs L) (pv_T (sz_own true) sz_T) sz_RU sz_cd294 := sy_chk_ok (CT := [sz_cd293]) (CU := sz_ud294) (M := ri_m_L_relay) (List.forall_mem_cons.mpr ⟨sz_okd293 xs L, fun _ h => absurd h List.not_mem_nil⟩) rfl rfl ⟨_, _, sz_sd294_0⟩ (fun _ h => absurd h List.not_mem_nil)

/-! X11_relay  -/
set_option maxRecDepth 100000 in
noncomputable def sz_cd295 : sy_Ct := (41, 3, 65, [(3, .inr 244, .inl 0), (0, .inr 0, .inl 0), (0, .inr 1, .inl 0), (0, .inr 2, .inl 0)], ([((-2147483648), 2147483647), ((-2147483648), 2147483647), ((-2147483648), 2147483647)], []), [], [], [(244, 0, 0), (245, 13, 13), (245, 23, 24), (245, 71, 79), (245, 90, 90), (245, 100, 101), (245, 148, 156), (245, 167, 167), (245, 177, 178), (245, 225, 233), (245, 244, 244), (245, 254, 255), (245, 302, 310)], [(.inl (some (0, .inr 3, .inl 0)), 0, 0, ([((-1), 1), ((-2147483648), 2147483647), ((-2147483648), 2147483647), ((-2147483648), 2147483647)], []), [], [])])
set_option maxRecDepth 100000 in
noncomputable def sz_ud295 : List sy_Cut := []
set_option maxRecDepth 100000 in
noncomputable def sz_hd295_0 : List sy_Hn := [(0, 31, 0, 0, 0, 0, [], [], []),
  (0, 31, 0, 0, 0, 0, [], [], []),
  (0, 31, 0, 0, 0, 0, [], [], []),
  (0, 31, 0, 0, 0, 0, [], [], []),
  (0, 31, 0, 0, 0, 0, [], [], []),
  (0, 31, 0, 0, 0, 0, [], [], []),
  (24, 1, 0, 0, 0, 0, [], [], []),
  (0, 31, 0, 0, 0, 0, [], [], []),
  (0, 31, 0, 0, 0, 0, [], [], []),
  (394, 6, 3, 0, 0, 0, [([], [(1, [0]), (1, [9]), (1, [7])]), ([], [(1, [0]), (1, [5]), (1, [4])])], [], [1, 1]),
  (0, 4, 245, 12, 0, 0, [], [], []),
  (0, 6, 4, 0, 0, 0, [([], [(1, [0])])], [], [1]),
  (0, 6, 6, 0, 0, 0, [([], [(1, [0])])], [], [1]),
  (0, 6, 7, 0, 0, 0, [([], [(1, [0])]), ([], [(1, [0])])], [], [1, 1]),
  (0, 31, 0, 0, 0, 0, [], [], []),
  (180, 6, 3, 0, 0, 0, [([], [(1, [0]), (1, [9]), (1, [7])]), ([], [(1, [0]), (1, [5]), (1, [4])])], [], [1, 1]),
  (0, 4, 245, 12, 0, 0, [], [], []),
  (0, 6, 4, 0, 0, 0, [([], [(1, [0])])], [], [1]),
  (0, 6, 6, 0, 0, 0, [([], [(1, [0])])], [], [1]),
  (0, 6, 7, 0, 0, 0, [([], [(1, [0])]), ([], [(1, [0])])], [], [1, 1]),
  (0, 31, 0, 0, 0, 0, [], [], []),
  (0, 31, 0, 0, 0, 0, [], [], []),
  (0, 1, 0, 0, 1, 0, [], [], []),
  (0, 31, 0, 0, 0, 0, [], [], []),
  (0, 31, 0, 0, 0, 0, [], [], []),
  (394, 6, 13, 0, 0, 0, [([], [(1, [0]), (1, [9]), (1, [7])]), ([], [(1, [0]), (1, [5]), (1, [4])])], [], [1, 1]),
  (0, 4, 245, 89, 0, 0, [], [], []),
  (0, 6, 14, 0, 0, 0, [([], [(1, [0])])], [], [1]),
  (0, 6, 15, 0, 0, 0, [([], [(1, [0])])], [], [1]),
  (0, 6, 16, 0, 0, 0, [([], [(1, [0])]), ([], [(1, [0])])], [], [1, 1]),
  (0, 31, 0, 0, 0, 0, [], [], []),
  (180, 6, 13, 0, 0, 0, [([], [(1, [0]), (1, [9]), (1, [7])]), ([], [(1, [0]), (1, [5]), (1, [4])])], [], [1, 1]),
  (0, 4, 245, 89, 0, 0, [], [], []),
  (0, 6, 14, 0, 0, 0, [([], [(1, [0])])], [], [1]),
  (0, 6, 15, 0, 0, 0, [([], [(1, [0])])], [], [1]),
  (0, 6, 16, 0, 0, 0, [([], [(1, [0])]), ([], [(1, [0])])], [], [1, 1]),
  (0, 31, 0, 0, 0, 0, [], [], []),
  (0, 31, 0, 0, 0, 0, [], [], []),
  (0, 1, 0, 0, 2, 0, [], [], []),
  (0, 31, 0, 0, 0, 0, [], [], []),
  (0, 31, 0, 0, 0, 0, [], [], []),
  (394, 6, 22, 0, 0, 0, [([], [(1, [0]), (1, [9]), (1, [7])]), ([], [(1, [0]), (1, [5]), (1, [4])])], [], [1, 1]),
  (0, 4, 245, 166, 0, 0, [], [], []),
  (0, 6, 23, 0, 0, 0, [([], [(1, [0])])], [], [1]),
  (0, 6, 24, 0, 0, 0, [([], [(1, [0])])], [], [1]),
  (0, 6, 25, 0, 0, 0, [([], [(1, [0])]), ([], [(1, [0])])], [], [1, 1]),
  (0, 31, 0, 0, 0, 0, [], [], []),
  (180, 6, 22, 0, 0, 0, [([], [(1, [0]), (1, [9]), (1, [7])]), ([], [(1, [0]), (1, [5]), (1, [4])])], [], [1, 1]),
  (0, 4, 245, 166, 0, 0, [], [], []),
  (0, 6, 23, 0, 0, 0, [([], [(1, [0])])], [], [1]),
  (0, 6, 24, 0, 0, 0, [([], [(1, [0])])], [], [1]),
  (0, 6, 25, 0, 0, 0, [([], [(1, [0])]), ([], [(1, [0])])], [], [1, 1]),
  (0, 31, 0, 0, 0, 0, [], [], []),
  (0, 31, 0, 0, 0, 0, [], [], []),
  (0, 31, 0, 0, 0, 0, [], [], []),
  (0, 31, 0, 0, 0, 0, [], [], []),
  (394, 6, 31, 0, 0, 0, [([], [(1, [0]), (1, [9]), (1, [7])]), ([], [(1, [0]), (1, [5]), (1, [4])])], [], [1, 1]),
  (0, 4, 245, 243, 0, 0, [], [], []),
  (0, 6, 32, 0, 0, 0, [([], [(1, [0])])], [], [1]),
  (0, 6, 33, 0, 0, 0, [([], [(1, [0])])], [], [1]),
  (0, 6, 34, 0, 0, 0, [([], [(1, [0])]), ([], [(1, [0])])], [], [1, 1]),
  (0, 31, 0, 0, 0, 0, [], [], []),
  (180, 6, 31, 0, 0, 0, [([], [(1, [0]), (1, [9]), (1, [7])]), ([], [(1, [0]), (1, [5]), (1, [4])])], [], [1, 1]),
  (0, 4, 245, 243, 0, 0, [], [], []),
  (0, 6, 32, 0, 0, 0, [([], [(1, [0])])], [], [1]),
  (0, 6, 33, 0, 0, 0, [([], [(1, [0])])], [], [1]),
  (0, 6, 34, 0, 0, 0, [([], [(1, [0])]), ([], [(1, [0])])], [], [1, 1]),
  (0, 31, 0, 0, 0, 0, [], [], []),
  (0, 31, 0, 0, 0, 0, [], [], [])]
set_option maxRecDepth 100000 in
theorem sz_sd295_0 : sy_seg sz_E (pv_T (sz_own false) sz_T) sz_RU [] sz_cd295 sz_ud295 ri_m_X11_relay 3013 none sz_hd295_0 = true := by decide +kernel
theorem sz_okd295 (xs : Nat → Value) (L : Nat) : sy_Cok (sz_env xs L) (pv_T (sz_own false) sz_T) sz_RU sz_cd295 := sy_chk_ok (CT := []) (CU := sz_ud295) (M := ri_m_X11_relay) (fun _ h => absurd h List.not_mem_nil) rfl rfl ⟨_, _, sz_sd295_0⟩ (fun _ h => absurd h List.not_mem_nil)

/-! X2_tellGains  -/
set_option maxRecDepth 100000 in
noncomputable def sz_cd296 : sy_Ct := (177, 2, 47, [(3, .inr 67, .inl 0), (0, .inr 0, .inl 0), (0, .inr 1, .inl 0), (0, .inr 2, .inl 0)], ([((-2147483648), 9999), ((-2147483648), 9999), ((-2147483648), 2147483647)], []), [], [], [(67, 8, 8), (74, 0, 2), (75, 0, 2), (76, 0, 2)], [(.inl none, 0, 0, ([((-2147483648), 9999), ((-2147483648), 9999), ((-2147483648), 2147483647)], []), [], [])])
set_option maxRecDepth 100000 in
noncomputable def sz_ud296 : List sy_Cut := []
set_option maxRecDepth 100000 in
noncomputable def sz_hd296_0 : List sy_Hn := [(120, 20, 0, 0, 0, 0, [], [], []),
  (0, 31, 0, 0, 0, 0, [], [], [])]
set_option maxRecDepth 100000 in
theorem sz_sd296_0 : sy_seg sz_E (pv_T (sz_own true) sz_T) sz_RU [sz_cd26] sz_cd296 sz_ud296 ri_m_X2_tellGains 128 none sz_hd296_0 = true := by decide +kernel
theorem sz_okd296 (xs : Nat → Value) (L : Nat) : sy_Cok (sz_env xs L) (pv_T (sz_own true) sz_T) sz_RU sz_cd296 := sy_chk_ok (CT := [sz_cd26]) (CU := sz_ud296) (M := ri_m_X2_tellGains) (List.forall_mem_cons.mpr ⟨sz_okd26 xs L, fun _ h => absurd h List.not_mem_nil⟩) rfl rfl ⟨_, _, sz_sd296_0⟩ (fun _ h => absurd h List.not_mem_nil)

/-! X2_tellGains  -/
set_option maxRecDepth 100000 in
noncomputable def sz_cd297 : sy_Ct := (177, 2, 47, [(3, .inr 67, .inl 0), (0, .inr 0, .inl 0), (0, .inr 1, .inl 0), (0, .inl 9999, .inl 0)], ([((-2147483648), 9999), ((-2147483648), 2147483647)], []), [], [], [(67, 8, 8), (74, 0, 2), (75, 0, 2), (76, 0, 2)], [(.inl none, 0, 0, ([((-2147483648), 9999), ((-2147483648), 2147483647)], []), [], [])])
set_option maxRecDepth 100000 in
noncomputable def sz_ud297 : List sy_Cut := []
set_option maxRecDepth 100000 in
noncomputable def sz_hd297_0 : List sy_Hn := [(120, 20, 0, 0, 0, 0, [], [], []),
  (0, 31, 0, 0, 0, 0, [], [], [])]
set_option maxRecDepth 100000 in
theorem sz_sd297_0 : sy_seg sz_E (pv_T (sz_own true) sz_T) sz_RU [sz_cd26] sz_cd297 sz_ud297 ri_m_X2_tellGains 128 none sz_hd297_0 = true := by decide +kernel
theorem sz_okd297 (xs : Nat → Value) (L : Nat) : sy_Cok (sz_env xs L) (pv_T (sz_own true) sz_T) sz_RU sz_cd297 := sy_chk_ok (CT := [sz_cd26]) (CU := sz_ud297) (M := ri_m_X2_tellGains) (List.forall_mem_cons.mpr ⟨sz_okd26 xs L, fun _ h => absurd h List.not_mem_nil⟩) rfl rfl ⟨_, _, sz_sd297_0⟩ (fun _ h => absurd h List.not_mem_nil)

/-! X2_tellGains  -/
set_option maxRecDepth 100000 in
noncomputable def sz_cd298 : sy_Ct := (177, 2, 47, [(3, .inr 67, .inl 0), (0, .inr 0, .inl 0), (0, .inl 9999, .inl 0), (0, .inr 1, .inl 0)], ([((-2147483648), 9999), ((-2147483648), 2147483647)], []), [], [], [(67, 8, 8), (74, 0, 2), (75, 0, 2), (76, 0, 2)], [(.inl none, 0, 0, ([((-2147483648), 9999), ((-2147483648), 2147483647)], []), [], [])])
set_option maxRecDepth 100000 in
noncomputable def sz_ud298 : List sy_Cut := []
set_option maxRecDepth 100000 in
noncomputable def sz_hd298_0 : List sy_Hn := [(120, 20, 0, 0, 0, 0, [], [], []),
  (0, 31, 0, 0, 0, 0, [], [], [])]
set_option maxRecDepth 100000 in
theorem sz_sd298_0 : sy_seg sz_E (pv_T (sz_own true) sz_T) sz_RU [sz_cd26] sz_cd298 sz_ud298 ri_m_X2_tellGains 128 none sz_hd298_0 = true := by decide +kernel
theorem sz_okd298 (xs : Nat → Value) (L : Nat) : sy_Cok (sz_env xs L) (pv_T (sz_own true) sz_T) sz_RU sz_cd298 := sy_chk_ok (CT := [sz_cd26]) (CU := sz_ud298) (M := ri_m_X2_tellGains) (List.forall_mem_cons.mpr ⟨sz_okd26 xs L, fun _ h => absurd h List.not_mem_nil⟩) rfl rfl ⟨_, _, sz_sd298_0⟩ (fun _ h => absurd h List.not_mem_nil)

/-! X2_tellGains  -/
set_option maxRecDepth 100000 in
noncomputable def sz_cd299 : sy_Ct := (177, 2, 47, [(3, .inr 67, .inl 0), (0, .inr 0, .inl 0), (0, .inl 9999, .inl 0), (0, .inl 9999, .inl 0)], ([((-2147483648), 2147483647)], []), [], [], [(67, 8, 8), (74, 0, 2), (75, 0, 2), (76, 0, 2)], [(.inl none, 0, 0, ([((-2147483648), 2147483647)], []), [], [])])
set_option maxRecDepth 100000 in
noncomputable def sz_ud299 : List sy_Cut := []
set_option maxRecDepth 100000 in
noncomputable def sz_hd299_0 : List sy_Hn := [(120, 20, 0, 0, 0, 0, [], [], []),
  (0, 31, 0, 0, 0, 0, [], [], [])]
set_option maxRecDepth 100000 in
theorem sz_sd299_0 : sy_seg sz_E (pv_T (sz_own true) sz_T) sz_RU [sz_cd26] sz_cd299 sz_ud299 ri_m_X2_tellGains 128 none sz_hd299_0 = true := by decide +kernel
theorem sz_okd299 (xs : Nat → Value) (L : Nat) : sy_Cok (sz_env xs L) (pv_T (sz_own true) sz_T) sz_RU sz_cd299 := sy_chk_ok (CT := [sz_cd26]) (CU := sz_ud299) (M := ri_m_X2_tellGains) (List.forall_mem_cons.mpr ⟨sz_okd26 xs L, fun _ h => absurd h List.not_mem_nil⟩) rfl rfl ⟨_, _, sz_sd299_0⟩ (fun _ h => absurd h List.not_mem_nil)

/-! X2_tellGains  -/
set_option maxRecDepth 100000 in
noncomputable def sz_cd300 : sy_Ct := (177, 2, 47, [(3, .inr 67, .inl 0), (0, .inr 0, .inl 0), (0, .inr 1, .inl 0), (0, .inl 0, .inl 0)], ([((-2147483648), 9999), ((-2147483648), 2147483647)], []), [], [], [(67, 8, 8), (74, 0, 2), (75, 0, 2), (76, 0, 2)], [(.inl none, 0, 0, ([((-2147483648), 9999), ((-2147483648), 2147483647)], []), [], [])])
set_option maxRecDepth 100000 in
noncomputable def sz_ud300 : List sy_Cut := []
set_option maxRecDepth 100000 in
noncomputable def sz_hd300_0 : List sy_Hn := [(120, 20, 0, 0, 0, 0, [], [], []),
  (0, 31, 0, 0, 0, 0, [], [], [])]
set_option maxRecDepth 100000 in
theorem sz_sd300_0 : sy_seg sz_E (pv_T (sz_own true) sz_T) sz_RU [sz_cd26] sz_cd300 sz_ud300 ri_m_X2_tellGains 128 none sz_hd300_0 = true := by decide +kernel
theorem sz_okd300 (xs : Nat → Value) (L : Nat) : sy_Cok (sz_env xs L) (pv_T (sz_own true) sz_T) sz_RU sz_cd300 := sy_chk_ok (CT := [sz_cd26]) (CU := sz_ud300) (M := ri_m_X2_tellGains) (List.forall_mem_cons.mpr ⟨sz_okd26 xs L, fun _ h => absurd h List.not_mem_nil⟩) rfl rfl ⟨_, _, sz_sd300_0⟩ (fun _ h => absurd h List.not_mem_nil)

/-! X2_tellGains  -/
set_option maxRecDepth 100000 in
noncomputable def sz_cd301 : sy_Ct := (177, 2, 47, [(3, .inr 67, .inl 0), (0, .inr 0, .inl 0), (0, .inl 9999, .inl 0), (0, .inl 0, .inl 0)], ([((-2147483648), 2147483647)], []), [], [], [(67, 8, 8), (74, 0, 2), (75, 0, 2), (76, 0, 2)], [(.inl none, 0, 0, ([((-2147483648), 2147483647)], []), [], [])])
set_option maxRecDepth 100000 in
noncomputable def sz_ud301 : List sy_Cut := []
set_option maxRecDepth 100000 in
noncomputable def sz_hd301_0 : List sy_Hn := [(120, 20, 0, 0, 0, 0, [], [], []),
  (0, 31, 0, 0, 0, 0, [], [], [])]
set_option maxRecDepth 100000 in
theorem sz_sd301_0 : sy_seg sz_E (pv_T (sz_own true) sz_T) sz_RU [sz_cd26] sz_cd301 sz_ud301 ri_m_X2_tellGains 128 none sz_hd301_0 = true := by decide +kernel
theorem sz_okd301 (xs : Nat → Value) (L : Nat) : sy_Cok (sz_env xs L) (pv_T (sz_own true) sz_T) sz_RU sz_cd301 := sy_chk_ok (CT := [sz_cd26]) (CU := sz_ud301) (M := ri_m_X2_tellGains) (List.forall_mem_cons.mpr ⟨sz_okd26 xs L, fun _ h => absurd h List.not_mem_nil⟩) rfl rfl ⟨_, _, sz_sd301_0⟩ (fun _ h => absurd h List.not_mem_nil)

/-! X2_tuneBy  -/
set_option maxRecDepth 100000 in
noncomputable def sz_cd302 : sy_Ct := (180, 3, 72, [(3, .inr 67, .inl 0), (0, .inr 0, .inl 0)], ([(0, 2)], []), [], [], [(67, 8, 8), (74, 0, 2), (75, 0, 2), (76, 0, 2)], [(.inl (some (0, .inr 1, .inl 0)), 0, 0, ([((-2147483648), 2147483647), (0, 2)], []), [], [])])
set_option maxRecDepth 100000 in
noncomputable def sz_ud302 : List sy_Cut := []
set_option maxRecDepth 100000 in
noncomputable def sz_hd302_0 : List sy_Hn := [(59, 20, 0, 0, 0, 0, [], [], []),
  (0, 31, 0, 0, 0, 0, [], [], []),
  (4, 20, 1, 0, 0, 0, [], [], []),
  (0, 31, 0, 0, 0, 0, [], [], []),
  (12, 20, 2, 0, 0, 0, [], [], []),
  (0, 31, 0, 0, 0, 0, [], [], []),
  (4, 20, 3, 0, 0, 0, [], [], []),
  (0, 31, 0, 0, 0, 0, [], [], []),
  (47, 20, 4, 0, 0, 0, [], [], []),
  (0, 31, 0, 0, 0, 0, [], [], []),
  (12, 20, 5, 0, 0, 0, [], [], []),
  (0, 31, 0, 0, 0, 0, [], [], []),
  (45, 20, 0, 0, 0, 0, [], [], []),
  (0, 31, 0, 0, 0, 0, [], [], []),
  (4, 20, 1, 0, 0, 0, [], [], []),
  (0, 31, 0, 0, 0, 0, [], [], []),
  (12, 20, 2, 0, 0, 0, [], [], []),
  (0, 31, 0, 0, 0, 0, [], [], []),
  (4, 20, 3, 0, 0, 0, [], [], []),
  (0, 31, 0, 0, 0, 0, [], [], []),
  (53, 20, 0, 0, 0, 0, [], [], []),
  (0, 31, 0, 0, 0, 0, [], [], []),
  (4, 20, 1, 0, 0, 0, [], [], []),
  (0, 31, 0, 0, 0, 0, [], [], []),
  (12, 20, 2, 0, 0, 0, [], [], []),
  (0, 31, 0, 0, 0, 0, [], [], []),
  (4, 20, 3, 0, 0, 0, [], [], []),
  (0, 31, 0, 0, 0, 0, [], [], []),
  (47, 20, 4, 0, 0, 0, [], [], []),
  (0, 31, 0, 0, 0, 0, [], [], []),
  (12, 20, 5, 0, 0, 0, [], [], []),
  (0, 31, 0, 0, 0, 0, [], [], []),
  (45, 20, 0, 0, 0, 0, [], [], []),
  (0, 31, 0, 0, 0, 0, [], [], []),
  (4, 20, 1, 0, 0, 0, [], [], []),
  (0, 31, 0, 0, 0, 0, [], [], []),
  (12, 20, 2, 0, 0, 0, [], [], []),
  (0, 31, 0, 0, 0, 0, [], [], []),
  (4, 20, 3, 0, 0, 0, [], [], []),
  (0, 31, 0, 0, 0, 0, [], [], [])]
set_option maxRecDepth 100000 in
theorem sz_sd302_0 : sy_seg sz_E (pv_T (sz_own true) sz_T) sz_RU [sz_cd296, sz_cd297, sz_cd298, sz_cd299, sz_cd300, sz_cd301] sz_cd302 sz_ud302 ri_m_X2_tuneBy 485 none sz_hd302_0 = true := by decide +kernel
theorem sz_okd302 (xs : Nat → Value) (L : Nat) : sy_Cok (sz_env xs L) (pv_T (sz_own true) sz_T) sz_RU sz_cd302 := sy_chk_ok (CT := [sz_cd296, sz_cd297, sz_cd298, sz_cd299, sz_cd300, sz_cd301]) (CU := sz_ud302) (M := ri_m_X2_tuneBy) (List.forall_mem_cons.mpr ⟨sz_okd296 xs L, List.forall_mem_cons.mpr ⟨sz_okd297 xs L, List.forall_mem_cons.mpr ⟨sz_okd298 xs L, List.forall_mem_cons.mpr ⟨sz_okd299 xs L, List.forall_mem_cons.mpr ⟨sz_okd300 xs L, List.forall_mem_cons.mpr ⟨sz_okd301 xs L, fun _ h => absurd h List.not_mem_nil⟩⟩⟩⟩⟩⟩) rfl rfl ⟨_, _, sz_sd302_0⟩ (fun _ h => absurd h List.not_mem_nil)

/-! X2_tellGains  -/
set_option maxRecDepth 100000 in
noncomputable def sz_cd303 : sy_Ct := (177, 2, 47, [(3, .inr 79, .inl 0), (0, .inr 0, .inl 0), (0, .inr 1, .inl 0), (0, .inr 2, .inl 0)], ([((-2147483648), 9999), ((-2147483648), 9999), ((-2147483648), 2147483647)], []), [], [], [(79, 8, 8), (86, 0, 2), (87, 0, 2), (88, 0, 2)], [(.inl none, 0, 0, ([((-2147483648), 9999), ((-2147483648), 9999), ((-2147483648), 2147483647)], []), [], [])])
set_option maxRecDepth 100000 in
noncomputable def sz_ud303 : List sy_Cut := []
set_option maxRecDepth 100000 in
noncomputable def sz_hd303_0 : List sy_Hn := [(120, 20, 0, 0, 0, 0, [], [], []),
  (0, 31, 0, 0, 0, 0, [], [], [])]
set_option maxRecDepth 100000 in
theorem sz_sd303_0 : sy_seg sz_E (pv_T (sz_own true) sz_T) sz_RU [sz_cd35] sz_cd303 sz_ud303 ri_m_X2_tellGains 128 none sz_hd303_0 = true := by decide +kernel
theorem sz_okd303 (xs : Nat → Value) (L : Nat) : sy_Cok (sz_env xs L) (pv_T (sz_own true) sz_T) sz_RU sz_cd303 := sy_chk_ok (CT := [sz_cd35]) (CU := sz_ud303) (M := ri_m_X2_tellGains) (List.forall_mem_cons.mpr ⟨sz_okd35 xs L, fun _ h => absurd h List.not_mem_nil⟩) rfl rfl ⟨_, _, sz_sd303_0⟩ (fun _ h => absurd h List.not_mem_nil)

/-! X2_tellGains  -/
set_option maxRecDepth 100000 in
noncomputable def sz_cd304 : sy_Ct := (177, 2, 47, [(3, .inr 79, .inl 0), (0, .inr 0, .inl 0), (0, .inr 1, .inl 0), (0, .inl 9999, .inl 0)], ([((-2147483648), 9999), ((-2147483648), 2147483647)], []), [], [], [(79, 8, 8), (86, 0, 2), (87, 0, 2), (88, 0, 2)], [(.inl none, 0, 0, ([((-2147483648), 9999), ((-2147483648), 2147483647)], []), [], [])])
set_option maxRecDepth 100000 in
noncomputable def sz_ud304 : List sy_Cut := []
set_option maxRecDepth 100000 in
noncomputable def sz_hd304_0 : List sy_Hn := [(120, 20, 0, 0, 0, 0, [], [], []),
  (0, 31, 0, 0, 0, 0, [], [], [])]
set_option maxRecDepth 100000 in
theorem sz_sd304_0 : sy_seg sz_E (pv_T (sz_own true) sz_T) sz_RU [sz_cd35] sz_cd304 sz_ud304 ri_m_X2_tellGains 128 none sz_hd304_0 = true := by decide +kernel
theorem sz_okd304 (xs : Nat → Value) (L : Nat) : sy_Cok (sz_env xs L) (pv_T (sz_own true) sz_T) sz_RU sz_cd304 := sy_chk_ok (CT := [sz_cd35]) (CU := sz_ud304) (M := ri_m_X2_tellGains) (List.forall_mem_cons.mpr ⟨sz_okd35 xs L, fun _ h => absurd h List.not_mem_nil⟩) rfl rfl ⟨_, _, sz_sd304_0⟩ (fun _ h => absurd h List.not_mem_nil)

/-! X2_tellGains  -/
set_option maxRecDepth 100000 in
noncomputable def sz_cd305 : sy_Ct := (177, 2, 47, [(3, .inr 79, .inl 0), (0, .inr 0, .inl 0), (0, .inl 9999, .inl 0), (0, .inr 1, .inl 0)], ([((-2147483648), 9999), ((-2147483648), 2147483647)], []), [], [], [(79, 8, 8), (86, 0, 2), (87, 0, 2), (88, 0, 2)], [(.inl none, 0, 0, ([((-2147483648), 9999), ((-2147483648), 2147483647)], []), [], [])])
set_option maxRecDepth 100000 in
noncomputable def sz_ud305 : List sy_Cut := []
set_option maxRecDepth 100000 in
noncomputable def sz_hd305_0 : List sy_Hn := [(120, 20, 0, 0, 0, 0, [], [], []),
  (0, 31, 0, 0, 0, 0, [], [], [])]
set_option maxRecDepth 100000 in
theorem sz_sd305_0 : sy_seg sz_E (pv_T (sz_own true) sz_T) sz_RU [sz_cd35] sz_cd305 sz_ud305 ri_m_X2_tellGains 128 none sz_hd305_0 = true := by decide +kernel
theorem sz_okd305 (xs : Nat → Value) (L : Nat) : sy_Cok (sz_env xs L) (pv_T (sz_own true) sz_T) sz_RU sz_cd305 := sy_chk_ok (CT := [sz_cd35]) (CU := sz_ud305) (M := ri_m_X2_tellGains) (List.forall_mem_cons.mpr ⟨sz_okd35 xs L, fun _ h => absurd h List.not_mem_nil⟩) rfl rfl ⟨_, _, sz_sd305_0⟩ (fun _ h => absurd h List.not_mem_nil)

/-! X2_tellGains  -/
set_option maxRecDepth 100000 in
noncomputable def sz_cd306 : sy_Ct := (177, 2, 47, [(3, .inr 79, .inl 0), (0, .inr 0, .inl 0), (0, .inl 9999, .inl 0), (0, .inl 9999, .inl 0)], ([((-2147483648), 2147483647)], []), [], [], [(79, 8, 8), (86, 0, 2), (87, 0, 2), (88, 0, 2)], [(.inl none, 0, 0, ([((-2147483648), 2147483647)], []), [], [])])
set_option maxRecDepth 100000 in
noncomputable def sz_ud306 : List sy_Cut := []
set_option maxRecDepth 100000 in
noncomputable def sz_hd306_0 : List sy_Hn := [(120, 20, 0, 0, 0, 0, [], [], []),
  (0, 31, 0, 0, 0, 0, [], [], [])]
set_option maxRecDepth 100000 in
theorem sz_sd306_0 : sy_seg sz_E (pv_T (sz_own true) sz_T) sz_RU [sz_cd35] sz_cd306 sz_ud306 ri_m_X2_tellGains 128 none sz_hd306_0 = true := by decide +kernel
theorem sz_okd306 (xs : Nat → Value) (L : Nat) : sy_Cok (sz_env xs L) (pv_T (sz_own true) sz_T) sz_RU sz_cd306 := sy_chk_ok (CT := [sz_cd35]) (CU := sz_ud306) (M := ri_m_X2_tellGains) (List.forall_mem_cons.mpr ⟨sz_okd35 xs L, fun _ h => absurd h List.not_mem_nil⟩) rfl rfl ⟨_, _, sz_sd306_0⟩ (fun _ h => absurd h List.not_mem_nil)

/-! X2_tellGains  -/
set_option maxRecDepth 100000 in
noncomputable def sz_cd307 : sy_Ct := (177, 2, 47, [(3, .inr 79, .inl 0), (0, .inr 0, .inl 0), (0, .inr 1, .inl 0), (0, .inl 0, .inl 0)], ([((-2147483648), 9999), ((-2147483648), 2147483647)], []), [], [], [(79, 8, 8), (86, 0, 2), (87, 0, 2), (88, 0, 2)], [(.inl none, 0, 0, ([((-2147483648), 9999), ((-2147483648), 2147483647)], []), [], [])])
set_option maxRecDepth 100000 in
noncomputable def sz_ud307 : List sy_Cut := []
set_option maxRecDepth 100000 in
noncomputable def sz_hd307_0 : List sy_Hn := [(120, 20, 0, 0, 0, 0, [], [], []),
  (0, 31, 0, 0, 0, 0, [], [], [])]
set_option maxRecDepth 100000 in
theorem sz_sd307_0 : sy_seg sz_E (pv_T (sz_own true) sz_T) sz_RU [sz_cd35] sz_cd307 sz_ud307 ri_m_X2_tellGains 128 none sz_hd307_0 = true := by decide +kernel
theorem sz_okd307 (xs : Nat → Value) (L : Nat) : sy_Cok (sz_env xs L) (pv_T (sz_own true) sz_T) sz_RU sz_cd307 := sy_chk_ok (CT := [sz_cd35]) (CU := sz_ud307) (M := ri_m_X2_tellGains) (List.forall_mem_cons.mpr ⟨sz_okd35 xs L, fun _ h => absurd h List.not_mem_nil⟩) rfl rfl ⟨_, _, sz_sd307_0⟩ (fun _ h => absurd h List.not_mem_nil)

/-! X2_tellGains  -/
set_option maxRecDepth 100000 in
noncomputable def sz_cd308 : sy_Ct := (177, 2, 47, [(3, .inr 79, .inl 0), (0, .inr 0, .inl 0), (0, .inl 9999, .inl 0), (0, .inl 0, .inl 0)], ([((-2147483648), 2147483647)], []), [], [], [(79, 8, 8), (86, 0, 2), (87, 0, 2), (88, 0, 2)], [(.inl none, 0, 0, ([((-2147483648), 2147483647)], []), [], [])])
set_option maxRecDepth 100000 in
noncomputable def sz_ud308 : List sy_Cut := []
set_option maxRecDepth 100000 in
noncomputable def sz_hd308_0 : List sy_Hn := [(120, 20, 0, 0, 0, 0, [], [], []),
  (0, 31, 0, 0, 0, 0, [], [], [])]
set_option maxRecDepth 100000 in
theorem sz_sd308_0 : sy_seg sz_E (pv_T (sz_own true) sz_T) sz_RU [sz_cd35] sz_cd308 sz_ud308 ri_m_X2_tellGains 128 none sz_hd308_0 = true := by decide +kernel
theorem sz_okd308 (xs : Nat → Value) (L : Nat) : sy_Cok (sz_env xs L) (pv_T (sz_own true) sz_T) sz_RU sz_cd308 := sy_chk_ok (CT := [sz_cd35]) (CU := sz_ud308) (M := ri_m_X2_tellGains) (List.forall_mem_cons.mpr ⟨sz_okd35 xs L, fun _ h => absurd h List.not_mem_nil⟩) rfl rfl ⟨_, _, sz_sd308_0⟩ (fun _ h => absurd h List.not_mem_nil)

/-! X2_tuneBy  -/
set_option maxRecDepth 100000 in
noncomputable def sz_cd309 : sy_Ct := (180, 3, 72, [(3, .inr 79, .inl 0), (0, .inr 0, .inl 0)], ([(0, 2)], []), [], [], [(79, 8, 8), (86, 0, 2), (87, 0, 2), (88, 0, 2)], [(.inl (some (0, .inr 1, .inl 0)), 0, 0, ([((-2147483648), 2147483647), (0, 2)], []), [], [])])
set_option maxRecDepth 100000 in
noncomputable def sz_ud309 : List sy_Cut := []
set_option maxRecDepth 100000 in
noncomputable def sz_hd309_0 : List sy_Hn := [(59, 20, 0, 0, 0, 0, [], [], []),
  (0, 31, 0, 0, 0, 0, [], [], []),
  (4, 20, 1, 0, 0, 0, [], [], []),
  (0, 31, 0, 0, 0, 0, [], [], []),
  (12, 20, 2, 0, 0, 0, [], [], []),
  (0, 31, 0, 0, 0, 0, [], [], []),
  (4, 20, 3, 0, 0, 0, [], [], []),
  (0, 31, 0, 0, 0, 0, [], [], []),
  (47, 20, 4, 0, 0, 0, [], [], []),
  (0, 31, 0, 0, 0, 0, [], [], []),
  (12, 20, 5, 0, 0, 0, [], [], []),
  (0, 31, 0, 0, 0, 0, [], [], []),
  (45, 20, 0, 0, 0, 0, [], [], []),
  (0, 31, 0, 0, 0, 0, [], [], []),
  (4, 20, 1, 0, 0, 0, [], [], []),
  (0, 31, 0, 0, 0, 0, [], [], []),
  (12, 20, 2, 0, 0, 0, [], [], []),
  (0, 31, 0, 0, 0, 0, [], [], []),
  (4, 20, 3, 0, 0, 0, [], [], []),
  (0, 31, 0, 0, 0, 0, [], [], []),
  (53, 20, 0, 0, 0, 0, [], [], []),
  (0, 31, 0, 0, 0, 0, [], [], []),
  (4, 20, 1, 0, 0, 0, [], [], []),
  (0, 31, 0, 0, 0, 0, [], [], []),
  (12, 20, 2, 0, 0, 0, [], [], []),
  (0, 31, 0, 0, 0, 0, [], [], []),
  (4, 20, 3, 0, 0, 0, [], [], []),
  (0, 31, 0, 0, 0, 0, [], [], []),
  (47, 20, 4, 0, 0, 0, [], [], []),
  (0, 31, 0, 0, 0, 0, [], [], []),
  (12, 20, 5, 0, 0, 0, [], [], []),
  (0, 31, 0, 0, 0, 0, [], [], []),
  (45, 20, 0, 0, 0, 0, [], [], []),
  (0, 31, 0, 0, 0, 0, [], [], []),
  (4, 20, 1, 0, 0, 0, [], [], []),
  (0, 31, 0, 0, 0, 0, [], [], []),
  (12, 20, 2, 0, 0, 0, [], [], []),
  (0, 31, 0, 0, 0, 0, [], [], []),
  (4, 20, 3, 0, 0, 0, [], [], []),
  (0, 31, 0, 0, 0, 0, [], [], [])]
set_option maxRecDepth 100000 in
theorem sz_sd309_0 : sy_seg sz_E (pv_T (sz_own true) sz_T) sz_RU [sz_cd303, sz_cd304, sz_cd305, sz_cd306, sz_cd307, sz_cd308] sz_cd309 sz_ud309 ri_m_X2_tuneBy 485 none sz_hd309_0 = true := by decide +kernel
theorem sz_okd309 (xs : Nat → Value) (L : Nat) : sy_Cok (sz_env xs L) (pv_T (sz_own true) sz_T) sz_RU sz_cd309 := sy_chk_ok (CT := [sz_cd303, sz_cd304, sz_cd305, sz_cd306, sz_cd307, sz_cd308]) (CU := sz_ud309) (M := ri_m_X2_tuneBy) (List.forall_mem_cons.mpr ⟨sz_okd303 xs L, List.forall_mem_cons.mpr ⟨sz_okd304 xs L, List.forall_mem_cons.mpr ⟨sz_okd305 xs L, List.forall_mem_cons.mpr ⟨sz_okd306 xs L, List.forall_mem_cons.mpr ⟨sz_okd307 xs L, List.forall_mem_cons.mpr ⟨sz_okd308 xs L, fun _ h => absurd h List.not_mem_nil⟩⟩⟩⟩⟩⟩) rfl rfl ⟨_, _, sz_sd309_0⟩ (fun _ h => absurd h List.not_mem_nil)

/-! X2_tellGains  -/
set_option maxRecDepth 100000 in
noncomputable def sz_cd310 : sy_Ct := (177, 2, 47, [(3, .inr 91, .inl 0), (0, .inr 0, .inl 0), (0, .inr 1, .inl 0), (0, .inr 2, .inl 0)], ([((-2147483648), 9999), ((-2147483648), 9999), ((-2147483648), 2147483647)], []), [], [], [(91, 8, 8), (98, 0, 2), (99, 0, 2), (100, 0, 2)], [(.inl none, 0, 0, ([((-2147483648), 9999), ((-2147483648), 9999), ((-2147483648), 2147483647)], []), [], [])])
set_option maxRecDepth 100000 in
noncomputable def sz_ud310 : List sy_Cut := []
set_option maxRecDepth 100000 in
noncomputable def sz_hd310_0 : List sy_Hn := [(120, 20, 0, 0, 0, 0, [], [], []),
  (0, 31, 0, 0, 0, 0, [], [], [])]
set_option maxRecDepth 100000 in
theorem sz_sd310_0 : sy_seg sz_E (pv_T (sz_own true) sz_T) sz_RU [sz_cd48] sz_cd310 sz_ud310 ri_m_X2_tellGains 128 none sz_hd310_0 = true := by decide +kernel
theorem sz_okd310 (xs : Nat → Value) (L : Nat) : sy_Cok (sz_env xs L) (pv_T (sz_own true) sz_T) sz_RU sz_cd310 := sy_chk_ok (CT := [sz_cd48]) (CU := sz_ud310) (M := ri_m_X2_tellGains) (List.forall_mem_cons.mpr ⟨sz_okd48 xs L, fun _ h => absurd h List.not_mem_nil⟩) rfl rfl ⟨_, _, sz_sd310_0⟩ (fun _ h => absurd h List.not_mem_nil)

/-! X2_tellGains  -/
set_option maxRecDepth 100000 in
noncomputable def sz_cd311 : sy_Ct := (177, 2, 47, [(3, .inr 91, .inl 0), (0, .inr 0, .inl 0), (0, .inr 1, .inl 0), (0, .inl 9999, .inl 0)], ([((-2147483648), 9999), ((-2147483648), 2147483647)], []), [], [], [(91, 8, 8), (98, 0, 2), (99, 0, 2), (100, 0, 2)], [(.inl none, 0, 0, ([((-2147483648), 9999), ((-2147483648), 2147483647)], []), [], [])])
set_option maxRecDepth 100000 in
noncomputable def sz_ud311 : List sy_Cut := []
set_option maxRecDepth 100000 in
noncomputable def sz_hd311_0 : List sy_Hn := [(120, 20, 0, 0, 0, 0, [], [], []),
  (0, 31, 0, 0, 0, 0, [], [], [])]
set_option maxRecDepth 100000 in
theorem sz_sd311_0 : sy_seg sz_E (pv_T (sz_own true) sz_T) sz_RU [sz_cd48] sz_cd311 sz_ud311 ri_m_X2_tellGains 128 none sz_hd311_0 = true := by decide +kernel
theorem sz_okd311 (xs : Nat → Value) (L : Nat) : sy_Cok (sz_env xs L) (pv_T (sz_own true) sz_T) sz_RU sz_cd311 := sy_chk_ok (CT := [sz_cd48]) (CU := sz_ud311) (M := ri_m_X2_tellGains) (List.forall_mem_cons.mpr ⟨sz_okd48 xs L, fun _ h => absurd h List.not_mem_nil⟩) rfl rfl ⟨_, _, sz_sd311_0⟩ (fun _ h => absurd h List.not_mem_nil)

/-! X2_tellGains  -/
set_option maxRecDepth 100000 in
noncomputable def sz_cd312 : sy_Ct := (177, 2, 47, [(3, .inr 91, .inl 0), (0, .inr 0, .inl 0), (0, .inl 9999, .inl 0), (0, .inr 1, .inl 0)], ([((-2147483648), 9999), ((-2147483648), 2147483647)], []), [], [], [(91, 8, 8), (98, 0, 2), (99, 0, 2), (100, 0, 2)], [(.inl none, 0, 0, ([((-2147483648), 9999), ((-2147483648), 2147483647)], []), [], [])])
set_option maxRecDepth 100000 in
noncomputable def sz_ud312 : List sy_Cut := []
set_option maxRecDepth 100000 in
noncomputable def sz_hd312_0 : List sy_Hn := [(120, 20, 0, 0, 0, 0, [], [], []),
  (0, 31, 0, 0, 0, 0, [], [], [])]
set_option maxRecDepth 100000 in
theorem sz_sd312_0 : sy_seg sz_E (pv_T (sz_own true) sz_T) sz_RU [sz_cd48] sz_cd312 sz_ud312 ri_m_X2_tellGains 128 none sz_hd312_0 = true := by decide +kernel
theorem sz_okd312 (xs : Nat → Value) (L : Nat) : sy_Cok (sz_env xs L) (pv_T (sz_own true) sz_T) sz_RU sz_cd312 := sy_chk_ok (CT := [sz_cd48]) (CU := sz_ud312) (M := ri_m_X2_tellGains) (List.forall_mem_cons.mpr ⟨sz_okd48 xs L, fun _ h => absurd h List.not_mem_nil⟩) rfl rfl ⟨_, _, sz_sd312_0⟩ (fun _ h => absurd h List.not_mem_nil)

/-! X2_tellGains  -/
set_option maxRecDepth 100000 in
noncomputable def sz_cd313 : sy_Ct := (177, 2, 47, [(3, .inr 91, .inl 0), (0, .inr 0, .inl 0), (0, .inl 9999, .inl 0), (0, .inl 9999, .inl 0)], ([((-2147483648), 2147483647)], []), [], [], [(91, 8, 8), (98, 0, 2), (99, 0, 2), (100, 0, 2)], [(.inl none, 0, 0, ([((-2147483648), 2147483647)], []), [], [])])
set_option maxRecDepth 100000 in
noncomputable def sz_ud313 : List sy_Cut := []
set_option maxRecDepth 100000 in
noncomputable def sz_hd313_0 : List sy_Hn := [(120, 20, 0, 0, 0, 0, [], [], []),
  (0, 31, 0, 0, 0, 0, [], [], [])]
set_option maxRecDepth 100000 in
theorem sz_sd313_0 : sy_seg sz_E (pv_T (sz_own true) sz_T) sz_RU [sz_cd48] sz_cd313 sz_ud313 ri_m_X2_tellGains 128 none sz_hd313_0 = true := by decide +kernel
theorem sz_okd313 (xs : Nat → Value) (L : Nat) : sy_Cok (sz_env xs L) (pv_T (sz_own true) sz_T) sz_RU sz_cd313 := sy_chk_ok (CT := [sz_cd48]) (CU := sz_ud313) (M := ri_m_X2_tellGains) (List.forall_mem_cons.mpr ⟨sz_okd48 xs L, fun _ h => absurd h List.not_mem_nil⟩) rfl rfl ⟨_, _, sz_sd313_0⟩ (fun _ h => absurd h List.not_mem_nil)

/-! X2_tellGains  -/
set_option maxRecDepth 100000 in
noncomputable def sz_cd314 : sy_Ct := (177, 2, 47, [(3, .inr 91, .inl 0), (0, .inr 0, .inl 0), (0, .inr 1, .inl 0), (0, .inl 0, .inl 0)], ([((-2147483648), 9999), ((-2147483648), 2147483647)], []), [], [], [(91, 8, 8), (98, 0, 2), (99, 0, 2), (100, 0, 2)], [(.inl none, 0, 0, ([((-2147483648), 9999), ((-2147483648), 2147483647)], []), [], [])])
set_option maxRecDepth 100000 in
noncomputable def sz_ud314 : List sy_Cut := []
set_option maxRecDepth 100000 in
noncomputable def sz_hd314_0 : List sy_Hn := [(120, 20, 0, 0, 0, 0, [], [], []),
  (0, 31, 0, 0, 0, 0, [], [], [])]
set_option maxRecDepth 100000 in
theorem sz_sd314_0 : sy_seg sz_E (pv_T (sz_own true) sz_T) sz_RU [sz_cd48] sz_cd314 sz_ud314 ri_m_X2_tellGains 128 none sz_hd314_0 = true := by decide +kernel
theorem sz_okd314 (xs : Nat → Value) (L : Nat) : sy_Cok (sz_env xs L) (pv_T (sz_own true) sz_T) sz_RU sz_cd314 := sy_chk_ok (CT := [sz_cd48]) (CU := sz_ud314) (M := ri_m_X2_tellGains) (List.forall_mem_cons.mpr ⟨sz_okd48 xs L, fun _ h => absurd h List.not_mem_nil⟩) rfl rfl ⟨_, _, sz_sd314_0⟩ (fun _ h => absurd h List.not_mem_nil)

/-! X2_tellGains  -/
set_option maxRecDepth 100000 in
noncomputable def sz_cd315 : sy_Ct := (177, 2, 47, [(3, .inr 91, .inl 0), (0, .inr 0, .inl 0), (0, .inl 9999, .inl 0), (0, .inl 0, .inl 0)], ([((-2147483648), 2147483647)], []), [], [], [(91, 8, 8), (98, 0, 2), (99, 0, 2), (100, 0, 2)], [(.inl none, 0, 0, ([((-2147483648), 2147483647)], []), [], [])])
set_option maxRecDepth 100000 in
noncomputable def sz_ud315 : List sy_Cut := []
set_option maxRecDepth 100000 in
noncomputable def sz_hd315_0 : List sy_Hn := [(120, 20, 0, 0, 0, 0, [], [], []),
  (0, 31, 0, 0, 0, 0, [], [], [])]
set_option maxRecDepth 100000 in
theorem sz_sd315_0 : sy_seg sz_E (pv_T (sz_own true) sz_T) sz_RU [sz_cd48] sz_cd315 sz_ud315 ri_m_X2_tellGains 128 none sz_hd315_0 = true := by decide +kernel
theorem sz_okd315 (xs : Nat → Value) (L : Nat) : sy_Cok (sz_env xs L) (pv_T (sz_own true) sz_T) sz_RU sz_cd315 := sy_chk_ok (CT := [sz_cd48]) (CU := sz_ud315) (M := ri_m_X2_tellGains) (List.forall_mem_cons.mpr ⟨sz_okd48 xs L, fun _ h => absurd h List.not_mem_nil⟩) rfl rfl ⟨_, _, sz_sd315_0⟩ (fun _ h => absurd h List.not_mem_nil)

/-! X2_tuneBy  -/
set_option maxRecDepth 100000 in
noncomputable def sz_cd316 : sy_Ct := (180, 3, 72, [(3, .inr 91, .inl 0), (0, .inr 0, .inl 0)], ([(0, 2)], []), [], [], [(91, 8, 8), (98, 0, 2), (99, 0, 2), (100, 0, 2)], [(.inl (some (0, .inr 1, .inl 0)), 0, 0, ([((-2147483648), 2147483647), (0, 2)], []), [], [])])
set_option maxRecDepth 100000 in
noncomputable def sz_ud316 : List sy_Cut := []
set_option maxRecDepth 100000 in
noncomputable def sz_hd316_0 : List sy_Hn := [(59, 20, 0, 0, 0, 0, [], [], []),
  (0, 31, 0, 0, 0, 0, [], [], []),
  (4, 20, 1, 0, 0, 0, [], [], []),
  (0, 31, 0, 0, 0, 0, [], [], []),
  (12, 20, 2, 0, 0, 0, [], [], []),
  (0, 31, 0, 0, 0, 0, [], [], []),
  (4, 20, 3, 0, 0, 0, [], [], []),
  (0, 31, 0, 0, 0, 0, [], [], []),
  (47, 20, 4, 0, 0, 0, [], [], []),
  (0, 31, 0, 0, 0, 0, [], [], []),
  (12, 20, 5, 0, 0, 0, [], [], []),
  (0, 31, 0, 0, 0, 0, [], [], []),
  (45, 20, 0, 0, 0, 0, [], [], []),
  (0, 31, 0, 0, 0, 0, [], [], []),
  (4, 20, 1, 0, 0, 0, [], [], []),
  (0, 31, 0, 0, 0, 0, [], [], []),
  (12, 20, 2, 0, 0, 0, [], [], []),
  (0, 31, 0, 0, 0, 0, [], [], []),
  (4, 20, 3, 0, 0, 0, [], [], []),
  (0, 31, 0, 0, 0, 0, [], [], []),
  (53, 20, 0, 0, 0, 0, [], [], []),
  (0, 31, 0, 0, 0, 0, [], [], []),
  (4, 20, 1, 0, 0, 0, [], [], []),
  (0, 31, 0, 0, 0, 0, [], [], []),
  (12, 20, 2, 0, 0, 0, [], [], []),
  (0, 31, 0, 0, 0, 0, [], [], []),
  (4, 20, 3, 0, 0, 0, [], [], []),
  (0, 31, 0, 0, 0, 0, [], [], []),
  (47, 20, 4, 0, 0, 0, [], [], []),
  (0, 31, 0, 0, 0, 0, [], [], []),
  (12, 20, 5, 0, 0, 0, [], [], []),
  (0, 31, 0, 0, 0, 0, [], [], []),
  (45, 20, 0, 0, 0, 0, [], [], []),
  (0, 31, 0, 0, 0, 0, [], [], []),
  (4, 20, 1, 0, 0, 0, [], [], []),
  (0, 31, 0, 0, 0, 0, [], [], []),
  (12, 20, 2, 0, 0, 0, [], [], []),
  (0, 31, 0, 0, 0, 0, [], [], []),
  (4, 20, 3, 0, 0, 0, [], [], []),
  (0, 31, 0, 0, 0, 0, [], [], [])]
set_option maxRecDepth 100000 in
theorem sz_sd316_0 : sy_seg sz_E (pv_T (sz_own true) sz_T) sz_RU [sz_cd310, sz_cd311, sz_cd312, sz_cd313, sz_cd314, sz_cd315] sz_cd316 sz_ud316 ri_m_X2_tuneBy 485 none sz_hd316_0 = true := by decide +kernel
theorem sz_okd316 (xs : Nat → Value) (L : Nat) : sy_Cok (sz_env xs L) (pv_T (sz_own true) sz_T) sz_RU sz_cd316 := sy_chk_ok (CT := [sz_cd310, sz_cd311, sz_cd312, sz_cd313, sz_cd314, sz_cd315]) (CU := sz_ud316) (M := ri_m_X2_tuneBy) (List.forall_mem_cons.mpr ⟨sz_okd310 xs L, List.forall_mem_cons.mpr ⟨sz_okd311 xs L, List.forall_mem_cons.mpr ⟨sz_okd312 xs L, List.forall_mem_cons.mpr ⟨sz_okd313 xs L, List.forall_mem_cons.mpr ⟨sz_okd314 xs L, List.forall_mem_cons.mpr ⟨sz_okd315 xs L, fun _ h => absurd h List.not_mem_nil⟩⟩⟩⟩⟩⟩) rfl rfl ⟨_, _, sz_sd316_0⟩ (fun _ h => absurd h List.not_mem_nil)

/-! X2_tellGains  -/
set_option maxRecDepth 100000 in
noncomputable def sz_cd317 : sy_Ct := (177, 2, 47, [(3, .inr 103, .inl 0), (0, .inr 0, .inl 0), (0, .inr 1, .inl 0), (0, .inr 2, .inl 0)], ([((-2147483648), 9999), ((-2147483648), 9999), ((-2147483648), 2147483647)], []), [], [], [(103, 8, 8), (110, 0, 2), (111, 0, 2), (112, 0, 2)], [(.inl none, 0, 0, ([((-2147483648), 9999), ((-2147483648), 9999), ((-2147483648), 2147483647)], []), [], [])])
set_option maxRecDepth 100000 in
noncomputable def sz_ud317 : List sy_Cut := []
set_option maxRecDepth 100000 in
noncomputable def sz_hd317_0 : List sy_Hn := [(120, 20, 0, 0, 0, 0, [], [], []),
  (0, 31, 0, 0, 0, 0, [], [], [])]
set_option maxRecDepth 100000 in
theorem sz_sd317_0 : sy_seg sz_E (pv_T (sz_own true) sz_T) sz_RU [sz_cd61] sz_cd317 sz_ud317 ri_m_X2_tellGains 128 none sz_hd317_0 = true := by decide +kernel
theorem sz_okd317 (xs : Nat → Value) (L : Nat) : sy_Cok (sz_env xs L) (pv_T (sz_own true) sz_T) sz_RU sz_cd317 := sy_chk_ok (CT := [sz_cd61]) (CU := sz_ud317) (M := ri_m_X2_tellGains) (List.forall_mem_cons.mpr ⟨sz_okd61 xs L, fun _ h => absurd h List.not_mem_nil⟩) rfl rfl ⟨_, _, sz_sd317_0⟩ (fun _ h => absurd h List.not_mem_nil)
