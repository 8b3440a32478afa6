/-! ===== contracts, 43 ===== -/
/-! X2_copyFrom  -/
set_option maxRecDepth 100000 in
noncomputable def sz_cd447 : sy_Ct := (202, 2, 39, [(3, .inr 34, .inl 0), (3, .inr 203, .inl 0)], ([(1, 3)], []), [((208, 5), (0, .inr 0, .inl 0))], [489, 490, 491, 492], [(34, 4, 14), (34, 16, 18), (35, 0, 6), (36, 0, 8), (37, 0, 4), (38, 0, 7), (39, 0, 5), (40, 0, 2), (41, 0, 2), (42, 0, 2), (43, 0, 2), (44, 0, 8), (45, 0, 3)], [(.inl none, 0, 0, ([(1, 3), (1, 3)], []), [((39, 5), (0, .inr 1, .inl 0))], [489, 490, 491, 492])])
set_option maxRecDepth 100000 in
noncomputable def sz_ud447 : List sy_Cut := []
set_option maxRecDepth 100000 in
noncomputable def sz_hd447_0 : List sy_Hn := [(244, 9, 447, 479, 0, 0, [], [], []),
  (0, 9, 448, 480, 0, 0, [], [], []),
  (0, 9, 449, 481, 0, 0, [], [], []),
  (0, 9, 450, 482, 0, 0, [], [], []),
  (0, 9, 451, 483, 0, 0, [], [], []),
  (0, 31, 0, 0, 0, 0, [], [], [])]
set_option maxRecDepth 100000 in
theorem sz_sd447_0 : sy_seg sz_E (pv_T (sz_own true) sz_T) sz_RU [] sz_cd447 sz_ud447 ri_m_X2_copyFrom 256 none sz_hd447_0 = true := by decide +kernel
theorem sz_okd447 (xs : Nat → Value) (L : Nat) : sy_Cok (sz_env xs L) (pv_T (sz_own true) sz_T) sz_RU sz_cd447 := sy_chk_ok (CT := []) (CU := sz_ud447) (M := ri_m_X2_copyFrom) (fun _ h => absurd h List.not_mem_nil) rfl rfl ⟨_, _, sz_sd447_0⟩ (fun _ h => absurd h List.not_mem_nil)

/-! X2_copyFrom  -/
set_option maxRecDepth 100000 in
noncomputable def sz_cd448 : sy_Ct := (202, 2, 39, [(3, .inr 46, .inl 0), (3, .inr 215, .inl 0)], ([(1, 3)], []), [((220, 5), (0, .inr 0, .inl 0))], [489, 490, 491, 492], [(46, 4, 14), (46, 16, 18), (47, 0, 6), (48, 0, 8), (49, 0, 4), (50, 0, 7), (51, 0, 5), (52, 0, 2), (53, 0, 2), (54, 0, 2), (55, 0, 2), (56, 0, 8), (57, 0, 3)], [(.inl none, 0, 0, ([(1, 3), (1, 3)], []), [((51, 5), (0, .inr 1, .inl 0))], [489, 490, 491, 492])])
set_option maxRecDepth 100000 in
noncomputable def sz_ud448 : List sy_Cut := []
set_option maxRecDepth 100000 in
noncomputable def sz_hd448_0 : List sy_Hn := [(244, 9, 452, 484, 0, 0, [], [], []),
  (0, 9, 453, 485, 0, 0, [], [], []),
  (0, 9, 454, 486, 0, 0, [], [], []),
  (0, 9, 455, 487, 0, 0, [], [], []),
  (0, 9, 456, 488, 0, 0, [], [], []),
  (0, 31, 0, 0, 0, 0, [], [], [])]
set_option maxRecDepth 100000 in
theorem sz_sd448_0 : sy_seg sz_E (pv_T (sz_own true) sz_T) sz_RU [] sz_cd448 sz_ud448 ri_m_X2_copyFrom 256 none sz_hd448_0 = true := by decide +kernel
theorem sz_okd448 (xs : Nat → Value) (L : Nat) : sy_Cok (sz_env xs L) (pv_T (sz_own true) sz_T) sz_RU sz_cd448 := sy_chk_ok (CT := []) (CU := sz_ud448) (M := ri_m_X2_copyFrom) (fun _ h => absurd h List.not_mem_nil) rfl rfl ⟨_, _, sz_sd448_0⟩ (fun _ h => absurd h List.not_mem_nil)

/-! X0_copyFrom  -/
set_option maxRecDepth 100000 in
noncomputable def sz_cd449 : sy_Ct := (148, 3, 60, [(3, .inr 2, .inl 0), (3, .inr 171, .inl 0)], ([(0, 12)], []), [((171, 2), (0, .inr 0, .inl 0))], [], [(2, 1, 3), (4, 2, 2), (5, 0, 31), (6, 2, 2), (7, 0, 240), (10, 4, 14), (10, 16, 18), (11, 0, 6), (12, 0, 8), (13, 0, 4), (14, 0, 7), (15, 0, 5), (16, 0, 2), (17, 0, 2), (18, 0, 2), (19, 0, 2), (20, 0, 8), (21, 0, 3), (22, 4, 14), (22, 16, 18), (23, 0, 6), (24, 0, 8), (25, 0, 4), (26, 0, 7), (27, 0, 5), (28, 0, 2), (29, 0, 2), (30, 0, 2), (31, 0, 2), (32, 0, 8), (33, 0, 3), (34, 4, 14), (34, 16, 18), (35, 0, 6), (36, 0, 8), (37, 0, 4), (38, 0, 7), (39, 0, 5), (40, 0, 2), (41, 0, 2), (42, 0, 2), (43, 0, 2), (44, 0, 8), (45, 0, 3), (46, 4, 14), (46, 16, 18), (47, 0, 6), (48, 0, 8), (49, 0, 4), (50, 0, 7), (51, 0, 5), (52, 0, 2), (53, 0, 2), (54, 0, 2), (55, 0, 2), (56, 0, 8), (57, 0, 3)], [(.inl none, 0, 0, ([(0, 12), (0, 12)], [[((-1), [1]), (1, [0])], [(1, [1]), ((-1), [0])]]), [((2, 2), (0, .inr 1, .inl 0))], [])])
set_option maxRecDepth 100000 in
noncomputable def sz_ud449 : List sy_Cut := []
set_option maxRecDepth 100000 in
noncomputable def sz_hd449_0 : List sy_Hn := [(22, 4, 15, 5, 0, 0, [], [], []),
  (0, 6, 489, 0, 0, 0, [([1], [(1, [0]), (1, [2])])], [], [0]),
  (0, 4, 27, 5, 0, 0, [], [], []),
  (0, 6, 490, 0, 0, 0, [([1], [(1, [0]), (1, [2])])], [], [0]),
  (0, 4, 39, 5, 0, 0, [], [], []),
  (0, 6, 491, 0, 0, 0, [([1], [(1, [0]), (1, [2])])], [], [0]),
  (0, 4, 51, 5, 0, 0, [], [], []),
  (0, 6, 492, 0, 0, 0, [([1], [(1, [0]), (1, [2])])], [], [0]),
  (1, 20, 0, 0, 0, 0, [], [], []),
  (5, 20, 1, 0, 0, 0, [], [], []),
  (0, 31, 0, 0, 0, 0, [([], [(1, [0])]), ([], [(1, [0])])], [], []),
  (8, 4, 184, 5, 0, 0, [], [], []),
  (0, 5, 457, 0, 0, 0, [], [], []),
  (0, 7, 0, 0, 0, 0, [([1], [(1, [2]), (1, [0])])], [], []),
  (0, 3, 3, 0, 1, 3, [([], [(1, [0]), (1, [1])]), ([3], [(1, [0]), (1, [2])])], [], []),
  (1, 20, 2, 0, 0, 0, [], [], []),
  (10, 6, 489, 0, 0, 0, [([4], [(1, [0]), (1, [1])])], [], [1]),
  (0, 4, 27, 5, 0, 0, [], [], []),
  (0, 6, 490, 0, 0, 0, [([1], [(1, [0]), (1, [2])])], [], [0]),
  (0, 4, 39, 5, 0, 0, [], [], []),
  (0, 6, 491, 0, 0, 0, [([1], [(1, [0]), (1, [2])])], [], [0]),
  (0, 4, 51, 5, 0, 0, [], [], []),
  (0, 6, 492, 0, 0, 0, [([1], [(1, [0]), (1, [2])])], [], [0]),
  (1, 20, 0, 0, 0, 0, [], [], []),
  (5, 20, 1, 0, 0, 0, [], [], []),
  (0, 31, 0, 0, 0, 0, [([], [(1, [0])]), ([], [(1, [0])])], [], []),
  (8, 4, 196, 5, 0, 0, [], [], []),
  (0, 5, 458, 0, 0, 0, [], [], []),
  (0, 7, 0, 0, 0, 0, [([1], [(1, [2]), (1, [0])])], [], []),
  (0, 3, 5, 0, 1, 3, [([], [(1, [0]), (1, [1])]), ([5], [(1, [0]), (1, [2])])], [], []),
  (1, 20, 3, 0, 0, 0, [], [], []),
  (10, 6, 489, 0, 0, 0, [([4], [(1, [0]), (1, [1])])], [], [1]),
  (0, 6, 490, 0, 0, 0, [([6], [(1, [0]), (1, [1])])], [], [1]),
  (0, 4, 39, 5, 0, 0, [], [], []),
  (0, 6, 491, 0, 0, 0, [([1], [(1, [0]), (1, [2])])], [], [0]),
  (0, 4, 51, 5, 0, 0, [], [], []),
  (0, 6, 492, 0, 0, 0, [([1], [(1, [0]), (1, [2])])], [], [0]),
  (1, 20, 0, 0, 0, 0, [], [], []),
  (5, 20, 1, 0, 0, 0, [], [], []),
  (0, 31, 0, 0, 0, 0, [([], [(1, [0])]), ([], [(1, [0])])], [], []),
  (8, 4, 208, 5, 0, 0, [], [], []),
  (0, 5, 459, 0, 0, 0, [], [], []),
  (0, 7, 0, 0, 0, 0, [([1], [(1, [2]), (1, [0])])], [], []),
  (0, 3, 7, 0, 1, 3, [([], [(1, [0]), (1, [1])]), ([7], [(1, [0]), (1, [2])])], [], []),
  (1, 20, 4, 0, 0, 0, [], [], []),
  (10, 6, 489, 0, 0, 0, [([4], [(1, [0]), (1, [1])])], [], [1]),
  (0, 6, 490, 0, 0, 0, [([6], [(1, [0]), (1, [1])])], [], [1]),
  (0, 6, 491, 0, 0, 0, [([8], [(1, [0]), (1, [1])])], [], [1]),
  (0, 4, 51, 5, 0, 0, [], [], []),
  (0, 6, 492, 0, 0, 0, [([1], [(1, [0]), (1, [2])])], [], [0]),
  (1, 20, 0, 0, 0, 0, [], [], []),
  (5, 20, 1, 0, 0, 0, [], [], []),
  (0, 31, 0, 0, 0, 0, [([], [(1, [0])]), ([], [(1, [0])])], [], []),
  (8, 4, 220, 5, 0, 0, [], [], []),
  (0, 5, 460, 0, 0, 0, [], [], []),
  (0, 7, 0, 0, 0, 0, [([1], [(1, [2]), (1, [0])])], [], []),
  (0, 3, 9, 0, 1, 3, [([], [(1, [0]), (1, [1])]), ([9], [(1, [0]), (1, [2])])], [], []),
  (1, 20, 5, 0, 0, 0, [], [], []),
  (10, 6, 489, 0, 0, 0, [([4], [(1, [0]), (1, [1])])], [], [1]),
  (0, 6, 490, 0, 0, 0, [([6], [(1, [0]), (1, [1])])], [], [1]),
  (0, 6, 491, 0, 0, 0, [([8], [(1, [0]), (1, [1])])], [], [1]),
  (0, 6, 492, 0, 0, 0, [([10], [(1, [0]), (1, [1])])], [], [1]),
  (1, 20, 0, 0, 0, 0, [], [], []),
  (5, 20, 1, 0, 0, 0, [], [], []),
  (0, 31, 0, 0, 0, 0, [([], [(1, [0])]), ([], [(1, [0])])], [], [])]
set_option maxRecDepth 100000 in
theorem sz_sd449_0 : sy_seg sz_E (pv_T (sz_own true) sz_T) sz_RU [sz_cd443, sz_cd444, sz_cd445, sz_cd446, sz_cd447, sz_cd448] sz_cd449 sz_ud449 ri_m_X0_copyFrom 211 none sz_hd449_0 = true := by decide +kernel
theorem sz_okd449 (xs : Nat → Value) (L : Nat) : sy_Cok (sz_env xs L) (pv_T (sz_own true) sz_T) sz_RU sz_cd449 := sy_chk_ok (CT := [sz_cd443, sz_cd444, sz_cd445, sz_cd446, sz_cd447, sz_cd448]) (CU := sz_ud449) (M := ri_m_X0_copyFrom) (List.forall_mem_cons.mpr ⟨sz_okd443 xs L, List.forall_mem_cons.mpr ⟨sz_okd444 xs L, List.forall_mem_cons.mpr ⟨sz_okd445 xs L, List.forall_mem_cons.mpr ⟨sz_okd446 xs L, List.forall_mem_cons.mpr ⟨sz_okd447 xs L, List.forall_mem_cons.mpr ⟨sz_okd448 xs L, fun _ h => absurd h List.not_mem_nil⟩⟩⟩⟩⟩⟩) rfl rfl ⟨_, _, sz_sd449_0⟩ (fun _ h => absurd h List.not_mem_nil)

/-! X10_startAt  -/
set_option maxRecDepth 100000 in
noncomputable def sz_cd450 : sy_Ct := (121, 4, 82, [(3, .inr 0, .inl 0), (0, .inl 0, .inl 0), (0, .inl 0, .inl 0)], ([], []), [], [], [(2, 1, 3), (4, 2, 2), (5, 0, 31), (6, 2, 2), (7, 0, 240), (10, 4, 14), (10, 16, 18), (11, 0, 6), (12, 0, 8), (13, 0, 4), (14, 0, 7), (15, 0, 5), (16, 0, 2), (17, 0, 2), (18, 0, 2), (19, 0, 2), (20, 0, 8), (21, 0, 3), (22, 4, 14), (22, 16, 18), (23, 0, 6), (24, 0, 8), (25, 0, 4), (26, 0, 7), (27, 0, 5), (28, 0, 2), (29, 0, 2), (30, 0, 2), (31, 0, 2), (32, 0, 8), (33, 0, 3), (34, 4, 14), (34, 16, 18), (35, 0, 6), (36, 0, 8), (37, 0, 4), (38, 0, 7), (39, 0, 5), (40, 0, 2), (41, 0, 2), (42, 0, 2), (43, 0, 2), (44, 0, 8), (45, 0, 3), (46, 4, 14), (46, 16, 18), (47, 0, 6), (48, 0, 8), (49, 0, 4), (50, 0, 7), (51, 0, 5), (52, 0, 2), (53, 0, 2), (54, 0, 2), (55, 0, 2), (56, 0, 8), (57, 0, 3), (171, 1, 3), (173, 2, 2), (174, 0, 31), (175, 2, 2), (176, 0, 240), (179, 4, 14), (179, 16, 18), (180, 0, 6), (181, 0, 8), (182, 0, 4), (183, 0, 7), (184, 0, 5), (185, 0, 2), (186, 0, 2), (187, 0, 2), (188, 0, 2), (189, 0, 8), (190, 0, 3), (191, 4, 14), (191, 16, 18), (192, 0, 6), (193, 0, 8), (194, 0, 4), (195, 0, 7), (196, 0, 5), (197, 0, 2), (198, 0, 2), (199, 0, 2), (200, 0, 2), (201, 0, 8), (202, 0, 3), (203, 4, 14), (203, 16, 18), (204, 0, 6), (205, 0, 8), (206, 0, 4), (207, 0, 7), (208, 0, 5), (209, 0, 2), (210, 0, 2), (211, 0, 2), (212, 0, 2), (213, 0, 8), (214, 0, 3), (215, 4, 14), (215, 16, 18), (216, 0, 6), (217, 0, 8), (218, 0, 4), (219, 0, 7), (220, 0, 5), (221, 0, 2), (222, 0, 2), (223, 0, 2), (224, 0, 2), (225, 0, 8), (226, 0, 3)], [(.inl none, 0, 0, ([], []), [], [])])
set_option maxRecDepth 100000 in
noncomputable def sz_ud450 : List sy_Cut := []
set_option maxRecDepth 100000 in
noncomputable def sz_hd450_0 : List sy_Hn := [(4, 4, 59, 2, 0, 0, [], [], []),
  (1, 20, 0, 0, 0, 0, [], [], []),
  (35, 20, 1, 0, 0, 0, [], [], []),
  (0, 31, 0, 0, 0, 0, [], [], []),
  (11, 20, 1, 0, 0, 0, [], [], []),
  (0, 31, 0, 0, 0, 0, [], [], []),
  (11, 20, 1, 0, 0, 0, [], [], []),
  (0, 31, 0, 0, 0, 0, [], [], [])]
set_option maxRecDepth 100000 in
theorem sz_sd450_0 : sy_seg sz_E (pv_T (sz_own true) sz_T) sz_RU [sz_cd353, sz_cd449] sz_cd450 sz_ud450 ri_m_X10_startAt 78 none sz_hd450_0 = true := by decide +kernel
theorem sz_okd450 (xs : Nat → Value) (L : Nat) : sy_Cok (sz_env xs L) (pv_T (sz_own true) sz_T) sz_RU sz_cd450 := sy_chk_ok (CT := [sz_cd353, sz_cd449]) (CU := sz_ud450) (M := ri_m_X10_startAt) (List.forall_mem_cons.mpr ⟨sz_okd353 xs L, List.forall_mem_cons.mpr ⟨sz_okd449 xs L, fun _ h => absurd h List.not_mem_nil⟩⟩) rfl rfl ⟨_, _, sz_sd450_0⟩ (fun _ h => absurd h List.not_mem_nil)

/-! X2_told  -/
set_option maxRecDepth 100000 in
noncomputable def sz_cd451 : sy_Ct := (285, 1, 22, [(3, .inr 179, .inl 0), (0, .inr 0, .inl 0)], ([(0, 24)], []), [], [], [], [(.inl (some (1, .inr 1, .inl 0)), 0, 0, ([((-9223372036854775808), 9223372036854775807), (0, 24)], []), [], [])])
set_option maxRecDepth 100000 in
noncomputable def sz_ud451 : List sy_Cut := []
set_option maxRecDepth 100000 in
noncomputable def sz_hd451_0 : List sy_Hn := [(0, 31, 0, 0, 0, 0, [], [], []),
  (0, 31, 0, 0, 0, 0, [], [], []),
  (0, 31, 0, 0, 0, 0, [], [], []),
  (0, 31, 0, 0, 0, 0, [], [], []),
  (0, 31, 0, 0, 0, 0, [], [], []),
  (0, 31, 0, 0, 0, 0, [], [], []),
  (0, 31, 0, 0, 0, 0, [], [], []),
  (0, 31, 0, 0, 0, 0, [], [], []),
  (0, 31, 0, 0, 0, 0, [], [], []),
  (0, 31, 0, 0, 0, 0, [], [], []),
  (0, 31, 0, 0, 0, 0, [], [], []),
  (0, 31, 0, 0, 0, 0, [], [], []),
  (0, 31, 0, 0, 0, 0, [], [], []),
  (0, 31, 0, 0, 0, 0, [], [], []),
  (0, 31, 0, 0, 0, 0, [], [], []),
  (0, 31, 0, 0, 0, 0, [], [], []),
  (0, 31, 0, 0, 0, 0, [], [], []),
  (0, 31, 0, 0, 0, 0, [], [], []),
  (0, 31, 0, 0, 0, 0, [], [], []),
  (0, 31, 0, 0, 0, 0, [], [], []),
  (0, 31, 0, 0, 0, 0, [], [], []),
  (0, 31, 0, 0, 0, 0, [], [], [])]
set_option maxRecDepth 100000 in
theorem sz_sd451_0 : sy_seg sz_E (pv_T (sz_own true) sz_T) sz_RU [] sz_cd451 sz_ud451 ri_m_X2_told 203 none sz_hd451_0 = true := by decide +kernel
theorem sz_okd451 (xs : Nat → Value) (L : Nat) : sy_Cok (sz_env xs L) (pv_T (sz_own true) sz_T) sz_RU sz_cd451 := sy_chk_ok (CT := []) (CU := sz_ud451) (M := ri_m_X2_told) (fun _ h => absurd h List.not_mem_nil) rfl rfl ⟨_, _, sz_sd451_0⟩ (fun _ h => absurd h List.not_mem_nil)

/-! X2_told  -/
set_option maxRecDepth 100000 in
noncomputable def sz_cd452 : sy_Ct := (285, 1, 22, [(3, .inr 191, .inl 0), (0, .inr 0, .inl 0)], ([(0, 24)], []), [], [], [], [(.inl (some (1, .inr 1, .inl 0)), 0, 0, ([((-9223372036854775808), 9223372036854775807), (0, 24)], []), [], [])])
set_option maxRecDepth 100000 in
noncomputable def sz_ud452 : List sy_Cut := []
set_option maxRecDepth 100000 in
noncomputable def sz_hd452_0 : List sy_Hn := [(0, 31, 0, 0, 0, 0, [], [], []),
  (0, 31, 0, 0, 0, 0, [], [], []),
  (0, 31, 0, 0, 0, 0, [], [], []),
  (0, 31, 0, 0, 0, 0, [], [], []),
  (0, 31, 0, 0, 0, 0, [], [], []),
  (0, 31, 0, 0, 0, 0, [], [], []),
  (0, 31, 0, 0, 0, 0, [], [], []),
  (0, 31, 0, 0, 0, 0, [], [], []),
  (0, 31, 0, 0, 0, 0, [], [], []),
  (0, 31, 0, 0, 0, 0, [], [], []),
  (0, 31, 0, 0, 0, 0, [], [], []),
  (0, 31, 0, 0, 0, 0, [], [], []),
  (0, 31, 0, 0, 0, 0, [], [], []),
  (0, 31, 0, 0, 0, 0, [], [], []),
  (0, 31, 0, 0, 0, 0, [], [], []),
  (0, 31, 0, 0, 0, 0, [], [], []),
  (0, 31, 0, 0, 0, 0, [], [], []),
  (0, 31, 0, 0, 0, 0, [], [], []),
  (0, 31, 0, 0, 0, 0, [], [], []),
  (0, 31, 0, 0, 0, 0, [], [], []),
  (0, 31, 0, 0, 0, 0, [], [], []),
  (0, 31, 0, 0, 0, 0, [], [], [])]
set_option maxRecDepth 100000 in
theorem sz_sd452_0 : sy_seg sz_E (pv_T (sz_own true) sz_T) sz_RU [] sz_cd452 sz_ud452 ri_m_X2_told 203 none sz_hd452_0 = true := by decide +kernel
theorem sz_okd452 (xs : Nat → Value) (L : Nat) : sy_Cok (sz_env xs L) (pv_T (sz_own true) sz_T) sz_RU sz_cd452 := sy_chk_ok (CT := []) (CU := sz_ud452) (M := ri_m_X2_told) (fun _ h => absurd h List.not_mem_nil) rfl rfl ⟨_, _, sz_sd452_0⟩ (fun _ h => absurd h List.not_mem_nil)

/-! X2_told  -/
set_option maxRecDepth 100000 in
noncomputable def sz_cd453 : sy_Ct := (285, 1, 22, [(3, .inr 203, .inl 0), (0, .inr 0, .inl 0)], ([(0, 24)], []), [], [], [], [(.inl (some (1, .inr 1, .inl 0)), 0, 0, ([((-9223372036854775808), 9223372036854775807), (0, 24)], []), [], [])])
set_option maxRecDepth 100000 in
noncomputable def sz_ud453 : List sy_Cut := []
set_option maxRecDepth 100000 in
noncomputable def sz_hd453_0 : List sy_Hn := [(0, 31, 0, 0, 0, 0, [], [], []),
  (0, 31, 0, 0, 0, 0, [], [], []),
  (0, 31, 0, 0, 0, 0, [], [], []),
  (0, 31, 0, 0, 0, 0, [], [], []),
  (0, 31, 0, 0, 0, 0, [], [], []),
  (0, 31, 0, 0, 0, 0, [], [], []),
  (0, 31, 0, 0, 0, 0, [], [], []),
  (0, 31, 0, 0, 0, 0, [], [], []),
  (0, 31, 0, 0, 0, 0, [], [], []),
  (0, 31, 0, 0, 0, 0, [], [], []),
  (0, 31, 0, 0, 0, 0, [], [], []),
  (0, 31, 0, 0, 0, 0, [], [], []),
  (0, 31, 0, 0, 0, 0, [], [], []),
  (0, 31, 0, 0, 0, 0, [], [], []),
  (0, 31, 0, 0, 0, 0, [], [], []),
  (0, 31, 0, 0, 0, 0, [], [], []),
  (0, 31, 0, 0, 0, 0, [], [], []),
  (0, 31, 0, 0, 0, 0, [], [], []),
  (0, 31, 0, 0, 0, 0, [], [], []),
  (0, 31, 0, 0, 0, 0, [], [], []),
  (0, 31, 0, 0, 0, 0, [], [], []),
  (0, 31, 0, 0, 0, 0, [], [], [])]
set_option maxRecDepth 100000 in
theorem sz_sd453_0 : sy_seg sz_E (pv_T (sz_own true) sz_T) sz_RU [] sz_cd453 sz_ud453 ri_m_X2_told 203 none sz_hd453_0 = true := by decide +kernel
theorem sz_okd453 (xs : Nat → Value) (L : Nat) : sy_Cok (sz_env xs L) (pv_T (sz_own true) sz_T) sz_RU sz_cd453 := sy_chk_ok (CT := []) (CU := sz_ud453) (M := ri_m_X2_told) (fun _ h => absurd h List.not_mem_nil) rfl rfl ⟨_, _, sz_sd453_0⟩ (fun _ h => absurd h List.not_mem_nil)

/-! X2_told  -/
set_option maxRecDepth 100000 in
noncomputable def sz_cd454 : sy_Ct := (285, 1, 22, [(3, .inr 215, .inl 0), (0, .inr 0, .inl 0)], ([(0, 24)], []), [], [], [], [(.inl (some (1, .inr 1, .inl 0)), 0, 0, ([((-9223372036854775808), 9223372036854775807), (0, 24)], []), [], [])])
set_option maxRecDepth 100000 in
noncomputable def sz_ud454 : List sy_Cut := []
set_option maxRecDepth 100000 in
noncomputable def sz_hd454_0 : List sy_Hn := [(0, 31, 0, 0, 0, 0, [], [], []),
  (0, 31, 0, 0, 0, 0, [], [], []),
  (0, 31, 0, 0, 0, 0, [], [], []),
  (0, 31, 0, 0, 0, 0, [], [], []),
  (0, 31, 0, 0, 0, 0, [], [], []),
  (0, 31, 0, 0, 0, 0, [], [], []),
  (0, 31, 0, 0, 0, 0, [], [], []),
  (0, 31, 0, 0, 0, 0, [], [], []),
  (0, 31, 0, 0, 0, 0, [], [], []),
  (0, 31, 0, 0, 0, 0, [], [], []),
  (0, 31, 0, 0, 0, 0, [], [], []),
  (0, 31, 0, 0, 0, 0, [], [], []),
  (0, 31, 0, 0, 0, 0, [], [], []),
  (0, 31, 0, 0, 0, 0, [], [], []),
  (0, 31, 0, 0, 0, 0, [], [], []),
  (0, 31, 0, 0, 0, 0, [], [], []),
  (0, 31, 0, 0, 0, 0, [], [], []),
  (0, 31, 0, 0, 0, 0, [], [], []),
  (0, 31, 0, 0, 0, 0, [], [], []),
  (0, 31, 0, 0, 0, 0, [], [], []),
  (0, 31, 0, 0, 0, 0, [], [], []),
  (0, 31, 0, 0, 0, 0, [], [], [])]
set_option maxRecDepth 100000 in
theorem sz_sd454_0 : sy_seg sz_E (pv_T (sz_own true) sz_T) sz_RU [] sz_cd454 sz_ud454 ri_m_X2_told 203 none sz_hd454_0 = true := by decide +kernel
theorem sz_okd454 (xs : Nat → Value) (L : Nat) : sy_Cok (sz_env xs L) (pv_T (sz_own true) sz_T) sz_RU sz_cd454 := sy_chk_ok (CT := []) (CU := sz_ud454) (M := ri_m_X2_told) (fun _ h => absurd h List.not_mem_nil) rfl rfl ⟨_, _, sz_sd454_0⟩ (fun _ h => absurd h List.not_mem_nil)

/-! X6_keep  -/
set_option maxRecDepth 100000 in
noncomputable def sz_cd455 : sy_Ct := (241, 2, 43, [(3, .inr 241, .inl 0), (3, .inr 171, .inl 0), (0, .inr 0, .inl 0)], ([(0, 9)], []), [], [], [(243, 0, 999)], [(.inl none, 0, 0, ([(0, 9)], []), [], [])])
set_option maxRecDepth 100000 in
noncomputable def sz_ud455 : List sy_Cut := [(2, [(0, (3, .inr 241, .inl 0)), (1, (3, .inr 171, .inl 0)), (2, (0, .inr 0, .inl 0)), (3, (0, .inr 1, .inl 0))], ([(0, 4), (0, 9)], []), [], [], [(4000, []), ((-1000), [1]), (500, [])]), (16, [(0, (3, .inr 241, .inl 0)), (1, (3, .inr 171, .inl 0)), (2, (0, .inr 0, .inl 0)), (3, (0, .inr 1, .inl 0)), (4, (0, .inr 2, .inl 0)), (5, (0, .inr 3, .inl 0))], ([(0, 25), (0, 975), (0, 3), (0, 9)], []), [], [], [(4000, []), ((-1000), [1]), (25, []), ((-1), [3])])]
set_option maxRecDepth 100000 in
noncomputable def sz_hd455_0 : List sy_Hn := [(0, 30, 0, 0, 0, 0, [([], [(1, [0])]), ([], [])], [], [])]
set_option maxRecDepth 100000 in
theorem sz_sd455_0 : sy_seg sz_E (pv_T (sz_own true) sz_T) sz_RU [sz_cd451, sz_cd452, sz_cd453, sz_cd454] sz_cd455 sz_ud455 ri_m_X6_keep 9 none sz_hd455_0 = true := by decide +kernel
set_option maxRecDepth 100000 in
noncomputable def sz_hd455_1 : List sy_Hn := [(0, 31, 0, 0, 0, 0, [], [], []),
  (0, 30, 0, 0, 0, 0, [([1], [(1, [0]), (1000, [2])]), ([], [(1, [0])])], [], [])]
set_option maxRecDepth 100000 in
theorem sz_sd455_1 : sy_seg sz_E (pv_T (sz_own true) sz_T) sz_RU [sz_cd451, sz_cd452, sz_cd453, sz_cd454] sz_cd455 sz_ud455 ri_m_X6_keep 23 (some ((2, [(0, (3, .inr 241, .inl 0)), (1, (3, .inr 171, .inl 0)), (2, (0, .inr 0, .inl 0)), (3, (0, .inr 1, .inl 0))], ([(0, 4), (0, 9)], []), [], [], [(4000, []), ((-1000), [1]), (500, [])]))) sz_hd455_1 = true := by decide +kernel
set_option maxRecDepth 100000 in
noncomputable def sz_hd455_2 : List sy_Hn := [(0, 30, 0, 0, 0, 0, [([4], [(1, [0]), (1000, [2])]), ([3], [(1, [0]), (1000, [3]), (1, [2])])], [], []),
  (8, 1, 1, 0, 0, 0, [], [], []),
  (3, 20, 0, 0, 0, 0, [], [], []),
  (0, 30, 0, 0, 0, 0, [([1, 6], [(1, [0]), (1000, [2]), (1, [4])]), ([], [(1, [0]), (1, [1])])], [], []),
  (0, 1, 1, 0, 1, 0, [], [], []),
  (3, 20, 1, 0, 0, 0, [], [], []),
  (0, 30, 0, 0, 0, 0, [([1, 6], [(1, [0]), (1000, [2]), (1, [4])]), ([], [(1, [0]), (1, [1])])], [], []),
  (0, 1, 1, 0, 2, 0, [], [], []),
  (3, 20, 2, 0, 0, 0, [], [], []),
  (0, 30, 0, 0, 0, 0, [([1, 6], [(1, [0]), (1000, [2]), (1, [4])]), ([], [(1, [0]), (1, [1])])], [], []),
  (3, 20, 3, 0, 0, 0, [], [], []),
  (0, 30, 0, 0, 0, 0, [([1, 6], [(1, [0]), (1000, [2]), (1, [4])]), ([], [(1, [0]), (1, [1])])], [], [])]
set_option maxRecDepth 100000 in
theorem sz_sd455_2 : sy_seg sz_E (pv_T (sz_own true) sz_T) sz_RU [sz_cd451, sz_cd452, sz_cd453, sz_cd454] sz_cd455 sz_ud455 ri_m_X6_keep 62 (some ((16, [(0, (3, .inr 241, .inl 0)), (1, (3, .inr 171, .inl 0)), (2, (0, .inr 0, .inl 0)), (3, (0, .inr 1, .inl 0)), (4, (0, .inr 2, .inl 0)), (5, (0, .inr 3, .inl 0))], ([(0, 25), (0, 975), (0, 3), (0, 9)], []), [], [], [(4000, []), ((-1000), [1]), (25, []), ((-1), [3])]))) sz_hd455_2 = true := by decide +kernel
theorem sz_okd455 (xs : Nat → Value) (L : Nat) : sy_Cok (sz_env xs L) (pv_T (sz_own true) sz_T) sz_RU sz_cd455 := sy_chk_ok (CT := [sz_cd451, sz_cd452, sz_cd453, sz_cd454]) (CU := sz_ud455) (M := ri_m_X6_keep) (List.forall_mem_cons.mpr ⟨sz_okd451 xs L, List.forall_mem_cons.mpr ⟨sz_okd452 xs L, List.forall_mem_cons.mpr ⟨sz_okd453 xs L, List.forall_mem_cons.mpr ⟨sz_okd454 xs L, fun _ h => absurd h List.not_mem_nil⟩⟩⟩⟩) rfl rfl ⟨_, _, sz_sd455_0⟩ (List.forall_mem_cons.mpr ⟨⟨_, _, sz_sd455_1⟩, List.forall_mem_cons.mpr ⟨⟨_, _, sz_sd455_2⟩, fun _ h => absurd h List.not_mem_nil⟩⟩)

/-! X6_isKept  -/
set_option maxRecDepth 100000 in
noncomputable def sz_cd456 : sy_Ct := (242, 2, 43, [(3, .inr 241, .inl 0), (3, .inr 171, .inl 0), (0, .inr 0, .inl 0)], ([(0, 9)], []), [], [], [], [(.inl (some (0, .inr 1, .inl 0)), 0, 0, ([(0, 1), (0, 9)], []), [], [])])
set_option maxRecDepth 100000 in
noncomputable def sz_ud456 : List sy_Cut := [(2, [(0, (3, .inr 241, .inl 0)), (1, (3, .inr 171, .inl 0)), (2, (0, .inr 0, .inl 0)), (3, (0, .inr 1, .inl 0))], ([(0, 4), (0, 9)], []), [], [], [(4000, []), ((-1000), [1]), (500, [])]), (16, [(0, (3, .inr 241, .inl 0)), (1, (3, .inr 171, .inl 0)), (2, (0, .inr 0, .inl 0)), (3, (0, .inr 1, .inl 0)), (4, (0, .inr 2, .inl 0)), (5, (0, .inr 3, .inl 0))], ([(0, 25), (0, 975), (0, 3), (0, 9)], []), [], [], [(4000, []), ((-1000), [1]), (25, []), ((-1), [3])])]
set_option maxRecDepth 100000 in
noncomputable def sz_hd456_0 : List sy_Hn := [(0, 30, 0, 0, 0, 0, [([], [(1, [0])]), ([], [])], [], [])]
set_option maxRecDepth 100000 in
theorem sz_sd456_0 : sy_seg sz_E (pv_T (sz_own true) sz_T) sz_RU [sz_cd451, sz_cd452, sz_cd453, sz_cd454] sz_cd456 sz_ud456 ri_m_X6_isKept 9 none sz_hd456_0 = true := by decide +kernel
set_option maxRecDepth 100000 in
noncomputable def sz_hd456_1 : List sy_Hn := [(0, 31, 0, 0, 0, 0, [], [], []),
  (0, 30, 0, 0, 0, 0, [([1], [(1, [0]), (1000, [2])]), ([], [(1, [0])])], [], [])]
set_option maxRecDepth 100000 in
theorem sz_sd456_1 : sy_seg sz_E (pv_T (sz_own true) sz_T) sz_RU [sz_cd451, sz_cd452, sz_cd453, sz_cd454] sz_cd456 sz_ud456 ri_m_X6_isKept 24 (some ((2, [(0, (3, .inr 241, .inl 0)), (1, (3, .inr 171, .inl 0)), (2, (0, .inr 0, .inl 0)), (3, (0, .inr 1, .inl 0))], ([(0, 4), (0, 9)], []), [], [], [(4000, []), ((-1000), [1]), (500, [])]))) sz_hd456_1 = true := by decide +kernel
set_option maxRecDepth 100000 in
noncomputable def sz_hd456_2 : List sy_Hn := [(0, 30, 0, 0, 0, 0, [([4], [(1, [0]), (1000, [2])]), ([3], [(1, [0]), (1000, [3]), (1, [2])])], [], []),
  (9, 1, 1, 0, 0, 0, [], [], []),
  (3, 20, 0, 0, 0, 0, [], [], []),
  (0, 30, 0, 0, 0, 0, [([1, 7], [(1, [0]), (1000, [2]), (1, [4])]), ([], [(1, [0]), (1, [1])])], [], []),
  (0, 31, 0, 0, 0, 0, [], [], []),
  (0, 1, 1, 0, 1, 0, [], [], []),
  (3, 20, 1, 0, 0, 0, [], [], []),
  (0, 30, 0, 0, 0, 0, [([1, 7], [(1, [0]), (1000, [2]), (1, [4])]), ([], [(1, [0]), (1, [1])])], [], []),
  (0, 31, 0, 0, 0, 0, [], [], []),
  (0, 1, 1, 0, 2, 0, [], [], []),
  (3, 20, 2, 0, 0, 0, [], [], []),
  (0, 30, 0, 0, 0, 0, [([1, 7], [(1, [0]), (1000, [2]), (1, [4])]), ([], [(1, [0]), (1, [1])])], [], []),
  (0, 31, 0, 0, 0, 0, [], [], []),
  (3, 20, 3, 0, 0, 0, [], [], []),
  (0, 30, 0, 0, 0, 0, [([1, 7], [(1, [0]), (1000, [2]), (1, [4])]), ([], [(1, [0]), (1, [1])])], [], []),
  (0, 31, 0, 0, 0, 0, [], [], [])]
set_option maxRecDepth 100000 in
theorem sz_sd456_2 : sy_seg sz_E (pv_T (sz_own true) sz_T) sz_RU [sz_cd451, sz_cd452, sz_cd453, sz_cd454] sz_cd456 sz_ud456 ri_m_X6_isKept 79 (some ((16, [(0, (3, .inr 241, .inl 0)), (1, (3, .inr 171, .inl 0)), (2, (0, .inr 0, .inl 0)), (3, (0, .inr 1, .inl 0)), (4, (0, .inr 2, .inl 0)), (5, (0, .inr 3, .inl 0))], ([(0, 25), (0, 975), (0, 3), (0, 9)], []), [], [], [(4000, []), ((-1000), [1]), (25, []), ((-1), [3])]))) sz_hd456_2 = true := by decide +kernel
theorem sz_okd456 (xs : Nat → Value) (L : Nat) : sy_Cok (sz_env xs L) (pv_T (sz_own true) sz_T) sz_RU sz_cd456 := sy_chk_ok (CT := [sz_cd451, sz_cd452, sz_cd453, sz_cd454]) (CU := sz_ud456) (M := ri_m_X6_isKept) (List.forall_mem_cons.mpr ⟨sz_okd451 xs L, List.forall_mem_cons.mpr ⟨sz_okd452 xs L, List.forall_mem_cons.mpr ⟨sz_okd453 xs L, List.forall_mem_cons.mpr ⟨sz_okd454 xs L, fun _ h => absurd h List.not_mem_nil⟩⟩⟩⟩) rfl rfl ⟨_, _, sz_sd456_0⟩ (List.forall_mem_cons.mpr ⟨⟨_, _, sz_sd456_1⟩, List.forall_mem_cons.mpr ⟨⟨_, _, sz_sd456_2⟩, fun _ h => absurd h List.not_mem_nil⟩⟩)

/-! X6_lengthOf  -/
set_option maxRecDepth 100000 in
noncomputable def sz_cd457 : sy_Ct := (183, 5, 122, [(3, .inr 241, .inl 0), (3, .inr 171, .inl 0)], ([], []), [], [], [(171, 3, 3), (175, 2, 2), (176, 0, 239), (177, 0, 3), (178, 0, 3), (179, 5, 13), (179, 16, 18), (180, 5, 6), (181, 0, 8), (182, 3, 3), (189, 3, 8), (190, 0, 4), (191, 5, 13), (191, 16, 18), (192, 5, 6), (193, 0, 8), (194, 3, 3), (201, 3, 8), (202, 0, 4), (203, 5, 13), (203, 16, 18), (204, 5, 6), (205, 0, 8), (206, 3, 3), (213, 3, 8), (214, 0, 4), (215, 5, 13), (215, 16, 18), (216, 5, 6), (217, 0, 8), (218, 3, 3), (225, 3, 8), (226, 0, 4), (243, 0, 999)], [(.inl (some (0, .inr 0, .inl 0)), 0, 0, ([((-1), 400)], []), [], [])])
set_option maxRecDepth 100000 in
noncomputable def sz_ud457 : List sy_Cut := [(10, [(0, (3, .inr 241, .inl 0)), (1, (3, .inr 171, .inl 0)), (2, (0, .inr 0, .inl 0)), (3, (0, .inr 1, .inl 0)), (4, (0, .inr 2, .inl 0))], ([(1, 401), (1, 200), (0, 200)], [[(1, [2]), ((-1), [0]), ((-1), [])]]), [], [], [(401, []), ((-1), [2])])]
set_option maxRecDepth 100000 in
noncomputable def sz_hd457_0 : List sy_Hn := [(8, 20, 1, 0, 0, 0, [], [], []),
  (0, 30, 0, 0, 0, 0, [([], [(1, [0])]), ([], []), ([], [(1, [0])])], [], [])]
set_option maxRecDepth 100000 in
theorem sz_sd457_0 : sy_seg sz_E (pv_T (sz_own true) sz_T) sz_RU [sz_cd428, sz_cd455, sz_cd456] sz_cd457 sz_ud457 ri_m_X6_lengthOf 18 none sz_hd457_0 = true := by decide +kernel
set_option maxRecDepth 100000 in
noncomputable def sz_hd457_1 : List sy_Hn := [(0, 31, 0, 0, 0, 0, [], [], []),
  (2, 20, 0, 0, 0, 0, [], [], []),
  (5, 20, 2, 0, 0, 0, [], [], []),
  (0, 30, 0, 0, 0, 0, [([5], [(1, [0]), (1, [2])]), ([], [(1, [0]), (1, [1])]), ([], [(1, [0]), (1, [4]), (1, [1])])], [], []),
  (4, 20, 1, 0, 0, 0, [], [], []),
  (0, 30, 0, 0, 0, 0, [([6], [(1, [0]), (1, [2])]), ([], [(1, [0]), (1, [1])]), ([], [(1, [0]), (1, [1])])], [], []),
  (0, 30, 0, 0, 0, 0, [([6], [(1, [0]), (1, [2])]), ([], [(1, [0]), (1, [1])]), ([], [(1, [0]), (1, [1])])], [], []),
  (3, 3, 5, 0, 1, 400, [([], [(1, [0]), (1, [1]), (1, [3])]), ([5], [(1, [0]), (1, [2])])], [], []),
  (0, 31, 0, 0, 0, 0, [], [], [])]
set_option maxRecDepth 100000 in
theorem sz_sd457_1 : sy_seg sz_E (pv_T (sz_own true) sz_T) sz_RU [sz_cd428, sz_cd455, sz_cd456] sz_cd457 sz_ud457 ri_m_X6_lengthOf 64 (some ((10, [(0, (3, .inr 241, .inl 0)), (1, (3, .inr 171, .inl 0)), (2, (0, .inr 0, .inl 0)), (3, (0, .inr 1, .inl 0)), (4, (0, .inr 2, .inl 0))], ([(1, 401), (1, 200), (0, 200)], [[(1, [2]), ((-1), [0]), ((-1), [])]]), [], [], [(401, []), ((-1), [2])]))) sz_hd457_1 = true := by decide +kernel
theorem sz_okd457 (xs : Nat → Value) (L : Nat) : sy_Cok (sz_env xs L) (pv_T (sz_own true) sz_T) sz_RU sz_cd457 := sy_chk_ok (CT := [sz_cd428, sz_cd455, sz_cd456]) (CU := sz_ud457) (M := ri_m_X6_lengthOf) (List.forall_mem_cons.mpr ⟨sz_okd428 xs L, List.forall_mem_cons.mpr ⟨sz_okd455 xs L, List.forall_mem_cons.mpr ⟨sz_okd456 xs L, fun _ h => absurd h List.not_mem_nil⟩⟩⟩) rfl rfl ⟨_, _, sz_sd457_0⟩ (List.forall_mem_cons.mpr ⟨⟨_, _, sz_sd457_1⟩, fun _ h => absurd h List.not_mem_nil⟩)

/-! X7_copyFrom  -/
set_option maxRecDepth 100000 in
noncomputable def sz_cd458 : sy_Ct := (203, 1, 18, [(3, .inr 173, .inl 0), (3, .inr 4, .inl 0)], ([], []), [], [], [(173, 2, 2), (174, 0, 31)], [(.inl none, 0, 0, ([], []), [], [])])
set_option maxRecDepth 100000 in
noncomputable def sz_ud458 : List sy_Cut := []
set_option maxRecDepth 100000 in
noncomputable def sz_hd458_0 : List sy_Hn := [(0, 4, 4, 2, 0, 0, [], [], []),
  (0, 1, 0, 0, 0, 0, [], [], []),
  (0, 31, 0, 0, 0, 0, [], [], []),
  (0, 1, 0, 0, 1, 0, [], [], []),
  (0, 31, 0, 0, 0, 0, [], [], []),
  (0, 1, 0, 0, 2, 0, [], [], []),
  (0, 31, 0, 0, 0, 0, [], [], []),
  (0, 1, 0, 0, 3, 0, [], [], []),
  (0, 31, 0, 0, 0, 0, [], [], []),
  (0, 1, 0, 0, 4, 0, [], [], []),
  (0, 31, 0, 0, 0, 0, [], [], []),
  (0, 1, 0, 0, 5, 0, [], [], []),
  (0, 31, 0, 0, 0, 0, [], [], []),
  (0, 1, 0, 0, 6, 0, [], [], []),
  (0, 31, 0, 0, 0, 0, [], [], []),
  (0, 1, 0, 0, 7, 0, [], [], []),
  (0, 31, 0, 0, 0, 0, [], [], []),
  (0, 31, 0, 0, 0, 0, [], [], [])]
set_option maxRecDepth 100000 in
theorem sz_sd458_0 : sy_seg sz_E (pv_T (sz_own true) sz_T) sz_RU [] sz_cd458 sz_ud458 ri_m_X7_copyFrom 168 none sz_hd458_0 = true := by decide +kernel
theorem sz_okd458 (xs : Nat → Value) (L : Nat) : sy_Cok (sz_env xs L) (pv_T (sz_own true) sz_T) sz_RU sz_cd458 := sy_chk_ok (CT := []) (CU := sz_ud458) (M := ri_m_X7_copyFrom) (fun _ h => absurd h List.not_mem_nil) rfl rfl ⟨_, _, sz_sd458_0⟩ (fun _ h => absurd h List.not_mem_nil)

/-! X7_copyFrom  -/
set_option maxRecDepth 100000 in
noncomputable def sz_cd459 : sy_Ct := (203, 1, 18, [(3, .inr 175, .inl 0), (3, .inr 6, .inl 0)], ([], []), [], [], [(175, 2, 2), (176, 0, 240)], [(.inl none, 0, 0, ([], []), [], [])])
set_option maxRecDepth 100000 in
noncomputable def sz_ud459 : List sy_Cut := []
set_option maxRecDepth 100000 in
noncomputable def sz_hd459_0 : List sy_Hn := [(0, 31, 0, 0, 0, 0, [], [], [])]
set_option maxRecDepth 100000 in
theorem sz_sd459_0 : sy_seg sz_E (pv_T (sz_own true) sz_T) sz_RU [] sz_cd459 sz_ud459 ri_m_X7_copyFrom 22 none sz_hd459_0 = true := by decide +kernel
theorem sz_okd459 (xs : Nat → Value) (L : Nat) : sy_Cok (sz_env xs L) (pv_T (sz_own true) sz_T) sz_RU sz_cd459 := sy_chk_ok (CT := []) (CU := sz_ud459) (M := ri_m_X7_copyFrom) (fun _ h => absurd h List.not_mem_nil) rfl rfl ⟨_, _, sz_sd459_0⟩ (fun _ h => absurd h List.not_mem_nil)

/-! X2_copyFrom  -/
set_option maxRecDepth 100000 in
noncomputable def sz_cd460 : sy_Ct := (202, 2, 39, [(3, .inr 179, .inl 0), (3, .inr 10, .inl 0)], ([(1, 3)], []), [((15, 5), (0, .inr 0, .inl 0))], [457, 458, 459, 460], [(179, 4, 14), (179, 16, 18), (180, 0, 6), (181, 0, 8), (182, 0, 4), (183, 0, 7), (184, 0, 5), (185, 0, 2), (186, 0, 2), (187, 0, 2), (188, 0, 2), (189, 0, 8), (190, 0, 3)], [(.inl none, 0, 0, ([(1, 3), (1, 3)], []), [((184, 5), (0, .inr 1, .inl 0))], [457, 458, 459, 460])])
set_option maxRecDepth 100000 in
noncomputable def sz_ud460 : List sy_Cut := []
set_option maxRecDepth 100000 in
noncomputable def sz_hd460_0 : List sy_Hn := [(244, 9, 469, 437, 0, 0, [], [], []),
  (0, 9, 470, 438, 0, 0, [], [], []),
  (0, 9, 471, 439, 0, 0, [], [], []),
  (0, 9, 472, 440, 0, 0, [], [], []),
  (0, 9, 473, 441, 0, 0, [], [], []),
  (0, 31, 0, 0, 0, 0, [], [], [])]
set_option maxRecDepth 100000 in
theorem sz_sd460_0 : sy_seg sz_E (pv_T (sz_own true) sz_T) sz_RU [] sz_cd460 sz_ud460 ri_m_X2_copyFrom 256 none sz_hd460_0 = true := by decide +kernel
theorem sz_okd460 (xs : Nat → Value) (L : Nat) : sy_Cok (sz_env xs L) (pv_T (sz_own true) sz_T) sz_RU sz_cd460 := sy_chk_ok (CT := []) (CU := sz_ud460) (M := ri_m_X2_copyFrom) (fun _ h => absurd h List.not_mem_nil) rfl rfl ⟨_, _, sz_sd460_0⟩ (fun _ h => absurd h List.not_mem_nil)

/-! X2_copyFrom  -/
set_option maxRecDepth 100000 in
noncomputable def sz_cd461 : sy_Ct := (202, 2, 39, [(3, .inr 191, .inl 0), (3, .inr 22, .inl 0)], ([(1, 3)], []), [((27, 5), (0, .inr 0, .inl 0))], [457, 458, 459, 460], [(191, 4, 14), (191, 16, 18), (192, 0, 6), (193, 0, 8), (194, 0, 4), (195, 0, 7), (196, 0, 5), (197, 0, 2), (198, 0, 2), (199, 0, 2), (200, 0, 2), (201, 0, 8), (202, 0, 3)], [(.inl none, 0, 0, ([(1, 3), (1, 3)], []), [((196, 5), (0, .inr 1, .inl 0))], [457, 458, 459, 460])])
set_option maxRecDepth 100000 in
noncomputable def sz_ud461 : List sy_Cut := []
set_option maxRecDepth 100000 in
noncomputable def sz_hd461_0 : List sy_Hn := [(244, 9, 474, 442, 0, 0, [], [], []),
  (0, 9, 475, 443, 0, 0, [], [], []),
  (0, 9, 476, 444, 0, 0, [], [], []),
  (0, 9, 477, 445, 0, 0, [], [], []),
  (0, 9, 478, 446, 0, 0, [], [], []),
  (0, 31, 0, 0, 0, 0, [], [], [])]
set_option maxRecDepth 100000 in
theorem sz_sd461_0 : sy_seg sz_E (pv_T (sz_own true) sz_T) sz_RU [] sz_cd461 sz_ud461 ri_m_X2_copyFrom 256 none sz_hd461_0 = true := by decide +kernel
theorem sz_okd461 (xs : Nat → Value) (L : Nat) : sy_Cok (sz_env xs L) (pv_T (sz_own true) sz_T) sz_RU sz_cd461 := sy_chk_ok (CT := []) (CU := sz_ud461) (M := ri_m_X2_copyFrom) (fun _ h => absurd h List.not_mem_nil) rfl rfl ⟨_, _, sz_sd461_0⟩ (fun _ h => absurd h List.not_mem_nil)

/-! X2_copyFrom  -/
set_option maxRecDepth 100000 in
noncomputable def sz_cd462 : sy_Ct := (202, 2, 39, [(3, .inr 203, .inl 0), (3, .inr 34, .inl 0)], ([(1, 3)], []), [((39, 5), (0, .inr 0, .inl 0))], [457, 458, 459, 460], [(203, 4, 14), (203, 16, 18), (204, 0, 6), (205, 0, 8), (206, 0, 4), (207, 0, 7), (208, 0, 5), (209, 0, 2), (210, 0, 2), (211, 0, 2), (212, 0, 2), (213, 0, 8), (214, 0, 3)], [(.inl none, 0, 0, ([(1, 3), (1, 3)], []), [((208, 5), (0, .inr 1, .inl 0))], [457, 458, 459, 460])])
set_option maxRecDepth 100000 in
noncomputable def sz_ud462 : List sy_Cut := []
set_option maxRecDepth 100000 in
noncomputable def sz_hd462_0 : List sy_Hn := [(244, 9, 479, 447, 0, 0, [], [], []),
  (0, 9, 480, 448, 0, 0, [], [], []),
  (0, 9, 481, 449, 0, 0, [], [], []),
  (0, 9, 482, 450, 0, 0, [], [], []),
  (0, 9, 483, 451, 0, 0, [], [], []),
  (0, 31, 0, 0, 0, 0, [], [], [])]
set_option maxRecDepth 100000 in
theorem sz_sd462_0 : sy_seg sz_E (pv_T (sz_own true) sz_T) sz_RU [] sz_cd462 sz_ud462 ri_m_X2_copyFrom 256 none sz_hd462_0 = true := by decide +kernel
theorem sz_okd462 (xs : Nat → Value) (L : Nat) : sy_Cok (sz_env xs L) (pv_T (sz_own true) sz_T) sz_RU sz_cd462 := sy_chk_ok (CT := []) (CU := sz_ud462) (M := ri_m_X2_copyFrom) (fun _ h => absurd h List.not_mem_nil) rfl rfl ⟨_, _, sz_sd462_0⟩ (fun _ h => absurd h List.not_mem_nil)

/-! X2_copyFrom  -/
set_option maxRecDepth 100000 in
noncomputable def sz_cd463 : sy_Ct := (202, 2, 39, [(3, .inr 215, .inl 0), (3, .inr 46, .inl 0)], ([(1, 3)], []), [((51, 5), (0, .inr 0, .inl 0))], [457, 458, 459, 460], [(215, 4, 14), (215, 16, 18), (216, 0, 6), (217, 0, 8), (218, 0, 4), (219, 0, 7), (220, 0, 5), (221, 0, 2), (222, 0, 2), (223, 0, 2), (224, 0, 2), (225, 0, 8), (226, 0, 3)], [(.inl none, 0, 0, ([(1, 3), (1, 3)], []), [((220, 5), (0, .inr 1, .inl 0))], [457, 458, 459, 460])])
set_option maxRecDepth 100000 in
noncomputable def sz_ud463 : List sy_Cut := []
set_option maxRecDepth 100000 in
noncomputable def sz_hd463_0 : List sy_Hn := [(244, 9, 484, 452, 0, 0, [], [], []),
  (0, 9, 485, 453, 0, 0, [], [], []),
  (0, 9, 486, 454, 0, 0, [], [], []),
  (0, 9, 487, 455, 0, 0, [], [], []),
  (0, 9, 488, 456, 0, 0, [], [], []),
  (0, 31, 0, 0, 0, 0, [], [], [])]
set_option maxRecDepth 100000 in
theorem sz_sd463_0 : sy_seg sz_E (pv_T (sz_own true) sz_T) sz_RU [] sz_cd463 sz_ud463 ri_m_X2_copyFrom 256 none sz_hd463_0 = true := by decide +kernel
theorem sz_okd463 (xs : Nat → Value) (L : Nat) : sy_Cok (sz_env xs L) (pv_T (sz_own true) sz_T) sz_RU sz_cd463 := sy_chk_ok (CT := []) (CU := sz_ud463) (M := ri_m_X2_copyFrom) (fun _ h => absurd h List.not_mem_nil) rfl rfl ⟨_, _, sz_sd463_0⟩ (fun _ h => absurd h List.not_mem_nil)

/-! X0_copyFrom  -/
set_option maxRecDepth 100000 in
noncomputable def sz_cd464 : sy_Ct := (148, 3, 60, [(3, .inr 171, .inl 0), (3, .inr 2, .inl 0)], ([(0, 12)], []), [((2, 2), (0, .inr 0, .inl 0))], [], [(171, 1, 3), (173, 2, 2), (174, 0, 31), (175, 2, 2), (176, 0, 240), (179, 4, 14), (179, 16, 18), (180, 0, 6), (181, 0, 8), (182, 0, 4), (183, 0, 7), (184, 0, 5), (185, 0, 2), (186, 0, 2), (187, 0, 2), (188, 0, 2), (189, 0, 8), (190, 0, 3), (191, 4, 14), (191, 16, 18), (192, 0, 6), (193, 0, 8), (194, 0, 4), (195, 0, 7), (196, 0, 5), (197, 0, 2), (198, 0, 2), (199, 0, 2), (200, 0, 2), (201, 0, 8), (202, 0, 3), (203, 4, 14), (203, 16, 18), (204, 0, 6), (205, 0, 8), (206, 0, 4), (207, 0, 7), (208, 0, 5), (209, 0, 2), (210, 0, 2), (211, 0, 2), (212, 0, 2), (213, 0, 8), (214, 0, 3), (215, 4, 14), (215, 16, 18), (216, 0, 6), (217, 0, 8), (218, 0, 4), (219, 0, 7), (220, 0, 5), (221, 0, 2), (222, 0, 2), (223, 0, 2), (224, 0, 2), (225, 0, 8), (226, 0, 3)], [(.inl none, 0, 0, ([(0, 12), (0, 12)], [[((-1), [1]), (1, [0])], [(1, [1]), ((-1), [0])]]), [((171, 2), (0, .inr 1, .inl 0))], [])])
set_option maxRecDepth 100000 in
noncomputable def sz_ud464 : List sy_Cut := []
set_option maxRecDepth 100000 in
noncomputable def sz_hd464_0 : List sy_Hn := [(22, 4, 184, 5, 0, 0, [], [], []),
  (0, 6, 457, 0, 0, 0, [([1], [(1, [0]), (1, [2])])], [], [0]),
  (0, 4, 196, 5, 0, 0, [], [], []),
  (0, 6, 458, 0, 0, 0, [([1], [(1, [0]), (1, [2])])], [], [0]),
  (0, 4, 208, 5, 0, 0, [], [], []),
  (0, 6, 459, 0, 0, 0, [([1], [(1, [0]), (1, [2])])], [], [0]),
  (0, 4, 220, 5, 0, 0, [], [], []),
  (0, 6, 460, 0, 0, 0, [([1], [(1, [0]), (1, [2])])], [], [0]),
  (1, 20, 0, 0, 0, 0, [], [], []),
  (5, 20, 1, 0, 0, 0, [], [], []),
  (0, 31, 0, 0, 0, 0, [([], [(1, [0])]), ([], [(1, [0])])], [], []),
  (8, 4, 15, 5, 0, 0, [], [], []),
  (0, 5, 489, 0, 0, 0, [], [], []),
  (0, 7, 0, 0, 0, 0, [([1], [(1, [2]), (1, [0])])], [], []),
  (0, 3, 3, 0, 1, 3, [([], [(1, [0]), (1, [1])]), ([3], [(1, [0]), (1, [2])])], [], []),
  (1, 20, 2, 0, 0, 0, [], [], []),
  (10, 6, 457, 0, 0, 0, [([4], [(1, [0]), (1, [1])])], [], [1]),
  (0, 4, 196, 5, 0, 0, [], [], []),
  (0, 6, 458, 0, 0, 0, [([1], [(1, [0]), (1, [2])])], [], [0]),
  (0, 4, 208, 5, 0, 0, [], [], []),
  (0, 6, 459, 0, 0, 0, [([1], [(1, [0]), (1, [2])])], [], [0]),
  (0, 4, 220, 5, 0, 0, [], [], []),
  (0, 6, 460, 0, 0, 0, [([1], [(1, [0]), (1, [2])])], [], [0]),
  (1, 20, 0, 0, 0, 0, [], [], []),
  (5, 20, 1, 0, 0, 0, [], [], []),
  (0, 31, 0, 0, 0, 0, [([], [(1, [0])]), ([], [(1, [0])])], [], []),
  (8, 4, 27, 5, 0, 0, [], [], []),
  (0, 5, 490, 0, 0, 0, [], [], []),
  (0, 7, 0, 0, 0, 0, [([1], [(1, [2]), (1, [0])])], [], []),
  (0, 3, 5, 0, 1, 3, [([], [(1, [0]), (1, [1])]), ([5], [(1, [0]), (1, [2])])], [], []),
  (1, 20, 3, 0, 0, 0, [], [], []),
  (10, 6, 457, 0, 0, 0, [([4], [(1, [0]), (1, [1])])], [], [1]),
  (0, 6, 458, 0, 0, 0, [([6], [(1, [0]), (1, [1])])], [], [1]),
  (0, 4, 208, 5, 0, 0, [], [], []),
  (0, 6, 459, 0, 0, 0, [([1], [(1, [0]), (1, [2])])], [], [0]),
  (0, 4, 220, 5, 0, 0, [], [], []),
  (0, 6, 460, 0, 0, 0, [([1], [(1, [0]), (1, [2])])], [], [0]),
  (1, 20, 0, 0, 0, 0, [], [], []),
  (5, 20, 1, 0, 0, 0, [], [], []),
  (0, 31, 0, 0, 0, 0, [([], [(1, [0])]), ([], [(1, [0])])], [], []),
  (8, 4, 39, 5, 0, 0, [], [], []),
  (0, 5, 491, 0, 0, 0, [], [], []),
  (0, 7, 0, 0, 0, 0, [([1], [(1, [2]), (1, [0])])], [], []),
  (0, 3, 7, 0, 1, 3, [([], [(1, [0]), (1, [1])]), ([7], [(1, [0]), (1, [2])])], [], []),
  (1, 20, 4, 0, 0, 0, [], [], []),
  (10, 6, 457, 0, 0, 0, [([4], [(1, [0]), (1, [1])])], [], [1]),
  (0, 6, 458, 0, 0, 0, [([6], [(1, [0]), (1, [1])])], [], [1]),
  (0, 6, 459, 0, 0, 0, [([8], [(1, [0]), (1, [1])])], [], [1]),
  (0, 4, 220, 5, 0, 0, [], [], []),
  (0, 6, 460, 0, 0, 0, [([1], [(1, [0]), (1, [2])])], [], [0]),
  (1, 20, 0, 0, 0, 0, [], [], []),
  (5, 20, 1, 0, 0, 0, [], [], []),
  (0, 31, 0, 0, 0, 0, [([], [(1, [0])]), ([], [(1, [0])])], [], []),
  (8, 4, 51, 5, 0, 0, [], [], []),
  (0, 5, 492, 0, 0, 0, [], [], []),
  (0, 7, 0, 0, 0, 0, [([1], [(1, [2]), (1, [0])])], [], []),
  (0, 3, 9, 0, 1, 3, [([], [(1, [0]), (1, [1])]), ([9], [(1, [0]), (1, [2])])], [], []),
  (1, 20, 5, 0, 0, 0, [], [], []),
  (10, 6, 457, 0, 0, 0, [([4], [(1, [0]), (1, [1])])], [], [1]),
  (0, 6, 458, 0, 0, 0, [([6], [(1, [0]), (1, [1])])], [], [1]),
  (0, 6, 459, 0, 0, 0, [([8], [(1, [0]), (1, [1])])], [], [1]),
  (0, 6, 460, 0, 0, 0, [([10], [(1, [0]), (1, [1])])], [], [1]),
  (1, 20, 0, 0, 0, 0, [], [], []),
  (5, 20, 1, 0, 0, 0, [], [], []),
  (0, 31, 0, 0, 0, 0, [([], [(1, [0])]), ([], [(1, [0])])], [], [])]
set_option maxRecDepth 100000 in
theorem sz_sd464_0 : sy_seg sz_E (pv_T (sz_own true) sz_T) sz_RU [sz_cd458, sz_cd459, sz_cd460, sz_cd461, sz_cd462, sz_cd463] sz_cd464 sz_ud464 ri_m_X0_copyFrom 211 none sz_hd464_0 = true := by decide +kernel
theorem sz_okd464 (xs : Nat → Value) (L : Nat) : sy_Cok (sz_env xs L) (pv_T (sz_own true) sz_T) sz_RU sz_cd464 := sy_chk_ok (CT := [sz_cd458, sz_cd459, sz_cd460, sz_cd461, sz_cd462, sz_cd463]) (CU := sz_ud464) (M := ri_m_X0_copyFrom) (List.forall_mem_cons.mpr ⟨sz_okd458 xs L, List.forall_mem_cons.mpr ⟨sz_okd459 xs L, List.forall_mem_cons.mpr ⟨sz_okd460 xs L, List.forall_mem_cons.mpr ⟨sz_okd461 xs L, List.forall_mem_cons.mpr ⟨sz_okd462 xs L, List.forall_mem_cons.mpr ⟨sz_okd463 xs L, fun _ h => absurd h List.not_mem_nil⟩⟩⟩⟩⟩⟩) rfl rfl ⟨_, _, sz_sd464_0⟩ (fun _ h => absurd h List.not_mem_nil)

/-! X2_told  -/
set_option maxRecDepth 100000 in
noncomputable def sz_cd465 : sy_Ct := (285, 1, 22, [(3, .inr 10, .inl 0), (0, .inr 0, .inl 0)], ([(0, 24)], []), [], [], [], [(.inl (some (1, .inr 1, .inl 0)), 0, 0, ([((-9223372036854775808), 9223372036854775807), (0, 24)], []), [], [])])
set_option maxRecDepth 100000 in
noncomputable def sz_ud465 : List sy_Cut := []
set_option maxRecDepth 100000 in
noncomputable def sz_hd465_0 : List sy_Hn := [(0, 31, 0, 0, 0, 0, [], [], []),
  (0, 31, 0, 0, 0, 0, [], [], []),
  (0, 31, 0, 0, 0, 0, [], [], []),
  (0, 31, 0, 0, 0, 0, [], [], []),
  (0, 31, 0, 0, 0, 0, [], [], []),
  (0, 31, 0, 0, 0, 0, [], [], []),
  (0, 31, 0, 0, 0, 0, [], [], []),
  (0, 31, 0, 0, 0, 0, [], [], []),
  (0, 31, 0, 0, 0, 0, [], [], []),
  (0, 31, 0, 0, 0, 0, [], [], []),
  (0, 31, 0, 0, 0, 0, [], [], []),
  (0, 31, 0, 0, 0, 0, [], [], []),
  (0, 31, 0, 0, 0, 0, [], [], []),
  (0, 31, 0, 0, 0, 0, [], [], []),
  (0, 31, 0, 0, 0, 0, [], [], []),
  (0, 31, 0, 0, 0, 0, [], [], []),
  (0, 31, 0, 0, 0, 0, [], [], []),
  (0, 31, 0, 0, 0, 0, [], [], []),
  (0, 31, 0, 0, 0, 0, [], [], []),
  (0, 31, 0, 0, 0, 0, [], [], []),
  (0, 31, 0, 0, 0, 0, [], [], []),
  (0, 31, 0, 0, 0, 0, [], [], [])]
set_option maxRecDepth 100000 in
theorem sz_sd465_0 : sy_seg sz_E (pv_T (sz_own true) sz_T) sz_RU [] sz_cd465 sz_ud465 ri_m_X2_told 203 none sz_hd465_0 = true := by decide +kernel
theorem sz_okd465 (xs : Nat → Value) (L : Nat) : sy_Cok (sz_env xs L) (pv_T (sz_own true) sz_T) sz_RU sz_cd465 := sy_chk_ok (CT := []) (CU := sz_ud465) (M := ri_m_X2_told) (fun _ h => absurd h List.not_mem_nil) rfl rfl ⟨_, _, sz_sd465_0⟩ (fun _ h => absurd h List.not_mem_nil)

/-! X2_told  -/
set_option maxRecDepth 100000 in
noncomputable def sz_cd466 : sy_Ct := (285, 1, 22, [(3, .inr 22, .inl 0), (0, .inr 0, .inl 0)], ([(0, 24)], []), [], [], [], [(.inl (some (1, .inr 1, .inl 0)), 0, 0, ([((-9223372036854775808), 9223372036854775807), (0, 24)], []), [], [])])
set_option maxRecDepth 100000 in
noncomputable def sz_ud466 : List sy_Cut := []
set_option maxRecDepth 100000 in
noncomputable def sz_hd466_0 : List sy_Hn := [(0, 31, 0, 0, 0, 0, [], [], []),
  (0, 31, 0, 0, 0, 0, [], [], []),
  (0, 31, 0, 0, 0, 0, [], [], []),
  (0, 31, 0, 0, 0, 0, [], [], []),
  (0, 31, 0, 0, 0, 0, [], [], []),
  (0, 31, 0, 0, 0, 0, [], [], []),
  (0, 31, 0, 0, 0, 0, [], [], []),
  (0, 31, 0, 0, 0, 0, [], [], []),
  (0, 31, 0, 0, 0, 0, [], [], []),
  (0, 31, 0, 0, 0, 0, [], [], []),
  (0, 31, 0, 0, 0, 0, [], [], []),
  (0, 31, 0, 0, 0, 0, [], [], []),
  (0, 31, 0, 0, 0, 0, [], [], []),
  (0, 31, 0, 0, 0, 0, [], [], []),
  (0, 31, 0, 0, 0, 0, [], [], []),
  (0, 31, 0, 0, 0, 0, [], [], []),
  (0, 31, 0, 0, 0, 0, [], [], []),
  (0, 31, 0, 0, 0, 0, [], [], []),
  (0, 31, 0, 0, 0, 0, [], [], []),
  (0, 31, 0, 0, 0, 0, [], [], []),
  (0, 31, 0, 0, 0, 0, [], [], []),
  (0, 31, 0, 0, 0, 0, [], [], [])]
set_option maxRecDepth 100000 in
theorem sz_sd466_0 : sy_seg sz_E (pv_T (sz_own true) sz_T) sz_RU [] sz_cd466 sz_ud466 ri_m_X2_told 203 none sz_hd466_0 = true := by decide +kernel
theorem sz_okd466 (xs : Nat → Value) (L : Nat) : sy_Cok (sz_env xs L) (pv_T (sz_own true) sz_T) sz_RU sz_cd466 := sy_chk_ok (CT := []) (CU := sz_ud466) (M := ri_m_X2_told) (fun _ h => absurd h List.not_mem_nil) rfl rfl ⟨_, _, sz_sd466_0⟩ (fun _ h => absurd h List.not_mem_nil)

/-! X2_told  -/
set_option maxRecDepth 100000 in
noncomputable def sz_cd467 : sy_Ct := (285, 1, 22, [(3, .inr 34, .inl 0), (0, .inr 0, .inl 0)], ([(0, 24)], []), [], [], [], [(.inl (some (1, .inr 1, .inl 0)), 0, 0, ([((-9223372036854775808), 9223372036854775807), (0, 24)], []), [], [])])
set_option maxRecDepth 100000 in
noncomputable def sz_ud467 : List sy_Cut := []
set_option maxRecDepth 100000 in
noncomputable def sz_hd467_0 : List sy_Hn := [(0, 31, 0, 0, 0, 0, [], [], []),
  (0, 31, 0, 0, 0, 0, [], [], []),
  (0, 31, 0, 0, 0, 0, [], [], []),
  (0, 31, 0, 0, 0, 0, [], [], []),
  (0, 31, 0, 0, 0, 0, [], [], []),
  (0, 31, 0, 0, 0, 0, [], [], []),
  (0, 31, 0, 0, 0, 0, [], [], []),
  (0, 31, 0, 0, 0, 0, [], [], []),
  (0, 31, 0, 0, 0, 0, [], [], []),
  (0, 31, 0, 0, 0, 0, [], [], []),
  (0, 31, 0, 0, 0, 0, [], [], []),
  (0, 31, 0, 0, 0, 0, [], [], []),
  (0, 31, 0, 0, 0, 0, [], [], []),
  (0, 31, 0, 0, 0, 0, [], [], []),
  (0, 31, 0, 0, 0, 0, [], [], []),
  (0, 31, 0, 0, 0, 0, [], [], []),
  (0, 31, 0, 0, 0, 0, [], [], []),
  (0, 31, 0, 0, 0, 0, [], [], []),
  (0, 31, 0, 0, 0, 0, [], [], []),
  (0, 31, 0, 0, 0, 0, [], [], []),
  (0, 31, 0, 0, 0, 0, [], [], []),
  (0, 31, 0, 0, 0, 0, [], [], [])]
set_option maxRecDepth 100000 in
theorem sz_sd467_0 : sy_seg sz_E (pv_T (sz_own true) sz_T) sz_RU [] sz_cd467 sz_ud467 ri_m_X2_told 203 none sz_hd467_0 = true := by decide +kernel
theorem sz_okd467 (xs : Nat → Value) (L : Nat) : sy_Cok (sz_env xs L) (pv_T (sz_own true) sz_T) sz_RU sz_cd467 := sy_chk_ok (CT := []) (CU := sz_ud467) (M := ri_m_X2_told) (fun _ h => absurd h List.not_mem_nil) rfl rfl ⟨_, _, sz_sd467_0⟩ (fun _ h => absurd h List.not_mem_nil)

/-! X2_told  -/
set_option maxRecDepth 100000 in
noncomputable def sz_cd468 : sy_Ct := (285, 1, 22, [(3, .inr 46, .inl 0), (0, .inr 0, .inl 0)], ([(0, 24)], []), [], [], [], [(.inl (some (1, .inr 1, .inl 0)), 0, 0, ([((-9223372036854775808), 9223372036854775807), (0, 24)], []), [], [])])
set_option maxRecDepth 100000 in
noncomputable def sz_ud468 : List sy_Cut := []
set_option maxRecDepth 100000 in
noncomputable def sz_hd468_0 : List sy_Hn := [(0, 31, 0, 0, 0, 0, [], [], []),
  (0, 31, 0, 0, 0, 0, [], [], []),
  (0, 31, 0, 0, 0, 0, [], [], []),
  (0, 31, 0, 0, 0, 0, [], [], []),
  (0, 31, 0, 0, 0, 0, [], [], []),
  (0, 31, 0, 0, 0, 0, [], [], []),
  (0, 31, 0, 0, 0, 0, [], [], []),
  (0, 31, 0, 0, 0, 0, [], [], []),
  (0, 31, 0, 0, 0, 0, [], [], []),
  (0, 31, 0, 0, 0, 0, [], [], []),
  (0, 31, 0, 0, 0, 0, [], [], []),
  (0, 31, 0, 0, 0, 0, [], [], []),
  (0, 31, 0, 0, 0, 0, [], [], []),
  (0, 31, 0, 0, 0, 0, [], [], []),
  (0, 31, 0, 0, 0, 0, [], [], []),
  (0, 31, 0, 0, 0, 0, [], [], []),
  (0, 31, 0, 0, 0, 0, [], [], []),
  (0, 31, 0, 0, 0, 0, [], [], []),
  (0, 31, 0, 0, 0, 0, [], [], []),
  (0, 31, 0, 0, 0, 0, [], [], []),
  (0, 31, 0, 0, 0, 0, [], [], []),
  (0, 31, 0, 0, 0, 0, [], [], [])]
set_option maxRecDepth 100000 in
theorem sz_sd468_0 : sy_seg sz_E (pv_T (sz_own true) sz_T) sz_RU [] sz_cd468 sz_ud468 ri_m_X2_told 203 none sz_hd468_0 = true := by decide +kernel
theorem sz_okd468 (xs : Nat → Value) (L : Nat) : sy_Cok (sz_env xs L) (pv_T (sz_own true) sz_T) sz_RU sz_cd468 := sy_chk_ok (CT := []) (CU := sz_ud468) (M := ri_m_X2_told) (fun _ h => absurd h List.not_mem_nil) rfl rfl ⟨_, _, sz_sd468_0⟩ (fun _ h => absurd h List.not_mem_nil)

/-! X6_keep  -/
set_option maxRecDepth 100000 in
noncomputable def sz_cd469 : sy_Ct := (241, 2, 43, [(3, .inr 241, .inl 0), (3, .inr 2, .inl 0), (0, .inr 0, .inl 0)], ([(0, 9)], []), [], [], [(243, 0, 999)], [(.inl none, 0, 0, ([(0, 9)], []), [], [])])
set_option maxRecDepth 100000 in
noncomputable def sz_ud469 : List sy_Cut := [(2, [(0, (3, .inr 241, .inl 0)), (1, (3, .inr 2, .inl 0)), (2, (0, .inr 0, .inl 0)), (3, (0, .inr 1, .inl 0))], ([(0, 4), (0, 9)], []), [], [], [(4000, []), ((-1000), [1]), (500, [])]), (16, [(0, (3, .inr 241, .inl 0)), (1, (3, .inr 2, .inl 0)), (2, (0, .inr 0, .inl 0)), (3, (0, .inr 1, .inl 0)), (4, (0, .inr 2, .inl 0)), (5, (0, .inr 3, .inl 0))], ([(0, 25), (0, 975), (0, 3), (0, 9)], []), [], [], [(4000, []), ((-1000), [1]), (25, []), ((-1), [3])])]
set_option maxRecDepth 100000 in
noncomputable def sz_hd469_0 : List sy_Hn := [(0, 30, 0, 0, 0, 0, [([], [(1, [0])]), ([], [])], [], [])]
set_option maxRecDepth 100000 in
theorem sz_sd469_0 : sy_seg sz_E (pv_T (sz_own true) sz_T) sz_RU [sz_cd465, sz_cd466, sz_cd467, sz_cd468] sz_cd469 sz_ud469 ri_m_X6_keep 9 none sz_hd469_0 = true := by decide +kernel
set_option maxRecDepth 100000 in
noncomputable def sz_hd469_1 : List sy_Hn := [(0, 31, 0, 0, 0, 0, [], [], []),
  (0, 30, 0, 0, 0, 0, [([1], [(1, [0]), (1000, [2])]), ([], [(1, [0])])], [], [])]
set_option maxRecDepth 100000 in
theorem sz_sd469_1 : sy_seg sz_E (pv_T (sz_own true) sz_T) sz_RU [sz_cd465, sz_cd466, sz_cd467, sz_cd468] sz_cd469 sz_ud469 ri_m_X6_keep 23 (some ((2, [(0, (3, .inr 241, .inl 0)), (1, (3, .inr 2, .inl 0)), (2, (0, .inr 0, .inl 0)), (3, (0, .inr 1, .inl 0))], ([(0, 4), (0, 9)], []), [], [], [(4000, []), ((-1000), [1]), (500, [])]))) sz_hd469_1 = true := by decide +kernel
set_option maxRecDepth 100000 in
noncomputable def sz_hd469_2 : List sy_Hn := [(0, 30, 0, 0, 0, 0, [([4], [(1, [0]), (1000, [2])]), ([3], [(1, [0]), (1000, [3]), (1, [2])])], [], []),
  (8, 1, 1, 0, 0, 0, [], [], []),
  (3, 20, 0, 0, 0, 0, [], [], []),
  (0, 30, 0, 0, 0, 0, [([1, 6], [(1, [0]), (1000, [2]), (1, [4])]), ([], [(1, [0]), (1, [1])])], [], []),
  (0, 1, 1, 0, 1, 0, [], [], []),
  (3, 20, 1, 0, 0, 0, [], [], []),
  (0, 30, 0, 0, 0, 0, [([1, 6], [(1, [0]), (1000, [2]), (1, [4])]), ([], [(1, [0]), (1, [1])])], [], []),
  (0, 1, 1, 0, 2, 0, [], [], []),
  (3, 20, 2, 0, 0, 0, [], [], []),
  (0, 30, 0, 0, 0, 0, [([1, 6], [(1, [0]), (1000, [2]), (1, [4])]), ([], [(1, [0]), (1, [1])])], [], []),
  (3, 20, 3, 0, 0, 0, [], [], []),
  (0, 30, 0, 0, 0, 0, [([1, 6], [(1, [0]), (1000, [2]), (1, [4])]), ([], [(1, [0]), (1, [1])])], [], [])]
set_option maxRecDepth 100000 in
theorem sz_sd469_2 : sy_seg sz_E (pv_T (sz_own true) sz_T) sz_RU [sz_cd465, sz_cd466, sz_cd467, sz_cd468] sz_cd469 sz_ud469 ri_m_X6_keep 62 (some ((16, [(0, (3, .inr 241, .inl 0)), (1, (3, .inr 2, .inl 0)), (2, (0, .inr 0, .inl 0)), (3, (0, .inr 1, .inl 0)), (4, (0, .inr 2, .inl 0)), (5, (0, .inr 3, .inl 0))], ([(0, 25), (0, 975), (0, 3), (0, 9)], []), [], [], [(4000, []), ((-1000), [1]), (25, []), ((-1), [3])]))) sz_hd469_2 = true := by decide +kernel
theorem sz_okd469 (xs : Nat → Value) (L : Nat) : sy_Cok (sz_env xs L) (pv_T (sz_own true) sz_T) sz_RU sz_cd469 := sy_chk_ok (CT := [sz_cd465, sz_cd466, sz_cd467, sz_cd468]) (CU := sz_ud469) (M := ri_m_X6_keep) (List.forall_mem_cons.mpr ⟨sz_okd465 xs L, List.forall_mem_cons.mpr ⟨sz_okd466 xs L, List.forall_mem_cons.mpr ⟨sz_okd467 xs L, List.forall_mem_cons.mpr ⟨sz_okd468 xs L, fun _ h => absurd h List.not_mem_nil⟩⟩⟩⟩) rfl rfl ⟨_, _, sz_sd469_0⟩ (List.forall_mem_cons.mpr ⟨⟨_, _, sz_sd469_1⟩, List.forall_mem_cons.mpr ⟨⟨_, _, sz_sd469_2⟩, fun _ h => absurd h List.not_mem_nil⟩⟩)

/-! X7_add  -/
set_option maxRecDepth 100000 in
noncomputable def sz_cd470 : sy_Ct := (233, 2, 39, [(3, .inr 6, .inl 0), (0, .inr 0, .inl 0), (0, .inr 1, .inl 0), (0, .inr 2, .inl 0), (0, .inr 3, .inl 0)], ([((-2147483648), 2147483647), ((-2147483648), 2147483647), ((-2147483648), 2147483647), ((-2147483648), 2147483647)], []), [], [], [(6, 2, 2), (7, 0, 239)], [(.inl none, 0, 0, ([((-2147483648), 2147483647), ((-2147483648), 2147483647), ((-2147483648), 2147483647), ((-2147483648), 2147483647)], []), [], [])])
set_option maxRecDepth 100000 in
noncomputable def sz_ud470 : List sy_Cut := []
set_option maxRecDepth 100000 in
noncomputable def sz_hd470_0 : List sy_Hn := [(0, 31, 0, 0, 0, 0, [], [], []),
  (0, 31, 0, 0, 0, 0, [], [], [])]
set_option maxRecDepth 100000 in
theorem sz_sd470_0 : sy_seg sz_E (pv_T (sz_own true) sz_T) sz_RU [] sz_cd470 sz_ud470 ri_m_X7_add 119 none sz_hd470_0 = true := by decide +kernel
theorem sz_okd470 (xs : Nat → Value) (L : Nat) : sy_Cok (sz_env xs L) (pv_T (sz_own true) sz_T) sz_RU sz_cd470 := sy_chk_ok (CT := []) (CU := sz_ud470) (M := ri_m_X7_add) (fun _ h => absurd h List.not_mem_nil) rfl rfl ⟨_, _, sz_sd470_0⟩ (fun _ h => absurd h List.not_mem_nil)

/-! X0_shutDown  -/
set_option maxRecDepth 100000 in
noncomputable def sz_cd471 : sy_Ct := (221, 3, 64, [(3, .inr 2, .inl 0), (0, .inl 0, .inl 0), (0, .inl 2, .inl 0)], ([], []), [], [], [(6, 2, 2), (7, 0, 239), (10, 5, 5), (10, 12, 13), (10, 16, 16), (21, 0, 0)], [(.inl none, 0, 0, ([], []), [], [])])
set_option maxRecDepth 100000 in
noncomputable def sz_ud471 : List sy_Cut := []
set_option maxRecDepth 100000 in
noncomputable def sz_hd471_0 : List sy_Hn := [(32, 4, 13, 0, 0, 0, [], [], []),
  (0, 4, 13, 1, 0, 0, [], [], []),
  (0, 4, 20, 2, 0, 0, [], [], []),
  (0, 4, 20, 0, 0, 0, [], [], []),
  (0, 6, 472, 0, 0, 0, [([], [(1, [0])]), ([], [(1, [0])])], [], [0, 0]),
  (0, 4, 20, 5, 0, 0, [], [], []),
  (0, 4, 20, 6, 0, 0, [], [], []),
  (0, 6, 473, 0, 0, 0, [([], [(1, [0])]), ([], [(1, [0])])], [], [0, 0]),
  (1, 20, 0, 0, 0, 0, [], [], []),
  (0, 31, 0, 0, 0, 0, [], [], [])]
set_option maxRecDepth 100000 in
theorem sz_sd471_0 : sy_seg sz_E (pv_T (sz_own true) sz_T) sz_RU [sz_cd470] sz_cd471 sz_ud471 ri_m_X0_shutDown 49 none sz_hd471_0 = true := by decide +kernel
theorem sz_okd471 (xs : Nat → Value) (L : Nat) : sy_Cok (sz_env xs L) (pv_T (sz_own true) sz_T) sz_RU sz_cd471 := sy_chk_ok (CT := [sz_cd470]) (CU := sz_ud471) (M := ri_m_X0_shutDown) (List.forall_mem_cons.mpr ⟨sz_okd470 xs L, fun _ h => absurd h List.not_mem_nil⟩) rfl rfl ⟨_, _, sz_sd471_0⟩ (fun _ h => absurd h List.not_mem_nil)

/-! X0_shutDown  -/
set_option maxRecDepth 100000 in
noncomputable def sz_cd472 : sy_Ct := (221, 3, 64, [(3, .inr 2, .inl 0), (0, .inl 0, .inl 0), (0, .inl 1, .inl 0)], ([], []), [], [], [(6, 2, 2), (7, 0, 239), (10, 5, 5), (10, 12, 13), (10, 16, 16), (21, 0, 4)], [(.inl none, 0, 0, ([], []), [], [])])
set_option maxRecDepth 100000 in
noncomputable def sz_ud472 : List sy_Cut := []
set_option maxRecDepth 100000 in
noncomputable def sz_hd472_0 : List sy_Hn := [(36, 4, 13, 0, 0, 0, [], [], []),
  (0, 4, 13, 1, 0, 0, [], [], []),
  (0, 4, 20, 2, 0, 0, [], [], []),
  (0, 4, 20, 0, 0, 0, [], [], []),
  (0, 6, 472, 0, 0, 0, [([], [(1, [0])]), ([], [(1, [0])])], [], [0, 0]),
  (0, 4, 20, 5, 0, 0, [], [], []),
  (0, 4, 20, 6, 0, 0, [], [], []),
  (0, 6, 473, 0, 0, 0, [([], [(1, [0])]), ([], [(1, [0])])], [], [0, 0]),
  (1, 20, 0, 0, 0, 0, [], [], []),
  (0, 31, 0, 0, 0, 0, [], [], []),
  (4, 1, 0, 0, 0, 0, [], [], []),
  (34, 4, 13, 0, 0, 0, [], [], []),
  (0, 4, 13, 1, 0, 0, [], [], []),
  (0, 4, 20, 2, 0, 0, [], [], []),
  (0, 4, 20, 0, 0, 0, [], [], []),
  (0, 6, 472, 0, 0, 0, [([], [(1, [0])]), ([], [(1, [0])])], [], [0, 0]),
  (0, 4, 20, 5, 0, 0, [], [], []),
  (0, 4, 20, 6, 0, 0, [], [], []),
  (0, 6, 473, 0, 0, 0, [([], [(1, [0])]), ([], [(1, [0])])], [], [0, 0]),
  (1, 20, 0, 0, 0, 0, [], [], []),
  (0, 31, 0, 0, 0, 0, [], [], []),
  (0, 1, 0, 0, 1, 0, [], [], []),
  (33, 4, 13, 0, 0, 0, [], [], []),
  (0, 4, 13, 1, 0, 0, [], [], []),
  (0, 4, 20, 2, 0, 0, [], [], []),
  (0, 4, 20, 0, 0, 0, [], [], []),
  (0, 6, 472, 0, 0, 0, [([], [(1, [0])]), ([], [(1, [0])])], [], [0, 0]),
  (0, 4, 20, 5, 0, 0, [], [], []),
  (0, 4, 20, 6, 0, 0, [], [], []),
  (0, 6, 473, 0, 0, 0, [([], [(1, [0])]), ([], [(1, [0])])], [], [0, 0]),
  (1, 20, 0, 0, 0, 0, [], [], []),
  (0, 31, 0, 0, 0, 0, [], [], []),
  (25, 4, 13, 0, 0, 0, [], [], []),
  (0, 4, 13, 1, 0, 0, [], [], []),
  (0, 4, 20, 2, 0, 0, [], [], []),
  (0, 4, 20, 0, 0, 0, [], [], []),
  (0, 6, 472, 0, 0, 0, [([], [(1, [0])]), ([], [(1, [0])])], [], [0, 0]),
  (0, 4, 20, 5, 0, 0, [], [], []),
  (0, 4, 20, 6, 0, 0, [], [], []),
  (0, 6, 473, 0, 0, 0, [([], [(1, [0])]), ([], [(1, [0])])], [], [0, 0]),
  (1, 20, 0, 0, 0, 0, [], [], []),
  (0, 31, 0, 0, 0, 0, [], [], []),
  (0, 1, 0, 0, 2, 0, [], [], []),
  (33, 4, 13, 0, 0, 0, [], [], []),
  (0, 4, 13, 1, 0, 0, [], [], []),
  (0, 4, 20, 2, 0, 0, [], [], []),
  (0, 4, 20, 0, 0, 0, [], [], []),
  (0, 6, 472, 0, 0, 0, [([], [(1, [0])]), ([], [(1, [0])])], [], [0, 0]),
  (0, 4, 20, 5, 0, 0, [], [], []),
  (0, 4, 20, 6, 0, 0, [], [], []),
  (0, 6, 473, 0, 0, 0, [([], [(1, [0])]), ([], [(1, [0])])], [], [0, 0]),
  (1, 20, 0, 0, 0, 0, [], [], []),
  (0, 31, 0, 0, 0, 0, [], [], []),
  (25, 4, 13, 0, 0, 0, [], [], []),
  (0, 4, 13, 1, 0, 0, [], [], []),
  (0, 4, 20, 2, 0, 0, [], [], []),
  (0, 4, 20, 0, 0, 0, [], [], []),
  (0, 6, 472, 0, 0, 0, [([], [(1, [0])]), ([], [(1, [0])])], [], [0, 0]),
  (0, 4, 20, 5, 0, 0, [], [], []),
  (0, 4, 20, 6, 0, 0, [], [], []),
  (0, 6, 473, 0, 0, 0, [([], [(1, [0])]), ([], [(1, [0])])], [], [0, 0]),
  (1, 20, 0, 0, 0, 0, [], [], []),
  (0, 31, 0, 0, 0, 0, [], [], []),
  (33, 4, 13, 0, 0, 0, [], [], []),
  (0, 4, 13, 1, 0, 0, [], [], []),
  (0, 4, 20, 2, 0, 0, [], [], []),
  (0, 4, 20, 0, 0, 0, [], [], []),
  (0, 6, 472, 0, 0, 0, [([], [(1, [0])]), ([], [(1, [0])])], [], [0, 0]),
  (0, 4, 20, 5, 0, 0, [], [], []),
  (0, 4, 20, 6, 0, 0, [], [], []),
  (0, 6, 473, 0, 0, 0, [([], [(1, [0])]), ([], [(1, [0])])], [], [0, 0]),
  (1, 20, 0, 0, 0, 0, [], [], []),
  (0, 31, 0, 0, 0, 0, [], [], []),
  (25, 4, 13, 0, 0, 0, [], [], []),
  (0, 4, 13, 1, 0, 0, [], [], []),
  (0, 4, 20, 2, 0, 0, [], [], []),
  (0, 4, 20, 0, 0, 0, [], [], []),
  (0, 6, 472, 0, 0, 0, [([], [(1, [0])]), ([], [(1, [0])])], [], [0, 0]),
  (0, 4, 20, 5, 0, 0, [], [], []),
  (0, 4, 20, 6, 0, 0, [], [], []),
  (0, 6, 473, 0, 0, 0, [([], [(1, [0])]), ([], [(1, [0])])], [], [0, 0]),
  (1, 20, 0, 0, 0, 0, [], [], []),
  (0, 31, 0, 0, 0, 0, [], [], [])]
set_option maxRecDepth 100000 in
theorem sz_sd472_0 : sy_seg sz_E (pv_T (sz_own true) sz_T) sz_RU [sz_cd470] sz_cd472 sz_ud472 ri_m_X0_shutDown 355 none sz_hd472_0 = true := by decide +kernel
theorem sz_okd472 (xs : Nat → Value) (L : Nat) : sy_Cok (sz_env xs L) (pv_T (sz_own true) sz_T) sz_RU sz_cd472 := sy_chk_ok (CT := [sz_cd470]) (CU := sz_ud472) (M := ri_m_X0_shutDown) (List.forall_mem_cons.mpr ⟨sz_okd470 xs L, fun _ h => absurd h List.not_mem_nil⟩) rfl rfl ⟨_, _, sz_sd472_0⟩ (fun _ h => absurd h List.not_mem_nil)

/-! X0_shutDown  -/
set_option maxRecDepth 100000 in
noncomputable def sz_cd473 : sy_Ct := (221, 3, 64, [(3, .inr 2, .inl 0), (0, .inl 0, .inl 0), (0, .inl 0, .inl 0)], ([], []), [], [], [(6, 2, 2), (7, 0, 239), (10, 5, 5), (10, 12, 13), (10, 16, 16), (21, 0, 0)], [(.inl none, 0, 0, ([], []), [], [])])
set_option maxRecDepth 100000 in
noncomputable def sz_ud473 : List sy_Cut := []
set_option maxRecDepth 100000 in
noncomputable def sz_hd473_0 : List sy_Hn := [(32, 4, 13, 0, 0, 0, [], [], []),
  (0, 4, 13, 1, 0, 0, [], [], []),
  (0, 4, 20, 2, 0, 0, [], [], []),
  (0, 4, 20, 0, 0, 0, [], [], []),
  (0, 6, 472, 0, 0, 0, [([], [(1, [0])]), ([], [(1, [0])])], [], [0, 0]),
  (0, 4, 20, 5, 0, 0, [], [], []),
  (0, 4, 20, 6, 0, 0, [], [], []),
  (0, 6, 473, 0, 0, 0, [([], [(1, [0])]), ([], [(1, [0])])], [], [0, 0]),
  (1, 20, 0, 0, 0, 0, [], [], []),
  (0, 31, 0, 0, 0, 0, [], [], [])]
set_option maxRecDepth 100000 in
theorem sz_sd473_0 : sy_seg sz_E (pv_T (sz_own true) sz_T) sz_RU [sz_cd470] sz_cd473 sz_ud473 ri_m_X0_shutDown 49 none sz_hd473_0 = true := by decide +kernel
theorem sz_okd473 (xs : Nat → Value) (L : Nat) : sy_Cok (sz_env xs L) (pv_T (sz_own true) sz_T) sz_RU sz_cd473 := sy_chk_ok (CT := [sz_cd470]) (CU := sz_ud473) (M := ri_m_X0_shutDown) (List.forall_mem_cons.mpr ⟨sz_okd470 xs L, fun _ h => absurd h List.not_mem_nil⟩) rfl rfl ⟨_, _, sz_sd473_0⟩ (fun _ h => absurd h List.not_mem_nil)

/-! X1_setFor  -/
set_option maxRecDepth 100000 in
noncomputable def sz_cd474 : sy_Ct := (304, 0, 0, [(3, .inr 15, .inl 0), (0, .inr 0, .inl 0), (0, .inr 1, .inl 0)], ([(0, 2), ((-2147483648), 2147483647)], []), [], [], [], [(.inl (some (0, .inr 2, .inl 0)), 0, 0, ([(0, 2), (0, 2), ((-2147483648), 2147483647)], []), [], [])])
set_option maxRecDepth 100000 in
noncomputable def sz_ud474 : List sy_Cut := [(4, [(0, (3, .inr 15, .inl 0)), (1, (0, .inr 0, .inl 0)), (2, (0, .inr 1, .inl 0)), (3, (0, .inr 2, .inl 0)), (4, (0, .inr 3, .inl 0))], ([(1, 3), (0, 2), (0, 2), ((-2147483648), 2147483647)], []), [], [], [(3, []), ((-1), [3])])]
set_option maxRecDepth 100000 in
noncomputable def sz_hd474_0 : List sy_Hn := [(0, 30, 0, 0, 0, 0, [([], [(1, [0])]), ([], [])], [], [])]
set_option maxRecDepth 100000 in
theorem sz_sd474_0 : sy_seg sz_E (pv_T (sz_own true) sz_T) sz_RU [] sz_cd474 sz_ud474 ri_m_X1_setFor 11 none sz_hd474_0 = true := by decide +kernel
set_option maxRecDepth 100000 in
noncomputable def sz_hd474_1 : List sy_Hn := [(0, 31, 0, 0, 0, 0, [], [], []),
  (0, 31, 0, 0, 0, 0, [], [], []),
  (0, 31, 0, 0, 0, 0, [], [], []),
  (0, 31, 0, 0, 0, 0, [], [], []),
  (0, 30, 0, 0, 0, 0, [([6], [(1, [0]), (1, [2])]), ([], [(1, [0]), (1, [1])])], [], []),
  (0, 30, 0, 0, 0, 0, [([6], [(1, [0]), (1, [2])]), ([], [(1, [0]), (1, [1])])], [], [])]
set_option maxRecDepth 100000 in
theorem sz_sd474_1 : sy_seg sz_E (pv_T (sz_own true) sz_T) sz_RU [] sz_cd474 sz_ud474 ri_m_X1_setFor 72 (some ((4, [(0, (3, .inr 15, .inl 0)), (1, (0, .inr 0, .inl 0)), (2, (0, .inr 1, .inl 0)), (3, (0, .inr 2, .inl 0)), (4, (0, .inr 3, .inl 0))], ([(1, 3), (0, 2), (0, 2), ((-2147483648), 2147483647)], []), [], [], [(3, []), ((-1), [3])]))) sz_hd474_1 = true := by decide +kernel
theorem sz_okd474 (xs : Nat → Value) (L : Nat) : sy_Cok (sz_env xs L) (pv_T (sz_own true) sz_T) sz_RU sz_cd474 := sy_chk_ok (CT := []) (CU := sz_ud474) (M := ri_m_X1_setFor) (fun _ h => absurd h List.not_mem_nil) rfl rfl ⟨_, _, sz_sd474_0⟩ (List.forall_mem_cons.mpr ⟨⟨_, _, sz_sd474_1⟩, fun _ h => absurd h List.not_mem_nil⟩)

/-! X2_keepI  -/
set_option maxRecDepth 100000 in
noncomputable def sz_cd475 : sy_Ct := (235, 1, 25, [(3, .inr 10, .inl 0), (1, .inr 0, .inl 0)], ([((-9223372036854775808), 9223372036854775807)], []), [], [], [(10, 8, 8)], [(.inl none, 0, 0, ([((-9223372036854775808), 9223372036854775807)], []), [], [])])
set_option maxRecDepth 100000 in
noncomputable def sz_ud475 : List sy_Cut := []
set_option maxRecDepth 100000 in
noncomputable def sz_hd475_0 : List sy_Hn := [(0, 31, 0, 0, 0, 0, [], [], []),
  (0, 31, 0, 0, 0, 0, [], [], []),
  (0, 31, 0, 0, 0, 0, [], [], [])]
set_option maxRecDepth 100000 in
theorem sz_sd475_0 : sy_seg sz_E (pv_T (sz_own true) sz_T) sz_RU [] sz_cd475 sz_ud475 ri_m_X2_keepI 35 none sz_hd475_0 = true := by decide +kernel
theorem sz_okd475 (xs : Nat → Value) (L : Nat) : sy_Cok (sz_env xs L) (pv_T (sz_own true) sz_T) sz_RU sz_cd475 := sy_chk_ok (CT := []) (CU := sz_ud475) (M := ri_m_X2_keepI) (fun _ h => absurd h List.not_mem_nil) rfl rfl ⟨_, _, sz_sd475_0⟩ (fun _ h => absurd h List.not_mem_nil)

/-! X2_chooseSet  -/
set_option maxRecDepth 100000 in
noncomputable def sz_cd476 : sy_Ct := (276, 2, 47, [(3, .inr 10, .inl 0)], ([], []), [], [], [(10, 8, 8), (10, 11, 11)], [(.inl (some (0, .inr 0, .inl 0)), 0, 0, ([(0, 1)], []), [], [])])
set_option maxRecDepth 100000 in
noncomputable def sz_ud476 : List sy_Cut := []
set_option maxRecDepth 100000 in
noncomputable def sz_hd476_0 : List sy_Hn := [(13, 20, 0, 0, 0, 0, [], [], []),
  (98, 20, 1, 0, 0, 0, [], [], []),
  (0, 31, 0, 0, 0, 0, [], [], []),
  (93, 20, 1, 0, 0, 0, [], [], []),
  (0, 31, 0, 0, 0, 0, [], [], []),
  (0, 31, 0, 0, 0, 0, [], [], [])]
set_option maxRecDepth 100000 in
theorem sz_sd476_0 : sy_seg sz_E (pv_T (sz_own true) sz_T) sz_RU [sz_cd474, sz_cd475] sz_cd476 sz_ud476 ri_m_X2_chooseSet 227 none sz_hd476_0 = true := by decide +kernel
theorem sz_okd476 (xs : Nat → Value) (L : Nat) : sy_Cok (sz_env xs L) (pv_T (sz_own true) sz_T) sz_RU sz_cd476 := sy_chk_ok (CT := [sz_cd474, sz_cd475]) (CU := sz_ud476) (M := ri_m_X2_chooseSet) (List.forall_mem_cons.mpr ⟨sz_okd474 xs L, List.forall_mem_cons.mpr ⟨sz_okd475 xs L, fun _ h => absurd h List.not_mem_nil⟩⟩) rfl rfl ⟨_, _, sz_sd476_0⟩ (fun _ h => absurd h List.not_mem_nil)

/-! X2_filterRate  -/
set_option maxRecDepth 100000 in
noncomputable def sz_cd477 : sy_Ct := (277, 1, 20, [(3, .inr 10, .inl 0)], ([], []), [], [], [(10, 9, 10)], [(.inl none, 0, 0, ([], []), [], [])])
set_option maxRecDepth 100000 in
noncomputable def sz_ud477 : List sy_Cut := []
set_option maxRecDepth 100000 in
noncomputable def sz_hd477_0 : List sy_Hn := [(0, 31, 0, 0, 0, 0, [], [], [])]
set_option maxRecDepth 100000 in
theorem sz_sd477_0 : sy_seg sz_E (pv_T (sz_own true) sz_T) sz_RU [] sz_cd477 sz_ud477 ri_m_X2_filterRate 47 none sz_hd477_0 = true := by decide +kernel
theorem sz_okd477 (xs : Nat → Value) (L : Nat) : sy_Cok (sz_env xs L) (pv_T (sz_own true) sz_T) sz_RU sz_cd477 := sy_chk_ok (CT := []) (CU := sz_ud477) (M := ri_m_X2_filterRate) (fun _ h => absurd h List.not_mem_nil) rfl rfl ⟨_, _, sz_sd477_0⟩ (fun _ h => absurd h List.not_mem_nil)

/-! X0_takeSp  -/
set_option maxRecDepth 100000 in
noncomputable def sz_cd478 : sy_Ct := (232, 0, 0, [(3, .inr 2, .inl 0), (3, .inr 10, .inl 0)], ([], []), [], [], [(10, 6, 6)], [(.inl none, 0, 0, ([], []), [], [])])
set_option maxRecDepth 100000 in
noncomputable def sz_ud478 : List sy_Cut := []
set_option maxRecDepth 100000 in
noncomputable def sz_hd478_0 : List sy_Hn := [(0, 31, 0, 0, 0, 0, [], [], []),
  (5, 1, 0, 0, 0, 0, [], [], []),
  (0, 31, 0, 0, 0, 0, [], [], []),
  (0, 1, 0, 0, 1, 0, [], [], []),
  (0, 31, 0, 0, 0, 0, [], [], []),
  (0, 1, 0, 0, 2, 0, [], [], []),
  (0, 31, 0, 0, 0, 0, [], [], []),
  (0, 31, 0, 0, 0, 0, [], [], [])]
set_option maxRecDepth 100000 in
theorem sz_sd478_0 : sy_seg sz_E (pv_T (sz_own true) sz_T) sz_RU [] sz_cd478 sz_ud478 ri_m_X0_takeSp 42 none sz_hd478_0 = true := by decide +kernel
theorem sz_okd478 (xs : Nat → Value) (L : Nat) : sy_Cok (sz_env xs L) (pv_T (sz_own true) sz_T) sz_RU sz_cd478 := sy_chk_ok (CT := []) (CU := sz_ud478) (M := ri_m_X0_takeSp) (fun _ h => absurd h List.not_mem_nil) rfl rfl ⟨_, _, sz_sd478_0⟩ (fun _ h => absurd h List.not_mem_nil)

/-! X0_measure  -/
set_option maxRecDepth 100000 in
noncomputable def sz_cd479 : sy_Ct := (222, 3, 68, [(3, .inr 2, .inl 0), (0, .inl 0, .inl 0)], ([], []), [], [], [(6, 2, 2), (7, 0, 239), (10, 6, 6), (10, 8, 11)], [(.inl none, 0, 0, ([], []), [], [])])
set_option maxRecDepth 100000 in
noncomputable def sz_ud479 : List sy_Cut := []
set_option maxRecDepth 100000 in
noncomputable def sz_hd479_0 : List sy_Hn := [(11, 20, 1, 0, 0, 0, [], [], []),
  (3, 20, 2, 0, 0, 0, [], [], []),
  (0, 31, 0, 0, 0, 0, [], [], []),
  (9, 20, 0, 0, 0, 0, [], [], []),
  (2, 20, 2, 0, 0, 0, [], [], []),
  (0, 31, 0, 0, 0, 0, [], [], []),
  (2, 20, 1, 0, 0, 0, [], [], []),
  (3, 20, 2, 0, 0, 0, [], [], []),
  (0, 31, 0, 0, 0, 0, [], [], []),
  (9, 20, 0, 0, 0, 0, [], [], []),
  (2, 20, 2, 0, 0, 0, [], [], []),
  (0, 31, 0, 0, 0, 0, [], [], []),
  (3, 20, 3, 0, 0, 0, [], [], []),
  (2, 20, 1, 0, 0, 0, [], [], []),
  (3, 20, 2, 0, 0, 0, [], [], []),
  (0, 31, 0, 0, 0, 0, [], [], []),
  (9, 20, 0, 0, 0, 0, [], [], []),
  (2, 20, 2, 0, 0, 0, [], [], []),
  (0, 31, 0, 0, 0, 0, [], [], [])]
set_option maxRecDepth 100000 in
theorem sz_sd479_0 : sy_seg sz_E (pv_T (sz_own true) sz_T) sz_RU [sz_cd470, sz_cd476, sz_cd477, sz_cd478] sz_cd479 sz_ud479 ri_m_X0_measure 90 none sz_hd479_0 = true := by decide +kernel
theorem sz_okd479 (xs : Nat → Value) (L : Nat) : sy_Cok (sz_env xs L) (pv_T (sz_own true) sz_T) sz_RU sz_cd479 := sy_chk_ok (CT := [sz_cd470, sz_cd476, sz_cd477, sz_cd478]) (CU := sz_ud479) (M := ri_m_X0_measure) (List.forall_mem_cons.mpr ⟨sz_okd470 xs L, List.forall_mem_cons.mpr ⟨sz_okd476 xs L, List.forall_mem_cons.mpr ⟨sz_okd477 xs L, List.forall_mem_cons.mpr ⟨sz_okd478 xs L, fun _ h => absurd h List.not_mem_nil⟩⟩⟩⟩) rfl rfl ⟨_, _, sz_sd479_0⟩ (fun _ h => absurd h List.not_mem_nil)

/-! X0_leads  -/
set_option maxRecDepth 100000 in
noncomputable def sz_cd480 : sy_Ct := (287, 0, 0, [(3, .inr 2, .inl 0), (0, .inl 0, .inl 0)], ([], []), [], [], [], [(.inl (some (0, .inr 0, .inl 0)), 0, 0, ([(0, 1)], []), [], [])])
set_option maxRecDepth 100000 in
noncomputable def sz_ud480 : List sy_Cut := [(4, [(0, (3, .inr 2, .inl 0)), (1, (0, .inl 0, .inl 0)), (2, (0, .inr 0, .inl 0))], ([(1, 4)], []), [], [], [(4, []), ((-1), [0])])]
set_option maxRecDepth 100000 in
noncomputable def sz_hd480_0 : List sy_Hn := [(0, 30, 0, 0, 0, 0, [([], [(1, [0])]), ([], [])], [], [])]
set_option maxRecDepth 100000 in
theorem sz_sd480_0 : sy_seg sz_E (pv_T (sz_own true) sz_T) sz_RU [] sz_cd480 sz_ud480 ri_m_X0_leads 11 none sz_hd480_0 = true := by decide +kernel
set_option maxRecDepth 100000 in
noncomputable def sz_hd480_1 : List sy_Hn := [(0, 31, 0, 0, 0, 0, [], [], []),
  (3, 1, 0, 0, 1, 0, [], [], []),
  (0, 30, 0, 0, 0, 0, [([], [(1, [0])]), ([0], [(1, [0]), (1, [2])])], [], []),
  (0, 30, 0, 0, 0, 0, [([], [(1, [0])]), ([0], [(1, [0]), (1, [2])])], [], []),
  (0, 30, 0, 0, 0, 0, [([], [(1, [0])]), ([0], [(1, [0]), (1, [2])])], [], []),
  (0, 30, 0, 0, 0, 0, [([], [(1, [0])]), ([0], [(1, [0]), (1, [2])])], [], []),
  (0, 31, 0, 0, 0, 0, [], [], []),
  (0, 1, 0, 0, 2, 0, [], [], []),
  (0, 30, 0, 0, 0, 0, [([], [(1, [0])]), ([0], [(1, [0]), (1, [2])])], [], []),
  (0, 30, 0, 0, 0, 0, [([], [(1, [0])]), ([0], [(1, [0]), (1, [2])])], [], []),
  (0, 30, 0, 0, 0, 0, [([], [(1, [0])]), ([0], [(1, [0]), (1, [2])])], [], []),
  (0, 30, 0, 0, 0, 0, [([], [(1, [0])]), ([0], [(1, [0]), (1, [2])])], [], []),
  (0, 31, 0, 0, 0, 0, [], [], []),
  (0, 30, 0, 0, 0, 0, [([], [(1, [0])]), ([0], [(1, [0]), (1, [2])])], [], []),
  (0, 30, 0, 0, 0, 0, [([], [(1, [0])]), ([0], [(1, [0]), (1, [2])])], [], []),
  (0, 30, 0, 0, 0, 0, [([], [(1, [0])]), ([0], [(1, [0]), (1, [2])])], [], []),
  (0, 30, 0, 0, 0, 0, [([], [(1, [0])]), ([0], [(1, [0]), (1, [2])])], [], []),
  (0, 31, 0, 0, 0, 0, [], [], [])]
set_option maxRecDepth 100000 in
theorem sz_sd480_1 : sy_seg sz_E (pv_T (sz_own true) sz_T) sz_RU [] sz_cd480 sz_ud480 ri_m_X0_leads 109 (some ((4, [(0, (3, .inr 2, .inl 0)), (1, (0, .inl 0, .inl 0)), (2, (0, .inr 0, .inl 0))], ([(1, 4)], []), [], [], [(4, []), ((-1), [0])]))) sz_hd480_1 = true := by decide +kernel
theorem sz_okd480 (xs : Nat → Value) (L : Nat) : sy_Cok (sz_env xs L) (pv_T (sz_own true) sz_T) sz_RU sz_cd480 := sy_chk_ok (CT := []) (CU := sz_ud480) (M := ri_m_X0_leads) (fun _ h => absurd h List.not_mem_nil) rfl rfl ⟨_, _, sz_sd480_0⟩ (List.forall_mem_cons.mpr ⟨⟨_, _, sz_sd480_1⟩, fun _ h => absurd h List.not_mem_nil⟩)

/-! X0_leastOn  -/
set_option maxRecDepth 100000 in
noncomputable def sz_cd481 : sy_Ct := (224, 0, 0, [(3, .inr 2, .inl 0), (0, .inl 0, .inl 0)], ([], []), [], [], [], [(.inl (some (0, .inr 0, .inl 0)), 0, 0, ([((-1), 3)], []), [], [])])
set_option maxRecDepth 100000 in
noncomputable def sz_ud481 : List sy_Cut := [(4, [(0, (3, .inr 2, .inl 0)), (1, (0, .inl 0, .inl 0)), (2, (0, .inr 0, .inl 0))], ([(1, 4)], []), [], [], [(4, []), ((-1), [0])])]
set_option maxRecDepth 100000 in
noncomputable def sz_hd481_0 : List sy_Hn := [(0, 30, 0, 0, 0, 0, [([], [(1, [0])]), ([], [])], [], [])]
set_option maxRecDepth 100000 in
theorem sz_sd481_0 : sy_seg sz_E (pv_T (sz_own true) sz_T) sz_RU [] sz_cd481 sz_ud481 ri_m_X0_leastOn 11 none sz_hd481_0 = true := by decide +kernel
set_option maxRecDepth 100000 in
noncomputable def sz_hd481_1 : List sy_Hn := [(0, 31, 0, 0, 0, 0, [], [], []),
  (3, 1, 0, 0, 1, 0, [], [], []),
  (0, 30, 0, 0, 0, 0, [([], [(1, [0])]), ([0], [(1, [0]), (1, [2])])], [], []),
  (0, 30, 0, 0, 0, 0, [([], [(1, [0])]), ([0], [(1, [0]), (1, [2])])], [], []),
  (0, 31, 0, 0, 0, 0, [], [], []),
  (0, 1, 0, 0, 2, 0, [], [], []),
  (0, 30, 0, 0, 0, 0, [([], [(1, [0])]), ([0], [(1, [0]), (1, [2])])], [], []),
  (0, 30, 0, 0, 0, 0, [([], [(1, [0])]), ([0], [(1, [0]), (1, [2])])], [], []),
  (0, 31, 0, 0, 0, 0, [], [], []),
  (0, 30, 0, 0, 0, 0, [([], [(1, [0])]), ([0], [(1, [0]), (1, [2])])], [], []),
  (0, 30, 0, 0, 0, 0, [([], [(1, [0])]), ([0], [(1, [0]), (1, [2])])], [], []),
  (0, 31, 0, 0, 0, 0, [], [], [])]
set_option maxRecDepth 100000 in
theorem sz_sd481_1 : sy_seg sz_E (pv_T (sz_own true) sz_T) sz_RU [] sz_cd481 sz_ud481 ri_m_X0_leastOn 64 (some ((4, [(0, (3, .inr 2, .inl 0)), (1, (0, .inl 0, .inl 0)), (2, (0, .inr 0, .inl 0))], ([(1, 4)], []), [], [], [(4, []), ((-1), [0])]))) sz_hd481_1 = true := by decide +kernel
theorem sz_okd481 (xs : Nat → Value) (L : Nat) : sy_Cok (sz_env xs L) (pv_T (sz_own true) sz_T) sz_RU sz_cd481 := sy_chk_ok (CT := []) (CU := sz_ud481) (M := ri_m_X0_leastOn) (fun _ h => absurd h List.not_mem_nil) rfl rfl ⟨_, _, sz_sd481_0⟩ (List.forall_mem_cons.mpr ⟨⟨_, _, sz_sd481_1⟩, fun _ h => absurd h List.not_mem_nil⟩)

/-! X0_followedOf  -/
set_option maxRecDepth 100000 in
noncomputable def sz_cd482 : sy_Ct := (252, 1, 22, [(3, .inr 2, .inl 0), (0, .inl 0, .inl 0)], ([], []), [], [], [], [(.inl (some (0, .inr 0, .inl 0)), 0, 0, ([((-1), 3)], []), [], [])])
set_option maxRecDepth 100000 in
noncomputable def sz_ud482 : List sy_Cut := []
set_option maxRecDepth 100000 in
noncomputable def sz_hd482_0 : List sy_Hn := [(12, 20, 0, 0, 0, 0, [], [], []),
  (0, 31, 0, 0, 0, 0, [], [], []),
  (3, 20, 1, 0, 0, 0, [], [], []),
  (0, 31, 0, 0, 0, 0, [], [], []),
  (0, 31, 0, 0, 0, 0, [], [], []),
  (0, 31, 0, 0, 0, 0, [], [], []),
  (3, 20, 0, 0, 0, 0, [], [], []),
  (0, 31, 0, 0, 0, 0, [], [], []),
  (3, 20, 1, 0, 0, 0, [], [], []),
  (0, 31, 0, 0, 0, 0, [], [], [])]
set_option maxRecDepth 100000 in
theorem sz_sd482_0 : sy_seg sz_E (pv_T (sz_own true) sz_T) sz_RU [sz_cd480, sz_cd481] sz_cd482 sz_ud482 ri_m_X0_followedOf 56 none sz_hd482_0 = true := by decide +kernel
theorem sz_okd482 (xs : Nat → Value) (L : Nat) : sy_Cok (sz_env xs L) (pv_T (sz_own true) sz_T) sz_RU sz_cd482 := sy_chk_ok (CT := [sz_cd480, sz_cd481]) (CU := sz_ud482) (M := ri_m_X0_followedOf) (List.forall_mem_cons.mpr ⟨sz_okd480 xs L, List.forall_mem_cons.mpr ⟨sz_okd481 xs L, fun _ h => absurd h List.not_mem_nil⟩⟩) rfl rfl ⟨_, _, sz_sd482_0⟩ (fun _ h => absurd h List.not_mem_nil)

/-! X0_heldAt  -/
set_option maxRecDepth 100000 in
noncomputable def sz_cd483 : sy_Ct := (305, 0, 0, [(3, .inr 2, .inl 0), (0, .inl 0, .inl 0), (0, .inl (-1), .inl 0)], ([], []), [], [], [], [(.inl (some (0, .inr 0, .inl 0)), 0, 0, ([(0, 1)], []), [], [])])
set_option maxRecDepth 100000 in
noncomputable def sz_ud483 : List sy_Cut := [(4, [(0, (3, .inr 2, .inl 0)), (1, (0, .inl 0, .inl 0)), (2, (0, .inl (-1), .inl 0)), (3, (0, .inr 0, .inl 0))], ([(1, 4)], []), [], [], [(4, []), ((-1), [0])])]
set_option maxRecDepth 100000 in
noncomputable def sz_hd483_0 : List sy_Hn := [(0, 30, 0, 0, 0, 0, [([], [(1, [0])]), ([], [])], [], [])]
set_option maxRecDepth 100000 in
theorem sz_sd483_0 : sy_seg sz_E (pv_T (sz_own true) sz_T) sz_RU [] sz_cd483 sz_ud483 ri_m_X0_heldAt 11 none sz_hd483_0 = true := by decide +kernel
set_option maxRecDepth 100000 in
noncomputable def sz_hd483_1 : List sy_Hn := [(0, 31, 0, 0, 0, 0, [], [], []),
  (3, 1, 0, 0, 1, 0, [], [], []),
  (0, 30, 0, 0, 0, 0, [([], [(1, [0])]), ([0], [(1, [0]), (1, [2])])], [], []),
  (0, 30, 0, 0, 0, 0, [([], [(1, [0])]), ([0], [(1, [0]), (1, [2])])], [], []),
  (0, 30, 0, 0, 0, 0, [([], [(1, [0])]), ([0], [(1, [0]), (1, [2])])], [], []),
  (0, 30, 0, 0, 0, 0, [([], [(1, [0])]), ([0], [(1, [0]), (1, [2])])], [], []),
  (0, 30, 0, 0, 0, 0, [([], [(1, [0])]), ([0], [(1, [0]), (1, [2])])], [], []),
  (0, 31, 0, 0, 0, 0, [], [], []),
  (0, 1, 0, 0, 2, 0, [], [], []),
  (0, 30, 0, 0, 0, 0, [([], [(1, [0])]), ([0], [(1, [0]), (1, [2])])], [], []),
  (0, 30, 0, 0, 0, 0, [([], [(1, [0])]), ([0], [(1, [0]), (1, [2])])], [], []),
  (0, 30, 0, 0, 0, 0, [([], [(1, [0])]), ([0], [(1, [0]), (1, [2])])], [], []),
  (0, 30, 0, 0, 0, 0, [([], [(1, [0])]), ([0], [(1, [0]), (1, [2])])], [], []),
  (0, 30, 0, 0, 0, 0, [([], [(1, [0])]), ([0], [(1, [0]), (1, [2])])], [], []),
  (0, 31, 0, 0, 0, 0, [], [], []),
  (0, 30, 0, 0, 0, 0, [([], [(1, [0])]), ([0], [(1, [0]), (1, [2])])], [], []),
  (0, 30, 0, 0, 0, 0, [([], [(1, [0])]), ([0], [(1, [0]), (1, [2])])], [], []),
  (0, 30, 0, 0, 0, 0, [([], [(1, [0])]), ([0], [(1, [0]), (1, [2])])], [], []),
  (0, 30, 0, 0, 0, 0, [([], [(1, [0])]), ([0], [(1, [0]), (1, [2])])], [], []),
  (0, 30, 0, 0, 0, 0, [([], [(1, [0])]), ([0], [(1, [0]), (1, [2])])], [], []),
  (0, 31, 0, 0, 0, 0, [], [], [])]
set_option maxRecDepth 100000 in
theorem sz_sd483_1 : sy_seg sz_E (pv_T (sz_own true) sz_T) sz_RU [] sz_cd483 sz_ud483 ri_m_X0_heldAt 130 (some ((4, [(0, (3, .inr 2, .inl 0)), (1, (0, .inl 0, .inl 0)), (2, (0, .inl (-1), .inl 0)), (3, (0, .inr 0, .inl 0))], ([(1, 4)], []), [], [], [(4, []), ((-1), [0])]))) sz_hd483_1 = true := by decide +kernel
theorem sz_okd483 (xs : Nat → Value) (L : Nat) : sy_Cok (sz_env xs L) (pv_T (sz_own true) sz_T) sz_RU sz_cd483 := sy_chk_ok (CT := []) (CU := sz_ud483) (M := ri_m_X0_heldAt) (fun _ h => absurd h List.not_mem_nil) rfl rfl ⟨_, _, sz_sd483_0⟩ (List.forall_mem_cons.mpr ⟨⟨_, _, sz_sd483_1⟩, fun _ h => absurd h List.not_mem_nil⟩)

/-! X0_heldAt  -/
set_option maxRecDepth 100000 in
noncomputable def sz_cd484 : sy_Ct := (305, 0, 0, [(3, .inr 2, .inl 0), (0, .inl 0, .inl 0), (0, .inl 1, .inl 0)], ([], []), [], [], [], [(.inl (some (0, .inr 0, .inl 0)), 0, 0, ([(0, 1)], []), [], [])])
set_option maxRecDepth 100000 in
noncomputable def sz_ud484 : List sy_Cut := [(4, [(0, (3, .inr 2, .inl 0)), (1, (0, .inl 0, .inl 0)), (2, (0, .inl 1, .inl 0)), (3, (0, .inr 0, .inl 0))], ([(1, 4)], []), [], [], [(4, []), ((-1), [0])])]
set_option maxRecDepth 100000 in
noncomputable def sz_hd484_0 : List sy_Hn := [(0, 30, 0, 0, 0, 0, [([], [(1, [0])]), ([], [])], [], [])]
set_option maxRecDepth 100000 in
theorem sz_sd484_0 : sy_seg sz_E (pv_T (sz_own true) sz_T) sz_RU [] sz_cd484 sz_ud484 ri_m_X0_heldAt 11 none sz_hd484_0 = true := by decide +kernel
set_option maxRecDepth 100000 in
noncomputable def sz_hd484_1 : List sy_Hn := [(0, 31, 0, 0, 0, 0, [], [], []),
  (3, 1, 0, 0, 1, 0, [], [], []),
  (0, 30, 0, 0, 0, 0, [([], [(1, [0])]), ([0], [(1, [0]), (1, [2])])], [], []),
  (0, 30, 0, 0, 0, 0, [([], [(1, [0])]), ([0], [(1, [0]), (1, [2])])], [], []),
  (0, 30, 0, 0, 0, 0, [([], [(1, [0])]), ([0], [(1, [0]), (1, [2])])], [], []),
  (0, 30, 0, 0, 0, 0, [([], [(1, [0])]), ([0], [(1, [0]), (1, [2])])], [], []),
  (0, 30, 0, 0, 0, 0, [([], [(1, [0])]), ([0], [(1, [0]), (1, [2])])], [], []),
  (0, 31, 0, 0, 0, 0, [], [], []),
  (0, 1, 0, 0, 2, 0, [], [], []),
  (0, 30, 0, 0, 0, 0, [([], [(1, [0])]), ([0], [(1, [0]), (1, [2])])], [], []),
  (0, 30, 0, 0, 0, 0, [([], [(1, [0])]), ([0], [(1, [0]), (1, [2])])], [], []),
  (0, 30, 0, 0, 0, 0, [([], [(1, [0])]), ([0], [(1, [0]), (1, [2])])], [], []),
  (0, 30, 0, 0, 0, 0, [([], [(1, [0])]), ([0], [(1, [0]), (1, [2])])], [], []),
  (0, 30, 0, 0, 0, 0, [([], [(1, [0])]), ([0], [(1, [0]), (1, [2])])], [], []),
  (0, 31, 0, 0, 0, 0, [], [], []),
  (0, 30, 0, 0, 0, 0, [([], [(1, [0])]), ([0], [(1, [0]), (1, [2])])], [], []),
  (0, 30, 0, 0, 0, 0, [([], [(1, [0])]), ([0], [(1, [0]), (1, [2])])], [], []),
  (0, 30, 0, 0, 0, 0, [([], [(1, [0])]), ([0], [(1, [0]), (1, [2])])], [], []),
  (0, 30, 0, 0, 0, 0, [([], [(1, [0])]), ([0], [(1, [0]), (1, [2])])], [], []),
  (0, 30, 0, 0, 0, 0, [([], [(1, [0])]), ([0], [(1, [0]), (1, [2])])], [], []),
  (0, 31, 0, 0, 0, 0, [], [], [])]
set_option maxRecDepth 100000 in
theorem sz_sd484_1 : sy_seg sz_E (pv_T (sz_own true) sz_T) sz_RU [] sz_cd484 sz_ud484 ri_m_X0_heldAt 130 (some ((4, [(0, (3, .inr 2, .inl 0)), (1, (0, .inl 0, .inl 0)), (2, (0, .inl 1, .inl 0)), (3, (0, .inr 0, .inl 0))], ([(1, 4)], []), [], [], [(4, []), ((-1), [0])]))) sz_hd484_1 = true := by decide +kernel
theorem sz_okd484 (xs : Nat → Value) (L : Nat) : sy_Cok (sz_env xs L) (pv_T (sz_own true) sz_T) sz_RU sz_cd484 := sy_chk_ok (CT := []) (CU := sz_ud484) (M := ri_m_X0_heldAt) (fun _ h => absurd h List.not_mem_nil) rfl rfl ⟨_, _, sz_sd484_0⟩ (List.forall_mem_cons.mpr ⟨⟨_, _, sz_sd484_1⟩, fun _ h => absurd h List.not_mem_nil⟩)

/-! X0_rule  -/
set_option maxRecDepth 100000 in
noncomputable def sz_cd485 : sy_Ct := (278, 2, 47, [(3, .inr 2, .inl 0), (0, .inl 0, .inl 0)], ([], []), [], [], [(8, 0, 0), (10, 7, 8), (10, 12, 12)], [(.inl none, 0, 0, ([], []), [], [])])
set_option maxRecDepth 100000 in
noncomputable def sz_ud485 : List sy_Cut := [(29, [(0, (3, .inr 2, .inl 0)), (1, (0, .inl 0, .inl 0)), (2, (3, .inr 10, .inl 0)), (3, (1, .inr 0, .inl 0)), (5, (1, .inr 1, .inl 0))], ([((-140737488355328), 140737488355327), ((-9223372036854775808), 9223372036854775807)], []), [], [], [(3, [])]), (50, [(0, (3, .inr 2, .inl 0)), (1, (0, .inl 0, .inl 0)), (2, (3, .inr 10, .inl 0)), (3, (1, .inr 0, .inl 0)), (5, (1, .inr 1, .inl 0))], ([((-140737488355328), 140737488355327), ((-9223372036854775808), 9223372036854775807)], []), [], [], [(2, [])]), (79, [(0, (3, .inr 2, .inl 0)), (1, (0, .inl 0, .inl 0)), (2, (3, .inr 10, .inl 0)), (3, (1, .inr 0, .inl 0)), (5, (1, .inr 1, .inl 0)), (7, (1, .inr 2, .inl 0))], ([((-9223372036854775808), 9223372036854775807), ((-140737488355328), 140737488355327), ((-9223372036854775808), 9223372036854775807)], []), [], [], [(1, [])]), (100, [(0, (3, .inr 2, .inl 0)), (1, (0, .inl 0, .inl 0)), (2, (3, .inr 10, .inl 0)), (3, (1, .inr 0, .inl 0)), (5, (1, .inr 1, .inl 0)), (7, (1, .inr 2, .inl 0))], ([((-9223372036854775808), 9223372036854775807), ((-140737488355328), 140737488355327), ((-9223372036854775808), 9223372036854775807)], []), [], [], [(0, [])])]
set_option maxRecDepth 100000 in
noncomputable def sz_hd485_0 : List sy_Hn := [(95, 6, 471, 0, 0, 0, [([], [(1, [0]), (1, [2])]), ([], [(1, [0]), (1, [1])])], [], [1, 1]),
  (0, 30, 0, 0, 0, 0, [([], [(1, [0])]), ([], [])], [], []),
  (6, 5, 469, 0, 0, 0, [], [], []),
  (0, 6, 471, 0, 0, 0, [([], [(1, [0]), (1, [1])]), ([], [(1, [0]), (1, [1])])], [], [0, 0]),
  (0, 30, 0, 0, 0, 0, [([], [(1, [0])]), ([], [])], [], []),
  (0, 6, 471, 0, 0, 0, [([], [(1, [0]), (1, [1])]), ([], [(1, [0])])], [], [1, 1]),
  (0, 30, 0, 0, 0, 0, [([], [(1, [0])]), ([], [])], [], []),
  (6, 5, 469, 0, 0, 0, [], [], []),
  (0, 6, 471, 0, 0, 0, [([], [(1, [0]), (1, [1])]), ([], [(1, [0]), (1, [1])])], [], [0, 0]),
  (0, 30, 0, 0, 0, 0, [([], [(1, [0])]), ([], [])], [], []),
  (0, 6, 471, 0, 0, 0, [([], [(1, [0])]), ([], [(1, [0]), (1, [1])])], [], [1, 1]),
  (0, 30, 0, 0, 0, 0, [([], [(1, [0])]), ([], [])], [], []),
  (31, 6, 471, 0, 0, 0, [([], [(1, [0]), (1, [2])]), ([], [(1, [0]), (1, [1])])], [], [1, 1]),
  (0, 30, 0, 0, 0, 0, [([], [(1, [0])]), ([], [])], [], []),
  (6, 5, 469, 0, 0, 0, [], [], []),
  (0, 6, 471, 0, 0, 0, [([], [(1, [0]), (1, [1])]), ([], [(1, [0]), (1, [1])])], [], [0, 0]),
  (0, 30, 0, 0, 0, 0, [([], [(1, [0])]), ([], [])], [], []),
  (0, 6, 471, 0, 0, 0, [([], [(1, [0]), (1, [1])]), ([], [(1, [0])])], [], [1, 1]),
  (0, 30, 0, 0, 0, 0, [([], [(1, [0])]), ([], [])], [], []),
  (6, 5, 469, 0, 0, 0, [], [], []),
  (0, 6, 471, 0, 0, 0, [([], [(1, [0]), (1, [1])]), ([], [(1, [0]), (1, [1])])], [], [0, 0]),
  (0, 30, 0, 0, 0, 0, [([], [(1, [0])]), ([], [])], [], []),
  (0, 6, 471, 0, 0, 0, [([], [(1, [0])]), ([], [(1, [0]), (1, [1])])], [], [1, 1]),
  (0, 30, 0, 0, 0, 0, [([], [(1, [0])]), ([], [])], [], [])]
set_option maxRecDepth 100000 in
theorem sz_sd485_0 : sy_seg sz_E (pv_T (sz_own true) sz_T) sz_RU [sz_cd475, sz_cd483, sz_cd484] sz_cd485 sz_ud485 ri_m_X0_rule 193 none sz_hd485_0 = true := by decide +kernel
set_option maxRecDepth 100000 in
noncomputable def sz_hd485_1 : List sy_Hn := [(0, 30, 0, 0, 0, 0, [([], [(1, [0])]), ([], [(1, [0])])], [], []),
  (0, 30, 0, 0, 0, 0, [([], [(1, [0])]), ([], [(1, [0])])], [], []),
  (0, 30, 0, 0, 0, 0, [([], [(1, [0])]), ([], [(1, [0])])], [], [])]
set_option maxRecDepth 100000 in
theorem sz_sd485_1 : sy_seg sz_E (pv_T (sz_own true) sz_T) sz_RU [sz_cd475, sz_cd483, sz_cd484] sz_cd485 sz_ud485 ri_m_X0_rule 34 (some ((29, [(0, (3, .inr 2, .inl 0)), (1, (0, .inl 0, .inl 0)), (2, (3, .inr 10, .inl 0)), (3, (1, .inr 0, .inl 0)), (5, (1, .inr 1, .inl 0))], ([((-140737488355328), 140737488355327), ((-9223372036854775808), 9223372036854775807)], []), [], [], [(3, [])]))) sz_hd485_1 = true := by decide +kernel
set_option maxRecDepth 100000 in
noncomputable def sz_hd485_2 : List sy_Hn := [(0, 30, 0, 0, 0, 0, [([], [(1, [0])]), ([], [(1, [0])])], [], [])]
set_option maxRecDepth 100000 in
theorem sz_sd485_2 : sy_seg sz_E (pv_T (sz_own true) sz_T) sz_RU [sz_cd475, sz_cd483, sz_cd484] sz_cd485 sz_ud485 ri_m_X0_rule 41 (some ((50, [(0, (3, .inr 2, .inl 0)), (1, (0, .inl 0, .inl 0)), (2, (3, .inr 10, .inl 0)), (3, (1, .inr 0, .inl 0)), (5, (1, .inr 1, .inl 0))], ([((-140737488355328), 140737488355327), ((-9223372036854775808), 9223372036854775807)], []), [], [], [(2, [])]))) sz_hd485_2 = true := by decide +kernel
set_option maxRecDepth 100000 in
noncomputable def sz_hd485_3 : List sy_Hn := [(0, 30, 0, 0, 0, 0, [([], [(1, [0])]), ([], [(1, [0])])], [], []),
  (8, 20, 1, 0, 0, 0, [], [], []),
  (0, 30, 0, 0, 0, 0, [([], [(1, [0])]), ([], [(1, [0])])], [], []),
  (6, 20, 0, 0, 0, 0, [], [], []),
  (0, 30, 0, 0, 0, 0, [([], [(1, [0])]), ([], [(1, [0])])], [], []),
  (3, 20, 2, 0, 0, 0, [], [], []),
  (0, 30, 0, 0, 0, 0, [([], [(1, [0])]), ([], [(1, [0])])], [], []),
  (6, 20, 0, 0, 0, 0, [], [], []),
  (0, 30, 0, 0, 0, 0, [([], [(1, [0])]), ([], [(1, [0])])], [], [])]
set_option maxRecDepth 100000 in
theorem sz_sd485_3 : sy_seg sz_E (pv_T (sz_own true) sz_T) sz_RU [sz_cd475, sz_cd483, sz_cd484] sz_cd485 sz_ud485 ri_m_X0_rule 48 (some ((79, [(0, (3, .inr 2, .inl 0)), (1, (0, .inl 0, .inl 0)), (2, (3, .inr 10, .inl 0)), (3, (1, .inr 0, .inl 0)), (5, (1, .inr 1, .inl 0)), (7, (1, .inr 2, .inl 0))], ([((-9223372036854775808), 9223372036854775807), ((-140737488355328), 140737488355327), ((-9223372036854775808), 9223372036854775807)], []), [], [], [(1, [])]))) sz_hd485_3 = true := by decide +kernel
set_option maxRecDepth 100000 in
noncomputable def sz_hd485_4 : List sy_Hn := [(0, 31, 0, 0, 0, 0, [], [], [])]
set_option maxRecDepth 100000 in
theorem sz_sd485_4 : sy_seg sz_E (pv_T (sz_own true) sz_T) sz_RU [sz_cd475, sz_cd483, sz_cd484] sz_cd485 sz_ud485 ri_m_X0_rule 7 (some ((100, [(0, (3, .inr 2, .inl 0)), (1, (0, .inl 0, .inl 0)), (2, (3, .inr 10, .inl 0)), (3, (1, .inr 0, .inl 0)), (5, (1, .inr 1, .inl 0)), (7, (1, .inr 2, .inl 0))], ([((-9223372036854775808), 9223372036854775807), ((-140737488355328), 140737488355327), ((-9223372036854775808), 9223372036854775807)], []), [], [], [(0, [])]))) sz_hd485_4 = true := by decide +kernel
theorem sz_okd485 (xs : Nat → Value) (L : Nat) : sy_Cok (sz_env xs L) (pv_T (sz_own true) sz_T) sz_RU sz_cd485 := sy_chk_ok (CT := [sz_cd475, sz_cd483, sz_cd484]) (CU := sz_ud485) (M := ri_m_X0_rule) (List.forall_mem_cons.mpr ⟨sz_okd475 xs L, List.forall_mem_cons.mpr ⟨sz_okd483 xs L, List.forall_mem_cons.mpr ⟨sz_okd484 xs L, fun _ h => absurd h List.not_mem_nil⟩⟩⟩) rfl rfl ⟨_, _, sz_sd485_0⟩ (List.forall_mem_cons.mpr ⟨⟨_, _, sz_sd485_1⟩, List.forall_mem_cons.mpr ⟨⟨_, _, sz_sd485_2⟩, List.forall_mem_cons.mpr ⟨⟨_, _, sz_sd485_3⟩, List.forall_mem_cons.mpr ⟨⟨_, _, sz_sd485_4⟩, fun _ h => absurd h List.not_mem_nil⟩⟩⟩⟩)

/-! X2_relayEnds  -/
set_option maxRecDepth 100000 in
noncomputable def sz_cd486 : sy_Ct := (280, 2, 45, [(3, .inr 10, .inl 0)], ([], []), [((10, 5), (0, .inl 3, .inl 0))], [], [(10, 5, 5), (10, 7, 7), (10, 17, 18), (20, 3, 8)], [(.inl (some (0, .inr 0, .inl 0)), 0, 0, ([(0, 1)], []), [], [])])
set_option maxRecDepth 100000 in
noncomputable def sz_ud486 : List sy_Cut := []
set_option maxRecDepth 100000 in
noncomputable def sz_hd486_0_0 : List sy_Hn := [(22, 20, 0, 0, 0, 0, [], [], []),
  (6, 20, 1, 0, 0, 0, [], [], []),
  (6, 4, 20, 6, 0, 0, [], [], []),
  (0, 5, 473, 0, 0, 0, [], [], []),
  (0, 7, 0, 0, 0, 0, [([], [(1, [0])])], [], []),
  (0, 3, 9, 0, 1, 240, [([9], [(1, [0]), (1, [1])]), ([], [(1, [0]), (1, [3]), (1, [1])])], [], []),
  (0, 5, 473, 1, 0, 0, [], [], []),
  (0, 7, 0, 0, 0, 0, [([], [(1, [0])])], [], []),
  (6, 3, 11, 0, 1, 240, [([11], [(1, [0]), (1, [1])]), ([], [(1, [0]), (1, [2]), (1, [3]), (1, [4])])], [], []),
  (39, 4, 13, 0, 0, 0, [], [], []),
  (0, 4, 13, 1, 0, 0, [], [], []),
  (0, 5, 469, 0, 0, 0, [], [], []),
  (0, 6, 471, 0, 0, 0, [([], [(1, [0]), (1, [1])]), ([], [(1, [0]), (1, [1])])], [], [0, 0]),
  (0, 6, 473, 0, 0, 0, [([9], [(1, [0]), (1, [2])]), ([], [(1, [0]), (1, [8]), (1, [6]), (1, [5])])], [], [1, 1]),
  (0, 31, 0, 0, 0, 0, [], [], []),
  (0, 4, 13, 3, 0, 0, [], [], []),
  (0, 5, 470, 0, 0, 0, [], [], []),
  (0, 6, 471, 0, 0, 0, [([], [(1, [0]), (1, [1])]), ([], [(1, [0]), (1, [1])])], [], [0, 0]),
  (0, 6, 473, 0, 0, 0, [([9], [(1, [0]), (1, [2])]), ([], [(1, [0]), (1, [9]), (1, [7]), (1, [6])])], [], [1, 1]),
  (0, 31, 0, 0, 0, 0, [], [], []),
  (0, 5, 470, 1, 0, 0, [], [], []),
  (0, 6, 471, 0, 0, 0, [([], [(1, [0]), (1, [1])]), ([], [(1, [0]), (1, [1])])], [], [0, 0]),
  (0, 6, 473, 0, 0, 0, [([9], [(1, [0]), (1, [2])]), ([], [(1, [0]), (1, [10]), (1, [8]), (1, [7])])], [], [1, 1]),
  (0, 31, 0, 0, 0, 0, [], [], []),
  (0, 5, 472, 0, 0, 0, [], [], []),
  (0, 7, 0, 0, 0, 0, [([], [(1, [0])])], [], []),
  (0, 5, 472, 1, 0, 0, [], [], []),
  (0, 7, 0, 0, 0, 0, [([], [(1, [0])])], [], []),
  (0, 6, 471, 0, 0, 0, [([14], [(1, [0]), (1, [8]), (1, [4]), (1, [1])]), ([14], [(1, [0]), (1, [9]), (1, [3]), (1, [1])])], [], [1, 1]),
  (0, 6, 473, 0, 0, 0, [([9], [(1, [0]), (1, [2])]), ([], [(1, [0]), (1, [12]), (1, [10]), (1, [9])])], [], [1, 1]),
  (0, 31, 0, 0, 0, 0, [], [], []),
  (11, 4, 13, 0, 0, 0, [], [], []),
  (0, 4, 13, 1, 0, 0, [], [], []),
  (0, 4, 20, 2, 0, 0, [], [], []),
  (0, 4, 20, 0, 0, 0, [], [], []),
  (0, 5, 472, 0, 0, 0, [], [], []),
  (0, 7, 0, 0, 0, 0, [([], [(1, [0])])], [], []),
  (0, 5, 472, 1, 0, 0, [], [], []),
  (0, 7, 0, 0, 0, 0, [([], [(1, [0])])], [], []),
  (8, 6, 471, 0, 0, 0, [([16], [(1, [0]), (1, [4]), (1, [1])]), ([16], [(1, [0]), (1, [3]), (1, [1])])], [], [1, 1]),
  (0, 6, 472, 0, 0, 0, [([], [(1, [0])]), ([], [(1, [0])])], [], [0, 0]),
  (0, 6, 473, 0, 0, 0, [([], [(1, [0])]), ([], [(1, [0])])], [], [0, 0]),
  (0, 31, 0, 0, 0, 0, [], [], []),
  (33, 4, 13, 0, 0, 0, [], [], []),
  (0, 4, 13, 1, 0, 0, [], [], []),
  (0, 5, 472, 0, 0, 0, [], [], []),
  (0, 7, 0, 0, 0, 0, [([], [(1, [0])])], [], []),
  (0, 5, 469, 0, 0, 0, [], [], []),
  (0, 4, 13, 3, 0, 0, [], [], []),
  (0, 5, 470, 0, 0, 0, [], [], []),
  (0, 5, 470, 1, 0, 0, [], [], []),
  (0, 4, 10, 7, 0, 0, [], [], []),
  (0, 5, 471, 0, 0, 0, [], [], []),
  (0, 5, 471, 1, 0, 0, [], [], []),
  (0, 5, 472, 1, 0, 0, [], [], []),
  (0, 7, 0, 0, 0, 0, [([], [(1, [0])])], [], []),
  (0, 3, 18, 0, (-9999), 9999, [([18], [(1, [0]), (1, [1])]), ([12, 15, 16, 17, 18, 19, 20], [(1, [0]), (999, [2]), (1, [14]), (1, [15]), (1, [23]), (1, [25]), (1, [1, 6])])], [], []),
  (2, 6, 471, 0, 0, 0, [([], [(1, [0]), (1, [2])]), ([], [(1, [0]), (1, [2])])], [], [0, 0]),
  (0, 6, 473, 0, 0, 0, [([9], [(1, [0]), (1, [2])]), ([], [(1, [0]), (1, [17]), (1, [15]), (1, [14])])], [], [1, 1]),
  (0, 31, 0, 0, 0, 0, [], [], []),
  (0, 5, 472, 1, 0, 0, [], [], []),
  (0, 7, 0, 0, 0, 0, [([], [(1, [0])])], [], []),
  (0, 3, 18, 0, (-9999), 9999, [([18], [(1, [0]), (1, [1])]), ([12, 15, 16, 17, 18, 19, 20], [(1, [0]), (999, [2]), (1, [14]), (1, [15]), (1, [23]), (1, [25]), (1, [1, 6])])], [], []),
  (2, 6, 471, 0, 0, 0, [([], [(1, [0]), (1, [3])]), ([], [(1, [0]), (1, [3])])], [], [0, 0]),
  (0, 6, 473, 0, 0, 0, [([9], [(1, [0]), (1, [2])]), ([], [(1, [0]), (1, [17]), (1, [15]), (1, [14])])], [], [1, 1]),
  (0, 31, 0, 0, 0, 0, [], [], []),
  (0, 5, 471, 1, 0, 0, [], [], []),
  (0, 5, 472, 1, 0, 0, [], [], []),
  (0, 7, 0, 0, 0, 0, [([], [(1, [0])])], [], []),
  (0, 3, 18, 0, (-9999), 9999, [([18], [(1, [0]), (1, [1])]), ([12, 15, 16, 17, 18, 19, 20], [(1, [0]), (999, [2]), (1, [14]), (1, [15]), (1, [23]), (1, [25]), (1, [1, 6])])], [], []),
  (2, 6, 471, 0, 0, 0, [([], [(1, [0]), (1, [2])]), ([], [(1, [0]), (1, [2])])], [], [0, 0]),
  (0, 6, 473, 0, 0, 0, [([9], [(1, [0]), (1, [2])]), ([], [(1, [0]), (1, [17]), (1, [15]), (1, [14])])], [], [1, 1]),
  (0, 31, 0, 0, 0, 0, [], [], []),
  (0, 5, 472, 1, 0, 0, [], [], []),
  (0, 7, 0, 0, 0, 0, [([], [(1, [0])])], [], []),
  (0, 3, 18, 0, (-9999), 9999, [([18], [(1, [0]), (1, [1])]), ([12, 15, 16, 17, 18, 19, 20], [(1, [0]), (999, [2]), (1, [14]), (1, [15]), (1, [23]), (1, [25]), (1, [1, 6])])], [], []),
  (2, 6, 471, 0, 0, 0, [([], [(1, [0]), (1, [4])]), ([], [(1, [0]), (1, [4])])], [], [0, 0]),
  (0, 6, 473, 0, 0, 0, [([9], [(1, [0]), (1, [2])]), ([], [(1, [0]), (1, [17]), (1, [15]), (1, [14])])], [], [1, 1]),
  (0, 31, 0, 0, 0, 0, [], [], []),
  (0, 4, 10, 7, 0, 0, [], [], []),
  (0, 5, 471, 0, 0, 0, [], [], []),
  (0, 5, 471, 1, 0, 0, [], [], []),
  (0, 5, 472, 1, 0, 0, [], [], []),
  (0, 7, 0, 0, 0, 0, [([], [(1, [0])])], [], []),
  (0, 3, 18, 0, (-9999), 9999, [([18], [(1, [0]), (1, [1])]), ([12, 15, 16, 17, 18, 19, 20], [(1, [0]), (999, [2]), (1, [14]), (1, [15]), (1, [23]), (1, [25]), (1, [1, 6])])], [], []),
  (2, 6, 471, 0, 0, 0, [([], [(1, [0]), (1, [2])]), ([], [(1, [0]), (1, [2])])], [], [0, 0]),
  (0, 6, 473, 0, 0, 0, [([9], [(1, [0]), (1, [2])]), ([], [(1, [0]), (1, [17]), (1, [15]), (1, [14])])], [], [1, 1]),
  (0, 31, 0, 0, 0, 0, [], [], []),
  (0, 5, 472, 1, 0, 0, [], [], []),
  (0, 7, 0, 0, 0, 0, [([], [(1, [0])])], [], []),
  (0, 3, 18, 0, (-9999), 9999, [([18], [(1, [0]), (1, [1])]), ([12, 15, 16, 17, 18, 19, 20], [(1, [0]), (999, [2]), (1, [14]), (1, [15]), (1, [23]), (1, [25]), (1, [1, 6])])], [], []),
  (2, 6, 471, 0, 0, 0, [([], [(1, [0]), (1, [3])]), ([], [(1, [0]), (1, [3])])], [], [0, 0]),
  (0, 6, 473, 0, 0, 0, [([9], [(1, [0]), (1, [2])]), ([], [(1, [0]), (1, [17]), (1, [15]), (1, [14])])], [], [1, 1]),
  (0, 31, 0, 0, 0, 0, [], [], []),
  (0, 5, 471, 1, 0, 0, [], [], []),
  (0, 5, 472, 1, 0, 0, [], [], []),
  (0, 7, 0, 0, 0, 0, [([], [(1, [0])])], [], []),
  (0, 3, 18, 0, (-9999), 9999, [([18], [(1, [0]), (1, [1])]), ([12, 15, 16, 17, 18, 19, 20], [(1, [0]), (999, [2]), (1, [14]), (1, [15]), (1, [23]), (1, [25]), (1, [1, 6])])], [], []),
  (2, 6, 471, 0, 0, 0, [([], [(1, [0]), (1, [2])]), ([], [(1, [0]), (1, [2])])], [], [0, 0]),
  (0, 6, 473, 0, 0, 0, [([9], [(1, [0]), (1, [2])]), ([], [(1, [0]), (1, [17]), (1, [15]), (1, [14])])], [], [1, 1]),
  (0, 31, 0, 0, 0, 0, [], [], []),
  (0, 5, 472, 1, 0, 0, [], [], []),
  (0, 7, 0, 0, 0, 0, [([], [(1, [0])])], [], []),
  (0, 3, 18, 0, (-9999), 9999, [([18], [(1, [0]), (1, [1])]), ([12, 15, 16, 17, 18, 19, 20], [(1, [0]), (999, [2]), (1, [14]), (1, [15]), (1, [23]), (1, [25]), (1, [1, 6])])], [], []),
  (2, 6, 471, 0, 0, 0, [([], [(1, [0]), (1, [5])]), ([], [(1, [0]), (1, [5])])], [], [0, 0]),
  (0, 6, 473, 0, 0, 0, [([9], [(1, [0]), (1, [2])]), ([], [(1, [0]), (1, [17]), (1, [15]), (1, [14])])], [], [1, 1]),
  (0, 31, 0, 0, 0, 0, [], [], []),
  (0, 5, 470, 1, 0, 0, [], [], []),
  (0, 4, 10, 7, 0, 0, [], [], []),
  (0, 5, 471, 0, 0, 0, [], [], []),
  (0, 5, 471, 1, 0, 0, [], [], []),
  (0, 5, 472, 1, 0, 0, [], [], []),
  (0, 7, 0, 0, 0, 0, [([], [(1, [0])])], [], []),
  (0, 3, 18, 0, (-9999), 9999, [([18], [(1, [0]), (1, [1])]), ([12, 15, 16, 17, 18, 19, 20], [(1, [0]), (999, [2]), (1, [14]), (1, [15]), (1, [23]), (1, [25]), (1, [1, 6])])], [], []),
  (2, 6, 471, 0, 0, 0, [([], [(1, [0]), (1, [2])]), ([], [(1, [0]), (1, [2])])], [], [0, 0]),
  (0, 6, 473, 0, 0, 0, [([9], [(1, [0]), (1, [2])]), ([], [(1, [0]), (1, [17]), (1, [15]), (1, [14])])], [], [1, 1]),
  (0, 31, 0, 0, 0, 0, [], [], []),
  (0, 5, 472, 1, 0, 0, [], [], []),
  (0, 7, 0, 0, 0, 0, [([], [(1, [0])])], [], []),
  (0, 3, 18, 0, (-9999), 9999, [([18], [(1, [0]), (1, [1])]), ([12, 15, 16, 17, 18, 19, 20], [(1, [0]), (999, [2]), (1, [14]), (1, [15]), (1, [23]), (1, [25]), (1, [1, 6])])], [], []),
  (2, 6, 471, 0, 0, 0, [([], [(1, [0]), (1, [3])]), ([], [(1, [0]), (1, [3])])], [], [0, 0]),
  (0, 6, 473, 0, 0, 0, [([9], [(1, [0]), (1, [2])]), ([], [(1, [0]), (1, [17]), (1, [15]), (1, [14])])], [], [1, 1]),
  (0, 31, 0, 0, 0, 0, [], [], []),
  (0, 5, 471, 1, 0, 0, [], [], []),
  (0, 5, 472, 1, 0, 0, [], [], []),
  (0, 7, 0, 0, 0, 0, [([], [(1, [0])])], [], []),
  (0, 3, 18, 0, (-9999), 9999, [([18], [(1, [0]), (1, [1])]), ([12, 15, 16, 17, 18, 19, 20], [(1, [0]), (999, [2]), (1, [14]), (1, [15]), (1, [23]), (1, [25]), (1, [1, 6])])], [], []),
  (2, 6, 471, 0, 0, 0, [([], [(1, [0]), (1, [2])]), ([], [(1, [0]), (1, [2])])], [], [0, 0]),
  (0, 6, 473, 0, 0, 0, [([9], [(1, [0]), (1, [2])]), ([], [(1, [0]), (1, [17]), (1, [15]), (1, [14])])], [], [1, 1]),
  (0, 31, 0, 0, 0, 0, [], [], []),
  (0, 5, 472, 1, 0, 0, [], [], []),
  (0, 7, 0, 0, 0, 0, [([], [(1, [0])])], [], []),
  (0, 3, 18, 0, (-9999), 9999, [([18], [(1, [0]), (1, [1])]), ([12, 15, 16, 17, 18, 19, 20], [(1, [0]), (999, [2]), (1, [14]), (1, [15]), (1, [23]), (1, [25]), (1, [1, 6])])], [], []),
  (2, 6, 471, 0, 0, 0, [([], [(1, [0]), (1, [4])]), ([], [(1, [0]), (1, [4])])], [], [0, 0]),
  (0, 6, 473, 0, 0, 0, [([9], [(1, [0]), (1, [2])]), ([], [(1, [0]), (1, [17]), (1, [15]), (1, [14])])], [], [1, 1]),
  (0, 31, 0, 0, 0, 0, [], [], []),
  (0, 4, 10, 7, 0, 0, [], [], []),
  (0, 5, 471, 0, 0, 0, [], [], []),
  (0, 5, 471, 1, 0, 0, [], [], []),
  (0, 5, 472, 1, 0, 0, [], [], []),
  (0, 7, 0, 0, 0, 0, [([], [(1, [0])])], [], []),
  (0, 3, 18, 0, (-9999), 9999, [([18], [(1, [0]), (1, [1])]), ([12, 15, 16, 17, 18, 19, 20], [(1, [0]), (999, [2]), (1, [14]), (1, [15]), (1, [23]), (1, [25]), (1, [1, 6])])], [], []),
  (2, 6, 471, 0, 0, 0, [([], [(1, [0]), (1, [2])]), ([], [(1, [0]), (1, [2])])], [], [0, 0]),
  (0, 6, 473, 0, 0, 0, [([9], [(1, [0]), (1, [2])]), ([], [(1, [0]), (1, [17]), (1, [15]), (1, [14])])], [], [1, 1]),
  (0, 31, 0, 0, 0, 0, [], [], []),
  (0, 5, 472, 1, 0, 0, [], [], []),
  (0, 7, 0, 0, 0, 0, [([], [(1, [0])])], [], []),
  (0, 3, 18, 0, (-9999), 9999, [([18], [(1, [0]), (1, [1])]), ([12, 15, 16, 17, 18, 19, 20], [(1, [0]), (999, [2]), (1, [14]), (1, [15]), (1, [23]), (1, [25]), (1, [1, 6])])], [], []),
  (2, 6, 471, 0, 0, 0, [([], [(1, [0]), (1, [3])]), ([], [(1, [0]), (1, [3])])], [], [0, 0]),
  (0, 6, 473, 0, 0, 0, [([9], [(1, [0]), (1, [2])]), ([], [(1, [0]), (1, [17]), (1, [15]), (1, [14])])], [], [1, 1])]
set_option maxRecDepth 100000 in
noncomputable def sz_hd486_0_1 : List sy_Hn := [(0, 31, 0, 0, 0, 0, [], [], []),
  (0, 5, 471, 1, 0, 0, [], [], []),
  (0, 5, 472, 1, 0, 0, [], [], []),
  (0, 7, 0, 0, 0, 0, [([], [(1, [0])])], [], []),
  (0, 3, 18, 0, (-9999), 9999, [([18], [(1, [0]), (1, [1])]), ([12, 15, 16, 17, 18, 19, 20], [(1, [0]), (999, [2]), (1, [14]), (1, [15]), (1, [23]), (1, [25]), (1, [1, 6])])], [], []),
  (2, 6, 471, 0, 0, 0, [([], [(1, [0]), (1, [2])]), ([], [(1, [0]), (1, [2])])], [], [0, 0]),
  (0, 6, 473, 0, 0, 0, [([9], [(1, [0]), (1, [2])]), ([], [(1, [0]), (1, [17]), (1, [15]), (1, [14])])], [], [1, 1]),
  (0, 31, 0, 0, 0, 0, [], [], []),
  (0, 5, 472, 1, 0, 0, [], [], []),
  (0, 7, 0, 0, 0, 0, [([], [(1, [0])])], [], []),
  (0, 3, 18, 0, (-9999), 9999, [([18], [(1, [0]), (1, [1])]), ([12, 15, 16, 17, 18, 19, 20], [(1, [0]), (999, [2]), (1, [14]), (1, [15]), (1, [23]), (1, [25]), (1, [1, 6])])], [], []),
  (2, 6, 471, 0, 0, 0, [([], [(1, [0]), (1, [6])]), ([], [(1, [0]), (1, [6])])], [], [0, 0]),
  (0, 6, 473, 0, 0, 0, [([9], [(1, [0]), (1, [2])]), ([], [(1, [0]), (1, [17]), (1, [15]), (1, [14])])], [], [1, 1]),
  (0, 31, 0, 0, 0, 0, [], [], []),
  (0, 4, 13, 3, 0, 0, [], [], []),
  (0, 5, 470, 0, 0, 0, [], [], []),
  (0, 3, 18, 0, (-9999), 9999, [([18], [(1, [0]), (1, [1])]), ([12, 15, 16, 17, 18, 19, 20], [(1, [15]), (1, [16])])], [], []),
  (2, 6, 471, 0, 0, 0, [([], [(1, [0]), (1, [1])]), ([], [(1, [0]), (1, [1])])], [], [0, 0]),
  (0, 6, 473, 0, 0, 0, [([9], [(1, [0]), (1, [2])]), ([], [(1, [0]), (1, [13]), (1, [11]), (1, [10])])], [], [1, 1]),
  (0, 31, 0, 0, 0, 0, [], [], []),
  (0, 5, 470, 1, 0, 0, [], [], []),
  (0, 3, 18, 0, (-9999), 9999, [([18], [(1, [0]), (1, [1])]), ([12, 15, 16, 17, 18, 19, 20, 21], [(1, [17]), (1, [19])])], [], []),
  (2, 6, 471, 0, 0, 0, [([], [(1, [0]), (1, [1])]), ([], [(1, [0]), (1, [1])])], [], [0, 0]),
  (0, 6, 473, 0, 0, 0, [([9], [(1, [0]), (1, [2])]), ([], [(1, [0]), (1, [14]), (1, [12]), (1, [11])])], [], [1, 1]),
  (0, 31, 0, 0, 0, 0, [], [], []),
  (0, 4, 10, 7, 0, 0, [], [], []),
  (0, 5, 471, 0, 0, 0, [], [], []),
  (0, 3, 18, 0, (-9999), 9999, [([18], [(1, [0]), (1, [1])]), ([12, 15, 16, 17, 18, 19, 20, 21], [(1, [17]), (1, [20])])], [], []),
  (2, 6, 471, 0, 0, 0, [([], [(1, [0]), (1, [1])]), ([], [(1, [0]), (1, [1])])], [], [0, 0]),
  (0, 6, 473, 0, 0, 0, [([9], [(1, [0]), (1, [2])]), ([], [(1, [0]), (1, [15]), (1, [13]), (1, [12])])], [], [1, 1]),
  (0, 31, 0, 0, 0, 0, [], [], []),
  (0, 5, 471, 1, 0, 0, [], [], []),
  (0, 3, 18, 0, (-9999), 9999, [([18], [(1, [0]), (1, [1])]), ([12, 15, 16, 17, 18, 19, 20, 21, 22], [(1, [19]), (1, [23])])], [], []),
  (2, 6, 471, 0, 0, 0, [([], [(1, [0]), (1, [1])]), ([], [(1, [0]), (1, [1])])], [], [0, 0]),
  (0, 6, 473, 0, 0, 0, [([9], [(1, [0]), (1, [2])]), ([], [(1, [0]), (1, [16]), (1, [14]), (1, [13])])], [], [1, 1]),
  (0, 31, 0, 0, 0, 0, [], [], []),
  (0, 5, 472, 1, 0, 0, [], [], []),
  (0, 7, 0, 0, 0, 0, [([], [(1, [0])])], [], []),
  (0, 3, 18, 0, (-9999), 9999, [([18], [(1, [0]), (1, [1])]), ([12, 15, 16, 17, 18, 19, 20], [(1, [0]), (999, [2]), (1, [14]), (1, [15]), (1, [23]), (1, [25]), (1, [1, 6])])], [], []),
  (2, 6, 471, 0, 0, 0, [([16, 17], [(1, [0]), (1, [12]), (1, [11]), (1, [1]), (1, [3])]), ([12, 15, 16, 17, 18, 19, 20, 21, 22], [(1, [0]), (999, [2]), (1, [19]), (1, [27]), (1, [29]), (1, [1, 6])])], [], [1, 1]),
  (0, 6, 473, 0, 0, 0, [([9], [(1, [0]), (1, [2])]), ([], [(1, [0]), (1, [17]), (1, [15]), (1, [14])])], [], [1, 1]),
  (0, 31, 0, 0, 0, 0, [], [], []),
  (11, 4, 13, 0, 0, 0, [], [], []),
  (0, 4, 13, 1, 0, 0, [], [], []),
  (0, 4, 20, 2, 0, 0, [], [], []),
  (0, 4, 20, 0, 0, 0, [], [], []),
  (0, 5, 472, 0, 0, 0, [], [], []),
  (0, 7, 0, 0, 0, 0, [([], [(1, [0])])], [], []),
  (0, 5, 472, 1, 0, 0, [], [], []),
  (0, 7, 0, 0, 0, 0, [([], [(1, [0])])], [], []),
  (8, 6, 471, 0, 0, 0, [([18], [(1, [0]), (1, [4]), (1, [1])]), ([18], [(1, [0]), (1, [3]), (1, [1])])], [], [1, 1]),
  (0, 6, 472, 0, 0, 0, [([], [(1, [0])]), ([], [(1, [0])])], [], [0, 0]),
  (0, 6, 473, 0, 0, 0, [([], [(1, [0])]), ([], [(1, [0])])], [], [0, 0]),
  (0, 31, 0, 0, 0, 0, [], [], []),
  (31, 4, 13, 0, 0, 0, [], [], []),
  (0, 4, 13, 1, 0, 0, [], [], []),
  (0, 5, 472, 0, 0, 0, [], [], []),
  (0, 7, 0, 0, 0, 0, [([], [(1, [0])])], [], []),
  (0, 3, 18, 0, (-9999), 9999, [([19], [(1, [0]), (1, [4]), (1, [3]), (1, [6]), (1, [1])]), ([18], [(1, [0]), (1, [2])])], [], []),
  (2, 5, 469, 0, 0, 0, [], [], []),
  (0, 6, 471, 0, 0, 0, [([], [(1, [0]), (1, [1])]), ([], [(1, [0]), (1, [1])])], [], [0, 0]),
  (0, 6, 473, 0, 0, 0, [([9], [(1, [0]), (1, [2])]), ([], [(1, [0]), (1, [12]), (1, [10]), (1, [9])])], [], [1, 1]),
  (0, 31, 0, 0, 0, 0, [], [], []),
  (0, 4, 13, 3, 0, 0, [], [], []),
  (0, 5, 470, 0, 0, 0, [], [], []),
  (0, 6, 471, 0, 0, 0, [([], [(1, [0]), (1, [1])]), ([], [(1, [0]), (1, [1])])], [], [0, 0]),
  (0, 6, 473, 0, 0, 0, [([9], [(1, [0]), (1, [2])]), ([], [(1, [0]), (1, [13]), (1, [11]), (1, [10])])], [], [1, 1]),
  (0, 31, 0, 0, 0, 0, [], [], []),
  (0, 5, 470, 1, 0, 0, [], [], []),
  (0, 6, 471, 0, 0, 0, [([], [(1, [0]), (1, [1])]), ([], [(1, [0]), (1, [1])])], [], [0, 0]),
  (0, 6, 473, 0, 0, 0, [([9], [(1, [0]), (1, [2])]), ([], [(1, [0]), (1, [14]), (1, [12]), (1, [11])])], [], [1, 1]),
  (0, 31, 0, 0, 0, 0, [], [], []),
  (0, 5, 472, 1, 0, 0, [], [], []),
  (0, 7, 0, 0, 0, 0, [([], [(1, [0])])], [], []),
  (0, 6, 471, 0, 0, 0, [([], [(1, [0]), (1, [6]), (1, [5]), (1, [8])]), ([16, 17], [(1, [0]), (1, [11]), (1, [5]), (1, [1]), (1, [4])])], [], [1, 1]),
  (0, 6, 473, 0, 0, 0, [([9], [(1, [0]), (1, [2])]), ([], [(1, [0]), (1, [15]), (1, [13]), (1, [12])])], [], [1, 1]),
  (0, 31, 0, 0, 0, 0, [], [], []),
  (11, 4, 13, 0, 0, 0, [], [], []),
  (0, 4, 13, 1, 0, 0, [], [], []),
  (0, 4, 20, 2, 0, 0, [], [], []),
  (0, 4, 20, 0, 0, 0, [], [], []),
  (0, 5, 472, 0, 0, 0, [], [], []),
  (0, 7, 0, 0, 0, 0, [([], [(1, [0])])], [], []),
  (0, 5, 472, 1, 0, 0, [], [], []),
  (0, 7, 0, 0, 0, 0, [([], [(1, [0])])], [], []),
  (8, 6, 471, 0, 0, 0, [([18], [(1, [0]), (1, [4]), (1, [1])]), ([18], [(1, [0]), (1, [3]), (1, [1])])], [], [1, 1]),
  (0, 6, 472, 0, 0, 0, [([], [(1, [0])]), ([], [(1, [0])])], [], [0, 0]),
  (0, 6, 473, 0, 0, 0, [([], [(1, [0])]), ([], [(1, [0])])], [], [0, 0]),
  (0, 31, 0, 0, 0, 0, [], [], []),
  (36, 4, 13, 0, 0, 0, [], [], []),
  (0, 4, 13, 1, 0, 0, [], [], []),
  (0, 5, 472, 0, 0, 0, [], [], []),
  (0, 7, 0, 0, 0, 0, [([], [(1, [0])])], [], []),
  (0, 3, 17, 0, (-9999), 9999, [([12, 14, 15, 16, 17, 18], [(1, [0]), (1, [11]), (1, [13]), (1, [14]), (1, [16]), (1, [1, 5])]), ([17], [(1, [0]), (1, [2])])], [], []),
  (2, 5, 469, 0, 0, 0, [], [], []),
  (0, 6, 471, 0, 0, 0, [([], [(1, [0]), (1, [1])]), ([], [(1, [0]), (1, [1])])], [], [0, 0]),
  (0, 6, 473, 0, 0, 0, [([9], [(1, [0]), (1, [2])]), ([], [(1, [0]), (1, [12]), (1, [10]), (1, [9])])], [], [1, 1]),
  (0, 31, 0, 0, 0, 0, [], [], []),
  (0, 4, 13, 3, 0, 0, [], [], []),
  (0, 5, 470, 0, 0, 0, [], [], []),
  (0, 6, 471, 0, 0, 0, [([], [(1, [0]), (1, [1])]), ([], [(1, [0]), (1, [1])])], [], [0, 0]),
  (0, 6, 473, 0, 0, 0, [([9], [(1, [0]), (1, [2])]), ([], [(1, [0]), (1, [13]), (1, [11]), (1, [10])])], [], [1, 1]),
  (0, 31, 0, 0, 0, 0, [], [], []),
  (0, 5, 470, 1, 0, 0, [], [], []),
  (0, 6, 471, 0, 0, 0, [([], [(1, [0]), (1, [1])]), ([], [(1, [0]), (1, [1])])], [], [0, 0]),
  (0, 6, 473, 0, 0, 0, [([9], [(1, [0]), (1, [2])]), ([], [(1, [0]), (1, [14]), (1, [12]), (1, [11])])], [], [1, 1]),
  (0, 31, 0, 0, 0, 0, [], [], []),
  (0, 5, 472, 1, 0, 0, [], [], []),
  (0, 7, 0, 0, 0, 0, [([], [(1, [0])])], [], []),
  (0, 6, 471, 0, 0, 0, [([12, 14, 15, 16, 17, 18, 19, 20], [(1, [0]), (1, [21]), (1, [22]), (1, [24]), (1, [1, 5])]), ([15, 16], [(1, [0]), (1, [11]), (1, [5]), (1, [1]), (1, [4])])], [], [1, 1]),
  (0, 6, 473, 0, 0, 0, [([9], [(1, [0]), (1, [2])]), ([], [(1, [0]), (1, [15]), (1, [13]), (1, [12])])], [], [1, 1]),
  (0, 31, 0, 0, 0, 0, [], [], []),
  (11, 4, 13, 0, 0, 0, [], [], []),
  (0, 4, 13, 1, 0, 0, [], [], []),
  (0, 4, 20, 2, 0, 0, [], [], []),
  (0, 4, 20, 0, 0, 0, [], [], []),
  (0, 5, 472, 0, 0, 0, [], [], []),
  (0, 7, 0, 0, 0, 0, [([], [(1, [0])])], [], []),
  (0, 5, 472, 1, 0, 0, [], [], []),
  (0, 7, 0, 0, 0, 0, [([], [(1, [0])])], [], []),
  (8, 6, 471, 0, 0, 0, [([17], [(1, [0]), (1, [4]), (1, [1])]), ([17], [(1, [0]), (1, [3]), (1, [1])])], [], [1, 1]),
  (0, 6, 472, 0, 0, 0, [([], [(1, [0])]), ([], [(1, [0])])], [], [0, 0]),
  (0, 6, 473, 0, 0, 0, [([], [(1, [0])]), ([], [(1, [0])])], [], [0, 0]),
  (0, 31, 0, 0, 0, 0, [], [], []),
  (58, 4, 13, 0, 0, 0, [], [], []),
  (0, 4, 13, 1, 0, 0, [], [], []),
  (0, 5, 472, 0, 0, 0, [], [], []),
  (0, 7, 0, 0, 0, 0, [([], [(1, [0])])], [], []),
  (0, 5, 469, 0, 0, 0, [], [], []),
  (0, 4, 13, 3, 0, 0, [], [], []),
  (0, 5, 470, 0, 0, 0, [], [], []),
  (0, 5, 470, 1, 0, 0, [], [], []),
  (0, 4, 10, 7, 0, 0, [], [], []),
  (0, 5, 471, 0, 0, 0, [], [], []),
  (0, 5, 471, 1, 0, 0, [], [], []),
  (0, 5, 472, 1, 0, 0, [], [], []),
  (0, 7, 0, 0, 0, 0, [([], [(1, [0])])], [], []),
  (0, 3, 19, 0, (-9999), 9999, [([19], [(1, [0]), (1, [1])]), ([21], [(1, [0]), (1, [11]), (1, [3]), (1, [13]), (1, [2])])], [], []),
  (2, 6, 471, 0, 0, 0, [([], [(1, [0]), (1, [2])]), ([], [(1, [0]), (1, [2])])], [], [0, 0]),
  (0, 6, 473, 0, 0, 0, [([9], [(1, [0]), (1, [2])]), ([9], [(1, [0]), (1, [1])])], [], [1, 1]),
  (0, 31, 0, 0, 0, 0, [], [], []),
  (0, 5, 472, 1, 0, 0, [], [], []),
  (0, 7, 0, 0, 0, 0, [([], [(1, [0])])], [], []),
  (0, 3, 19, 0, (-9999), 9999, [([19], [(1, [0]), (1, [1])]), ([21], [(1, [0]), (1, [11]), (1, [3]), (1, [13]), (1, [2])])], [], []),
  (2, 6, 471, 0, 0, 0, [([], [(1, [0]), (1, [3])]), ([], [(1, [0]), (1, [3])])], [], [0, 0]),
  (0, 6, 473, 0, 0, 0, [([9], [(1, [0]), (1, [2])]), ([9], [(1, [0]), (1, [1])])], [], [1, 1]),
  (0, 31, 0, 0, 0, 0, [], [], []),
  (0, 5, 471, 1, 0, 0, [], [], []),
  (0, 5, 472, 1, 0, 0, [], [], []),
  (0, 7, 0, 0, 0, 0, [([], [(1, [0])])], [], [])]
set_option maxRecDepth 100000 in
noncomputable def sz_hd486_0_2 : List sy_Hn := [(0, 3, 19, 0, (-9999), 9999, [([19], [(1, [0]), (1, [1])]), ([21], [(1, [0]), (1, [11]), (1, [3]), (1, [13]), (1, [2])])], [], []),
  (2, 6, 471, 0, 0, 0, [([], [(1, [0]), (1, [2])]), ([], [(1, [0]), (1, [2])])], [], [0, 0]),
  (0, 6, 473, 0, 0, 0, [([9], [(1, [0]), (1, [2])]), ([9], [(1, [0]), (1, [1])])], [], [1, 1]),
  (0, 31, 0, 0, 0, 0, [], [], []),
  (0, 5, 472, 1, 0, 0, [], [], []),
  (0, 7, 0, 0, 0, 0, [([], [(1, [0])])], [], []),
  (0, 3, 19, 0, (-9999), 9999, [([19], [(1, [0]), (1, [1])]), ([21], [(1, [0]), (1, [11]), (1, [3]), (1, [13]), (1, [2])])], [], []),
  (2, 6, 471, 0, 0, 0, [([], [(1, [0]), (1, [4])]), ([], [(1, [0]), (1, [4])])], [], [0, 0]),
  (0, 6, 473, 0, 0, 0, [([9], [(1, [0]), (1, [2])]), ([9], [(1, [0]), (1, [1])])], [], [1, 1]),
  (0, 31, 0, 0, 0, 0, [], [], []),
  (0, 4, 10, 7, 0, 0, [], [], []),
  (0, 5, 471, 0, 0, 0, [], [], []),
  (0, 5, 471, 1, 0, 0, [], [], []),
  (0, 5, 472, 1, 0, 0, [], [], []),
  (0, 7, 0, 0, 0, 0, [([], [(1, [0])])], [], []),
  (0, 3, 19, 0, (-9999), 9999, [([19], [(1, [0]), (1, [1])]), ([21], [(1, [0]), (1, [11]), (1, [3]), (1, [13]), (1, [2])])], [], []),
  (2, 6, 471, 0, 0, 0, [([], [(1, [0]), (1, [2])]), ([], [(1, [0]), (1, [2])])], [], [0, 0]),
  (0, 6, 473, 0, 0, 0, [([9], [(1, [0]), (1, [2])]), ([9], [(1, [0]), (1, [1])])], [], [1, 1]),
  (0, 31, 0, 0, 0, 0, [], [], []),
  (0, 5, 472, 1, 0, 0, [], [], []),
  (0, 7, 0, 0, 0, 0, [([], [(1, [0])])], [], []),
  (0, 3, 19, 0, (-9999), 9999, [([19], [(1, [0]), (1, [1])]), ([21], [(1, [0]), (1, [11]), (1, [3]), (1, [13]), (1, [2])])], [], []),
  (2, 6, 471, 0, 0, 0, [([], [(1, [0]), (1, [3])]), ([], [(1, [0]), (1, [3])])], [], [0, 0]),
  (0, 6, 473, 0, 0, 0, [([9], [(1, [0]), (1, [2])]), ([9], [(1, [0]), (1, [1])])], [], [1, 1]),
  (0, 31, 0, 0, 0, 0, [], [], []),
  (0, 5, 471, 1, 0, 0, [], [], []),
  (0, 5, 472, 1, 0, 0, [], [], []),
  (0, 7, 0, 0, 0, 0, [([], [(1, [0])])], [], []),
  (0, 3, 19, 0, (-9999), 9999, [([19], [(1, [0]), (1, [1])]), ([21], [(1, [0]), (1, [11]), (1, [3]), (1, [13]), (1, [2])])], [], []),
  (2, 6, 471, 0, 0, 0, [([], [(1, [0]), (1, [2])]), ([], [(1, [0]), (1, [2])])], [], [0, 0]),
  (0, 6, 473, 0, 0, 0, [([9], [(1, [0]), (1, [2])]), ([9], [(1, [0]), (1, [1])])], [], [1, 1]),
  (0, 31, 0, 0, 0, 0, [], [], []),
  (0, 5, 472, 1, 0, 0, [], [], []),
  (0, 7, 0, 0, 0, 0, [([], [(1, [0])])], [], []),
  (0, 3, 19, 0, (-9999), 9999, [([19], [(1, [0]), (1, [1])]), ([21], [(1, [0]), (1, [11]), (1, [3]), (1, [13]), (1, [2])])], [], []),
  (2, 6, 471, 0, 0, 0, [([], [(1, [0]), (1, [5])]), ([], [(1, [0]), (1, [5])])], [], [0, 0]),
  (0, 6, 473, 0, 0, 0, [([9], [(1, [0]), (1, [2])]), ([9], [(1, [0]), (1, [1])])], [], [1, 1]),
  (0, 31, 0, 0, 0, 0, [], [], []),
  (0, 5, 470, 1, 0, 0, [], [], []),
  (0, 4, 10, 7, 0, 0, [], [], []),
  (0, 5, 471, 0, 0, 0, [], [], []),
  (0, 5, 471, 1, 0, 0, [], [], []),
  (0, 5, 472, 1, 0, 0, [], [], []),
  (0, 7, 0, 0, 0, 0, [([], [(1, [0])])], [], []),
  (0, 3, 19, 0, (-9999), 9999, [([19], [(1, [0]), (1, [1])]), ([21], [(1, [0]), (1, [11]), (1, [3]), (1, [13]), (1, [2])])], [], []),
  (2, 6, 471, 0, 0, 0, [([], [(1, [0]), (1, [2])]), ([], [(1, [0]), (1, [2])])], [], [0, 0]),
  (0, 6, 473, 0, 0, 0, [([9], [(1, [0]), (1, [2])]), ([9], [(1, [0]), (1, [1])])], [], [1, 1]),
  (0, 31, 0, 0, 0, 0, [], [], []),
  (0, 5, 472, 1, 0, 0, [], [], []),
  (0, 7, 0, 0, 0, 0, [([], [(1, [0])])], [], []),
  (0, 3, 19, 0, (-9999), 9999, [([19], [(1, [0]), (1, [1])]), ([21], [(1, [0]), (1, [11]), (1, [3]), (1, [13]), (1, [2])])], [], []),
  (2, 6, 471, 0, 0, 0, [([], [(1, [0]), (1, [3])]), ([], [(1, [0]), (1, [3])])], [], [0, 0]),
  (0, 6, 473, 0, 0, 0, [([9], [(1, [0]), (1, [2])]), ([9], [(1, [0]), (1, [1])])], [], [1, 1]),
  (0, 31, 0, 0, 0, 0, [], [], []),
  (0, 5, 471, 1, 0, 0, [], [], []),
  (0, 5, 472, 1, 0, 0, [], [], []),
  (0, 7, 0, 0, 0, 0, [([], [(1, [0])])], [], []),
  (0, 3, 19, 0, (-9999), 9999, [([19], [(1, [0]), (1, [1])]), ([21], [(1, [0]), (1, [11]), (1, [3]), (1, [13]), (1, [2])])], [], []),
  (2, 6, 471, 0, 0, 0, [([], [(1, [0]), (1, [2])]), ([], [(1, [0]), (1, [2])])], [], [0, 0]),
  (0, 6, 473, 0, 0, 0, [([9], [(1, [0]), (1, [2])]), ([9], [(1, [0]), (1, [1])])], [], [1, 1]),
  (0, 31, 0, 0, 0, 0, [], [], []),
  (0, 5, 472, 1, 0, 0, [], [], []),
  (0, 7, 0, 0, 0, 0, [([], [(1, [0])])], [], []),
  (0, 3, 19, 0, (-9999), 9999, [([19], [(1, [0]), (1, [1])]), ([21], [(1, [0]), (1, [11]), (1, [3]), (1, [13]), (1, [2])])], [], []),
  (2, 6, 471, 0, 0, 0, [([], [(1, [0]), (1, [4])]), ([], [(1, [0]), (1, [4])])], [], [0, 0]),
  (0, 6, 473, 0, 0, 0, [([9], [(1, [0]), (1, [2])]), ([9], [(1, [0]), (1, [1])])], [], [1, 1]),
  (0, 31, 0, 0, 0, 0, [], [], []),
  (0, 4, 10, 7, 0, 0, [], [], []),
  (0, 5, 471, 0, 0, 0, [], [], []),
  (0, 5, 471, 1, 0, 0, [], [], []),
  (0, 5, 472, 1, 0, 0, [], [], []),
  (0, 7, 0, 0, 0, 0, [([], [(1, [0])])], [], []),
  (0, 3, 19, 0, (-9999), 9999, [([19], [(1, [0]), (1, [1])]), ([21], [(1, [0]), (1, [11]), (1, [3]), (1, [13]), (1, [2])])], [], []),
  (2, 6, 471, 0, 0, 0, [([], [(1, [0]), (1, [2])]), ([], [(1, [0]), (1, [2])])], [], [0, 0]),
  (0, 6, 473, 0, 0, 0, [([9], [(1, [0]), (1, [2])]), ([9], [(1, [0]), (1, [1])])], [], [1, 1]),
  (0, 31, 0, 0, 0, 0, [], [], []),
  (0, 5, 472, 1, 0, 0, [], [], []),
  (0, 7, 0, 0, 0, 0, [([], [(1, [0])])], [], []),
  (0, 3, 19, 0, (-9999), 9999, [([19], [(1, [0]), (1, [1])]), ([21], [(1, [0]), (1, [11]), (1, [3]), (1, [13]), (1, [2])])], [], []),
  (2, 6, 471, 0, 0, 0, [([], [(1, [0]), (1, [3])]), ([], [(1, [0]), (1, [3])])], [], [0, 0]),
  (0, 6, 473, 0, 0, 0, [([9], [(1, [0]), (1, [2])]), ([9], [(1, [0]), (1, [1])])], [], [1, 1]),
  (0, 31, 0, 0, 0, 0, [], [], []),
  (0, 5, 471, 1, 0, 0, [], [], []),
  (0, 5, 472, 1, 0, 0, [], [], []),
  (0, 7, 0, 0, 0, 0, [([], [(1, [0])])], [], []),
  (0, 3, 19, 0, (-9999), 9999, [([19], [(1, [0]), (1, [1])]), ([21], [(1, [0]), (1, [11]), (1, [3]), (1, [13]), (1, [2])])], [], []),
  (2, 6, 471, 0, 0, 0, [([], [(1, [0]), (1, [2])]), ([], [(1, [0]), (1, [2])])], [], [0, 0]),
  (0, 6, 473, 0, 0, 0, [([9], [(1, [0]), (1, [2])]), ([9], [(1, [0]), (1, [1])])], [], [1, 1]),
  (0, 31, 0, 0, 0, 0, [], [], []),
  (0, 5, 472, 1, 0, 0, [], [], []),
  (0, 7, 0, 0, 0, 0, [([], [(1, [0])])], [], []),
  (0, 3, 19, 0, (-9999), 9999, [([19], [(1, [0]), (1, [1])]), ([21], [(1, [0]), (1, [11]), (1, [3]), (1, [13]), (1, [2])])], [], []),
  (2, 6, 471, 0, 0, 0, [([], [(1, [0]), (1, [6])]), ([], [(1, [0]), (1, [6])])], [], [0, 0]),
  (0, 6, 473, 0, 0, 0, [([9], [(1, [0]), (1, [2])]), ([9], [(1, [0]), (1, [1])])], [], [1, 1]),
  (0, 31, 0, 0, 0, 0, [], [], []),
  (0, 4, 13, 3, 0, 0, [], [], []),
  (0, 5, 470, 0, 0, 0, [], [], []),
  (0, 3, 19, 0, (-9999), 9999, [([19], [(1, [0]), (1, [1])]), ([16, 17, 18, 19, 20, 21], [(1, [13]), (1, [14])])], [], []),
  (2, 6, 471, 0, 0, 0, [([], [(1, [0]), (1, [1])]), ([], [(1, [0]), (1, [1])])], [], [0, 0]),
  (0, 6, 473, 0, 0, 0, [([9], [(1, [0]), (1, [2])]), ([9], [(1, [0]), (1, [1])])], [], [1, 1]),
  (0, 31, 0, 0, 0, 0, [], [], []),
  (0, 5, 470, 1, 0, 0, [], [], []),
  (0, 3, 19, 0, (-9999), 9999, [([19], [(1, [0]), (1, [1])]), ([16, 17, 18, 19, 20, 21, 22], [(1, [15]), (1, [17])])], [], []),
  (2, 6, 471, 0, 0, 0, [([], [(1, [0]), (1, [1])]), ([], [(1, [0]), (1, [1])])], [], [0, 0]),
  (0, 6, 473, 0, 0, 0, [([9], [(1, [0]), (1, [2])]), ([9], [(1, [0]), (1, [1])])], [], [1, 1]),
  (0, 31, 0, 0, 0, 0, [], [], []),
  (0, 4, 10, 7, 0, 0, [], [], []),
  (0, 5, 471, 0, 0, 0, [], [], []),
  (0, 3, 19, 0, (-9999), 9999, [([19], [(1, [0]), (1, [1])]), ([16, 17, 18, 19, 20, 21, 22], [(1, [15]), (1, [18])])], [], []),
  (2, 6, 471, 0, 0, 0, [([], [(1, [0]), (1, [1])]), ([], [(1, [0]), (1, [1])])], [], [0, 0]),
  (0, 6, 473, 0, 0, 0, [([9], [(1, [0]), (1, [2])]), ([9], [(1, [0]), (1, [1])])], [], [1, 1]),
  (0, 31, 0, 0, 0, 0, [], [], []),
  (0, 5, 471, 1, 0, 0, [], [], []),
  (0, 3, 19, 0, (-9999), 9999, [([19], [(1, [0]), (1, [1])]), ([16, 17, 18, 19, 20, 21, 22, 23], [(1, [17]), (1, [21])])], [], []),
  (2, 6, 471, 0, 0, 0, [([], [(1, [0]), (1, [1])]), ([], [(1, [0]), (1, [1])])], [], [0, 0]),
  (0, 6, 473, 0, 0, 0, [([9], [(1, [0]), (1, [2])]), ([9], [(1, [0]), (1, [1])])], [], [1, 1]),
  (0, 31, 0, 0, 0, 0, [], [], []),
  (0, 5, 472, 1, 0, 0, [], [], []),
  (0, 7, 0, 0, 0, 0, [([], [(1, [0])])], [], []),
  (0, 3, 19, 0, (-9999), 9999, [([19], [(1, [0]), (1, [1])]), ([21], [(1, [0]), (1, [11]), (1, [3]), (1, [13]), (1, [2])])], [], []),
  (2, 6, 471, 0, 0, 0, [([17, 18], [(1, [0]), (1, [12]), (1, [11]), (1, [1]), (1, [3])]), ([], [(1, [0]), (1, [9]), (1, [1]), (1, [11])])], [], [1, 1]),
  (0, 6, 473, 0, 0, 0, [([9], [(1, [0]), (1, [2])]), ([9], [(1, [0]), (1, [1])])], [], [1, 1]),
  (0, 31, 0, 0, 0, 0, [], [], []),
  (48, 4, 13, 0, 0, 0, [], [], []),
  (0, 4, 13, 1, 0, 0, [], [], []),
  (0, 4, 20, 2, 0, 0, [], [], []),
  (0, 5, 472, 0, 0, 0, [], [], []),
  (0, 7, 0, 0, 0, 0, [([], [(1, [0])])], [], []),
  (0, 5, 472, 1, 0, 0, [], [], []),
  (0, 7, 0, 0, 0, 0, [([], [(1, [0])])], [], []),
  (8, 6, 471, 0, 0, 0, [([17], [(1, [0]), (1, [4]), (1, [1])]), ([17], [(1, [0]), (1, [3]), (1, [1])])], [], [1, 1]),
  (0, 6, 472, 0, 0, 0, [([], [(1, [0])]), ([], [(1, [0])])], [], [0, 0]),
  (0, 6, 473, 0, 0, 0, [([], [(1, [0])]), ([], [(1, [0])])], [], [0, 0]),
  (0, 31, 0, 0, 0, 0, [], [], []),
  (11, 4, 13, 0, 0, 0, [], [], []),
  (0, 4, 13, 1, 0, 0, [], [], []),
  (0, 4, 20, 2, 0, 0, [], [], []),
  (0, 5, 472, 0, 0, 0, [], [], []),
  (0, 7, 0, 0, 0, 0, [([], [(1, [0])])], [], []),
  (0, 5, 472, 1, 0, 0, [], [], []),
  (0, 7, 0, 0, 0, 0, [([], [(1, [0])])], [], []),
  (8, 6, 471, 0, 0, 0, [([17], [(1, [0]), (1, [4]), (1, [1])]), ([17], [(1, [0]), (1, [3]), (1, [1])])], [], [1, 1]),
  (0, 6, 472, 0, 0, 0, [([], [(1, [0])]), ([], [(1, [0])])], [], [0, 0]),
  (0, 6, 473, 0, 0, 0, [([], [(1, [0])]), ([], [(1, [0])])], [], [0, 0]),
  (0, 31, 0, 0, 0, 0, [], [], []),
  (8, 4, 13, 0, 0, 0, [], [], []),
  (0, 4, 13, 1, 0, 0, [], [], []),
  (0, 4, 20, 2, 0, 0, [], [], []),
  (0, 4, 20, 0, 0, 0, [], [], []),
  (0, 5, 472, 0, 0, 0, [], [], [])]
set_option maxRecDepth 100000 in
noncomputable def sz_hd486_0_3 : List sy_Hn := [(0, 7, 0, 0, 0, 0, [([], [(1, [0])])], [], []),
  (0, 5, 472, 1, 0, 0, [], [], []),
  (0, 7, 0, 0, 0, 0, [([], [(1, [0])])], [], []),
  (8, 6, 471, 0, 0, 0, [([20], [(1, [0]), (1, [4]), (1, [1])]), ([20], [(1, [0]), (1, [3]), (1, [1])])], [], [1, 1]),
  (0, 6, 472, 0, 0, 0, [([], [(1, [0])]), ([], [(1, [0])])], [], [0, 0]),
  (0, 6, 473, 0, 0, 0, [([], [(1, [0])]), ([], [(1, [0])])], [], [0, 0]),
  (0, 31, 0, 0, 0, 0, [], [], []),
  (32, 4, 13, 0, 0, 0, [], [], []),
  (0, 4, 13, 1, 0, 0, [], [], []),
  (0, 4, 20, 2, 0, 0, [], [], []),
  (0, 4, 20, 0, 0, 0, [], [], []),
  (0, 5, 472, 0, 0, 0, [], [], []),
  (0, 7, 0, 0, 0, 0, [([], [(1, [0])])], [], []),
  (0, 5, 472, 1, 0, 0, [], [], []),
  (0, 7, 0, 0, 0, 0, [([], [(1, [0])])], [], []),
  (8, 6, 471, 0, 0, 0, [([19], [(1, [0]), (1, [4]), (1, [1])]), ([19], [(1, [0]), (1, [3]), (1, [1])])], [], [1, 1]),
  (0, 6, 472, 0, 0, 0, [([], [(1, [0])]), ([], [(1, [0])])], [], [0, 0]),
  (0, 6, 473, 0, 0, 0, [([], [(1, [0])]), ([], [(1, [0])])], [], [0, 0]),
  (0, 31, 0, 0, 0, 0, [], [], []),
  (48, 4, 13, 0, 0, 0, [], [], []),
  (0, 4, 13, 1, 0, 0, [], [], []),
  (0, 4, 20, 2, 0, 0, [], [], []),
  (0, 5, 472, 0, 0, 0, [], [], []),
  (0, 7, 0, 0, 0, 0, [([], [(1, [0])])], [], []),
  (0, 5, 472, 1, 0, 0, [], [], []),
  (0, 7, 0, 0, 0, 0, [([], [(1, [0])])], [], []),
  (8, 6, 471, 0, 0, 0, [([17], [(1, [0]), (1, [4]), (1, [1])]), ([17], [(1, [0]), (1, [3]), (1, [1])])], [], [1, 1]),
  (0, 6, 472, 0, 0, 0, [([], [(1, [0])]), ([], [(1, [0])])], [], [0, 0]),
  (0, 6, 473, 0, 0, 0, [([], [(1, [0])]), ([], [(1, [0])])], [], [0, 0]),
  (0, 31, 0, 0, 0, 0, [], [], []),
  (11, 4, 13, 0, 0, 0, [], [], []),
  (0, 4, 13, 1, 0, 0, [], [], []),
  (0, 4, 20, 2, 0, 0, [], [], []),
  (0, 5, 472, 0, 0, 0, [], [], []),
  (0, 7, 0, 0, 0, 0, [([], [(1, [0])])], [], []),
  (0, 5, 472, 1, 0, 0, [], [], []),
  (0, 7, 0, 0, 0, 0, [([], [(1, [0])])], [], []),
  (8, 6, 471, 0, 0, 0, [([17], [(1, [0]), (1, [4]), (1, [1])]), ([17], [(1, [0]), (1, [3]), (1, [1])])], [], [1, 1]),
  (0, 6, 472, 0, 0, 0, [([], [(1, [0])]), ([], [(1, [0])])], [], [0, 0]),
  (0, 6, 473, 0, 0, 0, [([], [(1, [0])]), ([], [(1, [0])])], [], [0, 0]),
  (0, 31, 0, 0, 0, 0, [], [], []),
  (8, 4, 13, 0, 0, 0, [], [], []),
  (0, 4, 13, 1, 0, 0, [], [], []),
  (0, 4, 20, 2, 0, 0, [], [], []),
  (0, 4, 20, 0, 0, 0, [], [], []),
  (0, 5, 472, 0, 0, 0, [], [], []),
  (0, 7, 0, 0, 0, 0, [([], [(1, [0])])], [], []),
  (0, 5, 472, 1, 0, 0, [], [], []),
  (0, 7, 0, 0, 0, 0, [([], [(1, [0])])], [], []),
  (8, 6, 471, 0, 0, 0, [([20], [(1, [0]), (1, [4]), (1, [1])]), ([20], [(1, [0]), (1, [3]), (1, [1])])], [], [1, 1]),
  (0, 6, 472, 0, 0, 0, [([], [(1, [0])]), ([], [(1, [0])])], [], [0, 0]),
  (0, 6, 473, 0, 0, 0, [([], [(1, [0])]), ([], [(1, [0])])], [], [0, 0]),
  (0, 31, 0, 0, 0, 0, [], [], [])]
noncomputable def sz_hd486_0 : List sy_Hn := sz_hd486_0_0 ++ (sz_hd486_0_1 ++ (sz_hd486_0_2 ++ (sz_hd486_0_3)))
set_option maxRecDepth 100000 in
theorem sz_sd486_0 : sy_seg sz_E (pv_T (sz_own true) sz_T) sz_RU [sz_cd85, sz_cd86] sz_cd486 sz_ud486 ri_m_X2_relayEnds 1354 none sz_hd486_0 = true := by decide +kernel
theorem sz_okd486 (xs : Nat → Value) (L : Nat) : sy_Cok (sz_env xs L) (pv_T (sz_own true) sz_T) sz_RU sz_cd486 := sy_chk_ok (CT := [sz_cd85, sz_cd86]) (CU := sz_ud486) (M := ri_m_X2_relayEnds) (List.forall_mem_cons.mpr ⟨sz_okd85 xs L, List.forall_mem_cons.mpr ⟨sz_okd86 xs L, fun _ h => absurd h List.not_mem_nil⟩⟩) rfl rfl ⟨_, _, sz_sd486_0⟩ (fun _ h => absurd h List.not_mem_nil)

/-! X2_balance  -/
set_option maxRecDepth 100000 in
noncomputable def sz_cd487 : sy_Ct := (173, 2, 47, [(3, .inr 10, .inl 0)], ([], []), [], [], [(10, 8, 8)], [(.inl none, 0, 0, ([], []), [], [])])
set_option maxRecDepth 100000 in
noncomputable def sz_ud487 : List sy_Cut := []
set_option maxRecDepth 100000 in
noncomputable def sz_hd487_0 : List sy_Hn := [(52, 20, 0, 0, 0, 0, [], [], []),
  (0, 31, 0, 0, 0, 0, [], [], [])]
set_option maxRecDepth 100000 in
theorem sz_sd487_0 : sy_seg sz_E (pv_T (sz_own true) sz_T) sz_RU [sz_cd475] sz_cd487 sz_ud487 ri_m_X2_balance 60 none sz_hd487_0 = true := by decide +kernel
theorem sz_okd487 (xs : Nat → Value) (L : Nat) : sy_Cok (sz_env xs L) (pv_T (sz_own true) sz_T) sz_RU sz_cd487 := sy_chk_ok (CT := [sz_cd475]) (CU := sz_ud487) (M := ri_m_X2_balance) (List.forall_mem_cons.mpr ⟨sz_okd475 xs L, fun _ h => absurd h List.not_mem_nil⟩) rfl rfl ⟨_, _, sz_sd487_0⟩ (fun _ h => absurd h List.not_mem_nil)

/-! X0_drive  -/
set_option maxRecDepth 100000 in
noncomputable def sz_cd488 : sy_Ct := (223, 3, 75, [(3, .inr 2, .inl 0), (0, .inl 0, .inl 0)], ([], []), [], [], [(6, 2, 2), (7, 0, 239), (8, 0, 0), (10, 5, 5), (10, 7, 8), (10, 12, 13), (10, 17, 18), (13, 3, 3), (20, 3, 8)], [(.inl none, 0, 0, ([], []), [], [])])
set_option maxRecDepth 100000 in
noncomputable def sz_ud488 : List sy_Cut := [(17, [(0, (3, .inr 2, .inl 0)), (1, (0, .inl 0, .inl 0)), (2, (3, .inr 10, .inl 0)), (3, (0, .inr 0, .inl 0))], ([((-1), 3)], []), [], [], [(4, [])]), (47, [(0, (3, .inr 2, .inl 0)), (1, (0, .inl 0, .inl 0)), (2, (3, .inr 10, .inl 0)), (3, (0, .inr 0, .inl 0))], ([((-1), (-1))], []), [], [], [(3, [])]), (63, [(0, (3, .inr 2, .inl 0)), (1, (0, .inl 0, .inl 0)), (2, (3, .inr 10, .inl 0)), (3, (0, .inr 0, .inl 0))], ([((-1), 3)], []), [], [], [(2, [])]), (65, [(0, (3, .inr 2, .inl 0)), (1, (0, .inl 0, .inl 0)), (2, (3, .inr 10, .inl 0)), (3, (0, .inr 0, .inl 0))], ([((-1), 3)], []), [], [], [(1, [])]), (78, [(0, (3, .inr 2, .inl 0)), (1, (0, .inl 0, .inl 0)), (2, (3, .inr 10, .inl 0)), (3, (0, .inr 0, .inl 0))], ([((-1), 3)], []), [], [], [(0, [])])]
set_option maxRecDepth 100000 in
noncomputable def sz_hd488_0 : List sy_Hn := [(16, 20, 1, 0, 0, 0, [], [], []),
  (0, 30, 0, 0, 0, 0, [([], [(1, [0])]), ([], [])], [], [])]
set_option maxRecDepth 100000 in
theorem sz_sd488_0 : sy_seg sz_E (pv_T (sz_own true) sz_T) sz_RU [sz_cd470, sz_cd482, sz_cd485, sz_cd486, sz_cd487] sz_cd488 sz_ud488 ri_m_X0_drive 25 none sz_hd488_0 = true := by decide +kernel
set_option maxRecDepth 100000 in
noncomputable def sz_hd488_1_0 : List sy_Hn := [(15, 1, 0, 0, 0, 0, [], [], []),
  (26, 6, 471, 0, 0, 0, [([], [(1, [0]), (1, [2])]), ([], [(1, [0]), (1, [1])])], [], [1, 1]),
  (0, 30, 0, 0, 0, 0, [([], [(1, [0])]), ([], [(1, [0])])], [], []),
  (7, 5, 469, 0, 0, 0, [], [], []),
  (0, 6, 471, 0, 0, 0, [([], [(1, [0]), (1, [1])]), ([], [(1, [0]), (1, [1])])], [], [0, 0]),
  (0, 30, 0, 0, 0, 0, [([], [(1, [0])]), ([], [(1, [0])])], [], []),
  (0, 6, 471, 0, 0, 0, [([], [(1, [0]), (1, [1])]), ([], [(1, [0])])], [], [1, 1]),
  (0, 30, 0, 0, 0, 0, [([], [(1, [0])]), ([], [(1, [0])])], [], []),
  (7, 5, 469, 0, 0, 0, [], [], []),
  (0, 6, 471, 0, 0, 0, [([], [(1, [0]), (1, [1])]), ([], [(1, [0]), (1, [1])])], [], [0, 0]),
  (0, 30, 0, 0, 0, 0, [([], [(1, [0])]), ([], [(1, [0])])], [], []),
  (0, 6, 471, 0, 0, 0, [([], [(1, [0])]), ([], [(1, [0]), (1, [1])])], [], [1, 1]),
  (0, 30, 0, 0, 0, 0, [([], [(1, [0])]), ([], [(1, [0])])], [], []),
  (0, 1, 0, 0, 1, 0, [], [], []),
  (26, 6, 471, 0, 0, 0, [([], [(1, [0]), (1, [2])]), ([], [(1, [0]), (1, [1])])], [], [1, 1]),
  (0, 30, 0, 0, 0, 0, [([], [(1, [0])]), ([], [(1, [0])])], [], []),
  (7, 5, 469, 0, 0, 0, [], [], []),
  (0, 6, 471, 0, 0, 0, [([], [(1, [0]), (1, [1])]), ([], [(1, [0]), (1, [1])])], [], [0, 0]),
  (0, 30, 0, 0, 0, 0, [([], [(1, [0])]), ([], [(1, [0])])], [], []),
  (0, 6, 471, 0, 0, 0, [([], [(1, [0]), (1, [1])]), ([], [(1, [0])])], [], [1, 1]),
  (0, 30, 0, 0, 0, 0, [([], [(1, [0])]), ([], [(1, [0])])], [], []),
  (7, 5, 469, 0, 0, 0, [], [], []),
  (0, 6, 471, 0, 0, 0, [([], [(1, [0]), (1, [1])]), ([], [(1, [0]), (1, [1])])], [], [0, 0]),
  (0, 30, 0, 0, 0, 0, [([], [(1, [0])]), ([], [(1, [0])])], [], []),
  (0, 6, 471, 0, 0, 0, [([], [(1, [0])]), ([], [(1, [0]), (1, [1])])], [], [1, 1]),
  (0, 30, 0, 0, 0, 0, [([], [(1, [0])]), ([], [(1, [0])])], [], []),
  (0, 1, 0, 0, 2, 0, [], [], []),
  (26, 6, 471, 0, 0, 0, [([], [(1, [0]), (1, [2])]), ([], [(1, [0]), (1, [1])])], [], [1, 1]),
  (0, 30, 0, 0, 0, 0, [([], [(1, [0])]), ([], [(1, [0])])], [], []),
  (7, 5, 469, 0, 0, 0, [], [], []),
  (0, 6, 471, 0, 0, 0, [([], [(1, [0]), (1, [1])]), ([], [(1, [0]), (1, [1])])], [], [0, 0]),
  (0, 30, 0, 0, 0, 0, [([], [(1, [0])]), ([], [(1, [0])])], [], []),
  (0, 6, 471, 0, 0, 0, [([], [(1, [0]), (1, [1])]), ([], [(1, [0])])], [], [1, 1]),
  (0, 30, 0, 0, 0, 0, [([], [(1, [0])]), ([], [(1, [0])])], [], []),
  (7, 5, 469, 0, 0, 0, [], [], []),
  (0, 6, 471, 0, 0, 0, [([], [(1, [0]), (1, [1])]), ([], [(1, [0]), (1, [1])])], [], [0, 0]),
  (0, 30, 0, 0, 0, 0, [([], [(1, [0])]), ([], [(1, [0])])], [], []),
  (0, 6, 471, 0, 0, 0, [([], [(1, [0])]), ([], [(1, [0]), (1, [1])])], [], [1, 1]),
  (0, 30, 0, 0, 0, 0, [([], [(1, [0])]), ([], [(1, [0])])], [], []),
  (26, 6, 471, 0, 0, 0, [([], [(1, [0]), (1, [2])]), ([], [(1, [0]), (1, [1])])], [], [1, 1]),
  (0, 30, 0, 0, 0, 0, [([], [(1, [0])]), ([], [(1, [0])])], [], []),
  (7, 5, 469, 0, 0, 0, [], [], []),
  (0, 6, 471, 0, 0, 0, [([], [(1, [0]), (1, [1])]), ([], [(1, [0]), (1, [1])])], [], [0, 0]),
  (0, 30, 0, 0, 0, 0, [([], [(1, [0])]), ([], [(1, [0])])], [], []),
  (0, 6, 471, 0, 0, 0, [([], [(1, [0]), (1, [1])]), ([], [(1, [0])])], [], [1, 1]),
  (0, 30, 0, 0, 0, 0, [([], [(1, [0])]), ([], [(1, [0])])], [], []),
  (7, 5, 469, 0, 0, 0, [], [], []),
  (0, 6, 471, 0, 0, 0, [([], [(1, [0]), (1, [1])]), ([], [(1, [0]), (1, [1])])], [], [0, 0]),
  (0, 30, 0, 0, 0, 0, [([], [(1, [0])]), ([], [(1, [0])])], [], []),
  (0, 6, 471, 0, 0, 0, [([], [(1, [0])]), ([], [(1, [0]), (1, [1])])], [], [1, 1]),
  (0, 30, 0, 0, 0, 0, [([], [(1, [0])]), ([], [(1, [0])])], [], []),
  (3, 20, 2, 0, 0, 0, [], [], []),
  (0, 30, 0, 0, 0, 0, [([], [(1, [0])]), ([], [(1, [0])])], [], []),
  (0, 30, 0, 0, 0, 0, [([], [(1, [0])]), ([], [(1, [0])])], [], []),
  (6, 1, 0, 0, 0, 0, [], [], []),
  (26, 6, 471, 0, 0, 0, [([], [(1, [0]), (1, [2])]), ([], [(1, [0]), (1, [1])])], [], [1, 1]),
  (0, 30, 0, 0, 0, 0, [([], [(1, [0])]), ([], [(1, [0])])], [], []),
  (7, 5, 469, 0, 0, 0, [], [], []),
  (0, 6, 471, 0, 0, 0, [([], [(1, [0]), (1, [1])]), ([], [(1, [0]), (1, [1])])], [], [0, 0]),
  (0, 30, 0, 0, 0, 0, [([], [(1, [0])]), ([], [(1, [0])])], [], []),
  (0, 6, 471, 0, 0, 0, [([], [(1, [0]), (1, [1])]), ([], [(1, [0])])], [], [1, 1]),
  (0, 30, 0, 0, 0, 0, [([], [(1, [0])]), ([], [(1, [0])])], [], []),
  (7, 5, 469, 0, 0, 0, [], [], []),
  (0, 6, 471, 0, 0, 0, [([], [(1, [0]), (1, [1])]), ([], [(1, [0]), (1, [1])])], [], [0, 0]),
  (0, 30, 0, 0, 0, 0, [([], [(1, [0])]), ([], [(1, [0])])], [], []),
  (0, 6, 471, 0, 0, 0, [([], [(1, [0])]), ([], [(1, [0]), (1, [1])])], [], [1, 1]),
  (0, 30, 0, 0, 0, 0, [([], [(1, [0])]), ([], [(1, [0])])], [], []),
  (0, 1, 0, 0, 1, 0, [], [], []),
  (26, 6, 471, 0, 0, 0, [([], [(1, [0]), (1, [2])]), ([], [(1, [0]), (1, [1])])], [], [1, 1]),
  (0, 30, 0, 0, 0, 0, [([], [(1, [0])]), ([], [(1, [0])])], [], []),
  (7, 5, 469, 0, 0, 0, [], [], []),
  (0, 6, 471, 0, 0, 0, [([], [(1, [0]), (1, [1])]), ([], [(1, [0]), (1, [1])])], [], [0, 0]),
  (0, 30, 0, 0, 0, 0, [([], [(1, [0])]), ([], [(1, [0])])], [], []),
  (0, 6, 471, 0, 0, 0, [([], [(1, [0]), (1, [1])]), ([], [(1, [0])])], [], [1, 1]),
  (0, 30, 0, 0, 0, 0, [([], [(1, [0])]), ([], [(1, [0])])], [], []),
  (7, 5, 469, 0, 0, 0, [], [], []),
  (0, 6, 471, 0, 0, 0, [([], [(1, [0]), (1, [1])]), ([], [(1, [0]), (1, [1])])], [], [0, 0]),
  (0, 30, 0, 0, 0, 0, [([], [(1, [0])]), ([], [(1, [0])])], [], []),
  (0, 6, 471, 0, 0, 0, [([], [(1, [0])]), ([], [(1, [0]), (1, [1])])], [], [1, 1]),
  (0, 30, 0, 0, 0, 0, [([], [(1, [0])]), ([], [(1, [0])])], [], []),
  (0, 1, 0, 0, 2, 0, [], [], []),
  (26, 6, 471, 0, 0, 0, [([], [(1, [0]), (1, [2])]), ([], [(1, [0]), (1, [1])])], [], [1, 1]),
  (0, 30, 0, 0, 0, 0, [([], [(1, [0])]), ([], [(1, [0])])], [], []),
  (7, 5, 469, 0, 0, 0, [], [], []),
  (0, 6, 471, 0, 0, 0, [([], [(1, [0]), (1, [1])]), ([], [(1, [0]), (1, [1])])], [], [0, 0]),
  (0, 30, 0, 0, 0, 0, [([], [(1, [0])]), ([], [(1, [0])])], [], []),
  (0, 6, 471, 0, 0, 0, [([], [(1, [0]), (1, [1])]), ([], [(1, [0])])], [], [1, 1]),
  (0, 30, 0, 0, 0, 0, [([], [(1, [0])]), ([], [(1, [0])])], [], []),
  (7, 5, 469, 0, 0, 0, [], [], []),
  (0, 6, 471, 0, 0, 0, [([], [(1, [0]), (1, [1])]), ([], [(1, [0]), (1, [1])])], [], [0, 0]),
  (0, 30, 0, 0, 0, 0, [([], [(1, [0])]), ([], [(1, [0])])], [], []),
  (0, 6, 471, 0, 0, 0, [([], [(1, [0])]), ([], [(1, [0]), (1, [1])])], [], [1, 1]),
  (0, 30, 0, 0, 0, 0, [([], [(1, [0])]), ([], [(1, [0])])], [], []),
  (26, 6, 471, 0, 0, 0, [([], [(1, [0]), (1, [2])]), ([], [(1, [0]), (1, [1])])], [], [1, 1]),
  (0, 30, 0, 0, 0, 0, [([], [(1, [0])]), ([], [(1, [0])])], [], []),
  (7, 5, 469, 0, 0, 0, [], [], []),
  (0, 6, 471, 0, 0, 0, [([], [(1, [0]), (1, [1])]), ([], [(1, [0]), (1, [1])])], [], [0, 0]),
  (0, 30, 0, 0, 0, 0, [([], [(1, [0])]), ([], [(1, [0])])], [], []),
  (0, 6, 471, 0, 0, 0, [([], [(1, [0]), (1, [1])]), ([], [(1, [0])])], [], [1, 1]),
  (0, 30, 0, 0, 0, 0, [([], [(1, [0])]), ([], [(1, [0])])], [], []),
  (7, 5, 469, 0, 0, 0, [], [], []),
  (0, 6, 471, 0, 0, 0, [([], [(1, [0]), (1, [1])]), ([], [(1, [0]), (1, [1])])], [], [0, 0]),
  (0, 30, 0, 0, 0, 0, [([], [(1, [0])]), ([], [(1, [0])])], [], []),
  (0, 6, 471, 0, 0, 0, [([], [(1, [0])]), ([], [(1, [0]), (1, [1])])], [], [1, 1]),
  (0, 30, 0, 0, 0, 0, [([], [(1, [0])]), ([], [(1, [0])])], [], []),
  (0, 30, 0, 0, 0, 0, [([], [(1, [0])]), ([], [(1, [0])])], [], []),
  (6, 1, 0, 0, 0, 0, [], [], []),
  (26, 6, 471, 0, 0, 0, [([], [(1, [0]), (1, [2])]), ([], [(1, [0]), (1, [1])])], [], [1, 1]),
  (0, 30, 0, 0, 0, 0, [([], [(1, [0])]), ([], [(1, [0])])], [], []),
  (7, 5, 469, 0, 0, 0, [], [], []),
  (0, 6, 471, 0, 0, 0, [([], [(1, [0]), (1, [1])]), ([], [(1, [0]), (1, [1])])], [], [0, 0]),
  (0, 30, 0, 0, 0, 0, [([], [(1, [0])]), ([], [(1, [0])])], [], []),
  (0, 6, 471, 0, 0, 0, [([], [(1, [0]), (1, [1])]), ([], [(1, [0])])], [], [1, 1]),
  (0, 30, 0, 0, 0, 0, [([], [(1, [0])]), ([], [(1, [0])])], [], []),
  (7, 5, 469, 0, 0, 0, [], [], []),
  (0, 6, 471, 0, 0, 0, [([], [(1, [0]), (1, [1])]), ([], [(1, [0]), (1, [1])])], [], [0, 0]),
  (0, 30, 0, 0, 0, 0, [([], [(1, [0])]), ([], [(1, [0])])], [], []),
  (0, 6, 471, 0, 0, 0, [([], [(1, [0])]), ([], [(1, [0]), (1, [1])])], [], [1, 1]),
  (0, 30, 0, 0, 0, 0, [([], [(1, [0])]), ([], [(1, [0])])], [], []),
  (0, 1, 0, 0, 1, 0, [], [], []),
  (26, 6, 471, 0, 0, 0, [([], [(1, [0]), (1, [2])]), ([], [(1, [0]), (1, [1])])], [], [1, 1]),
  (0, 30, 0, 0, 0, 0, [([], [(1, [0])]), ([], [(1, [0])])], [], []),
  (7, 5, 469, 0, 0, 0, [], [], []),
  (0, 6, 471, 0, 0, 0, [([], [(1, [0]), (1, [1])]), ([], [(1, [0]), (1, [1])])], [], [0, 0]),
  (0, 30, 0, 0, 0, 0, [([], [(1, [0])]), ([], [(1, [0])])], [], []),
  (0, 6, 471, 0, 0, 0, [([], [(1, [0]), (1, [1])]), ([], [(1, [0])])], [], [1, 1]),
  (0, 30, 0, 0, 0, 0, [([], [(1, [0])]), ([], [(1, [0])])], [], []),
  (7, 5, 469, 0, 0, 0, [], [], []),
  (0, 6, 471, 0, 0, 0, [([], [(1, [0]), (1, [1])]), ([], [(1, [0]), (1, [1])])], [], [0, 0]),
  (0, 30, 0, 0, 0, 0, [([], [(1, [0])]), ([], [(1, [0])])], [], []),
  (0, 6, 471, 0, 0, 0, [([], [(1, [0])]), ([], [(1, [0]), (1, [1])])], [], [1, 1]),
  (0, 30, 0, 0, 0, 0, [([], [(1, [0])]), ([], [(1, [0])])], [], []),
  (0, 1, 0, 0, 2, 0, [], [], []),
  (26, 6, 471, 0, 0, 0, [([], [(1, [0]), (1, [2])]), ([], [(1, [0]), (1, [1])])], [], [1, 1]),
  (0, 30, 0, 0, 0, 0, [([], [(1, [0])]), ([], [(1, [0])])], [], []),
  (7, 5, 469, 0, 0, 0, [], [], []),
  (0, 6, 471, 0, 0, 0, [([], [(1, [0]), (1, [1])]), ([], [(1, [0]), (1, [1])])], [], [0, 0]),
  (0, 30, 0, 0, 0, 0, [([], [(1, [0])]), ([], [(1, [0])])], [], []),
  (0, 6, 471, 0, 0, 0, [([], [(1, [0]), (1, [1])]), ([], [(1, [0])])], [], [1, 1]),
  (0, 30, 0, 0, 0, 0, [([], [(1, [0])]), ([], [(1, [0])])], [], []),
  (7, 5, 469, 0, 0, 0, [], [], []),
  (0, 6, 471, 0, 0, 0, [([], [(1, [0]), (1, [1])]), ([], [(1, [0]), (1, [1])])], [], [0, 0]),
  (0, 30, 0, 0, 0, 0, [([], [(1, [0])]), ([], [(1, [0])])], [], []),
  (0, 6, 471, 0, 0, 0, [([], [(1, [0])]), ([], [(1, [0]), (1, [1])])], [], [1, 1]),
  (0, 30, 0, 0, 0, 0, [([], [(1, [0])]), ([], [(1, [0])])], [], []),
  (26, 6, 471, 0, 0, 0, [([], [(1, [0]), (1, [2])]), ([], [(1, [0]), (1, [1])])], [], [1, 1]),
  (0, 30, 0, 0, 0, 0, [([], [(1, [0])]), ([], [(1, [0])])], [], []),
  (7, 5, 469, 0, 0, 0, [], [], []),
  (0, 6, 471, 0, 0, 0, [([], [(1, [0]), (1, [1])]), ([], [(1, [0]), (1, [1])])], [], [0, 0]),
  (0, 30, 0, 0, 0, 0, [([], [(1, [0])]), ([], [(1, [0])])], [], [])]
set_option maxRecDepth 100000 in
noncomputable def sz_hd488_1_1 : List sy_Hn := [(0, 6, 471, 0, 0, 0, [([], [(1, [0]), (1, [1])]), ([], [(1, [0])])], [], [1, 1]),
  (0, 30, 0, 0, 0, 0, [([], [(1, [0])]), ([], [(1, [0])])], [], []),
  (7, 5, 469, 0, 0, 0, [], [], []),
  (0, 6, 471, 0, 0, 0, [([], [(1, [0]), (1, [1])]), ([], [(1, [0]), (1, [1])])], [], [0, 0]),
  (0, 30, 0, 0, 0, 0, [([], [(1, [0])]), ([], [(1, [0])])], [], []),
  (0, 6, 471, 0, 0, 0, [([], [(1, [0])]), ([], [(1, [0]), (1, [1])])], [], [1, 1]),
  (0, 30, 0, 0, 0, 0, [([], [(1, [0])]), ([], [(1, [0])])], [], []),
  (12, 1, 0, 0, 0, 0, [], [], []),
  (26, 6, 471, 0, 0, 0, [([], [(1, [0]), (1, [2])]), ([], [(1, [0]), (1, [1])])], [], [1, 1]),
  (0, 30, 0, 0, 0, 0, [([], [(1, [0])]), ([], [(1, [0])])], [], []),
  (7, 5, 469, 0, 0, 0, [], [], []),
  (0, 6, 471, 0, 0, 0, [([], [(1, [0]), (1, [1])]), ([], [(1, [0]), (1, [1])])], [], [0, 0]),
  (0, 30, 0, 0, 0, 0, [([], [(1, [0])]), ([], [(1, [0])])], [], []),
  (0, 6, 471, 0, 0, 0, [([], [(1, [0]), (1, [1])]), ([], [(1, [0])])], [], [1, 1]),
  (0, 30, 0, 0, 0, 0, [([], [(1, [0])]), ([], [(1, [0])])], [], []),
  (7, 5, 469, 0, 0, 0, [], [], []),
  (0, 6, 471, 0, 0, 0, [([], [(1, [0]), (1, [1])]), ([], [(1, [0]), (1, [1])])], [], [0, 0]),
  (0, 30, 0, 0, 0, 0, [([], [(1, [0])]), ([], [(1, [0])])], [], []),
  (0, 6, 471, 0, 0, 0, [([], [(1, [0])]), ([], [(1, [0]), (1, [1])])], [], [1, 1]),
  (0, 30, 0, 0, 0, 0, [([], [(1, [0])]), ([], [(1, [0])])], [], []),
  (0, 1, 0, 0, 1, 0, [], [], []),
  (26, 6, 471, 0, 0, 0, [([], [(1, [0]), (1, [2])]), ([], [(1, [0]), (1, [1])])], [], [1, 1]),
  (0, 30, 0, 0, 0, 0, [([], [(1, [0])]), ([], [(1, [0])])], [], []),
  (7, 5, 469, 0, 0, 0, [], [], []),
  (0, 6, 471, 0, 0, 0, [([], [(1, [0]), (1, [1])]), ([], [(1, [0]), (1, [1])])], [], [0, 0]),
  (0, 30, 0, 0, 0, 0, [([], [(1, [0])]), ([], [(1, [0])])], [], []),
  (0, 6, 471, 0, 0, 0, [([], [(1, [0]), (1, [1])]), ([], [(1, [0])])], [], [1, 1]),
  (0, 30, 0, 0, 0, 0, [([], [(1, [0])]), ([], [(1, [0])])], [], []),
  (7, 5, 469, 0, 0, 0, [], [], []),
  (0, 6, 471, 0, 0, 0, [([], [(1, [0]), (1, [1])]), ([], [(1, [0]), (1, [1])])], [], [0, 0]),
  (0, 30, 0, 0, 0, 0, [([], [(1, [0])]), ([], [(1, [0])])], [], []),
  (0, 6, 471, 0, 0, 0, [([], [(1, [0])]), ([], [(1, [0]), (1, [1])])], [], [1, 1]),
  (0, 30, 0, 0, 0, 0, [([], [(1, [0])]), ([], [(1, [0])])], [], []),
  (0, 1, 0, 0, 2, 0, [], [], []),
  (26, 6, 471, 0, 0, 0, [([], [(1, [0]), (1, [2])]), ([], [(1, [0]), (1, [1])])], [], [1, 1]),
  (0, 30, 0, 0, 0, 0, [([], [(1, [0])]), ([], [(1, [0])])], [], []),
  (7, 5, 469, 0, 0, 0, [], [], []),
  (0, 6, 471, 0, 0, 0, [([], [(1, [0]), (1, [1])]), ([], [(1, [0]), (1, [1])])], [], [0, 0]),
  (0, 30, 0, 0, 0, 0, [([], [(1, [0])]), ([], [(1, [0])])], [], []),
  (0, 6, 471, 0, 0, 0, [([], [(1, [0]), (1, [1])]), ([], [(1, [0])])], [], [1, 1]),
  (0, 30, 0, 0, 0, 0, [([], [(1, [0])]), ([], [(1, [0])])], [], []),
  (7, 5, 469, 0, 0, 0, [], [], []),
  (0, 6, 471, 0, 0, 0, [([], [(1, [0]), (1, [1])]), ([], [(1, [0]), (1, [1])])], [], [0, 0]),
  (0, 30, 0, 0, 0, 0, [([], [(1, [0])]), ([], [(1, [0])])], [], []),
  (0, 6, 471, 0, 0, 0, [([], [(1, [0])]), ([], [(1, [0]), (1, [1])])], [], [1, 1]),
  (0, 30, 0, 0, 0, 0, [([], [(1, [0])]), ([], [(1, [0])])], [], []),
  (26, 6, 471, 0, 0, 0, [([], [(1, [0]), (1, [2])]), ([], [(1, [0]), (1, [1])])], [], [1, 1]),
  (0, 30, 0, 0, 0, 0, [([], [(1, [0])]), ([], [(1, [0])])], [], []),
  (7, 5, 469, 0, 0, 0, [], [], []),
  (0, 6, 471, 0, 0, 0, [([], [(1, [0]), (1, [1])]), ([], [(1, [0]), (1, [1])])], [], [0, 0]),
  (0, 30, 0, 0, 0, 0, [([], [(1, [0])]), ([], [(1, [0])])], [], []),
  (0, 6, 471, 0, 0, 0, [([], [(1, [0]), (1, [1])]), ([], [(1, [0])])], [], [1, 1]),
  (0, 30, 0, 0, 0, 0, [([], [(1, [0])]), ([], [(1, [0])])], [], []),
  (7, 5, 469, 0, 0, 0, [], [], []),
  (0, 6, 471, 0, 0, 0, [([], [(1, [0]), (1, [1])]), ([], [(1, [0]), (1, [1])])], [], [0, 0]),
  (0, 30, 0, 0, 0, 0, [([], [(1, [0])]), ([], [(1, [0])])], [], []),
  (0, 6, 471, 0, 0, 0, [([], [(1, [0])]), ([], [(1, [0]), (1, [1])])], [], [1, 1]),
  (0, 30, 0, 0, 0, 0, [([], [(1, [0])]), ([], [(1, [0])])], [], []),
  (3, 20, 2, 0, 0, 0, [], [], []),
  (0, 30, 0, 0, 0, 0, [([], [(1, [0])]), ([], [(1, [0])])], [], [])]
noncomputable def sz_hd488_1 : List sy_Hn := sz_hd488_1_0 ++ (sz_hd488_1_1)
set_option maxRecDepth 100000 in
theorem sz_sd488_1 : sy_seg sz_E (pv_T (sz_own true) sz_T) sz_RU [sz_cd470, sz_cd482, sz_cd485, sz_cd486, sz_cd487] sz_cd488 sz_ud488 ri_m_X0_drive 1045 (some ((17, [(0, (3, .inr 2, .inl 0)), (1, (0, .inl 0, .inl 0)), (2, (3, .inr 10, .inl 0)), (3, (0, .inr 0, .inl 0))], ([((-1), 3)], []), [], [], [(4, [])]))) sz_hd488_1 = true := by decide +kernel
set_option maxRecDepth 100000 in
noncomputable def sz_hd488_2 : List sy_Hn := [(0, 30, 0, 0, 0, 0, [([], [(1, [0])]), ([], [(1, [0])])], [], []),
  (2, 20, 3, 0, 0, 0, [], [], []),
  (0, 30, 0, 0, 0, 0, [([], [(1, [0])]), ([], [(1, [0])])], [], []),
  (9, 20, 0, 0, 0, 0, [], [], []),
  (0, 30, 0, 0, 0, 0, [([], [(1, [0])]), ([], [(1, [0])])], [], [])]
set_option maxRecDepth 100000 in
theorem sz_sd488_2 : sy_seg sz_E (pv_T (sz_own true) sz_T) sz_RU [sz_cd470, sz_cd482, sz_cd485, sz_cd486, sz_cd487] sz_cd488 sz_ud488 ri_m_X0_drive 29 (some ((47, [(0, (3, .inr 2, .inl 0)), (1, (0, .inl 0, .inl 0)), (2, (3, .inr 10, .inl 0)), (3, (0, .inr 0, .inl 0))], ([((-1), (-1))], []), [], [], [(3, [])]))) sz_hd488_2 = true := by decide +kernel
set_option maxRecDepth 100000 in
noncomputable def sz_hd488_3 : List sy_Hn := [(1, 20, 4, 0, 0, 0, [], [], []),
  (0, 30, 0, 0, 0, 0, [([], [(1, [0])]), ([], [(1, [0])])], [], [])]
set_option maxRecDepth 100000 in
theorem sz_sd488_3 : sy_seg sz_E (pv_T (sz_own true) sz_T) sz_RU [sz_cd470, sz_cd482, sz_cd485, sz_cd486, sz_cd487] sz_cd488 sz_ud488 ri_m_X0_drive 10 (some ((63, [(0, (3, .inr 2, .inl 0)), (1, (0, .inl 0, .inl 0)), (2, (3, .inr 10, .inl 0)), (3, (0, .inr 0, .inl 0))], ([((-1), 3)], []), [], [], [(2, [])]))) sz_hd488_3 = true := by decide +kernel
set_option maxRecDepth 100000 in
noncomputable def sz_hd488_4 : List sy_Hn := [(0, 30, 0, 0, 0, 0, [([], [(1, [0])]), ([], [(1, [0])])], [], []),
  (0, 30, 0, 0, 0, 0, [([], [(1, [0])]), ([], [(1, [0])])], [], []),
  (0, 30, 0, 0, 0, 0, [([], [(1, [0])]), ([], [(1, [0])])], [], []),
  (0, 30, 0, 0, 0, 0, [([], [(1, [0])]), ([], [(1, [0])])], [], []),
  (0, 30, 0, 0, 0, 0, [([], [(1, [0])]), ([], [(1, [0])])], [], [])]
set_option maxRecDepth 100000 in
theorem sz_sd488_4 : sy_seg sz_E (pv_T (sz_own true) sz_T) sz_RU [sz_cd470, sz_cd482, sz_cd485, sz_cd486, sz_cd487] sz_cd488 sz_ud488 ri_m_X0_drive 54 (some ((65, [(0, (3, .inr 2, .inl 0)), (1, (0, .inl 0, .inl 0)), (2, (3, .inr 10, .inl 0)), (3, (0, .inr 0, .inl 0))], ([((-1), 3)], []), [], [], [(1, [])]))) sz_hd488_4 = true := by decide +kernel
set_option maxRecDepth 100000 in
noncomputable def sz_hd488_5 : List sy_Hn := [(0, 31, 0, 0, 0, 0, [], [], []),
  (4, 4, 13, 0, 0, 0, [], [], []),
  (0, 4, 13, 1, 0, 0, [], [], []),
  (0, 5, 469, 0, 0, 0, [], [], []),
  (0, 6, 470, 0, 0, 0, [([], [(1, [0]), (1, [1])]), ([], [(1, [0]), (1, [1])])], [], [0, 0]),
  (0, 31, 0, 0, 0, 0, [], [], []),
  (0, 5, 471, 0, 0, 0, [], [], []),
  (0, 6, 470, 0, 0, 0, [([], [(1, [0]), (1, [1])]), ([], [(1, [0]), (1, [1])])], [], [0, 0]),
  (0, 31, 0, 0, 0, 0, [], [], []),
  (0, 5, 471, 1, 0, 0, [], [], []),
  (0, 6, 470, 0, 0, 0, [([], [(1, [0]), (1, [1])]), ([], [(1, [0]), (1, [1])])], [], [0, 0]),
  (0, 31, 0, 0, 0, 0, [], [], []),
  (0, 6, 470, 0, 0, 0, [([], [(1, [0]), (1, [2])]), ([], [(1, [0]), (1, [1])])], [], [1, 1]),
  (0, 31, 0, 0, 0, 0, [], [], []),
  (0, 31, 0, 0, 0, 0, [], [], []),
  (4, 4, 13, 0, 0, 0, [], [], []),
  (0, 4, 13, 1, 0, 0, [], [], []),
  (0, 5, 469, 0, 0, 0, [], [], []),
  (0, 6, 470, 0, 0, 0, [([], [(1, [0]), (1, [1])]), ([], [(1, [0]), (1, [1])])], [], [0, 0]),
  (0, 31, 0, 0, 0, 0, [], [], []),
  (0, 5, 471, 0, 0, 0, [], [], []),
  (0, 6, 470, 0, 0, 0, [([], [(1, [0]), (1, [1])]), ([], [(1, [0]), (1, [1])])], [], [0, 0]),
  (0, 31, 0, 0, 0, 0, [], [], []),
  (0, 5, 471, 1, 0, 0, [], [], []),
  (0, 6, 470, 0, 0, 0, [([], [(1, [0]), (1, [1])]), ([], [(1, [0]), (1, [1])])], [], [0, 0]),
  (0, 31, 0, 0, 0, 0, [], [], []),
  (0, 6, 470, 0, 0, 0, [([], [(1, [0]), (1, [2])]), ([], [(1, [0]), (1, [1])])], [], [1, 1]),
  (0, 31, 0, 0, 0, 0, [], [], [])]
set_option maxRecDepth 100000 in
theorem sz_sd488_5 : sy_seg sz_E (pv_T (sz_own true) sz_T) sz_RU [sz_cd470, sz_cd482, sz_cd485, sz_cd486, sz_cd487] sz_cd488 sz_ud488 ri_m_X0_drive 83 (some ((78, [(0, (3, .inr 2, .inl 0)), (1, (0, .inl 0, .inl 0)), (2, (3, .inr 10, .inl 0)), (3, (0, .inr 0, .inl 0))], ([((-1), 3)], []), [], [], [(0, [])]))) sz_hd488_5 = true := by decide +kernel
theorem sz_okd488 (xs : Nat → Value) (L : Nat) : sy_Cok (sz_env xs L) (pv_T (sz_own true) sz_T) sz_RU sz_cd488 := sy_chk_ok (CT := [sz_cd470, sz_cd482, sz_cd485, sz_cd486, sz_cd487]) (CU := sz_ud488) (M := ri_m_X0_drive) (List.forall_mem_cons.mpr ⟨sz_okd470 xs L, List.forall_mem_cons.mpr ⟨sz_okd482 xs L, List.forall_mem_cons.mpr ⟨sz_okd485 xs L, List.forall_mem_cons.mpr ⟨sz_okd486 xs L, List.forall_mem_cons.mpr ⟨sz_okd487 xs L, fun _ h => absurd h List.not_mem_nil⟩⟩⟩⟩⟩) rfl rfl ⟨_, _, sz_sd488_0⟩ (List.forall_mem_cons.mpr ⟨⟨_, _, sz_sd488_1⟩, List.forall_mem_cons.mpr ⟨⟨_, _, sz_sd488_2⟩, List.forall_mem_cons.mpr ⟨⟨_, _, sz_sd488_3⟩, List.forall_mem_cons.mpr ⟨⟨_, _, sz_sd488_4⟩, List.forall_mem_cons.mpr ⟨⟨_, _, sz_sd488_5⟩, fun _ h => absurd h List.not_mem_nil⟩⟩⟩⟩⟩)

/-! X0_shutDown  -/
set_option maxRecDepth 100000 in
noncomputable def sz_cd489 : sy_Ct := (221, 3, 64, [(3, .inr 2, .inl 0), (0, .inl 1, .inl 0), (0, .inl 2, .inl 0)], ([], []), [], [], [(6, 2, 2), (7, 0, 239), (22, 5, 5), (22, 12, 13), (22, 16, 16), (33, 0, 0)], [(.inl none, 0, 0, ([], []), [], [])])
set_option maxRecDepth 100000 in
noncomputable def sz_ud489 : List sy_Cut := []
set_option maxRecDepth 100000 in
noncomputable def sz_hd489_0 : List sy_Hn := [(32, 4, 25, 0, 0, 0, [], [], []),
  (0, 4, 25, 1, 0, 0, [], [], []),
  (0, 4, 32, 2, 0, 0, [], [], []),
  (0, 4, 32, 0, 0, 0, [], [], []),
  (0, 6, 477, 0, 0, 0, [([], [(1, [0])]), ([], [(1, [0])])], [], [0, 0]),
  (0, 4, 32, 5, 0, 0, [], [], []),
  (0, 4, 32, 6, 0, 0, [], [], []),
  (0, 6, 478, 0, 0, 0, [([], [(1, [0])]), ([], [(1, [0])])], [], [0, 0]),
  (1, 20, 0, 0, 0, 0, [], [], []),
  (0, 31, 0, 0, 0, 0, [], [], [])]
set_option maxRecDepth 100000 in
theorem sz_sd489_0 : sy_seg sz_E (pv_T (sz_own true) sz_T) sz_RU [sz_cd470] sz_cd489 sz_ud489 ri_m_X0_shutDown 49 none sz_hd489_0 = true := by decide +kernel
theorem sz_okd489 (xs : Nat → Value) (L : Nat) : sy_Cok (sz_env xs L) (pv_T (sz_own true) sz_T) sz_RU sz_cd489 := sy_chk_ok (CT := [sz_cd470]) (CU := sz_ud489) (M := ri_m_X0_shutDown) (List.forall_mem_cons.mpr ⟨sz_okd470 xs L, fun _ h => absurd h List.not_mem_nil⟩) rfl rfl ⟨_, _, sz_sd489_0⟩ (fun _ h => absurd h List.not_mem_nil)

/-! X0_shutDown  -/
set_option maxRecDepth 100000 in
noncomputable def sz_cd490 : sy_Ct := (221, 3, 64, [(3, .inr 2, .inl 0), (0, .inl 1, .inl 0), (0, .inl 1, .inl 0)], ([], []), [], [], [(6, 2, 2), (7, 0, 239), (22, 5, 5), (22, 12, 13), (22, 16, 16), (33, 0, 4)], [(.inl none, 0, 0, ([], []), [], [])])
set_option maxRecDepth 100000 in
noncomputable def sz_ud490 : List sy_Cut := []
set_option maxRecDepth 100000 in
noncomputable def sz_hd490_0 : List sy_Hn := [(36, 4, 25, 0, 0, 0, [], [], []),
  (0, 4, 25, 1, 0, 0, [], [], []),
  (0, 4, 32, 2, 0, 0, [], [], []),
  (0, 4, 32, 0, 0, 0, [], [], []),
  (0, 6, 477, 0, 0, 0, [([], [(1, [0])]), ([], [(1, [0])])], [], [0, 0]),
  (0, 4, 32, 5, 0, 0, [], [], []),
  (0, 4, 32, 6, 0, 0, [], [], []),
  (0, 6, 478, 0, 0, 0, [([], [(1, [0])]), ([], [(1, [0])])], [], [0, 0]),
  (1, 20, 0, 0, 0, 0, [], [], []),
  (0, 31, 0, 0, 0, 0, [], [], []),
  (4, 1, 0, 0, 0, 0, [], [], []),
  (33, 4, 25, 0, 0, 0, [], [], []),
  (0, 4, 25, 1, 0, 0, [], [], []),
  (0, 4, 32, 2, 0, 0, [], [], []),
  (0, 4, 32, 0, 0, 0, [], [], []),
  (0, 6, 477, 0, 0, 0, [([], [(1, [0])]), ([], [(1, [0])])], [], [0, 0]),
  (0, 4, 32, 5, 0, 0, [], [], []),
  (0, 4, 32, 6, 0, 0, [], [], []),
  (0, 6, 478, 0, 0, 0, [([], [(1, [0])]), ([], [(1, [0])])], [], [0, 0]),
  (1, 20, 0, 0, 0, 0, [], [], []),
  (0, 31, 0, 0, 0, 0, [], [], []),
  (25, 4, 25, 0, 0, 0, [], [], []),
  (0, 4, 25, 1, 0, 0, [], [], []),
  (0, 4, 32, 2, 0, 0, [], [], []),
  (0, 4, 32, 0, 0, 0, [], [], []),
  (0, 6, 477, 0, 0, 0, [([], [(1, [0])]), ([], [(1, [0])])], [], [0, 0]),
  (0, 4, 32, 5, 0, 0, [], [], []),
  (0, 4, 32, 6, 0, 0, [], [], []),
  (0, 6, 478, 0, 0, 0, [([], [(1, [0])]), ([], [(1, [0])])], [], [0, 0]),
  (1, 20, 0, 0, 0, 0, [], [], []),
  (0, 31, 0, 0, 0, 0, [], [], []),
  (0, 1, 0, 0, 1, 0, [], [], []),
  (34, 4, 25, 0, 0, 0, [], [], []),
  (0, 4, 25, 1, 0, 0, [], [], []),
  (0, 4, 32, 2, 0, 0, [], [], []),
  (0, 4, 32, 0, 0, 0, [], [], []),
  (0, 6, 477, 0, 0, 0, [([], [(1, [0])]), ([], [(1, [0])])], [], [0, 0]),
  (0, 4, 32, 5, 0, 0, [], [], []),
  (0, 4, 32, 6, 0, 0, [], [], []),
  (0, 6, 478, 0, 0, 0, [([], [(1, [0])]), ([], [(1, [0])])], [], [0, 0]),
  (1, 20, 0, 0, 0, 0, [], [], []),
  (0, 31, 0, 0, 0, 0, [], [], []),
  (0, 1, 0, 0, 2, 0, [], [], []),
  (33, 4, 25, 0, 0, 0, [], [], []),
  (0, 4, 25, 1, 0, 0, [], [], []),
  (0, 4, 32, 2, 0, 0, [], [], []),
  (0, 4, 32, 0, 0, 0, [], [], []),
  (0, 6, 477, 0, 0, 0, [([], [(1, [0])]), ([], [(1, [0])])], [], [0, 0]),
  (0, 4, 32, 5, 0, 0, [], [], []),
  (0, 4, 32, 6, 0, 0, [], [], []),
  (0, 6, 478, 0, 0, 0, [([], [(1, [0])]), ([], [(1, [0])])], [], [0, 0]),
  (1, 20, 0, 0, 0, 0, [], [], []),
  (0, 31, 0, 0, 0, 0, [], [], []),
  (25, 4, 25, 0, 0, 0, [], [], []),
  (0, 4, 25, 1, 0, 0, [], [], []),
  (0, 4, 32, 2, 0, 0, [], [], []),
  (0, 4, 32, 0, 0, 0, [], [], []),
  (0, 6, 477, 0, 0, 0, [([], [(1, [0])]), ([], [(1, [0])])], [], [0, 0]),
  (0, 4, 32, 5, 0, 0, [], [], []),
  (0, 4, 32, 6, 0, 0, [], [], []),
  (0, 6, 478, 0, 0, 0, [([], [(1, [0])]), ([], [(1, [0])])], [], [0, 0]),
  (1, 20, 0, 0, 0, 0, [], [], []),
  (0, 31, 0, 0, 0, 0, [], [], []),
  (33, 4, 25, 0, 0, 0, [], [], []),
  (0, 4, 25, 1, 0, 0, [], [], []),
  (0, 4, 32, 2, 0, 0, [], [], []),
  (0, 4, 32, 0, 0, 0, [], [], []),
  (0, 6, 477, 0, 0, 0, [([], [(1, [0])]), ([], [(1, [0])])], [], [0, 0]),
  (0, 4, 32, 5, 0, 0, [], [], []),
  (0, 4, 32, 6, 0, 0, [], [], []),
  (0, 6, 478, 0, 0, 0, [([], [(1, [0])]), ([], [(1, [0])])], [], [0, 0]),
  (1, 20, 0, 0, 0, 0, [], [], []),
  (0, 31, 0, 0, 0, 0, [], [], []),
  (25, 4, 25, 0, 0, 0, [], [], []),
  (0, 4, 25, 1, 0, 0, [], [], []),
  (0, 4, 32, 2, 0, 0, [], [], []),
  (0, 4, 32, 0, 0, 0, [], [], []),
  (0, 6, 477, 0, 0, 0, [([], [(1, [0])]), ([], [(1, [0])])], [], [0, 0]),
  (0, 4, 32, 5, 0, 0, [], [], []),
  (0, 4, 32, 6, 0, 0, [], [], []),
  (0, 6, 478, 0, 0, 0, [([], [(1, [0])]), ([], [(1, [0])])], [], [0, 0]),
  (1, 20, 0, 0, 0, 0, [], [], []),
  (0, 31, 0, 0, 0, 0, [], [], [])]
set_option maxRecDepth 100000 in
theorem sz_sd490_0 : sy_seg sz_E (pv_T (sz_own true) sz_T) sz_RU [sz_cd470] sz_cd490 sz_ud490 ri_m_X0_shutDown 355 none sz_hd490_0 = true := by decide +kernel
theorem sz_okd490 (xs : Nat → Value) (L : Nat) : sy_Cok (sz_env xs L) (pv_T (sz_own true) sz_T) sz_RU sz_cd490 := sy_chk_ok (CT := [sz_cd470]) (CU := sz_ud490) (M := ri_m_X0_shutDown) (List.forall_mem_cons.mpr ⟨sz_okd470 xs L, fun _ h => absurd h List.not_mem_nil⟩) rfl rfl ⟨_, _, sz_sd490_0⟩ (fun _ h => absurd h List.not_mem_nil)

/-! X0_shutDown  -/
set_option maxRecDepth 100000 in
noncomputable def sz_cd491 : sy_Ct := (221, 3, 64, [(3, .inr 2, .inl 0), (0, .inl 1, .inl 0), (0, .inl 0, .inl 0)], ([], []), [], [], [(6, 2, 2), (7, 0, 239), (22, 5, 5), (22, 12, 13), (22, 16, 16), (33, 0, 0)], [(.inl none, 0, 0, ([], []), [], [])])
set_option maxRecDepth 100000 in
noncomputable def sz_ud491 : List sy_Cut := []
set_option maxRecDepth 100000 in
noncomputable def sz_hd491_0 : List sy_Hn := [(32, 4, 25, 0, 0, 0, [], [], []),
  (0, 4, 25, 1, 0, 0, [], [], []),
  (0, 4, 32, 2, 0, 0, [], [], []),
  (0, 4, 32, 0, 0, 0, [], [], []),
  (0, 6, 477, 0, 0, 0, [([], [(1, [0])]), ([], [(1, [0])])], [], [0, 0]),
  (0, 4, 32, 5, 0, 0, [], [], []),
  (0, 4, 32, 6, 0, 0, [], [], []),
  (0, 6, 478, 0, 0, 0, [([], [(1, [0])]), ([], [(1, [0])])], [], [0, 0]),
  (1, 20, 0, 0, 0, 0, [], [], []),
  (0, 31, 0, 0, 0, 0, [], [], [])]
set_option maxRecDepth 100000 in
theorem sz_sd491_0 : sy_seg sz_E (pv_T (sz_own true) sz_T) sz_RU [sz_cd470] sz_cd491 sz_ud491 ri_m_X0_shutDown 49 none sz_hd491_0 = true := by decide +kernel
theorem sz_okd491 (xs : Nat → Value) (L : Nat) : sy_Cok (sz_env xs L) (pv_T (sz_own true) sz_T) sz_RU sz_cd491 := sy_chk_ok (CT := [sz_cd470]) (CU := sz_ud491) (M := ri_m_X0_shutDown) (List.forall_mem_cons.mpr ⟨sz_okd470 xs L, fun _ h => absurd h List.not_mem_nil⟩) rfl rfl ⟨_, _, sz_sd491_0⟩ (fun _ h => absurd h List.not_mem_nil)

/-! X0_leastOn  -/
set_option maxRecDepth 100000 in
noncomputable def sz_cd492 : sy_Ct := (224, 0, 0, [(3, .inr 2, .inl 0), (0, .inl 1, .inl 0)], ([], []), [], [], [], [(.inl (some (0, .inr 0, .inl 0)), 0, 0, ([((-1), 3)], []), [], [])])
set_option maxRecDepth 100000 in
noncomputable def sz_ud492 : List sy_Cut := [(4, [(0, (3, .inr 2, .inl 0)), (1, (0, .inl 1, .inl 0)), (2, (0, .inr 0, .inl 0))], ([(2, 4)], []), [], [], [(4, []), ((-1), [0])])]
set_option maxRecDepth 100000 in
noncomputable def sz_hd492_0 : List sy_Hn := [(0, 30, 0, 0, 0, 0, [([], [(1, [0])]), ([], [])], [], [])]
set_option maxRecDepth 100000 in
theorem sz_sd492_0 : sy_seg sz_E (pv_T (sz_own true) sz_T) sz_RU [] sz_cd492 sz_ud492 ri_m_X0_leastOn 11 none sz_hd492_0 = true := by decide +kernel
set_option maxRecDepth 100000 in
noncomputable def sz_hd492_1 : List sy_Hn := [(0, 31, 0, 0, 0, 0, [], [], []),
  (3, 1, 0, 0, 2, 0, [], [], []),
  (0, 30, 0, 0, 0, 0, [([], [(1, [0])]), ([0], [(1, [0]), (1, [2])])], [], []),
  (0, 30, 0, 0, 0, 0, [([], [(1, [0])]), ([0], [(1, [0]), (1, [2])])], [], []),
  (0, 31, 0, 0, 0, 0, [], [], []),
  (0, 30, 0, 0, 0, 0, [([], [(1, [0])]), ([0], [(1, [0]), (1, [2])])], [], []),
  (0, 30, 0, 0, 0, 0, [([], [(1, [0])]), ([0], [(1, [0]), (1, [2])])], [], []),
  (0, 31, 0, 0, 0, 0, [], [], [])]
set_option maxRecDepth 100000 in
theorem sz_sd492_1 : sy_seg sz_E (pv_T (sz_own true) sz_T) sz_RU [] sz_cd492 sz_ud492 ri_m_X0_leastOn 47 (some ((4, [(0, (3, .inr 2, .inl 0)), (1, (0, .inl 1, .inl 0)), (2, (0, .inr 0, .inl 0))], ([(2, 4)], []), [], [], [(4, []), ((-1), [0])]))) sz_hd492_1 = true := by decide +kernel
theorem sz_okd492 (xs : Nat → Value) (L : Nat) : sy_Cok (sz_env xs L) (pv_T (sz_own true) sz_T) sz_RU sz_cd492 := sy_chk_ok (CT := []) (CU := sz_ud492) (M := ri_m_X0_leastOn) (fun _ h => absurd h List.not_mem_nil) rfl rfl ⟨_, _, sz_sd492_0⟩ (List.forall_mem_cons.mpr ⟨⟨_, _, sz_sd492_1⟩, fun _ h => absurd h List.not_mem_nil⟩)

/-! X1_setFor  -/
set_option maxRecDepth 100000 in
noncomputable def sz_cd493 : sy_Ct := (304, 0, 0, [(3, .inr 27, .inl 0), (0, .inr 0, .inl 0), (0, .inr 1, .inl 0)], ([(0, 2), ((-2147483648), 2147483647)], []), [], [], [], [(.inl (some (0, .inr 2, .inl 0)), 0, 0, ([(0, 2), (0, 2), ((-2147483648), 2147483647)], []), [], [])])
set_option maxRecDepth 100000 in
noncomputable def sz_ud493 : List sy_Cut := [(4, [(0, (3, .inr 27, .inl 0)), (1, (0, .inr 0, .inl 0)), (2, (0, .inr 1, .inl 0)), (3, (0, .inr 2, .inl 0)), (4, (0, .inr 3, .inl 0))], ([(1, 3), (0, 2), (0, 2), ((-2147483648), 2147483647)], []), [], [], [(3, []), ((-1), [3])])]
set_option maxRecDepth 100000 in
noncomputable def sz_hd493_0 : List sy_Hn := [(0, 30, 0, 0, 0, 0, [([], [(1, [0])]), ([], [])], [], [])]
set_option maxRecDepth 100000 in
theorem sz_sd493_0 : sy_seg sz_E (pv_T (sz_own true) sz_T) sz_RU [] sz_cd493 sz_ud493 ri_m_X1_setFor 11 none sz_hd493_0 = true := by decide +kernel
set_option maxRecDepth 100000 in
noncomputable def sz_hd493_1 : List sy_Hn := [(0, 31, 0, 0, 0, 0, [], [], []),
  (0, 31, 0, 0, 0, 0, [], [], []),
  (0, 31, 0, 0, 0, 0, [], [], []),
  (0, 31, 0, 0, 0, 0, [], [], []),
  (0, 30, 0, 0, 0, 0, [([6], [(1, [0]), (1, [2])]), ([], [(1, [0]), (1, [1])])], [], []),
  (0, 30, 0, 0, 0, 0, [([6], [(1, [0]), (1, [2])]), ([], [(1, [0]), (1, [1])])], [], [])]
set_option maxRecDepth 100000 in
theorem sz_sd493_1 : sy_seg sz_E (pv_T (sz_own true) sz_T) sz_RU [] sz_cd493 sz_ud493 ri_m_X1_setFor 72 (some ((4, [(0, (3, .inr 27, .inl 0)), (1, (0, .inr 0, .inl 0)), (2, (0, .inr 1, .inl 0)), (3, (0, .inr 2, .inl 0)), (4, (0, .inr 3, .inl 0))], ([(1, 3), (0, 2), (0, 2), ((-2147483648), 2147483647)], []), [], [], [(3, []), ((-1), [3])]))) sz_hd493_1 = true := by decide +kernel
theorem sz_okd493 (xs : Nat → Value) (L : Nat) : sy_Cok (sz_env xs L) (pv_T (sz_own true) sz_T) sz_RU sz_cd493 := sy_chk_ok (CT := []) (CU := sz_ud493) (M := ri_m_X1_setFor) (fun _ h => absurd h List.not_mem_nil) rfl rfl ⟨_, _, sz_sd493_0⟩ (List.forall_mem_cons.mpr ⟨⟨_, _, sz_sd493_1⟩, fun _ h => absurd h List.not_mem_nil⟩)

/-! X2_keepI  -/
set_option maxRecDepth 100000 in
noncomputable def sz_cd494 : sy_Ct := (235, 1, 25, [(3, .inr 22, .inl 0), (1, .inr 0, .inl 0)], ([((-9223372036854775808), 9223372036854775807)], []), [], [], [(22, 8, 8)], [(.inl none, 0, 0, ([((-9223372036854775808), 9223372036854775807)], []), [], [])])
set_option maxRecDepth 100000 in
noncomputable def sz_ud494 : List sy_Cut := []
set_option maxRecDepth 100000 in
noncomputable def sz_hd494_0 : List sy_Hn := [(0, 31, 0, 0, 0, 0, [], [], []),
  (0, 31, 0, 0, 0, 0, [], [], []),
  (0, 31, 0, 0, 0, 0, [], [], [])]
set_option maxRecDepth 100000 in
theorem sz_sd494_0 : sy_seg sz_E (pv_T (sz_own true) sz_T) sz_RU [] sz_cd494 sz_ud494 ri_m_X2_keepI 35 none sz_hd494_0 = true := by decide +kernel
theorem sz_okd494 (xs : Nat → Value) (L : Nat) : sy_Cok (sz_env xs L) (pv_T (sz_own true) sz_T) sz_RU sz_cd494 := sy_chk_ok (CT := []) (CU := sz_ud494) (M := ri_m_X2_keepI) (fun _ h => absurd h List.not_mem_nil) rfl rfl ⟨_, _, sz_sd494_0⟩ (fun _ h => absurd h List.not_mem_nil)

/-! X2_chooseSet  -/
set_option maxRecDepth 100000 in
noncomputable def sz_cd495 : sy_Ct := (276, 2, 47, [(3, .inr 22, .inl 0)], ([], []), [], [], [(22, 8, 8), (22, 11, 11)], [(.inl (some (0, .inr 0, .inl 0)), 0, 0, ([(0, 1)], []), [], [])])
set_option maxRecDepth 100000 in
noncomputable def sz_ud495 : List sy_Cut := []
set_option maxRecDepth 100000 in
noncomputable def sz_hd495_0 : List sy_Hn := [(13, 20, 0, 0, 0, 0, [], [], []),
  (98, 20, 1, 0, 0, 0, [], [], []),
  (0, 31, 0, 0, 0, 0, [], [], []),
  (93, 20, 1, 0, 0, 0, [], [], []),
  (0, 31, 0, 0, 0, 0, [], [], []),
  (0, 31, 0, 0, 0, 0, [], [], [])]
set_option maxRecDepth 100000 in
theorem sz_sd495_0 : sy_seg sz_E (pv_T (sz_own true) sz_T) sz_RU [sz_cd493, sz_cd494] sz_cd495 sz_ud495 ri_m_X2_chooseSet 227 none sz_hd495_0 = true := by decide +kernel
theorem sz_okd495 (xs : Nat → Value) (L : Nat) : sy_Cok (sz_env xs L) (pv_T (sz_own true) sz_T) sz_RU sz_cd495 := sy_chk_ok (CT := [sz_cd493, sz_cd494]) (CU := sz_ud495) (M := ri_m_X2_chooseSet) (List.forall_mem_cons.mpr ⟨sz_okd493 xs L, List.forall_mem_cons.mpr ⟨sz_okd494 xs L, fun _ h => absurd h List.not_mem_nil⟩⟩) rfl rfl ⟨_, _, sz_sd495_0⟩ (fun _ h => absurd h List.not_mem_nil)

/-! X2_filterRate  -/
set_option maxRecDepth 100000 in
noncomputable def sz_cd496 : sy_Ct := (277, 1, 20, [(3, .inr 22, .inl 0)], ([], []), [], [], [(22, 9, 10)], [(.inl none, 0, 0, ([], []), [], [])])
set_option maxRecDepth 100000 in
noncomputable def sz_ud496 : List sy_Cut := []
set_option maxRecDepth 100000 in
noncomputable def sz_hd496_0 : List sy_Hn := [(0, 31, 0, 0, 0, 0, [], [], [])]
set_option maxRecDepth 100000 in
theorem sz_sd496_0 : sy_seg sz_E (pv_T (sz_own true) sz_T) sz_RU [] sz_cd496 sz_ud496 ri_m_X2_filterRate 47 none sz_hd496_0 = true := by decide +kernel
theorem sz_okd496 (xs : Nat → Value) (L : Nat) : sy_Cok (sz_env xs L) (pv_T (sz_own true) sz_T) sz_RU sz_cd496 := sy_chk_ok (CT := []) (CU := sz_ud496) (M := ri_m_X2_filterRate) (fun _ h => absurd h List.not_mem_nil) rfl rfl ⟨_, _, sz_sd496_0⟩ (fun _ h => absurd h List.not_mem_nil)

/-! X0_takeSp  -/
set_option maxRecDepth 100000 in
noncomputable def sz_cd497 : sy_Ct := (232, 0, 0, [(3, .inr 2, .inl 0), (3, .inr 22, .inl 0)], ([], []), [], [], [(22, 6, 6)], [(.inl none, 0, 0, ([], []), [], [])])
set_option maxRecDepth 100000 in
noncomputable def sz_ud497 : List sy_Cut := []
set_option maxRecDepth 100000 in
noncomputable def sz_hd497_0 : List sy_Hn := [(0, 31, 0, 0, 0, 0, [], [], []),
  (5, 1, 0, 0, 0, 0, [], [], []),
  (0, 31, 0, 0, 0, 0, [], [], []),
  (0, 1, 0, 0, 1, 0, [], [], []),
  (0, 31, 0, 0, 0, 0, [], [], []),
  (0, 1, 0, 0, 2, 0, [], [], []),
  (0, 31, 0, 0, 0, 0, [], [], []),
  (0, 31, 0, 0, 0, 0, [], [], [])]
set_option maxRecDepth 100000 in
theorem sz_sd497_0 : sy_seg sz_E (pv_T (sz_own true) sz_T) sz_RU [] sz_cd497 sz_ud497 ri_m_X0_takeSp 42 none sz_hd497_0 = true := by decide +kernel
theorem sz_okd497 (xs : Nat → Value) (L : Nat) : sy_Cok (sz_env xs L) (pv_T (sz_own true) sz_T) sz_RU sz_cd497 := sy_chk_ok (CT := []) (CU := sz_ud497) (M := ri_m_X0_takeSp) (fun _ h => absurd h List.not_mem_nil) rfl rfl ⟨_, _, sz_sd497_0⟩ (fun _ h => absurd h List.not_mem_nil)

/-! X0_measure  -/
set_option maxRecDepth 100000 in
noncomputable def sz_cd498 : sy_Ct := (222, 3, 68, [(3, .inr 2, .inl 0), (0, .inl 1, .inl 0)], ([], []), [], [], [(6, 2, 2), (7, 0, 239), (22, 6, 6), (22, 8, 11)], [(.inl none, 0, 0, ([], []), [], [])])
set_option maxRecDepth 100000 in
noncomputable def sz_ud498 : List sy_Cut := []
set_option maxRecDepth 100000 in
noncomputable def sz_hd498_0 : List sy_Hn := [(11, 20, 1, 0, 0, 0, [], [], []),
  (3, 20, 2, 0, 0, 0, [], [], []),
  (0, 31, 0, 0, 0, 0, [], [], []),
  (9, 20, 0, 0, 0, 0, [], [], []),
  (2, 20, 2, 0, 0, 0, [], [], []),
  (0, 31, 0, 0, 0, 0, [], [], []),
  (2, 20, 1, 0, 0, 0, [], [], []),
  (3, 20, 2, 0, 0, 0, [], [], []),
  (0, 31, 0, 0, 0, 0, [], [], []),
  (9, 20, 0, 0, 0, 0, [], [], []),
  (2, 20, 2, 0, 0, 0, [], [], []),
  (0, 31, 0, 0, 0, 0, [], [], []),
  (3, 20, 3, 0, 0, 0, [], [], []),
  (2, 20, 1, 0, 0, 0, [], [], []),
  (3, 20, 2, 0, 0, 0, [], [], []),
  (0, 31, 0, 0, 0, 0, [], [], []),
  (9, 20, 0, 0, 0, 0, [], [], []),
  (2, 20, 2, 0, 0, 0, [], [], []),
  (0, 31, 0, 0, 0, 0, [], [], [])]
set_option maxRecDepth 100000 in
theorem sz_sd498_0 : sy_seg sz_E (pv_T (sz_own true) sz_T) sz_RU [sz_cd470, sz_cd495, sz_cd496, sz_cd497] sz_cd498 sz_ud498 ri_m_X0_measure 90 none sz_hd498_0 = true := by decide +kernel
theorem sz_okd498 (xs : Nat → Value) (L : Nat) : sy_Cok (sz_env xs L) (pv_T (sz_own true) sz_T) sz_RU sz_cd498 := sy_chk_ok (CT := [sz_cd470, sz_cd495, sz_cd496, sz_cd497]) (CU := sz_ud498) (M := ri_m_X0_measure) (List.forall_mem_cons.mpr ⟨sz_okd470 xs L, List.forall_mem_cons.mpr ⟨sz_okd495 xs L, List.forall_mem_cons.mpr ⟨sz_okd496 xs L, List.forall_mem_cons.mpr ⟨sz_okd497 xs L, fun _ h => absurd h List.not_mem_nil⟩⟩⟩⟩) rfl rfl ⟨_, _, sz_sd498_0⟩ (fun _ h => absurd h List.not_mem_nil)

/-! X0_leads  -/
set_option maxRecDepth 100000 in
noncomputable def sz_cd499 : sy_Ct := (287, 0, 0, [(3, .inr 2, .inl 0), (0, .inl 1, .inl 0)], ([], []), [], [], [], [(.inl (some (0, .inr 0, .inl 0)), 0, 0, ([(0, 1)], []), [], [])])
set_option maxRecDepth 100000 in
noncomputable def sz_ud499 : List sy_Cut := [(4, [(0, (3, .inr 2, .inl 0)), (1, (0, .inl 1, .inl 0)), (2, (0, .inr 0, .inl 0))], ([(2, 4)], []), [], [], [(4, []), ((-1), [0])])]
set_option maxRecDepth 100000 in
noncomputable def sz_hd499_0 : List sy_Hn := [(0, 30, 0, 0, 0, 0, [([], [(1, [0])]), ([], [])], [], [])]
set_option maxRecDepth 100000 in
theorem sz_sd499_0 : sy_seg sz_E (pv_T (sz_own true) sz_T) sz_RU [] sz_cd499 sz_ud499 ri_m_X0_leads 11 none sz_hd499_0 = true := by decide +kernel
set_option maxRecDepth 100000 in
noncomputable def sz_hd499_1 : List sy_Hn := [(0, 31, 0, 0, 0, 0, [], [], []),
  (3, 1, 0, 0, 2, 0, [], [], []),
  (0, 30, 0, 0, 0, 0, [([], [(1, [0])]), ([0], [(1, [0]), (1, [2])])], [], []),
  (0, 30, 0, 0, 0, 0, [([], [(1, [0])]), ([0], [(1, [0]), (1, [2])])], [], []),
  (0, 30, 0, 0, 0, 0, [([], [(1, [0])]), ([0], [(1, [0]), (1, [2])])], [], []),
  (0, 30, 0, 0, 0, 0, [([], [(1, [0])]), ([0], [(1, [0]), (1, [2])])], [], []),
  (0, 31, 0, 0, 0, 0, [], [], []),
  (0, 30, 0, 0, 0, 0, [([], [(1, [0])]), ([0], [(1, [0]), (1, [2])])], [], []),
  (0, 30, 0, 0, 0, 0, [([], [(1, [0])]), ([0], [(1, [0]), (1, [2])])], [], []),
  (0, 30, 0, 0, 0, 0, [([], [(1, [0])]), ([0], [(1, [0]), (1, [2])])], [], []),
  (0, 30, 0, 0, 0, 0, [([], [(1, [0])]), ([0], [(1, [0]), (1, [2])])], [], []),
  (0, 31, 0, 0, 0, 0, [], [], [])]
set_option maxRecDepth 100000 in
theorem sz_sd499_1 : sy_seg sz_E (pv_T (sz_own true) sz_T) sz_RU [] sz_cd499 sz_ud499 ri_m_X0_leads 77 (some ((4, [(0, (3, .inr 2, .inl 0)), (1, (0, .inl 1, .inl 0)), (2, (0, .inr 0, .inl 0))], ([(2, 4)], []), [], [], [(4, []), ((-1), [0])]))) sz_hd499_1 = true := by decide +kernel
theorem sz_okd499 (xs : Nat → Value) (L : Nat) : sy_Cok (sz_env xs L) (pv_T (sz_own true) sz_T) sz_RU sz_cd499 := sy_chk_ok (CT := []) (CU := sz_ud499) (M := ri_m_X0_leads) (fun _ h => absurd h List.not_mem_nil) rfl rfl ⟨_, _, sz_sd499_0⟩ (List.forall_mem_cons.mpr ⟨⟨_, _, sz_sd499_1⟩, fun _ h => absurd h List.not_mem_nil⟩)

/-! X0_followedOf  -/
set_option maxRecDepth 100000 in
noncomputable def sz_cd500 : sy_Ct := (252, 1, 22, [(3, .inr 2, .inl 0), (0, .inl 1, .inl 0)], ([], []), [], [], [], [(.inl (some (0, .inr 0, .inl 0)), 0, 0, ([((-1), 3)], []), [], [])])
set_option maxRecDepth 100000 in
noncomputable def sz_ud500 : List sy_Cut := []
set_option maxRecDepth 100000 in
noncomputable def sz_hd500_0 : List sy_Hn := [(12, 20, 1, 0, 0, 0, [], [], []),
  (0, 31, 0, 0, 0, 0, [], [], []),
  (3, 20, 0, 0, 0, 0, [], [], []),
  (0, 31, 0, 0, 0, 0, [], [], []),
  (0, 31, 0, 0, 0, 0, [], [], []),
  (0, 31, 0, 0, 0, 0, [], [], []),
  (3, 20, 1, 0, 0, 0, [], [], []),
  (0, 31, 0, 0, 0, 0, [], [], []),
  (3, 20, 0, 0, 0, 0, [], [], []),
  (0, 31, 0, 0, 0, 0, [], [], [])]
set_option maxRecDepth 100000 in
theorem sz_sd500_0 : sy_seg sz_E (pv_T (sz_own true) sz_T) sz_RU [sz_cd492, sz_cd499] sz_cd500 sz_ud500 ri_m_X0_followedOf 56 none sz_hd500_0 = true := by decide +kernel
theorem sz_okd500 (xs : Nat → Value) (L : Nat) : sy_Cok (sz_env xs L) (pv_T (sz_own true) sz_T) sz_RU sz_cd500 := sy_chk_ok (CT := [sz_cd492, sz_cd499]) (CU := sz_ud500) (M := ri_m_X0_followedOf) (List.forall_mem_cons.mpr ⟨sz_okd492 xs L, List.forall_mem_cons.mpr ⟨sz_okd499 xs L, fun _ h => absurd h List.not_mem_nil⟩⟩) rfl rfl ⟨_, _, sz_sd500_0⟩ (fun _ h => absurd h List.not_mem_nil)

/-! X0_heldAt  -/
set_option maxRecDepth 100000 in
noncomputable def sz_cd501 : sy_Ct := (305, 0, 0, [(3, .inr 2, .inl 0), (0, .inl 1, .inl 0), (0, .inl (-1), .inl 0)], ([], []), [], [], [], [(.inl (some (0, .inr 0, .inl 0)), 0, 0, ([(0, 1)], []), [], [])])
set_option maxRecDepth 100000 in
noncomputable def sz_ud501 : List sy_Cut := [(4, [(0, (3, .inr 2, .inl 0)), (1, (0, .inl 1, .inl 0)), (2, (0, .inl (-1), .inl 0)), (3, (0, .inr 0, .inl 0))], ([(2, 4)], []), [], [], [(4, []), ((-1), [0])])]
set_option maxRecDepth 100000 in
noncomputable def sz_hd501_0 : List sy_Hn := [(0, 30, 0, 0, 0, 0, [([], [(1, [0])]), ([], [])], [], [])]
set_option maxRecDepth 100000 in
theorem sz_sd501_0 : sy_seg sz_E (pv_T (sz_own true) sz_T) sz_RU [] sz_cd501 sz_ud501 ri_m_X0_heldAt 11 none sz_hd501_0 = true := by decide +kernel
set_option maxRecDepth 100000 in
noncomputable def sz_hd501_1 : List sy_Hn := [(0, 31, 0, 0, 0, 0, [], [], []),
  (3, 1, 0, 0, 2, 0, [], [], []),
  (0, 30, 0, 0, 0, 0, [([], [(1, [0])]), ([0], [(1, [0]), (1, [2])])], [], []),
  (0, 30, 0, 0, 0, 0, [([], [(1, [0])]), ([0], [(1, [0]), (1, [2])])], [], []),
  (0, 30, 0, 0, 0, 0, [([], [(1, [0])]), ([0], [(1, [0]), (1, [2])])], [], []),
  (0, 30, 0, 0, 0, 0, [([], [(1, [0])]), ([0], [(1, [0]), (1, [2])])], [], []),
  (0, 30, 0, 0, 0, 0, [([], [(1, [0])]), ([0], [(1, [0]), (1, [2])])], [], []),
  (0, 31, 0, 0, 0, 0, [], [], []),
  (0, 30, 0, 0, 0, 0, [([], [(1, [0])]), ([0], [(1, [0]), (1, [2])])], [], []),
  (0, 30, 0, 0, 0, 0, [([], [(1, [0])]), ([0], [(1, [0]), (1, [2])])], [], []),
  (0, 30, 0, 0, 0, 0, [([], [(1, [0])]), ([0], [(1, [0]), (1, [2])])], [], []),
  (0, 30, 0, 0, 0, 0, [([], [(1, [0])]), ([0], [(1, [0]), (1, [2])])], [], []),
  (0, 30, 0, 0, 0, 0, [([], [(1, [0])]), ([0], [(1, [0]), (1, [2])])], [], []),
  (0, 31, 0, 0, 0, 0, [], [], [])]
set_option maxRecDepth 100000 in
theorem sz_sd501_1 : sy_seg sz_E (pv_T (sz_own true) sz_T) sz_RU [] sz_cd501 sz_ud501 ri_m_X0_heldAt 91 (some ((4, [(0, (3, .inr 2, .inl 0)), (1, (0, .inl 1, .inl 0)), (2, (0, .inl (-1), .inl 0)), (3, (0, .inr 0, .inl 0))], ([(2, 4)], []), [], [], [(4, []), ((-1), [0])]))) sz_hd501_1 = true := by decide +kernel
theorem sz_okd501 (xs : Nat → Value) (L : Nat) : sy_Cok (sz_env xs L) (pv_T (sz_own true) sz_T) sz_RU sz_cd501 := sy_chk_ok (CT := []) (CU := sz_ud501) (M := ri_m_X0_heldAt) (fun _ h => absurd h List.not_mem_nil) rfl rfl ⟨_, _, sz_sd501_0⟩ (List.forall_mem_cons.mpr ⟨⟨_, _, sz_sd501_1⟩, fun _ h => absurd h List.not_mem_nil⟩)

/-! X0_heldAt  -/
set_option maxRecDepth 100000 in
noncomputable def sz_cd502 : sy_Ct := (305, 0, 0, [(3, .inr 2, .inl 0), (0, .inl 1, .inl 0), (0, .inl 1, .inl 0)], ([], []), [], [], [], [(.inl (some (0, .inr 0, .inl 0)), 0, 0, ([(0, 1)], []), [], [])])
set_option maxRecDepth 100000 in
noncomputable def sz_ud502 : List sy_Cut := [(4, [(0, (3, .inr 2, .inl 0)), (1, (0, .inl 1, .inl 0)), (2, (0, .inl 1, .inl 0)), (3, (0, .inr 0, .inl 0))], ([(2, 4)], []), [], [], [(4, []), ((-1), [0])])]
set_option maxRecDepth 100000 in
noncomputable def sz_hd502_0 : List sy_Hn := [(0, 30, 0, 0, 0, 0, [([], [(1, [0])]), ([], [])], [], [])]
set_option maxRecDepth 100000 in
theorem sz_sd502_0 : sy_seg sz_E (pv_T (sz_own true) sz_T) sz_RU [] sz_cd502 sz_ud502 ri_m_X0_heldAt 11 none sz_hd502_0 = true := by decide +kernel
set_option maxRecDepth 100000 in
noncomputable def sz_hd502_1 : List sy_Hn := [(0, 31, 0, 0, 0, 0, [], [], []),
  (3, 1, 0, 0, 2, 0, [], [], []),
  (0, 30, 0, 0, 0, 0, [([], [(1, [0])]), ([0], [(1, [0]), (1, [2])])], [], []),
  (0, 30, 0, 0, 0, 0, [([], [(1, [0])]), ([0], [(1, [0]), (1, [2])])], [], []),
  (0, 30, 0, 0, 0, 0, [([], [(1, [0])]), ([0], [(1, [0]), (1, [2])])], [], []),
  (0, 30, 0, 0, 0, 0, [([], [(1, [0])]), ([0], [(1, [0]), (1, [2])])], [], []),
  (0, 30, 0, 0, 0, 0, [([], [(1, [0])]), ([0], [(1, [0]), (1, [2])])], [], []),
  (0, 31, 0, 0, 0, 0, [], [], []),
  (0, 30, 0, 0, 0, 0, [([], [(1, [0])]), ([0], [(1, [0]), (1, [2])])], [], []),
  (0, 30, 0, 0, 0, 0, [([], [(1, [0])]), ([0], [(1, [0]), (1, [2])])], [], []),
  (0, 30, 0, 0, 0, 0, [([], [(1, [0])]), ([0], [(1, [0]), (1, [2])])], [], []),
  (0, 30, 0, 0, 0, 0, [([], [(1, [0])]), ([0], [(1, [0]), (1, [2])])], [], []),
  (0, 30, 0, 0, 0, 0, [([], [(1, [0])]), ([0], [(1, [0]), (1, [2])])], [], []),
  (0, 31, 0, 0, 0, 0, [], [], [])]
set_option maxRecDepth 100000 in
theorem sz_sd502_1 : sy_seg sz_E (pv_T (sz_own true) sz_T) sz_RU [] sz_cd502 sz_ud502 ri_m_X0_heldAt 91 (some ((4, [(0, (3, .inr 2, .inl 0)), (1, (0, .inl 1, .inl 0)), (2, (0, .inl 1, .inl 0)), (3, (0, .inr 0, .inl 0))], ([(2, 4)], []), [], [], [(4, []), ((-1), [0])]))) sz_hd502_1 = true := by decide +kernel
theorem sz_okd502 (xs : Nat → Value) (L : Nat) : sy_Cok (sz_env xs L) (pv_T (sz_own true) sz_T) sz_RU sz_cd502 := sy_chk_ok (CT := []) (CU := sz_ud502) (M := ri_m_X0_heldAt) (fun _ h => absurd h List.not_mem_nil) rfl rfl ⟨_, _, sz_sd502_0⟩ (List.forall_mem_cons.mpr ⟨⟨_, _, sz_sd502_1⟩, fun _ h => absurd h List.not_mem_nil⟩)

/-! X0_rule  -/
set_option maxRecDepth 100000 in
noncomputable def sz_cd503 : sy_Ct := (278, 2, 47, [(3, .inr 2, .inl 0), (0, .inl 1, .inl 0)], ([], []), [], [], [(8, 1, 1), (22, 7, 8), (22, 12, 12)], [(.inl none, 0, 0, ([], []), [], [])])
set_option maxRecDepth 100000 in
noncomputable def sz_ud503 : List sy_Cut := [(29, [(0, (3, .inr 2, .inl 0)), (1, (0, .inl 1, .inl 0)), (2, (3, .inr 22, .inl 0)), (3, (1, .inr 0, .inl 0)), (5, (1, .inr 1, .inl 0))], ([((-140737488355328), 140737488355327), ((-9223372036854775808), 9223372036854775807)], []), [], [], [(3, [])]), (50, [(0, (3, .inr 2, .inl 0)), (1, (0, .inl 1, .inl 0)), (2, (3, .inr 22, .inl 0)), (3, (1, .inr 0, .inl 0)), (5, (1, .inr 1, .inl 0))], ([((-140737488355328), 140737488355327), ((-9223372036854775808), 9223372036854775807)], []), [], [], [(2, [])]), (79, [(0, (3, .inr 2, .inl 0)), (1, (0, .inl 1, .inl 0)), (2, (3, .inr 22, .inl 0)), (3, (1, .inr 0, .inl 0)), (5, (1, .inr 1, .inl 0)), (7, (1, .inr 2, .inl 0))], ([((-9223372036854775808), 9223372036854775807), ((-140737488355328), 140737488355327), ((-9223372036854775808), 9223372036854775807)], []), [], [], [(1, [])]), (100, [(0, (3, .inr 2, .inl 0)), (1, (0, .inl 1, .inl 0)), (2, (3, .inr 22, .inl 0)), (3, (1, .inr 0, .inl 0)), (5, (1, .inr 1, .inl 0)), (7, (1, .inr 2, .inl 0))], ([((-9223372036854775808), 9223372036854775807), ((-140737488355328), 140737488355327), ((-9223372036854775808), 9223372036854775807)], []), [], [], [(0, [])])]
set_option maxRecDepth 100000 in
noncomputable def sz_hd503_0 : List sy_Hn := [(95, 6, 476, 0, 0, 0, [([], [(1, [0]), (1, [2])]), ([], [(1, [0]), (1, [1])])], [], [1, 1]),
  (0, 30, 0, 0, 0, 0, [([], [(1, [0])]), ([], [])], [], []),
  (6, 5, 474, 0, 0, 0, [], [], []),
  (0, 6, 476, 0, 0, 0, [([], [(1, [0]), (1, [1])]), ([], [(1, [0]), (1, [1])])], [], [0, 0]),
  (0, 30, 0, 0, 0, 0, [([], [(1, [0])]), ([], [])], [], []),
  (0, 6, 476, 0, 0, 0, [([], [(1, [0]), (1, [1])]), ([], [(1, [0])])], [], [1, 1]),
  (0, 30, 0, 0, 0, 0, [([], [(1, [0])]), ([], [])], [], []),
  (6, 5, 474, 0, 0, 0, [], [], []),
  (0, 6, 476, 0, 0, 0, [([], [(1, [0]), (1, [1])]), ([], [(1, [0]), (1, [1])])], [], [0, 0]),
  (0, 30, 0, 0, 0, 0, [([], [(1, [0])]), ([], [])], [], []),
  (0, 6, 476, 0, 0, 0, [([], [(1, [0])]), ([], [(1, [0]), (1, [1])])], [], [1, 1]),
  (0, 30, 0, 0, 0, 0, [([], [(1, [0])]), ([], [])], [], []),
  (31, 6, 476, 0, 0, 0, [([], [(1, [0]), (1, [2])]), ([], [(1, [0]), (1, [1])])], [], [1, 1]),
  (0, 30, 0, 0, 0, 0, [([], [(1, [0])]), ([], [])], [], []),
  (6, 5, 474, 0, 0, 0, [], [], []),
  (0, 6, 476, 0, 0, 0, [([], [(1, [0]), (1, [1])]), ([], [(1, [0]), (1, [1])])], [], [0, 0]),
  (0, 30, 0, 0, 0, 0, [([], [(1, [0])]), ([], [])], [], []),
  (0, 6, 476, 0, 0, 0, [([], [(1, [0]), (1, [1])]), ([], [(1, [0])])], [], [1, 1]),
  (0, 30, 0, 0, 0, 0, [([], [(1, [0])]), ([], [])], [], []),
  (6, 5, 474, 0, 0, 0, [], [], []),
  (0, 6, 476, 0, 0, 0, [([], [(1, [0]), (1, [1])]), ([], [(1, [0]), (1, [1])])], [], [0, 0]),
  (0, 30, 0, 0, 0, 0, [([], [(1, [0])]), ([], [])], [], []),
  (0, 6, 476, 0, 0, 0, [([], [(1, [0])]), ([], [(1, [0]), (1, [1])])], [], [1, 1]),
  (0, 30, 0, 0, 0, 0, [([], [(1, [0])]), ([], [])], [], [])]
set_option maxRecDepth 100000 in
theorem sz_sd503_0 : sy_seg sz_E (pv_T (sz_own true) sz_T) sz_RU [sz_cd494, sz_cd501, sz_cd502] sz_cd503 sz_ud503 ri_m_X0_rule 193 none sz_hd503_0 = true := by decide +kernel
set_option maxRecDepth 100000 in
noncomputable def sz_hd503_1 : List sy_Hn := [(0, 30, 0, 0, 0, 0, [([], [(1, [0])]), ([], [(1, [0])])], [], []),
  (0, 30, 0, 0, 0, 0, [([], [(1, [0])]), ([], [(1, [0])])], [], []),
  (0, 30, 0, 0, 0, 0, [([], [(1, [0])]), ([], [(1, [0])])], [], [])]
set_option maxRecDepth 100000 in
theorem sz_sd503_1 : sy_seg sz_E (pv_T (sz_own true) sz_T) sz_RU [sz_cd494, sz_cd501, sz_cd502] sz_cd503 sz_ud503 ri_m_X0_rule 34 (some ((29, [(0, (3, .inr 2, .inl 0)), (1, (0, .inl 1, .inl 0)), (2, (3, .inr 22, .inl 0)), (3, (1, .inr 0, .inl 0)), (5, (1, .inr 1, .inl 0))], ([((-140737488355328), 140737488355327), ((-9223372036854775808), 9223372036854775807)], []), [], [], [(3, [])]))) sz_hd503_1 = true := by decide +kernel
set_option maxRecDepth 100000 in
noncomputable def sz_hd503_2 : List sy_Hn := [(0, 30, 0, 0, 0, 0, [([], [(1, [0])]), ([], [(1, [0])])], [], [])]
set_option maxRecDepth 100000 in
theorem sz_sd503_2 : sy_seg sz_E (pv_T (sz_own true) sz_T) sz_RU [sz_cd494, sz_cd501, sz_cd502] sz_cd503 sz_ud503 ri_m_X0_rule 41 (some ((50, [(0, (3, .inr 2, .inl 0)), (1, (0, .inl 1, .inl 0)), (2, (3, .inr 22, .inl 0)), (3, (1, .inr 0, .inl 0)), (5, (1, .inr 1, .inl 0))], ([((-140737488355328), 140737488355327), ((-9223372036854775808), 9223372036854775807)], []), [], [], [(2, [])]))) sz_hd503_2 = true := by decide +kernel
set_option maxRecDepth 100000 in
noncomputable def sz_hd503_3 : List sy_Hn := [(0, 30, 0, 0, 0, 0, [([], [(1, [0])]), ([], [(1, [0])])], [], []),
  (8, 20, 1, 0, 0, 0, [], [], []),
  (0, 30, 0, 0, 0, 0, [([], [(1, [0])]), ([], [(1, [0])])], [], []),
  (6, 20, 0, 0, 0, 0, [], [], []),
  (0, 30, 0, 0, 0, 0, [([], [(1, [0])]), ([], [(1, [0])])], [], []),
  (3, 20, 2, 0, 0, 0, [], [], []),
  (0, 30, 0, 0, 0, 0, [([], [(1, [0])]), ([], [(1, [0])])], [], []),
  (6, 20, 0, 0, 0, 0, [], [], []),
  (0, 30, 0, 0, 0, 0, [([], [(1, [0])]), ([], [(1, [0])])], [], [])]
set_option maxRecDepth 100000 in
theorem sz_sd503_3 : sy_seg sz_E (pv_T (sz_own true) sz_T) sz_RU [sz_cd494, sz_cd501, sz_cd502] sz_cd503 sz_ud503 ri_m_X0_rule 48 (some ((79, [(0, (3, .inr 2, .inl 0)), (1, (0, .inl 1, .inl 0)), (2, (3, .inr 22, .inl 0)), (3, (1, .inr 0, .inl 0)), (5, (1, .inr 1, .inl 0)), (7, (1, .inr 2, .inl 0))], ([((-9223372036854775808), 9223372036854775807), ((-140737488355328), 140737488355327), ((-9223372036854775808), 9223372036854775807)], []), [], [], [(1, [])]))) sz_hd503_3 = true := by decide +kernel
set_option maxRecDepth 100000 in
noncomputable def sz_hd503_4 : List sy_Hn := [(0, 31, 0, 0, 0, 0, [], [], [])]
set_option maxRecDepth 100000 in
theorem sz_sd503_4 : sy_seg sz_E (pv_T (sz_own true) sz_T) sz_RU [sz_cd494, sz_cd501, sz_cd502] sz_cd503 sz_ud503 ri_m_X0_rule 7 (some ((100, [(0, (3, .inr 2, .inl 0)), (1, (0, .inl 1, .inl 0)), (2, (3, .inr 22, .inl 0)), (3, (1, .inr 0, .inl 0)), (5, (1, .inr 1, .inl 0)), (7, (1, .inr 2, .inl 0))], ([((-9223372036854775808), 9223372036854775807), ((-140737488355328), 140737488355327), ((-9223372036854775808), 9223372036854775807)], []), [], [], [(0, [])]))) sz_hd503_4 = true := by decide +kernel
theorem sz_okd503 (xs : Nat → Value) (L : Nat) : sy_Cok (sz_env xs L) (pv_T (sz_own true) sz_T) sz_RU sz_cd503 := sy_chk_ok (CT := [sz_cd494, sz_cd501, sz_cd502]) (CU := sz_ud503) (M := ri_m_X0_rule) (List.forall_mem_cons.mpr ⟨sz_okd494 xs L, List.forall_mem_cons.mpr ⟨sz_okd501 xs L, List.forall_mem_cons.mpr ⟨sz_okd502 xs L, fun _ h => absurd h List.not_mem_nil⟩⟩⟩) rfl rfl ⟨_, _, sz_sd503_0⟩ (List.forall_mem_cons.mpr ⟨⟨_, _, sz_sd503_1⟩, List.forall_mem_cons.mpr ⟨⟨_, _, sz_sd503_2⟩, List.forall_mem_cons.mpr ⟨⟨_, _, sz_sd503_3⟩, List.forall_mem_cons.mpr ⟨⟨_, _, sz_sd503_4⟩, fun _ h => absurd h List.not_mem_nil⟩⟩⟩⟩)

/-! X2_relayEnds  -/
set_option maxRecDepth 100000 in
noncomputable def sz_cd504 : sy_Ct := (280, 2, 45, [(3, .inr 22, .inl 0)], ([], []), [((22, 5), (0, .inl 3, .inl 0))], [], [(22, 5, 5), (22, 7, 7), (22, 17, 18), (32, 3, 8)], [(.inl (some (0, .inr 0, .inl 0)), 0, 0, ([(0, 1)], []), [], [])])
set_option maxRecDepth 100000 in
noncomputable def sz_ud504 : List sy_Cut := []
set_option maxRecDepth 100000 in
noncomputable def sz_hd504_0_0 : List sy_Hn := [(22, 20, 0, 0, 0, 0, [], [], []),
  (6, 20, 1, 0, 0, 0, [], [], []),
  (6, 4, 32, 6, 0, 0, [], [], []),
  (0, 5, 478, 0, 0, 0, [], [], []),
  (0, 7, 0, 0, 0, 0, [([], [(1, [0])])], [], []),
  (0, 3, 9, 0, 1, 240, [([9], [(1, [0]), (1, [1])]), ([], [(1, [0]), (1, [3]), (1, [1])])], [], []),
  (0, 5, 478, 1, 0, 0, [], [], []),
  (0, 7, 0, 0, 0, 0, [([], [(1, [0])])], [], []),
  (6, 3, 11, 0, 1, 240, [([11], [(1, [0]), (1, [1])]), ([], [(1, [0]), (1, [2]), (1, [3]), (1, [4])])], [], []),
  (39, 4, 25, 0, 0, 0, [], [], []),
  (0, 4, 25, 1, 0, 0, [], [], []),
  (0, 5, 474, 0, 0, 0, [], [], []),
  (0, 6, 476, 0, 0, 0, [([], [(1, [0]), (1, [1])]), ([], [(1, [0]), (1, [1])])], [], [0, 0]),
  (0, 6, 478, 0, 0, 0, [([9], [(1, [0]), (1, [2])]), ([], [(1, [0]), (1, [8]), (1, [6]), (1, [5])])], [], [1, 1]),
  (0, 31, 0, 0, 0, 0, [], [], []),
  (0, 4, 25, 3, 0, 0, [], [], []),
  (0, 5, 475, 0, 0, 0, [], [], []),
  (0, 6, 476, 0, 0, 0, [([], [(1, [0]), (1, [1])]), ([], [(1, [0]), (1, [1])])], [], [0, 0]),
  (0, 6, 478, 0, 0, 0, [([9], [(1, [0]), (1, [2])]), ([], [(1, [0]), (1, [9]), (1, [7]), (1, [6])])], [], [1, 1]),
  (0, 31, 0, 0, 0, 0, [], [], []),
  (0, 5, 475, 1, 0, 0, [], [], []),
  (0, 6, 476, 0, 0, 0, [([], [(1, [0]), (1, [1])]), ([], [(1, [0]), (1, [1])])], [], [0, 0]),
  (0, 6, 478, 0, 0, 0, [([9], [(1, [0]), (1, [2])]), ([], [(1, [0]), (1, [10]), (1, [8]), (1, [7])])], [], [1, 1]),
  (0, 31, 0, 0, 0, 0, [], [], []),
  (0, 5, 477, 0, 0, 0, [], [], []),
  (0, 7, 0, 0, 0, 0, [([], [(1, [0])])], [], []),
  (0, 5, 477, 1, 0, 0, [], [], []),
  (0, 7, 0, 0, 0, 0, [([], [(1, [0])])], [], []),
  (0, 6, 476, 0, 0, 0, [([14], [(1, [0]), (1, [8]), (1, [4]), (1, [1])]), ([14], [(1, [0]), (1, [9]), (1, [3]), (1, [1])])], [], [1, 1]),
  (0, 6, 478, 0, 0, 0, [([9], [(1, [0]), (1, [2])]), ([], [(1, [0]), (1, [12]), (1, [10]), (1, [9])])], [], [1, 1]),
  (0, 31, 0, 0, 0, 0, [], [], []),
  (11, 4, 25, 0, 0, 0, [], [], []),
  (0, 4, 25, 1, 0, 0, [], [], []),
  (0, 4, 32, 2, 0, 0, [], [], []),
  (0, 4, 32, 0, 0, 0, [], [], []),
  (0, 5, 477, 0, 0, 0, [], [], []),
  (0, 7, 0, 0, 0, 0, [([], [(1, [0])])], [], []),
  (0, 5, 477, 1, 0, 0, [], [], []),
  (0, 7, 0, 0, 0, 0, [([], [(1, [0])])], [], []),
  (8, 6, 476, 0, 0, 0, [([16], [(1, [0]), (1, [4]), (1, [1])]), ([16], [(1, [0]), (1, [3]), (1, [1])])], [], [1, 1]),
  (0, 6, 477, 0, 0, 0, [([], [(1, [0])]), ([], [(1, [0])])], [], [0, 0]),
  (0, 6, 478, 0, 0, 0, [([], [(1, [0])]), ([], [(1, [0])])], [], [0, 0]),
  (0, 31, 0, 0, 0, 0, [], [], []),
  (33, 4, 25, 0, 0, 0, [], [], []),
  (0, 4, 25, 1, 0, 0, [], [], []),
  (0, 5, 477, 0, 0, 0, [], [], []),
  (0, 7, 0, 0, 0, 0, [([], [(1, [0])])], [], []),
  (0, 5, 474, 0, 0, 0, [], [], []),
  (0, 4, 25, 3, 0, 0, [], [], []),
  (0, 5, 475, 0, 0, 0, [], [], []),
  (0, 5, 475, 1, 0, 0, [], [], []),
  (0, 4, 22, 7, 0, 0, [], [], []),
  (0, 5, 476, 0, 0, 0, [], [], []),
  (0, 5, 476, 1, 0, 0, [], [], []),
  (0, 5, 477, 1, 0, 0, [], [], []),
  (0, 7, 0, 0, 0, 0, [([], [(1, [0])])], [], []),
  (0, 3, 18, 0, (-9999), 9999, [([18], [(1, [0]), (1, [1])]), ([12, 15, 16, 17, 18, 19, 20], [(1, [0]), (999, [2]), (1, [14]), (1, [15]), (1, [23]), (1, [25]), (1, [1, 6])])], [], []),
  (2, 6, 476, 0, 0, 0, [([], [(1, [0]), (1, [2])]), ([], [(1, [0]), (1, [2])])], [], [0, 0]),
  (0, 6, 478, 0, 0, 0, [([9], [(1, [0]), (1, [2])]), ([], [(1, [0]), (1, [17]), (1, [15]), (1, [14])])], [], [1, 1]),
  (0, 31, 0, 0, 0, 0, [], [], []),
  (0, 5, 477, 1, 0, 0, [], [], []),
  (0, 7, 0, 0, 0, 0, [([], [(1, [0])])], [], []),
  (0, 3, 18, 0, (-9999), 9999, [([18], [(1, [0]), (1, [1])]), ([12, 15, 16, 17, 18, 19, 20], [(1, [0]), (999, [2]), (1, [14]), (1, [15]), (1, [23]), (1, [25]), (1, [1, 6])])], [], []),
  (2, 6, 476, 0, 0, 0, [([], [(1, [0]), (1, [3])]), ([], [(1, [0]), (1, [3])])], [], [0, 0]),
  (0, 6, 478, 0, 0, 0, [([9], [(1, [0]), (1, [2])]), ([], [(1, [0]), (1, [17]), (1, [15]), (1, [14])])], [], [1, 1]),
  (0, 31, 0, 0, 0, 0, [], [], []),
  (0, 5, 476, 1, 0, 0, [], [], []),
  (0, 5, 477, 1, 0, 0, [], [], []),
  (0, 7, 0, 0, 0, 0, [([], [(1, [0])])], [], []),
  (0, 3, 18, 0, (-9999), 9999, [([18], [(1, [0]), (1, [1])]), ([12, 15, 16, 17, 18, 19, 20], [(1, [0]), (999, [2]), (1, [14]), (1, [15]), (1, [23]), (1, [25]), (1, [1, 6])])], [], []),
  (2, 6, 476, 0, 0, 0, [([], [(1, [0]), (1, [2])]), ([], [(1, [0]), (1, [2])])], [], [0, 0]),
  (0, 6, 478, 0, 0, 0, [([9], [(1, [0]), (1, [2])]), ([], [(1, [0]), (1, [17]), (1, [15]), (1, [14])])], [], [1, 1]),
  (0, 31, 0, 0, 0, 0, [], [], []),
  (0, 5, 477, 1, 0, 0, [], [], []),
  (0, 7, 0, 0, 0, 0, [([], [(1, [0])])], [], []),
  (0, 3, 18, 0, (-9999), 9999, [([18], [(1, [0]), (1, [1])]), ([12, 15, 16, 17, 18, 19, 20], [(1, [0]), (999, [2]), (1, [14]), (1, [15]), (1, [23]), (1, [25]), (1, [1, 6])])], [], []),
  (2, 6, 476, 0, 0, 0, [([], [(1, [0]), (1, [4])]), ([], [(1, [0]), (1, [4])])], [], [0, 0]),
  (0, 6, 478, 0, 0, 0, [([9], [(1, [0]), (1, [2])]), ([], [(1, [0]), (1, [17]), (1, [15]), (1, [14])])], [], [1, 1]),
  (0, 31, 0, 0, 0, 0, [], [], []),
  (0, 4, 22, 7, 0, 0, [], [], []),
  (0, 5, 476, 0, 0, 0, [], [], []),
  (0, 5, 476, 1, 0, 0, [], [], []),
  (0, 5, 477, 1, 0, 0, [], [], []),
  (0, 7, 0, 0, 0, 0, [([], [(1, [0])])], [], []),
  (0, 3, 18, 0, (-9999), 9999, [([18], [(1, [0]), (1, [1])]), ([12, 15, 16, 17, 18, 19, 20], [(1, [0]), (999, [2]), (1, [14]), (1, [15]), (1, [23]), (1, [25]), (1, [1, 6])])], [], []),
  (2, 6, 476, 0, 0, 0, [([], [(1, [0]), (1, [2])]), ([], [(1, [0]), (1, [2])])], [], [0, 0]),
  (0, 6, 478, 0, 0, 0, [([9], [(1, [0]), (1, [2])]), ([], [(1, [0]), (1, [17]), (1, [15]), (1, [14])])], [], [1, 1]),
  (0, 31, 0, 0, 0, 0, [], [], []),
  (0, 5, 477, 1, 0, 0, [], [], []),
  (0, 7, 0, 0, 0, 0, [([], [(1, [0])])], [], []),
  (0, 3, 18, 0, (-9999), 9999, [([18], [(1, [0]), (1, [1])]), ([12, 15, 16, 17, 18, 19, 20], [(1, [0]), (999, [2]), (1, [14]), (1, [15]), (1, [23]), (1, [25]), (1, [1, 6])])], [], []),
  (2, 6, 476, 0, 0, 0, [([], [(1, [0]), (1, [3])]), ([], [(1, [0]), (1, [3])])], [], [0, 0]),
  (0, 6, 478, 0, 0, 0, [([9], [(1, [0]), (1, [2])]), ([], [(1, [0]), (1, [17]), (1, [15]), (1, [14])])], [], [1, 1]),
  (0, 31, 0, 0, 0, 0, [], [], []),
  (0, 5, 476, 1, 0, 0, [], [], []),
  (0, 5, 477, 1, 0, 0, [], [], []),
  (0, 7, 0, 0, 0, 0, [([], [(1, [0])])], [], []),
  (0, 3, 18, 0, (-9999), 9999, [([18], [(1, [0]), (1, [1])]), ([12, 15, 16, 17, 18, 19, 20], [(1, [0]), (999, [2]), (1, [14]), (1, [15]), (1, [23]), (1, [25]), (1, [1, 6])])], [], []),
  (2, 6, 476, 0, 0, 0, [([], [(1, [0]), (1, [2])]), ([], [(1, [0]), (1, [2])])], [], [0, 0]),
  (0, 6, 478, 0, 0, 0, [([9], [(1, [0]), (1, [2])]), ([], [(1, [0]), (1, [17]), (1, [15]), (1, [14])])], [], [1, 1]),
  (0, 31, 0, 0, 0, 0, [], [], []),
  (0, 5, 477, 1, 0, 0, [], [], []),
  (0, 7, 0, 0, 0, 0, [([], [(1, [0])])], [], []),
  (0, 3, 18, 0, (-9999), 9999, [([18], [(1, [0]), (1, [1])]), ([12, 15, 16, 17, 18, 19, 20], [(1, [0]), (999, [2]), (1, [14]), (1, [15]), (1, [23]), (1, [25]), (1, [1, 6])])], [], []),
  (2, 6, 476, 0, 0, 0, [([], [(1, [0]), (1, [5])]), ([], [(1, [0]), (1, [5])])], [], [0, 0]),
  (0, 6, 478, 0, 0, 0, [([9], [(1, [0]), (1, [2])]), ([], [(1, [0]), (1, [17]), (1, [15]), (1, [14])])], [], [1, 1]),
  (0, 31, 0, 0, 0, 0, [], [], []),
  (0, 5, 475, 1, 0, 0, [], [], []),
  (0, 4, 22, 7, 0, 0, [], [], []),
  (0, 5, 476, 0, 0, 0, [], [], []),
  (0, 5, 476, 1, 0, 0, [], [], []),
  (0, 5, 477, 1, 0, 0, [], [], []),
  (0, 7, 0, 0, 0, 0, [([], [(1, [0])])], [], []),
  (0, 3, 18, 0, (-9999), 9999, [([18], [(1, [0]), (1, [1])]), ([12, 15, 16, 17, 18, 19, 20], [(1, [0]), (999, [2]), (1, [14]), (1, [15]), (1, [23]), (1, [25]), (1, [1, 6])])], [], []),
  (2, 6, 476, 0, 0, 0, [([], [(1, [0]), (1, [2])]), ([], [(1, [0]), (1, [2])])], [], [0, 0]),
  (0, 6, 478, 0, 0, 0, [([9], [(1, [0]), (1, [2])]), ([], [(1, [0]), (1, [17]), (1, [15]), (1, [14])])], [], [1, 1]),
  (0, 31, 0, 0, 0, 0, [], [], []),
  (0, 5, 477, 1, 0, 0, [], [], []),
  (0, 7, 0, 0, 0, 0, [([], [(1, [0])])], [], []),
  (0, 3, 18, 0, (-9999), 9999, [([18], [(1, [0]), (1, [1])]), ([12, 15, 16, 17, 18, 19, 20], [(1, [0]), (999, [2]), (1, [14]), (1, [15]), (1, [23]), (1, [25]), (1, [1, 6])])], [], []),
  (2, 6, 476, 0, 0, 0, [([], [(1, [0]), (1, [3])]), ([], [(1, [0]), (1, [3])])], [], [0, 0]),
  (0, 6, 478, 0, 0, 0, [([9], [(1, [0]), (1, [2])]), ([], [(1, [0]), (1, [17]), (1, [15]), (1, [14])])], [], [1, 1]),
  (0, 31, 0, 0, 0, 0, [], [], []),
  (0, 5, 476, 1, 0, 0, [], [], []),
  (0, 5, 477, 1, 0, 0, [], [], []),
  (0, 7, 0, 0, 0, 0, [([], [(1, [0])])], [], []),
  (0, 3, 18, 0, (-9999), 9999, [([18], [(1, [0]), (1, [1])]), ([12, 15, 16, 17, 18, 19, 20], [(1, [0]), (999, [2]), (1, [14]), (1, [15]), (1, [23]), (1, [25]), (1, [1, 6])])], [], []),
  (2, 6, 476, 0, 0, 0, [([], [(1, [0]), (1, [2])]), ([], [(1, [0]), (1, [2])])], [], [0, 0]),
  (0, 6, 478, 0, 0, 0, [([9], [(1, [0]), (1, [2])]), ([], [(1, [0]), (1, [17]), (1, [15]), (1, [14])])], [], [1, 1]),
  (0, 31, 0, 0, 0, 0, [], [], []),
  (0, 5, 477, 1, 0, 0, [], [], []),
  (0, 7, 0, 0, 0, 0, [([], [(1, [0])])], [], []),
  (0, 3, 18, 0, (-9999), 9999, [([18], [(1, [0]), (1, [1])]), ([12, 15, 16, 17, 18, 19, 20], [(1, [0]), (999, [2]), (1, [14]), (1, [15]), (1, [23]), (1, [25]), (1, [1, 6])])], [], []),
  (2, 6, 476, 0, 0, 0, [([], [(1, [0]), (1, [4])]), ([], [(1, [0]), (1, [4])])], [], [0, 0]),
  (0, 6, 478, 0, 0, 0, [([9], [(1, [0]), (1, [2])]), ([], [(1, [0]), (1, [17]), (1, [15]), (1, [14])])], [], [1, 1]),
  (0, 31, 0, 0, 0, 0, [], [], []),
  (0, 4, 22, 7, 0, 0, [], [], []),
  (0, 5, 476, 0, 0, 0, [], [], []),
  (0, 5, 476, 1, 0, 0, [], [], []),
  (0, 5, 477, 1, 0, 0, [], [], []),
  (0, 7, 0, 0, 0, 0, [([], [(1, [0])])], [], []),
  (0, 3, 18, 0, (-9999), 9999, [([18], [(1, [0]), (1, [1])]), ([12, 15, 16, 17, 18, 19, 20], [(1, [0]), (999, [2]), (1, [14]), (1, [15]), (1, [23]), (1, [25]), (1, [1, 6])])], [], []),
  (2, 6, 476, 0, 0, 0, [([], [(1, [0]), (1, [2])]), ([], [(1, [0]), (1, [2])])], [], [0, 0]),
  (0, 6, 478, 0, 0, 0, [([9], [(1, [0]), (1, [2])]), ([], [(1, [0]), (1, [17]), (1, [15]), (1, [14])])], [], [1, 1]),
  (0, 31, 0, 0, 0, 0, [], [], []),
  (0, 5, 477, 1, 0, 0, [], [], []),
  (0, 7, 0, 0, 0, 0, [([], [(1, [0])])], [], []),
  (0, 3, 18, 0, (-9999), 9999, [([18], [(1, [0]), (1, [1])]), ([12, 15, 16, 17, 18, 19, 20], [(1, [0]), (999, [2]), (1, [14]), (1, [15]), (1, [23]), (1, [25]), (1, [1, 6])])], [], []),
  (2, 6, 476, 0, 0, 0, [([], [(1, [0]), (1, [3])]), ([], [(1, [0]), (1, [3])])], [], [0, 0]),
  (0, 6, 478, 0, 0, 0, [([9], [(1, [0]), (1, [2])]), ([], [(1, [0]), (1, [17]), (1, [15]), (1, [14])])], [], [1, 1])]
set_option maxRecDepth 100000 in
noncomputable def sz_hd504_0_1 : List sy_Hn := [(0, 31, 0, 0, 0, 0, [], [], []),
  (0, 5, 476, 1, 0, 0, [], [], []),
  (0, 5, 477, 1, 0, 0, [], [], []),
  (0, 7, 0, 0, 0, 0, [([], [(1, [0])])], [], []),
  (0, 3, 18, 0, (-9999), 9999, [([18], [(1, [0]), (1, [1])]), ([12, 15, 16, 17, 18, 19, 20], [(1, [0]), (999, [2]), (1, [14]), (1, [15]), (1, [23]), (1, [25]), (1, [1, 6])])], [], []),
  (2, 6, 476, 0, 0, 0, [([], [(1, [0]), (1, [2])]), ([], [(1, [0]), (1, [2])])], [], [0, 0]),
  (0, 6, 478, 0, 0, 0, [([9], [(1, [0]), (1, [2])]), ([], [(1, [0]), (1, [17]), (1, [15]), (1, [14])])], [], [1, 1]),
  (0, 31, 0, 0, 0, 0, [], [], []),
  (0, 5, 477, 1, 0, 0, [], [], []),
  (0, 7, 0, 0, 0, 0, [([], [(1, [0])])], [], []),
  (0, 3, 18, 0, (-9999), 9999, [([18], [(1, [0]), (1, [1])]), ([12, 15, 16, 17, 18, 19, 20], [(1, [0]), (999, [2]), (1, [14]), (1, [15]), (1, [23]), (1, [25]), (1, [1, 6])])], [], []),
  (2, 6, 476, 0, 0, 0, [([], [(1, [0]), (1, [6])]), ([], [(1, [0]), (1, [6])])], [], [0, 0]),
  (0, 6, 478, 0, 0, 0, [([9], [(1, [0]), (1, [2])]), ([], [(1, [0]), (1, [17]), (1, [15]), (1, [14])])], [], [1, 1]),
  (0, 31, 0, 0, 0, 0, [], [], []),
  (0, 4, 25, 3, 0, 0, [], [], []),
  (0, 5, 475, 0, 0, 0, [], [], []),
  (0, 3, 18, 0, (-9999), 9999, [([18], [(1, [0]), (1, [1])]), ([12, 15, 16, 17, 18, 19, 20], [(1, [15]), (1, [16])])], [], []),
  (2, 6, 476, 0, 0, 0, [([], [(1, [0]), (1, [1])]), ([], [(1, [0]), (1, [1])])], [], [0, 0]),
  (0, 6, 478, 0, 0, 0, [([9], [(1, [0]), (1, [2])]), ([], [(1, [0]), (1, [13]), (1, [11]), (1, [10])])], [], [1, 1]),
  (0, 31, 0, 0, 0, 0, [], [], []),
  (0, 5, 475, 1, 0, 0, [], [], []),
  (0, 3, 18, 0, (-9999), 9999, [([18], [(1, [0]), (1, [1])]), ([12, 15, 16, 17, 18, 19, 20, 21], [(1, [17]), (1, [19])])], [], []),
  (2, 6, 476, 0, 0, 0, [([], [(1, [0]), (1, [1])]), ([], [(1, [0]), (1, [1])])], [], [0, 0]),
  (0, 6, 478, 0, 0, 0, [([9], [(1, [0]), (1, [2])]), ([], [(1, [0]), (1, [14]), (1, [12]), (1, [11])])], [], [1, 1]),
  (0, 31, 0, 0, 0, 0, [], [], []),
  (0, 4, 22, 7, 0, 0, [], [], []),
  (0, 5, 476, 0, 0, 0, [], [], []),
  (0, 3, 18, 0, (-9999), 9999, [([18], [(1, [0]), (1, [1])]), ([12, 15, 16, 17, 18, 19, 20, 21], [(1, [17]), (1, [20])])], [], []),
  (2, 6, 476, 0, 0, 0, [([], [(1, [0]), (1, [1])]), ([], [(1, [0]), (1, [1])])], [], [0, 0]),
  (0, 6, 478, 0, 0, 0, [([9], [(1, [0]), (1, [2])]), ([], [(1, [0]), (1, [15]), (1, [13]), (1, [12])])], [], [1, 1]),
  (0, 31, 0, 0, 0, 0, [], [], []),
  (0, 5, 476, 1, 0, 0, [], [], []),
  (0, 3, 18, 0, (-9999), 9999, [([18], [(1, [0]), (1, [1])]), ([12, 15, 16, 17, 18, 19, 20, 21, 22], [(1, [19]), (1, [23])])], [], []),
  (2, 6, 476, 0, 0, 0, [([], [(1, [0]), (1, [1])]), ([], [(1, [0]), (1, [1])])], [], [0, 0]),
  (0, 6, 478, 0, 0, 0, [([9], [(1, [0]), (1, [2])]), ([], [(1, [0]), (1, [16]), (1, [14]), (1, [13])])], [], [1, 1]),
  (0, 31, 0, 0, 0, 0, [], [], []),
  (0, 5, 477, 1, 0, 0, [], [], []),
  (0, 7, 0, 0, 0, 0, [([], [(1, [0])])], [], []),
  (0, 3, 18, 0, (-9999), 9999, [([18], [(1, [0]), (1, [1])]), ([12, 15, 16, 17, 18, 19, 20], [(1, [0]), (999, [2]), (1, [14]), (1, [15]), (1, [23]), (1, [25]), (1, [1, 6])])], [], []),
  (2, 6, 476, 0, 0, 0, [([16, 17], [(1, [0]), (1, [12]), (1, [11]), (1, [1]), (1, [3])]), ([12, 15, 16, 17, 18, 19, 20, 21, 22], [(1, [0]), (999, [2]), (1, [19]), (1, [27]), (1, [29]), (1, [1, 6])])], [], [1, 1]),
  (0, 6, 478, 0, 0, 0, [([9], [(1, [0]), (1, [2])]), ([], [(1, [0]), (1, [17]), (1, [15]), (1, [14])])], [], [1, 1]),
  (0, 31, 0, 0, 0, 0, [], [], []),
  (11, 4, 25, 0, 0, 0, [], [], []),
  (0, 4, 25, 1, 0, 0, [], [], []),
  (0, 4, 32, 2, 0, 0, [], [], []),
  (0, 4, 32, 0, 0, 0, [], [], []),
  (0, 5, 477, 0, 0, 0, [], [], []),
  (0, 7, 0, 0, 0, 0, [([], [(1, [0])])], [], []),
  (0, 5, 477, 1, 0, 0, [], [], []),
  (0, 7, 0, 0, 0, 0, [([], [(1, [0])])], [], []),
  (8, 6, 476, 0, 0, 0, [([18], [(1, [0]), (1, [4]), (1, [1])]), ([18], [(1, [0]), (1, [3]), (1, [1])])], [], [1, 1]),
  (0, 6, 477, 0, 0, 0, [([], [(1, [0])]), ([], [(1, [0])])], [], [0, 0]),
  (0, 6, 478, 0, 0, 0, [([], [(1, [0])]), ([], [(1, [0])])], [], [0, 0]),
  (0, 31, 0, 0, 0, 0, [], [], []),
  (31, 4, 25, 0, 0, 0, [], [], []),
  (0, 4, 25, 1, 0, 0, [], [], []),
  (0, 5, 477, 0, 0, 0, [], [], []),
  (0, 7, 0, 0, 0, 0, [([], [(1, [0])])], [], []),
  (0, 3, 18, 0, (-9999), 9999, [([19], [(1, [0]), (1, [4]), (1, [3]), (1, [6]), (1, [1])]), ([18], [(1, [0]), (1, [2])])], [], []),
  (2, 5, 474, 0, 0, 0, [], [], []),
  (0, 6, 476, 0, 0, 0, [([], [(1, [0]), (1, [1])]), ([], [(1, [0]), (1, [1])])], [], [0, 0]),
  (0, 6, 478, 0, 0, 0, [([9], [(1, [0]), (1, [2])]), ([], [(1, [0]), (1, [12]), (1, [10]), (1, [9])])], [], [1, 1]),
  (0, 31, 0, 0, 0, 0, [], [], []),
  (0, 4, 25, 3, 0, 0, [], [], []),
  (0, 5, 475, 0, 0, 0, [], [], []),
  (0, 6, 476, 0, 0, 0, [([], [(1, [0]), (1, [1])]), ([], [(1, [0]), (1, [1])])], [], [0, 0]),
  (0, 6, 478, 0, 0, 0, [([9], [(1, [0]), (1, [2])]), ([], [(1, [0]), (1, [13]), (1, [11]), (1, [10])])], [], [1, 1]),
  (0, 31, 0, 0, 0, 0, [], [], []),
  (0, 5, 475, 1, 0, 0, [], [], []),
  (0, 6, 476, 0, 0, 0, [([], [(1, [0]), (1, [1])]), ([], [(1, [0]), (1, [1])])], [], [0, 0]),
  (0, 6, 478, 0, 0, 0, [([9], [(1, [0]), (1, [2])]), ([], [(1, [0]), (1, [14]), (1, [12]), (1, [11])])], [], [1, 1]),
  (0, 31, 0, 0, 0, 0, [], [], []),
  (0, 5, 477, 1, 0, 0, [], [], []),
  (0, 7, 0, 0, 0, 0, [([], [(1, [0])])], [], []),
  (0, 6, 476, 0, 0, 0, [([], [(1, [0]), (1, [6]), (1, [5]), (1, [8])]), ([16, 17], [(1, [0]), (1, [11]), (1, [5]), (1, [1]), (1, [4])])], [], [1, 1]),
  (0, 6, 478, 0, 0, 0, [([9], [(1, [0]), (1, [2])]), ([], [(1, [0]), (1, [15]), (1, [13]), (1, [12])])], [], [1, 1]),
  (0, 31, 0, 0, 0, 0, [], [], []),
  (11, 4, 25, 0, 0, 0, [], [], []),
  (0, 4, 25, 1, 0, 0, [], [], []),
  (0, 4, 32, 2, 0, 0, [], [], []),
  (0, 4, 32, 0, 0, 0, [], [], []),
  (0, 5, 477, 0, 0, 0, [], [], []),
  (0, 7, 0, 0, 0, 0, [([], [(1, [0])])], [], []),
  (0, 5, 477, 1, 0, 0, [], [], []),
  (0, 7, 0, 0, 0, 0, [([], [(1, [0])])], [], []),
  (8, 6, 476, 0, 0, 0, [([18], [(1, [0]), (1, [4]), (1, [1])]), ([18], [(1, [0]), (1, [3]), (1, [1])])], [], [1, 1]),
  (0, 6, 477, 0, 0, 0, [([], [(1, [0])]), ([], [(1, [0])])], [], [0, 0]),
  (0, 6, 478, 0, 0, 0, [([], [(1, [0])]), ([], [(1, [0])])], [], [0, 0]),
  (0, 31, 0, 0, 0, 0, [], [], []),
  (36, 4, 25, 0, 0, 0, [], [], []),
  (0, 4, 25, 1, 0, 0, [], [], []),
  (0, 5, 477, 0, 0, 0, [], [], []),
  (0, 7, 0, 0, 0, 0, [([], [(1, [0])])], [], []),
  (0, 3, 17, 0, (-9999), 9999, [([12, 14, 15, 16, 17, 18], [(1, [0]), (1, [11]), (1, [13]), (1, [14]), (1, [16]), (1, [1, 5])]), ([17], [(1, [0]), (1, [2])])], [], []),
  (2, 5, 474, 0, 0, 0, [], [], []),
  (0, 6, 476, 0, 0, 0, [([], [(1, [0]), (1, [1])]), ([], [(1, [0]), (1, [1])])], [], [0, 0]),
  (0, 6, 478, 0, 0, 0, [([9], [(1, [0]), (1, [2])]), ([], [(1, [0]), (1, [12]), (1, [10]), (1, [9])])], [], [1, 1]),
  (0, 31, 0, 0, 0, 0, [], [], []),
  (0, 4, 25, 3, 0, 0, [], [], []),
  (0, 5, 475, 0, 0, 0, [], [], []),
  (0, 6, 476, 0, 0, 0, [([], [(1, [0]), (1, [1])]), ([], [(1, [0]), (1, [1])])], [], [0, 0]),
  (0, 6, 478, 0, 0, 0, [([9], [(1, [0]), (1, [2])]), ([], [(1, [0]), (1, [13]), (1, [11]), (1, [10])])], [], [1, 1]),
  (0, 31, 0, 0, 0, 0, [], [], []),
  (0, 5, 475, 1, 0, 0, [], [], []),
  (0, 6, 476, 0, 0, 0, [([], [(1, [0]), (1, [1])]), ([], [(1, [0]), (1, [1])])], [], [0, 0]),
  (0, 6, 478, 0, 0, 0, [([9], [(1, [0]), (1, [2])]), ([], [(1, [0]), (1, [14]), (1, [12]), (1, [11])])], [], [1, 1]),
  (0, 31, 0, 0, 0, 0, [], [], []),
  (0, 5, 477, 1, 0, 0, [], [], []),
  (0, 7, 0, 0, 0, 0, [([], [(1, [0])])], [], []),
  (0, 6, 476, 0, 0, 0, [([12, 14, 15, 16, 17, 18, 19, 20], [(1, [0]), (1, [21]), (1, [22]), (1, [24]), (1, [1, 5])]), ([15, 16], [(1, [0]), (1, [11]), (1, [5]), (1, [1]), (1, [4])])], [], [1, 1]),
  (0, 6, 478, 0, 0, 0, [([9], [(1, [0]), (1, [2])]), ([], [(1, [0]), (1, [15]), (1, [13]), (1, [12])])], [], [1, 1]),
  (0, 31, 0, 0, 0, 0, [], [], []),
  (11, 4, 25, 0, 0, 0, [], [], []),
  (0, 4, 25, 1, 0, 0, [], [], []),
  (0, 4, 32, 2, 0, 0, [], [], []),
  (0, 4, 32, 0, 0, 0, [], [], []),
  (0, 5, 477, 0, 0, 0, [], [], []),
  (0, 7, 0, 0, 0, 0, [([], [(1, [0])])], [], []),
  (0, 5, 477, 1, 0, 0, [], [], []),
  (0, 7, 0, 0, 0, 0, [([], [(1, [0])])], [], []),
  (8, 6, 476, 0, 0, 0, [([17], [(1, [0]), (1, [4]), (1, [1])]), ([17], [(1, [0]), (1, [3]), (1, [1])])], [], [1, 1]),
  (0, 6, 477, 0, 0, 0, [([], [(1, [0])]), ([], [(1, [0])])], [], [0, 0]),
  (0, 6, 478, 0, 0, 0, [([], [(1, [0])]), ([], [(1, [0])])], [], [0, 0]),
  (0, 31, 0, 0, 0, 0, [], [], []),
  (58, 4, 25, 0, 0, 0, [], [], []),
  (0, 4, 25, 1, 0, 0, [], [], []),
  (0, 5, 477, 0, 0, 0, [], [], []),
  (0, 7, 0, 0, 0, 0, [([], [(1, [0])])], [], []),
  (0, 5, 474, 0, 0, 0, [], [], []),
  (0, 4, 25, 3, 0, 0, [], [], []),
  (0, 5, 475, 0, 0, 0, [], [], []),
  (0, 5, 475, 1, 0, 0, [], [], []),
  (0, 4, 22, 7, 0, 0, [], [], []),
  (0, 5, 476, 0, 0, 0, [], [], []),
  (0, 5, 476, 1, 0, 0, [], [], []),
  (0, 5, 477, 1, 0, 0, [], [], []),
  (0, 7, 0, 0, 0, 0, [([], [(1, [0])])], [], []),
  (0, 3, 19, 0, (-9999), 9999, [([19], [(1, [0]), (1, [1])]), ([21], [(1, [0]), (1, [11]), (1, [3]), (1, [13]), (1, [2])])], [], []),
  (2, 6, 476, 0, 0, 0, [([], [(1, [0]), (1, [2])]), ([], [(1, [0]), (1, [2])])], [], [0, 0]),
  (0, 6, 478, 0, 0, 0, [([9], [(1, [0]), (1, [2])]), ([9], [(1, [0]), (1, [1])])], [], [1, 1]),
  (0, 31, 0, 0, 0, 0, [], [], []),
  (0, 5, 477, 1, 0, 0, [], [], []),
  (0, 7, 0, 0, 0, 0, [([], [(1, [0])])], [], []),
  (0, 3, 19, 0, (-9999), 9999, [([19], [(1, [0]), (1, [1])]), ([21], [(1, [0]), (1, [11]), (1, [3]), (1, [13]), (1, [2])])], [], []),
  (2, 6, 476, 0, 0, 0, [([], [(1, [0]), (1, [3])]), ([], [(1, [0]), (1, [3])])], [], [0, 0]),
  (0, 6, 478, 0, 0, 0, [([9], [(1, [0]), (1, [2])]), ([9], [(1, [0]), (1, [1])])], [], [1, 1]),
  (0, 31, 0, 0, 0, 0, [], [], []),
  (0, 5, 476, 1, 0, 0, [], [], []),
  (0, 5, 477, 1, 0, 0, [], [], []),
  (0, 7, 0, 0, 0, 0, [([], [(1, [0])])], [], [])]
set_option maxRecDepth 100000 in
noncomputable def sz_hd504_0_2 : List sy_Hn := [(0, 3, 19, 0, (-9999), 9999, [([19], [(1, [0]), (1, [1])]), ([21], [(1, [0]), (1, [11]), (1, [3]), (1, [13]), (1, [2])])], [], []),
  (2, 6, 476, 0, 0, 0, [([], [(1, [0]), (1, [2])]), ([], [(1, [0]), (1, [2])])], [], [0, 0]),
  (0, 6, 478, 0, 0, 0, [([9], [(1, [0]), (1, [2])]), ([9], [(1, [0]), (1, [1])])], [], [1, 1]),
  (0, 31, 0, 0, 0, 0, [], [], []),
  (0, 5, 477, 1, 0, 0, [], [], []),
  (0, 7, 0, 0, 0, 0, [([], [(1, [0])])], [], []),
  (0, 3, 19, 0, (-9999), 9999, [([19], [(1, [0]), (1, [1])]), ([21], [(1, [0]), (1, [11]), (1, [3]), (1, [13]), (1, [2])])], [], []),
  (2, 6, 476, 0, 0, 0, [([], [(1, [0]), (1, [4])]), ([], [(1, [0]), (1, [4])])], [], [0, 0]),
  (0, 6, 478, 0, 0, 0, [([9], [(1, [0]), (1, [2])]), ([9], [(1, [0]), (1, [1])])], [], [1, 1]),
  (0, 31, 0, 0, 0, 0, [], [], []),
  (0, 4, 22, 7, 0, 0, [], [], []),
  (0, 5, 476, 0, 0, 0, [], [], []),
  (0, 5, 476, 1, 0, 0, [], [], []),
  (0, 5, 477, 1, 0, 0, [], [], []),
  (0, 7, 0, 0, 0, 0, [([], [(1, [0])])], [], []),
  (0, 3, 19, 0, (-9999), 9999, [([19], [(1, [0]), (1, [1])]), ([21], [(1, [0]), (1, [11]), (1, [3]), (1, [13]), (1, [2])])], [], []),
  (2, 6, 476, 0, 0, 0, [([], [(1, [0]), (1, [2])]), ([], [(1, [0]), (1, [2])])], [], [0, 0]),
  (0, 6, 478, 0, 0, 0, [([9], [(1, [0]), (1, [2])]), ([9], [(1, [0]), (1, [1])])], [], [1, 1]),
  (0, 31, 0, 0, 0, 0, [], [], []),
  (0, 5, 477, 1, 0, 0, [], [], []),
  (0, 7, 0, 0, 0, 0, [([], [(1, [0])])], [], []),
  (0, 3, 19, 0, (-9999), 9999, [([19], [(1, [0]), (1, [1])]), ([21], [(1, [0]), (1, [11]), (1, [3]), (1, [13]), (1, [2])])], [], []),
  (2, 6, 476, 0, 0, 0, [([], [(1, [0]), (1, [3])]), ([], [(1, [0]), (1, [3])])], [], [0, 0]),
  (0, 6, 478, 0, 0, 0, [([9], [(1, [0]), (1, [2])]), ([9], [(1, [0]), (1, [1])])], [], [1, 1]),
  (0, 31, 0, 0, 0, 0, [], [], []),
  (0, 5, 476, 1, 0, 0, [], [], []),
  (0, 5, 477, 1, 0, 0, [], [], []),
  (0, 7, 0, 0, 0, 0, [([], [(1, [0])])], [], []),
  (0, 3, 19, 0, (-9999), 9999, [([19], [(1, [0]), (1, [1])]), ([21], [(1, [0]), (1, [11]), (1, [3]), (1, [13]), (1, [2])])], [], []),
  (2, 6, 476, 0, 0, 0, [([], [(1, [0]), (1, [2])]), ([], [(1, [0]), (1, [2])])], [], [0, 0]),
  (0, 6, 478, 0, 0, 0, [([9], [(1, [0]), (1, [2])]), ([9], [(1, [0]), (1, [1])])], [], [1, 1]),
  (0, 31, 0, 0, 0, 0, [], [], []),
  (0, 5, 477, 1, 0, 0, [], [], []),
  (0, 7, 0, 0, 0, 0, [([], [(1, [0])])], [], []),
  (0, 3, 19, 0, (-9999), 9999, [([19], [(1, [0]), (1, [1])]), ([21], [(1, [0]), (1, [11]), (1, [3]), (1, [13]), (1, [2])])], [], []),
  (2, 6, 476, 0, 0, 0, [([], [(1, [0]), (1, [5])]), ([], [(1, [0]), (1, [5])])], [], [0, 0]),
  (0, 6, 478, 0, 0, 0, [([9], [(1, [0]), (1, [2])]), ([9], [(1, [0]), (1, [1])])], [], [1, 1]),
  (0, 31, 0, 0, 0, 0, [], [], []),
  (0, 5, 475, 1, 0, 0, [], [], []),
  (0, 4, 22, 7, 0, 0, [], [], []),
  (0, 5, 476, 0, 0, 0, [], [], []),
  (0, 5, 476, 1, 0, 0, [], [], []),
  (0, 5, 477, 1, 0, 0, [], [], []),
  (0, 7, 0, 0, 0, 0, [([], [(1, [0])])], [], []),
  (0, 3, 19, 0, (-9999), 9999, [([19], [(1, [0]), (1, [1])]), ([21], [(1, [0]), (1, [11]), (1, [3]), (1, [13]), (1, [2])])], [], []),
  (2, 6, 476, 0, 0, 0, [([], [(1, [0]), (1, [2])]), ([], [(1, [0]), (1, [2])])], [], [0, 0]),
  (0, 6, 478, 0, 0, 0, [([9], [(1, [0]), (1, [2])]), ([9], [(1, [0]), (1, [1])])], [], [1, 1]),
  (0, 31, 0, 0, 0, 0, [], [], []),
  (0, 5, 477, 1, 0, 0, [], [], []),
  (0, 7, 0, 0, 0, 0, [([], [(1, [0])])], [], []),
  (0, 3, 19, 0, (-9999), 9999, [([19], [(1, [0]), (1, [1])]), ([21], [(1, [0]), (1, [11]), (1, [3]), (1, [13]), (1, [2])])], [], []),
  (2, 6, 476, 0, 0, 0, [([], [(1, [0]), (1, [3])]), ([], [(1, [0]), (1, [3])])], [], [0, 0]),
  (0, 6, 478, 0, 0, 0, [([9], [(1, [0]), (1, [2])]), ([9], [(1, [0]), (1, [1])])], [], [1, 1]),
  (0, 31, 0, 0, 0, 0, [], [], []),
  (0, 5, 476, 1, 0, 0, [], [], []),
  (0, 5, 477, 1, 0, 0, [], [], []),
  (0, 7, 0, 0, 0, 0, [([], [(1, [0])])], [], []),
  (0, 3, 19, 0, (-9999), 9999, [([19], [(1, [0]), (1, [1])]), ([21], [(1, [0]), (1, [11]), (1, [3]), (1, [13]), (1, [2])])], [], []),
  (2, 6, 476, 0, 0, 0, [([], [(1, [0]), (1, [2])]), ([], [(1, [0]), (1, [2])])], [], [0, 0]),
  (0, 6, 478, 0, 0, 0, [([9], [(1, [0]), (1, [2])]), ([9], [(1, [0]), (1, [1])])], [], [1, 1]),
  (0, 31, 0, 0, 0, 0, [], [], []),
  (0, 5, 477, 1, 0, 0, [], [], []),
  (0, 7, 0, 0, 0, 0, [([], [(1, [0])])], [], []),
  (0, 3, 19, 0, (-9999), 9999, [([19], [(1, [0]), (1, [1])]), ([21], [(1, [0]), (1, [11]), (1, [3]), (1, [13]), (1, [2])])], [], []),
  (2, 6, 476, 0, 0, 0, [([], [(1, [0]), (1, [4])]), ([], [(1, [0]), (1, [4])])], [], [0, 0]),
  (0, 6, 478, 0, 0, 0, [([9], [(1, [0]), (1, [2])]), ([9], [(1, [0]), (1, [1])])], [], [1, 1]),
  (0, 31, 0, 0, 0, 0, [], [], []),
  (0, 4, 22, 7, 0, 0, [], [], []),
  (0, 5, 476, 0, 0, 0, [], [], []),
  (0, 5, 476, 1, 0, 0, [], [], []),
  (0, 5, 477, 1, 0, 0, [], [], []),
  (0, 7, 0, 0, 0, 0, [([], [(1, [0])])], [], []),
  (0, 3, 19, 0, (-9999), 9999, [([19], [(1, [0]), (1, [1])]), ([21], [(1, [0]), (1, [11]), (1, [3]), (1, [13]), (1, [2])])], [], []),
  (2, 6, 476, 0, 0, 0, [([], [(1, [0]), (1, [2])]), ([], [(1, [0]), (1, [2])])], [], [0, 0]),
  (0, 6, 478, 0, 0, 0, [([9], [(1, [0]), (1, [2])]), ([9], [(1, [0]), (1, [1])])], [], [1, 1]),
  (0, 31, 0, 0, 0, 0, [], [], []),
  (0, 5, 477, 1, 0, 0, [], [], []),
  (0, 7, 0, 0, 0, 0, [([], [(1, [0])])], [], []),
  (0, 3, 19, 0, (-9999), 9999, [([19], [(1, [0]), (1, [1])]), ([21], [(1, [0]), (1, [11]), (1, [3]), (1, [13]), (1, [2])])], [], []),
  (2, 6, 476, 0, 0, 0, [([], [(1, [0]), (1, [3])]), ([], [(1, [0]), (1, [3])])], [], [0, 0]),
  (0, 6, 478, 0, 0, 0, [([9], [(1, [0]), (1, [2])]), ([9], [(1, [0]), (1, [1])])], [], [1, 1]),
  (0, 31, 0, 0, 0, 0, [], [], []),
  (0, 5, 476, 1, 0, 0, [], [], []),
  (0, 5, 477, 1, 0, 0, [], [], []),
  (0, 7, 0, 0, 0, 0, [([], [(1, [0])])], [], []),
  (0, 3, 19, 0, (-9999), 9999, [([19], [(1, [0]), (1, [1])]), ([21], [(1, [0]), (1, [11]), (1, [3]), (1, [13]), (1, [2])])], [], []),
  (2, 6, 476, 0, 0, 0, [([], [(1, [0]), (1, [2])]), ([], [(1, [0]), (1, [2])])], [], [0, 0]),
  (0, 6, 478, 0, 0, 0, [([9], [(1, [0]), (1, [2])]), ([9], [(1, [0]), (1, [1])])], [], [1, 1]),
  (0, 31, 0, 0, 0, 0, [], [], []),
  (0, 5, 477, 1, 0, 0, [], [], []),
  (0, 7, 0, 0, 0, 0, [([], [(1, [0])])], [], []),
  (0, 3, 19, 0, (-9999), 9999, [([19], [(1, [0]), (1, [1])]), ([21], [(1, [0]), (1, [11]), (1, [3]), (1, [13]), (1, [2])])], [], []),
  (2, 6, 476, 0, 0, 0, [([], [(1, [0]), (1, [6])]), ([], [(1, [0]), (1, [6])])], [], [0, 0]),
  (0, 6, 478, 0, 0, 0, [([9], [(1, [0]), (1, [2])]), ([9], [(1, [0]), (1, [1])])], [], [1, 1]),
  (0, 31, 0, 0, 0, 0, [], [], []),
  (0, 4, 25, 3, 0, 0, [], [], []),
  (0, 5, 475, 0, 0, 0, [], [], []),
  (0, 3, 19, 0, (-9999), 9999, [([19], [(1, [0]), (1, [1])]), ([16, 17, 18, 19, 20, 21], [(1, [13]), (1, [14])])], [], []),
  (2, 6, 476, 0, 0, 0, [([], [(1, [0]), (1, [1])]), ([], [(1, [0]), (1, [1])])], [], [0, 0]),
  (0, 6, 478, 0, 0, 0, [([9], [(1, [0]), (1, [2])]), ([9], [(1, [0]), (1, [1])])], [], [1, 1]),
  (0, 31, 0, 0, 0, 0, [], [], []),
  (0, 5, 475, 1, 0, 0, [], [], []),
  (0, 3, 19, 0, (-9999), 9999, [([19], [(1, [0]), (1, [1])]), ([16, 17, 18, 19, 20, 21, 22], [(1, [15]), (1, [17])])], [], []),
  (2, 6, 476, 0, 0, 0, [([], [(1, [0]), (1, [1])]), ([], [(1, [0]), (1, [1])])], [], [0, 0]),
  (0, 6, 478, 0, 0, 0, [([9], [(1, [0]), (1, [2])]), ([9], [(1, [0]), (1, [1])])], [], [1, 1]),
  (0, 31, 0, 0, 0, 0, [], [], []),
  (0, 4, 22, 7, 0, 0, [], [], []),
  (0, 5, 476, 0, 0, 0, [], [], []),
  (0, 3, 19, 0, (-9999), 9999, [([19], [(1, [0]), (1, [1])]), ([16, 17, 18, 19, 20, 21, 22], [(1, [15]), (1, [18])])], [], []),
  (2, 6, 476, 0, 0, 0, [([], [(1, [0]), (1, [1])]), ([], [(1, [0]), (1, [1])])], [], [0, 0]),
  (0, 6, 478, 0, 0, 0, [([9], [(1, [0]), (1, [2])]), ([9], [(1, [0]), (1, [1])])], [], [1, 1]),
  (0, 31, 0, 0, 0, 0, [], [], []),
  (0, 5, 476, 1, 0, 0, [], [], []),
  (0, 3, 19, 0, (-9999), 9999, [([19], [(1, [0]), (1, [1])]), ([16, 17, 18, 19, 20, 21, 22, 23], [(1, [17]), (1, [21])])], [], []),
  (2, 6, 476, 0, 0, 0, [([], [(1, [0]), (1, [1])]), ([], [(1, [0]), (1, [1])])], [], [0, 0]),
  (0, 6, 478, 0, 0, 0, [([9], [(1, [0]), (1, [2])]), ([9], [(1, [0]), (1, [1])])], [], [1, 1]),
  (0, 31, 0, 0, 0, 0, [], [], []),
  (0, 5, 477, 1, 0, 0, [], [], []),
  (0, 7, 0, 0, 0, 0, [([], [(1, [0])])], [], []),
  (0, 3, 19, 0, (-9999), 9999, [([19], [(1, [0]), (1, [1])]), ([21], [(1, [0]), (1, [11]), (1, [3]), (1, [13]), (1, [2])])], [], []),
  (2, 6, 476, 0, 0, 0, [([17, 18], [(1, [0]), (1, [12]), (1, [11]), (1, [1]), (1, [3])]), ([], [(1, [0]), (1, [9]), (1, [1]), (1, [11])])], [], [1, 1]),
  (0, 6, 478, 0, 0, 0, [([9], [(1, [0]), (1, [2])]), ([9], [(1, [0]), (1, [1])])], [], [1, 1]),
  (0, 31, 0, 0, 0, 0, [], [], []),
  (48, 4, 25, 0, 0, 0, [], [], []),
  (0, 4, 25, 1, 0, 0, [], [], []),
  (0, 4, 32, 2, 0, 0, [], [], []),
  (0, 5, 477, 0, 0, 0, [], [], []),
  (0, 7, 0, 0, 0, 0, [([], [(1, [0])])], [], []),
  (0, 5, 477, 1, 0, 0, [], [], []),
  (0, 7, 0, 0, 0, 0, [([], [(1, [0])])], [], []),
  (8, 6, 476, 0, 0, 0, [([17], [(1, [0]), (1, [4]), (1, [1])]), ([17], [(1, [0]), (1, [3]), (1, [1])])], [], [1, 1]),
  (0, 6, 477, 0, 0, 0, [([], [(1, [0])]), ([], [(1, [0])])], [], [0, 0]),
  (0, 6, 478, 0, 0, 0, [([], [(1, [0])]), ([], [(1, [0])])], [], [0, 0]),
  (0, 31, 0, 0, 0, 0, [], [], []),
  (11, 4, 25, 0, 0, 0, [], [], []),
  (0, 4, 25, 1, 0, 0, [], [], []),
  (0, 4, 32, 2, 0, 0, [], [], []),
  (0, 5, 477, 0, 0, 0, [], [], []),
  (0, 7, 0, 0, 0, 0, [([], [(1, [0])])], [], []),
  (0, 5, 477, 1, 0, 0, [], [], []),
  (0, 7, 0, 0, 0, 0, [([], [(1, [0])])], [], []),
  (8, 6, 476, 0, 0, 0, [([17], [(1, [0]), (1, [4]), (1, [1])]), ([17], [(1, [0]), (1, [3]), (1, [1])])], [], [1, 1]),
  (0, 6, 477, 0, 0, 0, [([], [(1, [0])]), ([], [(1, [0])])], [], [0, 0]),
  (0, 6, 478, 0, 0, 0, [([], [(1, [0])]), ([], [(1, [0])])], [], [0, 0]),
  (0, 31, 0, 0, 0, 0, [], [], []),
  (8, 4, 25, 0, 0, 0, [], [], []),
  (0, 4, 25, 1, 0, 0, [], [], []),
  (0, 4, 32, 2, 0, 0, [], [], []),
  (0, 4, 32, 0, 0, 0, [], [], []),
  (0, 5, 477, 0, 0, 0, [], [], [])]
set_option maxRecDepth 100000 in
noncomputable def sz_hd504_0_3 : List sy_Hn := [(0, 7, 0, 0, 0, 0, [([], [(1, [0])])], [], []),
  (0, 5, 477, 1, 0, 0, [], [], []),
  (0, 7, 0, 0, 0, 0, [([], [(1, [0])])], [], []),
  (8, 6, 476, 0, 0, 0, [([20], [(1, [0]), (1, [4]), (1, [1])]), ([20], [(1, [0]), (1, [3]), (1, [1])])], [], [1, 1]),
  (0, 6, 477, 0, 0, 0, [([], [(1, [0])]), ([], [(1, [0])])], [], [0, 0]),
  (0, 6, 478, 0, 0, 0, [([], [(1, [0])]), ([], [(1, [0])])], [], [0, 0]),
  (0, 31, 0, 0, 0, 0, [], [], []),
  (32, 4, 25, 0, 0, 0, [], [], []),
  (0, 4, 25, 1, 0, 0, [], [], []),
  (0, 4, 32, 2, 0, 0, [], [], []),
  (0, 4, 32, 0, 0, 0, [], [], []),
  (0, 5, 477, 0, 0, 0, [], [], []),
  (0, 7, 0, 0, 0, 0, [([], [(1, [0])])], [], []),
  (0, 5, 477, 1, 0, 0, [], [], []),
  (0, 7, 0, 0, 0, 0, [([], [(1, [0])])], [], []),
  (8, 6, 476, 0, 0, 0, [([19], [(1, [0]), (1, [4]), (1, [1])]), ([19], [(1, [0]), (1, [3]), (1, [1])])], [], [1, 1]),
  (0, 6, 477, 0, 0, 0, [([], [(1, [0])]), ([], [(1, [0])])], [], [0, 0]),
  (0, 6, 478, 0, 0, 0, [([], [(1, [0])]), ([], [(1, [0])])], [], [0, 0]),
  (0, 31, 0, 0, 0, 0, [], [], []),
  (48, 4, 25, 0, 0, 0, [], [], []),
  (0, 4, 25, 1, 0, 0, [], [], []),
  (0, 4, 32, 2, 0, 0, [], [], []),
  (0, 5, 477, 0, 0, 0, [], [], []),
  (0, 7, 0, 0, 0, 0, [([], [(1, [0])])], [], []),
  (0, 5, 477, 1, 0, 0, [], [], []),
  (0, 7, 0, 0, 0, 0, [([], [(1, [0])])], [], []),
  (8, 6, 476, 0, 0, 0, [([17], [(1, [0]), (1, [4]), (1, [1])]), ([17], [(1, [0]), (1, [3]), (1, [1])])], [], [1, 1]),
  (0, 6, 477, 0, 0, 0, [([], [(1, [0])]), ([], [(1, [0])])], [], [0, 0]),
  (0, 6, 478, 0, 0, 0, [([], [(1, [0])]), ([], [(1, [0])])], [], [0, 0]),
  (0, 31, 0, 0, 0, 0, [], [], []),
  (11, 4, 25, 0, 0, 0, [], [], []),
  (0, 4, 25, 1, 0, 0, [], [], []),
  (0, 4, 32, 2, 0, 0, [], [], []),
  (0, 5, 477, 0, 0, 0, [], [], []),
  (0, 7, 0, 0, 0, 0, [([], [(1, [0])])], [], []),
  (0, 5, 477, 1, 0, 0, [], [], []),
  (0, 7, 0, 0, 0, 0, [([], [(1, [0])])], [], []),
  (8, 6, 476, 0, 0, 0, [([17], [(1, [0]), (1, [4]), (1, [1])]), ([17], [(1, [0]), (1, [3]), (1, [1])])], [], [1, 1]),
  (0, 6, 477, 0, 0, 0, [([], [(1, [0])]), ([], [(1, [0])])], [], [0, 0]),
  (0, 6, 478, 0, 0, 0, [([], [(1, [0])]), ([], [(1, [0])])], [], [0, 0]),
  (0, 31, 0, 0, 0, 0, [], [], []),
  (8, 4, 25, 0, 0, 0, [], [], []),
  (0, 4, 25, 1, 0, 0, [], [], []),
  (0, 4, 32, 2, 0, 0, [], [], []),
  (0, 4, 32, 0, 0, 0, [], [], []),
  (0, 5, 477, 0, 0, 0, [], [], []),
  (0, 7, 0, 0, 0, 0, [([], [(1, [0])])], [], []),
  (0, 5, 477, 1, 0, 0, [], [], []),
  (0, 7, 0, 0, 0, 0, [([], [(1, [0])])], [], []),
  (8, 6, 476, 0, 0, 0, [([20], [(1, [0]), (1, [4]), (1, [1])]), ([20], [(1, [0]), (1, [3]), (1, [1])])], [], [1, 1]),
  (0, 6, 477, 0, 0, 0, [([], [(1, [0])]), ([], [(1, [0])])], [], [0, 0]),
  (0, 6, 478, 0, 0, 0, [([], [(1, [0])]), ([], [(1, [0])])], [], [0, 0]),
  (0, 31, 0, 0, 0, 0, [], [], [])]
noncomputable def sz_hd504_0 : List sy_Hn := sz_hd504_0_0 ++ (sz_hd504_0_1 ++ (sz_hd504_0_2 ++ (sz_hd504_0_3)))
set_option maxRecDepth 100000 in
theorem sz_sd504_0 : sy_seg sz_E (pv_T (sz_own true) sz_T) sz_RU [sz_cd85, sz_cd86] sz_cd504 sz_ud504 ri_m_X2_relayEnds 1354 none sz_hd504_0 = true := by decide +kernel
theorem sz_okd504 (xs : Nat → Value) (L : Nat) : sy_Cok (sz_env xs L) (pv_T (sz_own true) sz_T) sz_RU sz_cd504 := sy_chk_ok (CT := [sz_cd85, sz_cd86]) (CU := sz_ud504) (M := ri_m_X2_relayEnds) (List.forall_mem_cons.mpr ⟨sz_okd85 xs L, List.forall_mem_cons.mpr ⟨sz_okd86 xs L, fun _ h => absurd h List.not_mem_nil⟩⟩) rfl rfl ⟨_, _, sz_sd504_0⟩ (fun _ h => absurd h List.not_mem_nil)

/-! X2_balance  -/
set_option maxRecDepth 100000 in
noncomputable def sz_cd505 : sy_Ct := (173, 2, 47, [(3, .inr 22, .inl 0)], ([], []), [], [], [(22, 8, 8)], [(.inl none, 0, 0, ([], []), [], [])])
set_option maxRecDepth 100000 in
noncomputable def sz_ud505 : List sy_Cut := []
set_option maxRecDepth 100000 in
noncomputable def sz_hd505_0 : List sy_Hn := [(52, 20, 0, 0, 0, 0, [], [], []),
  (0, 31, 0, 0, 0, 0, [], [], [])]
set_option maxRecDepth 100000 in
theorem sz_sd505_0 : sy_seg sz_E (pv_T (sz_own true) sz_T) sz_RU [sz_cd494] sz_cd505 sz_ud505 ri_m_X2_balance 60 none sz_hd505_0 = true := by decide +kernel
theorem sz_okd505 (xs : Nat → Value) (L : Nat) : sy_Cok (sz_env xs L) (pv_T (sz_own true) sz_T) sz_RU sz_cd505 := sy_chk_ok (CT := [sz_cd494]) (CU := sz_ud505) (M := ri_m_X2_balance) (List.forall_mem_cons.mpr ⟨sz_okd494 xs L, fun _ h => absurd h List.not_mem_nil⟩) rfl rfl ⟨_, _, sz_sd505_0⟩ (fun _ h => absurd h List.not_mem_nil)

/-! X0_drive  -/
set_option maxRecDepth 100000 in
noncomputable def sz_cd506 : sy_Ct := (223, 3, 75, [(3, .inr 2, .inl 0), (0, .inl 1, .inl 0)], ([], []), [], [], [(6, 2, 2), (7, 0, 239), (8, 1, 1), (22, 5, 5), (22, 7, 8), (22, 12, 13), (22, 17, 18), (25, 3, 3), (32, 3, 8)], [(.inl none, 0, 0, ([], []), [], [])])
set_option maxRecDepth 100000 in
noncomputable def sz_ud506 : List sy_Cut := [(17, [(0, (3, .inr 2, .inl 0)), (1, (0, .inl 1, .inl 0)), (2, (3, .inr 22, .inl 0)), (3, (0, .inr 0, .inl 0))], ([((-1), 3)], []), [], [], [(4, [])]), (47, [(0, (3, .inr 2, .inl 0)), (1, (0, .inl 1, .inl 0)), (2, (3, .inr 22, .inl 0)), (3, (0, .inr 0, .inl 0))], ([((-1), (-1))], []), [], [], [(3, [])]), (63, [(0, (3, .inr 2, .inl 0)), (1, (0, .inl 1, .inl 0)), (2, (3, .inr 22, .inl 0)), (3, (0, .inr 0, .inl 0))], ([((-1), 3)], []), [], [], [(2, [])]), (65, [(0, (3, .inr 2, .inl 0)), (1, (0, .inl 1, .inl 0)), (2, (3, .inr 22, .inl 0)), (3, (0, .inr 0, .inl 0))], ([((-1), 3)], []), [], [], [(1, [])]), (78, [(0, (3, .inr 2, .inl 0)), (1, (0, .inl 1, .inl 0)), (2, (3, .inr 22, .inl 0)), (3, (0, .inr 0, .inl 0))], ([((-1), 3)], []), [], [], [(0, [])])]
set_option maxRecDepth 100000 in
noncomputable def sz_hd506_0 : List sy_Hn := [(16, 20, 1, 0, 0, 0, [], [], []),
  (0, 30, 0, 0, 0, 0, [([], [(1, [0])]), ([], [])], [], [])]
set_option maxRecDepth 100000 in
theorem sz_sd506_0 : sy_seg sz_E (pv_T (sz_own true) sz_T) sz_RU [sz_cd470, sz_cd500, sz_cd503, sz_cd504, sz_cd505] sz_cd506 sz_ud506 ri_m_X0_drive 25 none sz_hd506_0 = true := by decide +kernel
set_option maxRecDepth 100000 in
noncomputable def sz_hd506_1_0 : List sy_Hn := [(15, 1, 0, 0, 0, 0, [], [], []),
  (26, 6, 476, 0, 0, 0, [([], [(1, [0]), (1, [2])]), ([], [(1, [0]), (1, [1])])], [], [1, 1]),
  (0, 30, 0, 0, 0, 0, [([], [(1, [0])]), ([], [(1, [0])])], [], []),
  (7, 5, 474, 0, 0, 0, [], [], []),
  (0, 6, 476, 0, 0, 0, [([], [(1, [0]), (1, [1])]), ([], [(1, [0]), (1, [1])])], [], [0, 0]),
  (0, 30, 0, 0, 0, 0, [([], [(1, [0])]), ([], [(1, [0])])], [], []),
  (0, 6, 476, 0, 0, 0, [([], [(1, [0]), (1, [1])]), ([], [(1, [0])])], [], [1, 1]),
  (0, 30, 0, 0, 0, 0, [([], [(1, [0])]), ([], [(1, [0])])], [], []),
  (7, 5, 474, 0, 0, 0, [], [], []),
  (0, 6, 476, 0, 0, 0, [([], [(1, [0]), (1, [1])]), ([], [(1, [0]), (1, [1])])], [], [0, 0]),
  (0, 30, 0, 0, 0, 0, [([], [(1, [0])]), ([], [(1, [0])])], [], []),
  (0, 6, 476, 0, 0, 0, [([], [(1, [0])]), ([], [(1, [0]), (1, [1])])], [], [1, 1]),
  (0, 30, 0, 0, 0, 0, [([], [(1, [0])]), ([], [(1, [0])])], [], []),
  (0, 1, 0, 0, 1, 0, [], [], []),
  (26, 6, 476, 0, 0, 0, [([], [(1, [0]), (1, [2])]), ([], [(1, [0]), (1, [1])])], [], [1, 1]),
  (0, 30, 0, 0, 0, 0, [([], [(1, [0])]), ([], [(1, [0])])], [], []),
  (7, 5, 474, 0, 0, 0, [], [], []),
  (0, 6, 476, 0, 0, 0, [([], [(1, [0]), (1, [1])]), ([], [(1, [0]), (1, [1])])], [], [0, 0]),
  (0, 30, 0, 0, 0, 0, [([], [(1, [0])]), ([], [(1, [0])])], [], []),
  (0, 6, 476, 0, 0, 0, [([], [(1, [0]), (1, [1])]), ([], [(1, [0])])], [], [1, 1]),
  (0, 30, 0, 0, 0, 0, [([], [(1, [0])]), ([], [(1, [0])])], [], []),
  (7, 5, 474, 0, 0, 0, [], [], []),
  (0, 6, 476, 0, 0, 0, [([], [(1, [0]), (1, [1])]), ([], [(1, [0]), (1, [1])])], [], [0, 0]),
  (0, 30, 0, 0, 0, 0, [([], [(1, [0])]), ([], [(1, [0])])], [], []),
  (0, 6, 476, 0, 0, 0, [([], [(1, [0])]), ([], [(1, [0]), (1, [1])])], [], [1, 1]),
  (0, 30, 0, 0, 0, 0, [([], [(1, [0])]), ([], [(1, [0])])], [], []),
  (0, 1, 0, 0, 2, 0, [], [], []),
  (26, 6, 476, 0, 0, 0, [([], [(1, [0]), (1, [2])]), ([], [(1, [0]), (1, [1])])], [], [1, 1]),
  (0, 30, 0, 0, 0, 0, [([], [(1, [0])]), ([], [(1, [0])])], [], []),
  (7, 5, 474, 0, 0, 0, [], [], []),
  (0, 6, 476, 0, 0, 0, [([], [(1, [0]), (1, [1])]), ([], [(1, [0]), (1, [1])])], [], [0, 0]),
  (0, 30, 0, 0, 0, 0, [([], [(1, [0])]), ([], [(1, [0])])], [], []),
  (0, 6, 476, 0, 0, 0, [([], [(1, [0]), (1, [1])]), ([], [(1, [0])])], [], [1, 1]),
  (0, 30, 0, 0, 0, 0, [([], [(1, [0])]), ([], [(1, [0])])], [], []),
  (7, 5, 474, 0, 0, 0, [], [], []),
  (0, 6, 476, 0, 0, 0, [([], [(1, [0]), (1, [1])]), ([], [(1, [0]), (1, [1])])], [], [0, 0]),
  (0, 30, 0, 0, 0, 0, [([], [(1, [0])]), ([], [(1, [0])])], [], []),
  (0, 6, 476, 0, 0, 0, [([], [(1, [0])]), ([], [(1, [0]), (1, [1])])], [], [1, 1]),
  (0, 30, 0, 0, 0, 0, [([], [(1, [0])]), ([], [(1, [0])])], [], []),
  (26, 6, 476, 0, 0, 0, [([], [(1, [0]), (1, [2])]), ([], [(1, [0]), (1, [1])])], [], [1, 1]),
  (0, 30, 0, 0, 0, 0, [([], [(1, [0])]), ([], [(1, [0])])], [], []),
  (7, 5, 474, 0, 0, 0, [], [], []),
  (0, 6, 476, 0, 0, 0, [([], [(1, [0]), (1, [1])]), ([], [(1, [0]), (1, [1])])], [], [0, 0]),
  (0, 30, 0, 0, 0, 0, [([], [(1, [0])]), ([], [(1, [0])])], [], []),
  (0, 6, 476, 0, 0, 0, [([], [(1, [0]), (1, [1])]), ([], [(1, [0])])], [], [1, 1]),
  (0, 30, 0, 0, 0, 0, [([], [(1, [0])]), ([], [(1, [0])])], [], []),
  (7, 5, 474, 0, 0, 0, [], [], []),
  (0, 6, 476, 0, 0, 0, [([], [(1, [0]), (1, [1])]), ([], [(1, [0]), (1, [1])])], [], [0, 0]),
  (0, 30, 0, 0, 0, 0, [([], [(1, [0])]), ([], [(1, [0])])], [], []),
  (0, 6, 476, 0, 0, 0, [([], [(1, [0])]), ([], [(1, [0]), (1, [1])])], [], [1, 1]),
  (0, 30, 0, 0, 0, 0, [([], [(1, [0])]), ([], [(1, [0])])], [], []),
  (3, 20, 2, 0, 0, 0, [], [], []),
  (0, 30, 0, 0, 0, 0, [([], [(1, [0])]), ([], [(1, [0])])], [], []),
  (0, 30, 0, 0, 0, 0, [([], [(1, [0])]), ([], [(1, [0])])], [], []),
  (6, 1, 0, 0, 0, 0, [], [], []),
  (26, 6, 476, 0, 0, 0, [([], [(1, [0]), (1, [2])]), ([], [(1, [0]), (1, [1])])], [], [1, 1]),
  (0, 30, 0, 0, 0, 0, [([], [(1, [0])]), ([], [(1, [0])])], [], []),
  (7, 5, 474, 0, 0, 0, [], [], []),
  (0, 6, 476, 0, 0, 0, [([], [(1, [0]), (1, [1])]), ([], [(1, [0]), (1, [1])])], [], [0, 0]),
  (0, 30, 0, 0, 0, 0, [([], [(1, [0])]), ([], [(1, [0])])], [], []),
  (0, 6, 476, 0, 0, 0, [([], [(1, [0]), (1, [1])]), ([], [(1, [0])])], [], [1, 1]),
  (0, 30, 0, 0, 0, 0, [([], [(1, [0])]), ([], [(1, [0])])], [], []),
  (7, 5, 474, 0, 0, 0, [], [], []),
  (0, 6, 476, 0, 0, 0, [([], [(1, [0]), (1, [1])]), ([], [(1, [0]), (1, [1])])], [], [0, 0]),
  (0, 30, 0, 0, 0, 0, [([], [(1, [0])]), ([], [(1, [0])])], [], []),
  (0, 6, 476, 0, 0, 0, [([], [(1, [0])]), ([], [(1, [0]), (1, [1])])], [], [1, 1]),
  (0, 30, 0, 0, 0, 0, [([], [(1, [0])]), ([], [(1, [0])])], [], []),
  (0, 1, 0, 0, 1, 0, [], [], []),
  (26, 6, 476, 0, 0, 0, [([], [(1, [0]), (1, [2])]), ([], [(1, [0]), (1, [1])])], [], [1, 1]),
  (0, 30, 0, 0, 0, 0, [([], [(1, [0])]), ([], [(1, [0])])], [], []),
  (7, 5, 474, 0, 0, 0, [], [], []),
  (0, 6, 476, 0, 0, 0, [([], [(1, [0]), (1, [1])]), ([], [(1, [0]), (1, [1])])], [], [0, 0]),
  (0, 30, 0, 0, 0, 0, [([], [(1, [0])]), ([], [(1, [0])])], [], []),
  (0, 6, 476, 0, 0, 0, [([], [(1, [0]), (1, [1])]), ([], [(1, [0])])], [], [1, 1]),
  (0, 30, 0, 0, 0, 0, [([], [(1, [0])]), ([], [(1, [0])])], [], []),
  (7, 5, 474, 0, 0, 0, [], [], []),
  (0, 6, 476, 0, 0, 0, [([], [(1, [0]), (1, [1])]), ([], [(1, [0]), (1, [1])])], [], [0, 0]),
  (0, 30, 0, 0, 0, 0, [([], [(1, [0])]), ([], [(1, [0])])], [], []),
  (0, 6, 476, 0, 0, 0, [([], [(1, [0])]), ([], [(1, [0]), (1, [1])])], [], [1, 1]),
  (0, 30, 0, 0, 0, 0, [([], [(1, [0])]), ([], [(1, [0])])], [], []),
  (0, 1, 0, 0, 2, 0, [], [], []),
  (26, 6, 476, 0, 0, 0, [([], [(1, [0]), (1, [2])]), ([], [(1, [0]), (1, [1])])], [], [1, 1]),
  (0, 30, 0, 0, 0, 0, [([], [(1, [0])]), ([], [(1, [0])])], [], []),
  (7, 5, 474, 0, 0, 0, [], [], []),
  (0, 6, 476, 0, 0, 0, [([], [(1, [0]), (1, [1])]), ([], [(1, [0]), (1, [1])])], [], [0, 0]),
  (0, 30, 0, 0, 0, 0, [([], [(1, [0])]), ([], [(1, [0])])], [], []),
  (0, 6, 476, 0, 0, 0, [([], [(1, [0]), (1, [1])]), ([], [(1, [0])])], [], [1, 1]),
  (0, 30, 0, 0, 0, 0, [([], [(1, [0])]), ([], [(1, [0])])], [], []),
  (7, 5, 474, 0, 0, 0, [], [], []),
  (0, 6, 476, 0, 0, 0, [([], [(1, [0]), (1, [1])]), ([], [(1, [0]), (1, [1])])], [], [0, 0]),
  (0, 30, 0, 0, 0, 0, [([], [(1, [0])]), ([], [(1, [0])])], [], []),
  (0, 6, 476, 0, 0, 0, [([], [(1, [0])]), ([], [(1, [0]), (1, [1])])], [], [1, 1]),
  (0, 30, 0, 0, 0, 0, [([], [(1, [0])]), ([], [(1, [0])])], [], []),
  (26, 6, 476, 0, 0, 0, [([], [(1, [0]), (1, [2])]), ([], [(1, [0]), (1, [1])])], [], [1, 1]),
  (0, 30, 0, 0, 0, 0, [([], [(1, [0])]), ([], [(1, [0])])], [], []),
  (7, 5, 474, 0, 0, 0, [], [], []),
  (0, 6, 476, 0, 0, 0, [([], [(1, [0]), (1, [1])]), ([], [(1, [0]), (1, [1])])], [], [0, 0]),
  (0, 30, 0, 0, 0, 0, [([], [(1, [0])]), ([], [(1, [0])])], [], []),
  (0, 6, 476, 0, 0, 0, [([], [(1, [0]), (1, [1])]), ([], [(1, [0])])], [], [1, 1]),
  (0, 30, 0, 0, 0, 0, [([], [(1, [0])]), ([], [(1, [0])])], [], []),
  (7, 5, 474, 0, 0, 0, [], [], []),
  (0, 6, 476, 0, 0, 0, [([], [(1, [0]), (1, [1])]), ([], [(1, [0]), (1, [1])])], [], [0, 0]),
  (0, 30, 0, 0, 0, 0, [([], [(1, [0])]), ([], [(1, [0])])], [], []),
  (0, 6, 476, 0, 0, 0, [([], [(1, [0])]), ([], [(1, [0]), (1, [1])])], [], [1, 1]),
  (0, 30, 0, 0, 0, 0, [([], [(1, [0])]), ([], [(1, [0])])], [], []),
  (0, 30, 0, 0, 0, 0, [([], [(1, [0])]), ([], [(1, [0])])], [], []),
  (6, 1, 0, 0, 0, 0, [], [], []),
  (26, 6, 476, 0, 0, 0, [([], [(1, [0]), (1, [2])]), ([], [(1, [0]), (1, [1])])], [], [1, 1]),
  (0, 30, 0, 0, 0, 0, [([], [(1, [0])]), ([], [(1, [0])])], [], []),
  (7, 5, 474, 0, 0, 0, [], [], []),
  (0, 6, 476, 0, 0, 0, [([], [(1, [0]), (1, [1])]), ([], [(1, [0]), (1, [1])])], [], [0, 0]),
  (0, 30, 0, 0, 0, 0, [([], [(1, [0])]), ([], [(1, [0])])], [], []),
  (0, 6, 476, 0, 0, 0, [([], [(1, [0]), (1, [1])]), ([], [(1, [0])])], [], [1, 1]),
  (0, 30, 0, 0, 0, 0, [([], [(1, [0])]), ([], [(1, [0])])], [], []),
  (7, 5, 474, 0, 0, 0, [], [], []),
  (0, 6, 476, 0, 0, 0, [([], [(1, [0]), (1, [1])]), ([], [(1, [0]), (1, [1])])], [], [0, 0]),
  (0, 30, 0, 0, 0, 0, [([], [(1, [0])]), ([], [(1, [0])])], [], []),
  (0, 6, 476, 0, 0, 0, [([], [(1, [0])]), ([], [(1, [0]), (1, [1])])], [], [1, 1]),
  (0, 30, 0, 0, 0, 0, [([], [(1, [0])]), ([], [(1, [0])])], [], []),
  (0, 1, 0, 0, 1, 0, [], [], []),
  (26, 6, 476, 0, 0, 0, [([], [(1, [0]), (1, [2])]), ([], [(1, [0]), (1, [1])])], [], [1, 1]),
  (0, 30, 0, 0, 0, 0, [([], [(1, [0])]), ([], [(1, [0])])], [], []),
  (7, 5, 474, 0, 0, 0, [], [], []),
  (0, 6, 476, 0, 0, 0, [([], [(1, [0]), (1, [1])]), ([], [(1, [0]), (1, [1])])], [], [0, 0]),
  (0, 30, 0, 0, 0, 0, [([], [(1, [0])]), ([], [(1, [0])])], [], []),
  (0, 6, 476, 0, 0, 0, [([], [(1, [0]), (1, [1])]), ([], [(1, [0])])], [], [1, 1]),
  (0, 30, 0, 0, 0, 0, [([], [(1, [0])]), ([], [(1, [0])])], [], []),
  (7, 5, 474, 0, 0, 0, [], [], []),
  (0, 6, 476, 0, 0, 0, [([], [(1, [0]), (1, [1])]), ([], [(1, [0]), (1, [1])])], [], [0, 0]),
  (0, 30, 0, 0, 0, 0, [([], [(1, [0])]), ([], [(1, [0])])], [], []),
  (0, 6, 476, 0, 0, 0, [([], [(1, [0])]), ([], [(1, [0]), (1, [1])])], [], [1, 1]),
  (0, 30, 0, 0, 0, 0, [([], [(1, [0])]), ([], [(1, [0])])], [], []),
  (0, 1, 0, 0, 2, 0, [], [], []),
  (26, 6, 476, 0, 0, 0, [([], [(1, [0]), (1, [2])]), ([], [(1, [0]), (1, [1])])], [], [1, 1]),
  (0, 30, 0, 0, 0, 0, [([], [(1, [0])]), ([], [(1, [0])])], [], []),
  (7, 5, 474, 0, 0, 0, [], [], []),
  (0, 6, 476, 0, 0, 0, [([], [(1, [0]), (1, [1])]), ([], [(1, [0]), (1, [1])])], [], [0, 0]),
  (0, 30, 0, 0, 0, 0, [([], [(1, [0])]), ([], [(1, [0])])], [], []),
  (0, 6, 476, 0, 0, 0, [([], [(1, [0]), (1, [1])]), ([], [(1, [0])])], [], [1, 1]),
  (0, 30, 0, 0, 0, 0, [([], [(1, [0])]), ([], [(1, [0])])], [], []),
  (7, 5, 474, 0, 0, 0, [], [], []),
  (0, 6, 476, 0, 0, 0, [([], [(1, [0]), (1, [1])]), ([], [(1, [0]), (1, [1])])], [], [0, 0]),
  (0, 30, 0, 0, 0, 0, [([], [(1, [0])]), ([], [(1, [0])])], [], []),
  (0, 6, 476, 0, 0, 0, [([], [(1, [0])]), ([], [(1, [0]), (1, [1])])], [], [1, 1]),
  (0, 30, 0, 0, 0, 0, [([], [(1, [0])]), ([], [(1, [0])])], [], []),
  (26, 6, 476, 0, 0, 0, [([], [(1, [0]), (1, [2])]), ([], [(1, [0]), (1, [1])])], [], [1, 1]),
  (0, 30, 0, 0, 0, 0, [([], [(1, [0])]), ([], [(1, [0])])], [], []),
  (7, 5, 474, 0, 0, 0, [], [], []),
  (0, 6, 476, 0, 0, 0, [([], [(1, [0]), (1, [1])]), ([], [(1, [0]), (1, [1])])], [], [0, 0]),
  (0, 30, 0, 0, 0, 0, [([], [(1, [0])]), ([], [(1, [0])])], [], [])]
set_option maxRecDepth 100000 in
noncomputable def sz_hd506_1_1 : List sy_Hn := [(0, 6, 476, 0, 0, 0, [([], [(1, [0]), (1, [1])]), ([], [(1, [0])])], [], [1, 1]),
  (0, 30, 0, 0, 0, 0, [([], [(1, [0])]), ([], [(1, [0])])], [], []),
  (7, 5, 474, 0, 0, 0, [], [], []),
  (0, 6, 476, 0, 0, 0, [([], [(1, [0]), (1, [1])]), ([], [(1, [0]), (1, [1])])], [], [0, 0]),
  (0, 30, 0, 0, 0, 0, [([], [(1, [0])]), ([], [(1, [0])])], [], []),
  (0, 6, 476, 0, 0, 0, [([], [(1, [0])]), ([], [(1, [0]), (1, [1])])], [], [1, 1]),
  (0, 30, 0, 0, 0, 0, [([], [(1, [0])]), ([], [(1, [0])])], [], []),
  (12, 1, 0, 0, 0, 0, [], [], []),
  (26, 6, 476, 0, 0, 0, [([], [(1, [0]), (1, [2])]), ([], [(1, [0]), (1, [1])])], [], [1, 1]),
  (0, 30, 0, 0, 0, 0, [([], [(1, [0])]), ([], [(1, [0])])], [], []),
  (7, 5, 474, 0, 0, 0, [], [], []),
  (0, 6, 476, 0, 0, 0, [([], [(1, [0]), (1, [1])]), ([], [(1, [0]), (1, [1])])], [], [0, 0]),
  (0, 30, 0, 0, 0, 0, [([], [(1, [0])]), ([], [(1, [0])])], [], []),
  (0, 6, 476, 0, 0, 0, [([], [(1, [0]), (1, [1])]), ([], [(1, [0])])], [], [1, 1]),
  (0, 30, 0, 0, 0, 0, [([], [(1, [0])]), ([], [(1, [0])])], [], []),
  (7, 5, 474, 0, 0, 0, [], [], []),
  (0, 6, 476, 0, 0, 0, [([], [(1, [0]), (1, [1])]), ([], [(1, [0]), (1, [1])])], [], [0, 0]),
  (0, 30, 0, 0, 0, 0, [([], [(1, [0])]), ([], [(1, [0])])], [], []),
  (0, 6, 476, 0, 0, 0, [([], [(1, [0])]), ([], [(1, [0]), (1, [1])])], [], [1, 1]),
  (0, 30, 0, 0, 0, 0, [([], [(1, [0])]), ([], [(1, [0])])], [], []),
  (0, 1, 0, 0, 1, 0, [], [], []),
  (26, 6, 476, 0, 0, 0, [([], [(1, [0]), (1, [2])]), ([], [(1, [0]), (1, [1])])], [], [1, 1]),
  (0, 30, 0, 0, 0, 0, [([], [(1, [0])]), ([], [(1, [0])])], [], []),
  (7, 5, 474, 0, 0, 0, [], [], []),
  (0, 6, 476, 0, 0, 0, [([], [(1, [0]), (1, [1])]), ([], [(1, [0]), (1, [1])])], [], [0, 0]),
  (0, 30, 0, 0, 0, 0, [([], [(1, [0])]), ([], [(1, [0])])], [], []),
  (0, 6, 476, 0, 0, 0, [([], [(1, [0]), (1, [1])]), ([], [(1, [0])])], [], [1, 1]),
  (0, 30, 0, 0, 0, 0, [([], [(1, [0])]), ([], [(1, [0])])], [], []),
  (7, 5, 474, 0, 0, 0, [], [], []),
  (0, 6, 476, 0, 0, 0, [([], [(1, [0]), (1, [1])]), ([], [(1, [0]), (1, [1])])], [], [0, 0]),
  (0, 30, 0, 0, 0, 0, [([], [(1, [0])]), ([], [(1, [0])])], [], []),
  (0, 6, 476, 0, 0, 0, [([], [(1, [0])]), ([], [(1, [0]), (1, [1])])], [], [1, 1]),
  (0, 30, 0, 0, 0, 0, [([], [(1, [0])]), ([], [(1, [0])])], [], []),
  (0, 1, 0, 0, 2, 0, [], [], []),
  (26, 6, 476, 0, 0, 0, [([], [(1, [0]), (1, [2])]), ([], [(1, [0]), (1, [1])])], [], [1, 1]),
  (0, 30, 0, 0, 0, 0, [([], [(1, [0])]), ([], [(1, [0])])], [], []),
  (7, 5, 474, 0, 0, 0, [], [], []),
  (0, 6, 476, 0, 0, 0, [([], [(1, [0]), (1, [1])]), ([], [(1, [0]), (1, [1])])], [], [0, 0]),
  (0, 30, 0, 0, 0, 0, [([], [(1, [0])]), ([], [(1, [0])])], [], []),
  (0, 6, 476, 0, 0, 0, [([], [(1, [0]), (1, [1])]), ([], [(1, [0])])], [], [1, 1]),
  (0, 30, 0, 0, 0, 0, [([], [(1, [0])]), ([], [(1, [0])])], [], []),
  (7, 5, 474, 0, 0, 0, [], [], []),
  (0, 6, 476, 0, 0, 0, [([], [(1, [0]), (1, [1])]), ([], [(1, [0]), (1, [1])])], [], [0, 0]),
  (0, 30, 0, 0, 0, 0, [([], [(1, [0])]), ([], [(1, [0])])], [], []),
  (0, 6, 476, 0, 0, 0, [([], [(1, [0])]), ([], [(1, [0]), (1, [1])])], [], [1, 1]),
  (0, 30, 0, 0, 0, 0, [([], [(1, [0])]), ([], [(1, [0])])], [], []),
  (26, 6, 476, 0, 0, 0, [([], [(1, [0]), (1, [2])]), ([], [(1, [0]), (1, [1])])], [], [1, 1]),
  (0, 30, 0, 0, 0, 0, [([], [(1, [0])]), ([], [(1, [0])])], [], []),
  (7, 5, 474, 0, 0, 0, [], [], []),
  (0, 6, 476, 0, 0, 0, [([], [(1, [0]), (1, [1])]), ([], [(1, [0]), (1, [1])])], [], [0, 0]),
  (0, 30, 0, 0, 0, 0, [([], [(1, [0])]), ([], [(1, [0])])], [], []),
  (0, 6, 476, 0, 0, 0, [([], [(1, [0]), (1, [1])]), ([], [(1, [0])])], [], [1, 1]),
  (0, 30, 0, 0, 0, 0, [([], [(1, [0])]), ([], [(1, [0])])], [], []),
  (7, 5, 474, 0, 0, 0, [], [], []),
  (0, 6, 476, 0, 0, 0, [([], [(1, [0]), (1, [1])]), ([], [(1, [0]), (1, [1])])], [], [0, 0]),
  (0, 30, 0, 0, 0, 0, [([], [(1, [0])]), ([], [(1, [0])])], [], []),
  (0, 6, 476, 0, 0, 0, [([], [(1, [0])]), ([], [(1, [0]), (1, [1])])], [], [1, 1]),
  (0, 30, 0, 0, 0, 0, [([], [(1, [0])]), ([], [(1, [0])])], [], []),
  (3, 20, 2, 0, 0, 0, [], [], []),
  (0, 30, 0, 0, 0, 0, [([], [(1, [0])]), ([], [(1, [0])])], [], [])]
noncomputable def sz_hd506_1 : List sy_Hn := sz_hd506_1_0 ++ (sz_hd506_1_1)
set_option maxRecDepth 100000 in
theorem sz_sd506_1 : sy_seg sz_E (pv_T (sz_own true) sz_T) sz_RU [sz_cd470, sz_cd500, sz_cd503, sz_cd504, sz_cd505] sz_cd506 sz_ud506 ri_m_X0_drive 1045 (some ((17, [(0, (3, .inr 2, .inl 0)), (1, (0, .inl 1, .inl 0)), (2, (3, .inr 22, .inl 0)), (3, (0, .inr 0, .inl 0))], ([((-1), 3)], []), [], [], [(4, [])]))) sz_hd506_1 = true := by decide +kernel
set_option maxRecDepth 100000 in
noncomputable def sz_hd506_2 : List sy_Hn := [(0, 30, 0, 0, 0, 0, [([], [(1, [0])]), ([], [(1, [0])])], [], []),
  (2, 20, 3, 0, 0, 0, [], [], []),
  (0, 30, 0, 0, 0, 0, [([], [(1, [0])]), ([], [(1, [0])])], [], []),
  (9, 20, 0, 0, 0, 0, [], [], []),
  (0, 30, 0, 0, 0, 0, [([], [(1, [0])]), ([], [(1, [0])])], [], [])]
set_option maxRecDepth 100000 in
theorem sz_sd506_2 : sy_seg sz_E (pv_T (sz_own true) sz_T) sz_RU [sz_cd470, sz_cd500, sz_cd503, sz_cd504, sz_cd505] sz_cd506 sz_ud506 ri_m_X0_drive 29 (some ((47, [(0, (3, .inr 2, .inl 0)), (1, (0, .inl 1, .inl 0)), (2, (3, .inr 22, .inl 0)), (3, (0, .inr 0, .inl 0))], ([((-1), (-1))], []), [], [], [(3, [])]))) sz_hd506_2 = true := by decide +kernel
set_option maxRecDepth 100000 in
noncomputable def sz_hd506_3 : List sy_Hn := [(1, 20, 4, 0, 0, 0, [], [], []),
  (0, 30, 0, 0, 0, 0, [([], [(1, [0])]), ([], [(1, [0])])], [], [])]
set_option maxRecDepth 100000 in
theorem sz_sd506_3 : sy_seg sz_E (pv_T (sz_own true) sz_T) sz_RU [sz_cd470, sz_cd500, sz_cd503, sz_cd504, sz_cd505] sz_cd506 sz_ud506 ri_m_X0_drive 10 (some ((63, [(0, (3, .inr 2, .inl 0)), (1, (0, .inl 1, .inl 0)), (2, (3, .inr 22, .inl 0)), (3, (0, .inr 0, .inl 0))], ([((-1), 3)], []), [], [], [(2, [])]))) sz_hd506_3 = true := by decide +kernel
set_option maxRecDepth 100000 in
noncomputable def sz_hd506_4 : List sy_Hn := [(0, 30, 0, 0, 0, 0, [([], [(1, [0])]), ([], [(1, [0])])], [], []),
  (0, 30, 0, 0, 0, 0, [([], [(1, [0])]), ([], [(1, [0])])], [], []),
  (0, 30, 0, 0, 0, 0, [([], [(1, [0])]), ([], [(1, [0])])], [], []),
  (0, 30, 0, 0, 0, 0, [([], [(1, [0])]), ([], [(1, [0])])], [], []),
  (0, 30, 0, 0, 0, 0, [([], [(1, [0])]), ([], [(1, [0])])], [], [])]
set_option maxRecDepth 100000 in
theorem sz_sd506_4 : sy_seg sz_E (pv_T (sz_own true) sz_T) sz_RU [sz_cd470, sz_cd500, sz_cd503, sz_cd504, sz_cd505] sz_cd506 sz_ud506 ri_m_X0_drive 54 (some ((65, [(0, (3, .inr 2, .inl 0)), (1, (0, .inl 1, .inl 0)), (2, (3, .inr 22, .inl 0)), (3, (0, .inr 0, .inl 0))], ([((-1), 3)], []), [], [], [(1, [])]))) sz_hd506_4 = true := by decide +kernel
set_option maxRecDepth 100000 in
noncomputable def sz_hd506_5 : List sy_Hn := [(0, 31, 0, 0, 0, 0, [], [], []),
  (4, 4, 25, 0, 0, 0, [], [], []),
  (0, 4, 25, 1, 0, 0, [], [], []),
  (0, 5, 474, 0, 0, 0, [], [], []),
  (0, 6, 475, 0, 0, 0, [([], [(1, [0]), (1, [1])]), ([], [(1, [0]), (1, [1])])], [], [0, 0]),
  (0, 31, 0, 0, 0, 0, [], [], []),
  (0, 5, 476, 0, 0, 0, [], [], []),
  (0, 6, 475, 0, 0, 0, [([], [(1, [0]), (1, [1])]), ([], [(1, [0]), (1, [1])])], [], [0, 0]),
  (0, 31, 0, 0, 0, 0, [], [], []),
  (0, 5, 476, 1, 0, 0, [], [], []),
  (0, 6, 475, 0, 0, 0, [([], [(1, [0]), (1, [1])]), ([], [(1, [0]), (1, [1])])], [], [0, 0]),
  (0, 31, 0, 0, 0, 0, [], [], []),
  (0, 6, 475, 0, 0, 0, [([], [(1, [0]), (1, [2])]), ([], [(1, [0]), (1, [1])])], [], [1, 1]),
  (0, 31, 0, 0, 0, 0, [], [], []),
  (0, 31, 0, 0, 0, 0, [], [], []),
  (4, 4, 25, 0, 0, 0, [], [], []),
  (0, 4, 25, 1, 0, 0, [], [], []),
  (0, 5, 474, 0, 0, 0, [], [], []),
  (0, 6, 475, 0, 0, 0, [([], [(1, [0]), (1, [1])]), ([], [(1, [0]), (1, [1])])], [], [0, 0]),
  (0, 31, 0, 0, 0, 0, [], [], []),
  (0, 5, 476, 0, 0, 0, [], [], []),
  (0, 6, 475, 0, 0, 0, [([], [(1, [0]), (1, [1])]), ([], [(1, [0]), (1, [1])])], [], [0, 0]),
  (0, 31, 0, 0, 0, 0, [], [], []),
  (0, 5, 476, 1, 0, 0, [], [], []),
  (0, 6, 475, 0, 0, 0, [([], [(1, [0]), (1, [1])]), ([], [(1, [0]), (1, [1])])], [], [0, 0]),
  (0, 31, 0, 0, 0, 0, [], [], []),
  (0, 6, 475, 0, 0, 0, [([], [(1, [0]), (1, [2])]), ([], [(1, [0]), (1, [1])])], [], [1, 1]),
  (0, 31, 0, 0, 0, 0, [], [], [])]
set_option maxRecDepth 100000 in
theorem sz_sd506_5 : sy_seg sz_E (pv_T (sz_own true) sz_T) sz_RU [sz_cd470, sz_cd500, sz_cd503, sz_cd504, sz_cd505] sz_cd506 sz_ud506 ri_m_X0_drive 83 (some ((78, [(0, (3, .inr 2, .inl 0)), (1, (0, .inl 1, .inl 0)), (2, (3, .inr 22, .inl 0)), (3, (0, .inr 0, .inl 0))], ([((-1), 3)], []), [], [], [(0, [])]))) sz_hd506_5 = true := by decide +kernel
theorem sz_okd506 (xs : Nat → Value) (L : Nat) : sy_Cok (sz_env xs L) (pv_T (sz_own true) sz_T) sz_RU sz_cd506 := sy_chk_ok (CT := [sz_cd470, sz_cd500, sz_cd503, sz_cd504, sz_cd505]) (CU := sz_ud506) (M := ri_m_X0_drive) (List.forall_mem_cons.mpr ⟨sz_okd470 xs L, List.forall_mem_cons.mpr ⟨sz_okd500 xs L, List.forall_mem_cons.mpr ⟨sz_okd503 xs L, List.forall_mem_cons.mpr ⟨sz_okd504 xs L, List.forall_mem_cons.mpr ⟨sz_okd505 xs L, fun _ h => absurd h List.not_mem_nil⟩⟩⟩⟩⟩) rfl rfl ⟨_, _, sz_sd506_0⟩ (List.forall_mem_cons.mpr ⟨⟨_, _, sz_sd506_1⟩, List.forall_mem_cons.mpr ⟨⟨_, _, sz_sd506_2⟩, List.forall_mem_cons.mpr ⟨⟨_, _, sz_sd506_3⟩, List.forall_mem_cons.mpr ⟨⟨_, _, sz_sd506_4⟩, List.forall_mem_cons.mpr ⟨⟨_, _, sz_sd506_5⟩, fun _ h => absurd h List.not_mem_nil⟩⟩⟩⟩⟩)

/-! X0_leastOn  -/
set_option maxRecDepth 100000 in
noncomputable def sz_cd507 : sy_Ct := (224, 0, 0, [(3, .inr 2, .inl 0), (0, .inl 2, .inl 0)], ([], []), [], [], [], [(.inl (some (0, .inr 0, .inl 0)), 0, 0, ([((-1), 3)], []), [], [])])
set_option maxRecDepth 100000 in
noncomputable def sz_ud507 : List sy_Cut := [(4, [(0, (3, .inr 2, .inl 0)), (1, (0, .inl 2, .inl 0)), (2, (0, .inr 0, .inl 0))], ([(3, 4)], []), [], [], [(4, []), ((-1), [0])])]
set_option maxRecDepth 100000 in
noncomputable def sz_hd507_0 : List sy_Hn := [(0, 30, 0, 0, 0, 0, [([], [(1, [0])]), ([], [])], [], [])]
set_option maxRecDepth 100000 in
theorem sz_sd507_0 : sy_seg sz_E (pv_T (sz_own true) sz_T) sz_RU [] sz_cd507 sz_ud507 ri_m_X0_leastOn 11 none sz_hd507_0 = true := by decide +kernel
set_option maxRecDepth 100000 in
noncomputable def sz_hd507_1 : List sy_Hn := [(0, 31, 0, 0, 0, 0, [], [], []),
  (0, 30, 0, 0, 0, 0, [([], [(1, [0])]), ([0], [(1, [0]), (1, [2])])], [], []),
  (0, 30, 0, 0, 0, 0, [([], [(1, [0])]), ([0], [(1, [0]), (1, [2])])], [], []),
  (0, 31, 0, 0, 0, 0, [], [], [])]
set_option maxRecDepth 100000 in
theorem sz_sd507_1 : sy_seg sz_E (pv_T (sz_own true) sz_T) sz_RU [] sz_cd507 sz_ud507 ri_m_X0_leastOn 30 (some ((4, [(0, (3, .inr 2, .inl 0)), (1, (0, .inl 2, .inl 0)), (2, (0, .inr 0, .inl 0))], ([(3, 4)], []), [], [], [(4, []), ((-1), [0])]))) sz_hd507_1 = true := by decide +kernel
theorem sz_okd507 (xs : Nat → Value) (L : Nat) : sy_Cok (sz_env xs L) (pv_T (sz_own true) sz_T) sz_RU sz_cd507 := sy_chk_ok (CT := []) (CU := sz_ud507) (M := ri_m_X0_leastOn) (fun _ h => absurd h List.not_mem_nil) rfl rfl ⟨_, _, sz_sd507_0⟩ (List.forall_mem_cons.mpr ⟨⟨_, _, sz_sd507_1⟩, fun _ h => absurd h List.not_mem_nil⟩)

/-! X0_shutDown  -/
set_option maxRecDepth 100000 in
noncomputable def sz_cd508 : sy_Ct := (221, 3, 64, [(3, .inr 2, .inl 0), (0, .inl 2, .inl 0), (0, .inl 2, .inl 0)], ([], []), [], [], [(6, 2, 2), (7, 0, 239), (34, 5, 5), (34, 12, 13), (34, 16, 16), (45, 0, 0)], [(.inl none, 0, 0, ([], []), [], [])])
set_option maxRecDepth 100000 in
noncomputable def sz_ud508 : List sy_Cut := []
set_option maxRecDepth 100000 in
noncomputable def sz_hd508_0 : List sy_Hn := [(32, 4, 37, 0, 0, 0, [], [], []),
  (0, 4, 37, 1, 0, 0, [], [], []),
  (0, 4, 44, 2, 0, 0, [], [], []),
  (0, 4, 44, 0, 0, 0, [], [], []),
  (0, 6, 482, 0, 0, 0, [([], [(1, [0])]), ([], [(1, [0])])], [], [0, 0]),
  (0, 4, 44, 5, 0, 0, [], [], []),
  (0, 4, 44, 6, 0, 0, [], [], []),
  (0, 6, 483, 0, 0, 0, [([], [(1, [0])]), ([], [(1, [0])])], [], [0, 0]),
  (1, 20, 0, 0, 0, 0, [], [], []),
  (0, 31, 0, 0, 0, 0, [], [], [])]
set_option maxRecDepth 100000 in
theorem sz_sd508_0 : sy_seg sz_E (pv_T (sz_own true) sz_T) sz_RU [sz_cd470] sz_cd508 sz_ud508 ri_m_X0_shutDown 49 none sz_hd508_0 = true := by decide +kernel
theorem sz_okd508 (xs : Nat → Value) (L : Nat) : sy_Cok (sz_env xs L) (pv_T (sz_own true) sz_T) sz_RU sz_cd508 := sy_chk_ok (CT := [sz_cd470]) (CU := sz_ud508) (M := ri_m_X0_shutDown) (List.forall_mem_cons.mpr ⟨sz_okd470 xs L, fun _ h => absurd h List.not_mem_nil⟩) rfl rfl ⟨_, _, sz_sd508_0⟩ (fun _ h => absurd h List.not_mem_nil)

/-! X0_shutDown  -/
set_option maxRecDepth 100000 in
noncomputable def sz_cd509 : sy_Ct := (221, 3, 64, [(3, .inr 2, .inl 0), (0, .inl 2, .inl 0), (0, .inl 1, .inl 0)], ([], []), [], [], [(6, 2, 2), (7, 0, 239), (34, 5, 5), (34, 12, 13), (34, 16, 16), (45, 0, 4)], [(.inl none, 0, 0, ([], []), [], [])])
set_option maxRecDepth 100000 in
noncomputable def sz_ud509 : List sy_Cut := []
set_option maxRecDepth 100000 in
noncomputable def sz_hd509_0 : List sy_Hn := [(36, 4, 37, 0, 0, 0, [], [], []),
  (0, 4, 37, 1, 0, 0, [], [], []),
  (0, 4, 44, 2, 0, 0, [], [], []),
  (0, 4, 44, 0, 0, 0, [], [], []),
  (0, 6, 482, 0, 0, 0, [([], [(1, [0])]), ([], [(1, [0])])], [], [0, 0]),
  (0, 4, 44, 5, 0, 0, [], [], []),
  (0, 4, 44, 6, 0, 0, [], [], []),
  (0, 6, 483, 0, 0, 0, [([], [(1, [0])]), ([], [(1, [0])])], [], [0, 0]),
  (1, 20, 0, 0, 0, 0, [], [], []),
  (0, 31, 0, 0, 0, 0, [], [], []),
  (4, 1, 0, 0, 0, 0, [], [], []),
  (33, 4, 37, 0, 0, 0, [], [], []),
  (0, 4, 37, 1, 0, 0, [], [], []),
  (0, 4, 44, 2, 0, 0, [], [], []),
  (0, 4, 44, 0, 0, 0, [], [], []),
  (0, 6, 482, 0, 0, 0, [([], [(1, [0])]), ([], [(1, [0])])], [], [0, 0]),
  (0, 4, 44, 5, 0, 0, [], [], []),
  (0, 4, 44, 6, 0, 0, [], [], []),
  (0, 6, 483, 0, 0, 0, [([], [(1, [0])]), ([], [(1, [0])])], [], [0, 0]),
  (1, 20, 0, 0, 0, 0, [], [], []),
  (0, 31, 0, 0, 0, 0, [], [], []),
  (25, 4, 37, 0, 0, 0, [], [], []),
  (0, 4, 37, 1, 0, 0, [], [], []),
  (0, 4, 44, 2, 0, 0, [], [], []),
  (0, 4, 44, 0, 0, 0, [], [], []),
  (0, 6, 482, 0, 0, 0, [([], [(1, [0])]), ([], [(1, [0])])], [], [0, 0]),
  (0, 4, 44, 5, 0, 0, [], [], []),
  (0, 4, 44, 6, 0, 0, [], [], []),
  (0, 6, 483, 0, 0, 0, [([], [(1, [0])]), ([], [(1, [0])])], [], [0, 0]),
  (1, 20, 0, 0, 0, 0, [], [], []),
  (0, 31, 0, 0, 0, 0, [], [], []),
  (0, 1, 0, 0, 1, 0, [], [], []),
  (33, 4, 37, 0, 0, 0, [], [], []),
  (0, 4, 37, 1, 0, 0, [], [], []),
  (0, 4, 44, 2, 0, 0, [], [], []),
  (0, 4, 44, 0, 0, 0, [], [], []),
  (0, 6, 482, 0, 0, 0, [([], [(1, [0])]), ([], [(1, [0])])], [], [0, 0]),
  (0, 4, 44, 5, 0, 0, [], [], []),
  (0, 4, 44, 6, 0, 0, [], [], []),
  (0, 6, 483, 0, 0, 0, [([], [(1, [0])]), ([], [(1, [0])])], [], [0, 0]),
  (1, 20, 0, 0, 0, 0, [], [], []),
  (0, 31, 0, 0, 0, 0, [], [], []),
  (25, 4, 37, 0, 0, 0, [], [], []),
  (0, 4, 37, 1, 0, 0, [], [], []),
  (0, 4, 44, 2, 0, 0, [], [], []),
  (0, 4, 44, 0, 0, 0, [], [], []),
  (0, 6, 482, 0, 0, 0, [([], [(1, [0])]), ([], [(1, [0])])], [], [0, 0]),
  (0, 4, 44, 5, 0, 0, [], [], []),
  (0, 4, 44, 6, 0, 0, [], [], []),
  (0, 6, 483, 0, 0, 0, [([], [(1, [0])]), ([], [(1, [0])])], [], [0, 0]),
  (1, 20, 0, 0, 0, 0, [], [], []),
  (0, 31, 0, 0, 0, 0, [], [], []),
  (0, 1, 0, 0, 2, 0, [], [], []),
  (34, 4, 37, 0, 0, 0, [], [], []),
  (0, 4, 37, 1, 0, 0, [], [], []),
  (0, 4, 44, 2, 0, 0, [], [], []),
  (0, 4, 44, 0, 0, 0, [], [], []),
  (0, 6, 482, 0, 0, 0, [([], [(1, [0])]), ([], [(1, [0])])], [], [0, 0]),
  (0, 4, 44, 5, 0, 0, [], [], []),
  (0, 4, 44, 6, 0, 0, [], [], []),
  (0, 6, 483, 0, 0, 0, [([], [(1, [0])]), ([], [(1, [0])])], [], [0, 0]),
  (1, 20, 0, 0, 0, 0, [], [], []),
  (0, 31, 0, 0, 0, 0, [], [], []),
  (33, 4, 37, 0, 0, 0, [], [], []),
  (0, 4, 37, 1, 0, 0, [], [], []),
  (0, 4, 44, 2, 0, 0, [], [], []),
  (0, 4, 44, 0, 0, 0, [], [], []),
  (0, 6, 482, 0, 0, 0, [([], [(1, [0])]), ([], [(1, [0])])], [], [0, 0]),
  (0, 4, 44, 5, 0, 0, [], [], []),
  (0, 4, 44, 6, 0, 0, [], [], []),
  (0, 6, 483, 0, 0, 0, [([], [(1, [0])]), ([], [(1, [0])])], [], [0, 0]),
  (1, 20, 0, 0, 0, 0, [], [], []),
  (0, 31, 0, 0, 0, 0, [], [], []),
  (25, 4, 37, 0, 0, 0, [], [], []),
  (0, 4, 37, 1, 0, 0, [], [], []),
  (0, 4, 44, 2, 0, 0, [], [], []),
  (0, 4, 44, 0, 0, 0, [], [], []),
  (0, 6, 482, 0, 0, 0, [([], [(1, [0])]), ([], [(1, [0])])], [], [0, 0]),
  (0, 4, 44, 5, 0, 0, [], [], []),
  (0, 4, 44, 6, 0, 0, [], [], []),
  (0, 6, 483, 0, 0, 0, [([], [(1, [0])]), ([], [(1, [0])])], [], [0, 0]),
  (1, 20, 0, 0, 0, 0, [], [], []),
  (0, 31, 0, 0, 0, 0, [], [], [])]
set_option maxRecDepth 100000 in
theorem sz_sd509_0 : sy_seg sz_E (pv_T (sz_own true) sz_T) sz_RU [sz_cd470] sz_cd509 sz_ud509 ri_m_X0_shutDown 355 none sz_hd509_0 = true := by decide +kernel
theorem sz_okd509 (xs : Nat → Value) (L : Nat) : sy_Cok (sz_env xs L) (pv_T (sz_own true) sz_T) sz_RU sz_cd509 := sy_chk_ok (CT := [sz_cd470]) (CU := sz_ud509) (M := ri_m_X0_shutDown) (List.forall_mem_cons.mpr ⟨sz_okd470 xs L, fun _ h => absurd h List.not_mem_nil⟩) rfl rfl ⟨_, _, sz_sd509_0⟩ (fun _ h => absurd h List.not_mem_nil)

/-! X0_shutDown  -/
set_option maxRecDepth 100000 in
noncomputable def sz_cd510 : sy_Ct := (221, 3, 64, [(3, .inr 2, .inl 0), (0, .inl 2, .inl 0), (0, .inl 0, .inl 0)], ([], []), [], [], [(6, 2, 2), (7, 0, 239), (34, 5, 5), (34, 12, 13), (34, 16, 16), (45, 0, 0)], [(.inl none, 0, 0, ([], []), [], [])])
set_option maxRecDepth 100000 in
noncomputable def sz_ud510 : List sy_Cut := []
set_option maxRecDepth 100000 in
noncomputable def sz_hd510_0 : List sy_Hn := [(32, 4, 37, 0, 0, 0, [], [], []),
  (0, 4, 37, 1, 0, 0, [], [], []),
  (0, 4, 44, 2, 0, 0, [], [], []),
  (0, 4, 44, 0, 0, 0, [], [], []),
  (0, 6, 482, 0, 0, 0, [([], [(1, [0])]), ([], [(1, [0])])], [], [0, 0]),
  (0, 4, 44, 5, 0, 0, [], [], []),
  (0, 4, 44, 6, 0, 0, [], [], []),
  (0, 6, 483, 0, 0, 0, [([], [(1, [0])]), ([], [(1, [0])])], [], [0, 0]),
  (1, 20, 0, 0, 0, 0, [], [], []),
  (0, 31, 0, 0, 0, 0, [], [], [])]
set_option maxRecDepth 100000 in
theorem sz_sd510_0 : sy_seg sz_E (pv_T (sz_own true) sz_T) sz_RU [sz_cd470] sz_cd510 sz_ud510 ri_m_X0_shutDown 49 none sz_hd510_0 = true := by decide +kernel
theorem sz_okd510 (xs : Nat → Value) (L : Nat) : sy_Cok (sz_env xs L) (pv_T (sz_own true) sz_T) sz_RU sz_cd510 := sy_chk_ok (CT := [sz_cd470]) (CU := sz_ud510) (M := ri_m_X0_shutDown) (List.forall_mem_cons.mpr ⟨sz_okd470 xs L, fun _ h => absurd h List.not_mem_nil⟩) rfl rfl ⟨_, _, sz_sd510_0⟩ (fun _ h => absurd h List.not_mem_nil)

/-! X0_leastOn  -/
set_option maxRecDepth 100000 in
noncomputable def sz_cd511 : sy_Ct := (224, 0, 0, [(3, .inr 2, .inl 0), (0, .inl 3, .inl 0)], ([], []), [], [], [], [(.inl (some (0, .inl (-1), .inl 0)), 0, 0, ([], []), [], [])])
set_option maxRecDepth 100000 in
noncomputable def sz_ud511 : List sy_Cut := [(4, [(0, (3, .inr 2, .inl 0)), (1, (0, .inl 3, .inl 0)), (2, (0, .inr 0, .inl 0))], ([(4, 4)], []), [], [], [(4, []), ((-1), [0])])]
set_option maxRecDepth 100000 in
noncomputable def sz_hd511_0 : List sy_Hn := [(0, 30, 0, 0, 0, 0, [([], [(1, [0])]), ([], [])], [], [])]
set_option maxRecDepth 100000 in
theorem sz_sd511_0 : sy_seg sz_E (pv_T (sz_own true) sz_T) sz_RU [] sz_cd511 sz_ud511 ri_m_X0_leastOn 11 none sz_hd511_0 = true := by decide +kernel
set_option maxRecDepth 100000 in
noncomputable def sz_hd511_1 : List sy_Hn := [(0, 31, 0, 0, 0, 0, [], [], [])]
set_option maxRecDepth 100000 in
theorem sz_sd511_1 : sy_seg sz_E (pv_T (sz_own true) sz_T) sz_RU [] sz_cd511 sz_ud511 ri_m_X0_leastOn 12 (some ((4, [(0, (3, .inr 2, .inl 0)), (1, (0, .inl 3, .inl 0)), (2, (0, .inr 0, .inl 0))], ([(4, 4)], []), [], [], [(4, []), ((-1), [0])]))) sz_hd511_1 = true := by decide +kernel
theorem sz_okd511 (xs : Nat → Value) (L : Nat) : sy_Cok (sz_env xs L) (pv_T (sz_own true) sz_T) sz_RU sz_cd511 := sy_chk_ok (CT := []) (CU := sz_ud511) (M := ri_m_X0_leastOn) (fun _ h => absurd h List.not_mem_nil) rfl rfl ⟨_, _, sz_sd511_0⟩ (List.forall_mem_cons.mpr ⟨⟨_, _, sz_sd511_1⟩, fun _ h => absurd h List.not_mem_nil⟩)

/-! X1_setFor  -/
set_option maxRecDepth 100000 in
noncomputable def sz_cd512 : sy_Ct := (304, 0, 0, [(3, .inr 39, .inl 0), (0, .inr 0, .inl 0), (0, .inr 1, .inl 0)], ([(0, 2), ((-2147483648), 2147483647)], []), [], [], [], [(.inl (some (0, .inr 2, .inl 0)), 0, 0, ([(0, 2), (0, 2), ((-2147483648), 2147483647)], []), [], [])])
set_option maxRecDepth 100000 in
noncomputable def sz_ud512 : List sy_Cut := [(4, [(0, (3, .inr 39, .inl 0)), (1, (0, .inr 0, .inl 0)), (2, (0, .inr 1, .inl 0)), (3, (0, .inr 2, .inl 0)), (4, (0, .inr 3, .inl 0))], ([(1, 3), (0, 2), (0, 2), ((-2147483648), 2147483647)], []), [], [], [(3, []), ((-1), [3])])]
set_option maxRecDepth 100000 in
noncomputable def sz_hd512_0 : List sy_Hn := [(0, 30, 0, 0, 0, 0, [([], [(1, [0])]), ([], [])], [], [])]
set_option maxRecDepth 100000 in
theorem sz_sd512_0 : sy_seg sz_E (pv_T (sz_own true) sz_T) sz_RU [] sz_cd512 sz_ud512 ri_m_X1_setFor 11 none sz_hd512_0 = true := by decide +kernel
set_option maxRecDepth 100000 in
noncomputable def sz_hd512_1 : List sy_Hn := [(0, 31, 0, 0, 0, 0, [], [], []),
  (0, 31, 0, 0, 0, 0, [], [], []),
  (0, 31, 0, 0, 0, 0, [], [], []),
  (0, 31, 0, 0, 0, 0, [], [], []),
  (0, 30, 0, 0, 0, 0, [([6], [(1, [0]), (1, [2])]), ([], [(1, [0]), (1, [1])])], [], []),
  (0, 30, 0, 0, 0, 0, [([6], [(1, [0]), (1, [2])]), ([], [(1, [0]), (1, [1])])], [], [])]
set_option maxRecDepth 100000 in
theorem sz_sd512_1 : sy_seg sz_E (pv_T (sz_own true) sz_T) sz_RU [] sz_cd512 sz_ud512 ri_m_X1_setFor 72 (some ((4, [(0, (3, .inr 39, .inl 0)), (1, (0, .inr 0, .inl 0)), (2, (0, .inr 1, .inl 0)), (3, (0, .inr 2, .inl 0)), (4, (0, .inr 3, .inl 0))], ([(1, 3), (0, 2), (0, 2), ((-2147483648), 2147483647)], []), [], [], [(3, []), ((-1), [3])]))) sz_hd512_1 = true := by decide +kernel
theorem sz_okd512 (xs : Nat → Value) (L : Nat) : sy_Cok (sz_env xs L) (pv_T (sz_own true) sz_T) sz_RU sz_cd512 := sy_chk_ok (CT := []) (CU := sz_ud512) (M := ri_m_X1_setFor) (fun _ h => absurd h List.not_mem_nil) rfl rfl ⟨_, _, sz_sd512_0⟩ (List.forall_mem_cons.mpr ⟨⟨_, _, sz_sd512_1⟩, fun _ h => absurd h List.not_mem_nil⟩)

/-! X2_keepI  -/
set_option maxRecDepth 100000 in
noncomputable def sz_cd513 : sy_Ct := (235, 1, 25, [(3, .inr 34, .inl 0), (1, .inr 0, .inl 0)], ([((-9223372036854775808), 9223372036854775807)], []), [], [], [(34, 8, 8)], [(.inl none, 0, 0, ([((-9223372036854775808), 9223372036854775807)], []), [], [])])
set_option maxRecDepth 100000 in
noncomputable def sz_ud513 : List sy_Cut := []
set_option maxRecDepth 100000 in
noncomputable def sz_hd513_0 : List sy_Hn := [(0, 31, 0, 0, 0, 0, [], [], []),
  (0, 31, 0, 0, 0, 0, [], [], []),
  (0, 31, 0, 0, 0, 0, [], [], [])]
set_option maxRecDepth 100000 in
theorem sz_sd513_0 : sy_seg sz_E (pv_T (sz_own true) sz_T) sz_RU [] sz_cd513 sz_ud513 ri_m_X2_keepI 35 none sz_hd513_0 = true := by decide +kernel
theorem sz_okd513 (xs : Nat → Value) (L : Nat) : sy_Cok (sz_env xs L) (pv_T (sz_own true) sz_T) sz_RU sz_cd513 := sy_chk_ok (CT := []) (CU := sz_ud513) (M := ri_m_X2_keepI) (fun _ h => absurd h List.not_mem_nil) rfl rfl ⟨_, _, sz_sd513_0⟩ (fun _ h => absurd h List.not_mem_nil)

/-! X2_chooseSet  -/
set_option maxRecDepth 100000 in
noncomputable def sz_cd514 : sy_Ct := (276, 2, 47, [(3, .inr 34, .inl 0)], ([], []), [], [], [(34, 8, 8), (34, 11, 11)], [(.inl (some (0, .inr 0, .inl 0)), 0, 0, ([(0, 1)], []), [], [])])
set_option maxRecDepth 100000 in
noncomputable def sz_ud514 : List sy_Cut := []
set_option maxRecDepth 100000 in
noncomputable def sz_hd514_0 : List sy_Hn := [(13, 20, 0, 0, 0, 0, [], [], []),
  (98, 20, 1, 0, 0, 0, [], [], []),
  (0, 31, 0, 0, 0, 0, [], [], []),
  (93, 20, 1, 0, 0, 0, [], [], []),
  (0, 31, 0, 0, 0, 0, [], [], []),
  (0, 31, 0, 0, 0, 0, [], [], [])]
set_option maxRecDepth 100000 in
theorem sz_sd514_0 : sy_seg sz_E (pv_T (sz_own true) sz_T) sz_RU [sz_cd512, sz_cd513] sz_cd514 sz_ud514 ri_m_X2_chooseSet 227 none sz_hd514_0 = true := by decide +kernel
theorem sz_okd514 (xs : Nat → Value) (L : Nat) : sy_Cok (sz_env xs L) (pv_T (sz_own true) sz_T) sz_RU sz_cd514 := sy_chk_ok (CT := [sz_cd512, sz_cd513]) (CU := sz_ud514) (M := ri_m_X2_chooseSet) (List.forall_mem_cons.mpr ⟨sz_okd512 xs L, List.forall_mem_cons.mpr ⟨sz_okd513 xs L, fun _ h => absurd h List.not_mem_nil⟩⟩) rfl rfl ⟨_, _, sz_sd514_0⟩ (fun _ h => absurd h List.not_mem_nil)

/-! X2_filterRate  -/
set_option maxRecDepth 100000 in
noncomputable def sz_cd515 : sy_Ct := (277, 1, 20, [(3, .inr 34, .inl 0)], ([], []), [], [], [(34, 9, 10)], [(.inl none, 0, 0, ([], []), [], [])])
set_option maxRecDepth 100000 in
noncomputable def sz_ud515 : List sy_Cut := []
set_option maxRecDepth 100000 in
noncomputable def sz_hd515_0 : List sy_Hn := [(0, 31, 0, 0, 0, 0, [], [], [])]
set_option maxRecDepth 100000 in
theorem sz_sd515_0 : sy_seg sz_E (pv_T (sz_own true) sz_T) sz_RU [] sz_cd515 sz_ud515 ri_m_X2_filterRate 47 none sz_hd515_0 = true := by decide +kernel
theorem sz_okd515 (xs : Nat → Value) (L : Nat) : sy_Cok (sz_env xs L) (pv_T (sz_own true) sz_T) sz_RU sz_cd515 := sy_chk_ok (CT := []) (CU := sz_ud515) (M := ri_m_X2_filterRate) (fun _ h => absurd h List.not_mem_nil) rfl rfl ⟨_, _, sz_sd515_0⟩ (fun _ h => absurd h List.not_mem_nil)

/-! X0_takeSp  -/
set_option maxRecDepth 100000 in
noncomputable def sz_cd516 : sy_Ct := (232, 0, 0, [(3, .inr 2, .inl 0), (3, .inr 34, .inl 0)], ([], []), [], [], [(34, 6, 6)], [(.inl none, 0, 0, ([], []), [], [])])
set_option maxRecDepth 100000 in
noncomputable def sz_ud516 : List sy_Cut := []
set_option maxRecDepth 100000 in
noncomputable def sz_hd516_0 : List sy_Hn := [(0, 31, 0, 0, 0, 0, [], [], []),
  (5, 1, 0, 0, 0, 0, [], [], []),
  (0, 31, 0, 0, 0, 0, [], [], []),
  (0, 1, 0, 0, 1, 0, [], [], []),
  (0, 31, 0, 0, 0, 0, [], [], []),
  (0, 1, 0, 0, 2, 0, [], [], []),
  (0, 31, 0, 0, 0, 0, [], [], []),
  (0, 31, 0, 0, 0, 0, [], [], [])]
set_option maxRecDepth 100000 in
theorem sz_sd516_0 : sy_seg sz_E (pv_T (sz_own true) sz_T) sz_RU [] sz_cd516 sz_ud516 ri_m_X0_takeSp 42 none sz_hd516_0 = true := by decide +kernel
theorem sz_okd516 (xs : Nat → Value) (L : Nat) : sy_Cok (sz_env xs L) (pv_T (sz_own true) sz_T) sz_RU sz_cd516 := sy_chk_ok (CT := []) (CU := sz_ud516) (M := ri_m_X0_takeSp) (fun _ h => absurd h List.not_mem_nil) rfl rfl ⟨_, _, sz_sd516_0⟩ (fun _ h => absurd h List.not_mem_nil)

/-! X0_measure  -/
set_option maxRecDepth 100000 in
noncomputable def sz_cd517 : sy_Ct := (222, 3, 68, [(3, .inr 2, .inl 0), (0, .inl 2, .inl 0)], ([], []), [], [], [(6, 2, 2), (7, 0, 239), (34, 6, 6), (34, 8, 11)], [(.inl none, 0, 0, ([], []), [], [])])
set_option maxRecDepth 100000 in
noncomputable def sz_ud517 : List sy_Cut := []
set_option maxRecDepth 100000 in
noncomputable def sz_hd517_0 : List sy_Hn := [(11, 20, 1, 0, 0, 0, [], [], []),
  (3, 20, 2, 0, 0, 0, [], [], []),
  (0, 31, 0, 0, 0, 0, [], [], []),
  (9, 20, 0, 0, 0, 0, [], [], []),
  (2, 20, 2, 0, 0, 0, [], [], []),
  (0, 31, 0, 0, 0, 0, [], [], []),
  (2, 20, 1, 0, 0, 0, [], [], []),
  (3, 20, 2, 0, 0, 0, [], [], []),
  (0, 31, 0, 0, 0, 0, [], [], []),
  (9, 20, 0, 0, 0, 0, [], [], []),
  (2, 20, 2, 0, 0, 0, [], [], []),
  (0, 31, 0, 0, 0, 0, [], [], []),
  (3, 20, 3, 0, 0, 0, [], [], []),
  (2, 20, 1, 0, 0, 0, [], [], []),
  (3, 20, 2, 0, 0, 0, [], [], []),
  (0, 31, 0, 0, 0, 0, [], [], []),
  (9, 20, 0, 0, 0, 0, [], [], []),
  (2, 20, 2, 0, 0, 0, [], [], []),
  (0, 31, 0, 0, 0, 0, [], [], [])]
set_option maxRecDepth 100000 in
theorem sz_sd517_0 : sy_seg sz_E (pv_T (sz_own true) sz_T) sz_RU [sz_cd470, sz_cd514, sz_cd515, sz_cd516] sz_cd517 sz_ud517 ri_m_X0_measure 90 none sz_hd517_0 = true := by decide +kernel
theorem sz_okd517 (xs : Nat → Value) (L : Nat) : sy_Cok (sz_env xs L) (pv_T (sz_own true) sz_T) sz_RU sz_cd517 := sy_chk_ok (CT := [sz_cd470, sz_cd514, sz_cd515, sz_cd516]) (CU := sz_ud517) (M := ri_m_X0_measure) (List.forall_mem_cons.mpr ⟨sz_okd470 xs L, List.forall_mem_cons.mpr ⟨sz_okd514 xs L, List.forall_mem_cons.mpr ⟨sz_okd515 xs L, List.forall_mem_cons.mpr ⟨sz_okd516 xs L, fun _ h => absurd h List.not_mem_nil⟩⟩⟩⟩) rfl rfl ⟨_, _, sz_sd517_0⟩ (fun _ h => absurd h List.not_mem_nil)

/-! X0_leads  -/
set_option maxRecDepth 100000 in
noncomputable def sz_cd518 : sy_Ct := (287, 0, 0, [(3, .inr 2, .inl 0), (0, .inl 2, .inl 0)], ([], []), [], [], [], [(.inl (some (0, .inr 0, .inl 0)), 0, 0, ([(0, 1)], []), [], [])])
set_option maxRecDepth 100000 in
noncomputable def sz_ud518 : List sy_Cut := [(4, [(0, (3, .inr 2, .inl 0)), (1, (0, .inl 2, .inl 0)), (2, (0, .inr 0, .inl 0))], ([(3, 4)], []), [], [], [(4, []), ((-1), [0])])]
set_option maxRecDepth 100000 in
noncomputable def sz_hd518_0 : List sy_Hn := [(0, 30, 0, 0, 0, 0, [([], [(1, [0])]), ([], [])], [], [])]
set_option maxRecDepth 100000 in
theorem sz_sd518_0 : sy_seg sz_E (pv_T (sz_own true) sz_T) sz_RU [] sz_cd518 sz_ud518 ri_m_X0_leads 11 none sz_hd518_0 = true := by decide +kernel
set_option maxRecDepth 100000 in
noncomputable def sz_hd518_1 : List sy_Hn := [(0, 31, 0, 0, 0, 0, [], [], []),
  (0, 30, 0, 0, 0, 0, [([], [(1, [0])]), ([0], [(1, [0]), (1, [2])])], [], []),
  (0, 30, 0, 0, 0, 0, [([], [(1, [0])]), ([0], [(1, [0]), (1, [2])])], [], []),
  (0, 30, 0, 0, 0, 0, [([], [(1, [0])]), ([0], [(1, [0]), (1, [2])])], [], []),
  (0, 30, 0, 0, 0, 0, [([], [(1, [0])]), ([0], [(1, [0]), (1, [2])])], [], []),
  (0, 31, 0, 0, 0, 0, [], [], [])]
set_option maxRecDepth 100000 in
theorem sz_sd518_1 : sy_seg sz_E (pv_T (sz_own true) sz_T) sz_RU [] sz_cd518 sz_ud518 ri_m_X0_leads 45 (some ((4, [(0, (3, .inr 2, .inl 0)), (1, (0, .inl 2, .inl 0)), (2, (0, .inr 0, .inl 0))], ([(3, 4)], []), [], [], [(4, []), ((-1), [0])]))) sz_hd518_1 = true := by decide +kernel
theorem sz_okd518 (xs : Nat → Value) (L : Nat) : sy_Cok (sz_env xs L) (pv_T (sz_own true) sz_T) sz_RU sz_cd518 := sy_chk_ok (CT := []) (CU := sz_ud518) (M := ri_m_X0_leads) (fun _ h => absurd h List.not_mem_nil) rfl rfl ⟨_, _, sz_sd518_0⟩ (List.forall_mem_cons.mpr ⟨⟨_, _, sz_sd518_1⟩, fun _ h => absurd h List.not_mem_nil⟩)

/-! X0_followedOf  -/
set_option maxRecDepth 100000 in
noncomputable def sz_cd519 : sy_Ct := (252, 1, 22, [(3, .inr 2, .inl 0), (0, .inl 2, .inl 0)], ([], []), [], [], [], [(.inl (some (0, .inr 0, .inl 0)), 0, 0, ([((-1), 3)], []), [], [])])
set_option maxRecDepth 100000 in
noncomputable def sz_ud519 : List sy_Cut := []
set_option maxRecDepth 100000 in
noncomputable def sz_hd519_0 : List sy_Hn := [(12, 20, 1, 0, 0, 0, [], [], []),
  (0, 31, 0, 0, 0, 0, [], [], []),
  (3, 20, 0, 0, 0, 0, [], [], []),
  (0, 31, 0, 0, 0, 0, [], [], []),
  (0, 31, 0, 0, 0, 0, [], [], []),
  (0, 31, 0, 0, 0, 0, [], [], []),
  (3, 20, 1, 0, 0, 0, [], [], []),
  (0, 31, 0, 0, 0, 0, [], [], []),
  (3, 20, 0, 0, 0, 0, [], [], []),
  (0, 31, 0, 0, 0, 0, [], [], [])]
set_option maxRecDepth 100000 in
theorem sz_sd519_0 : sy_seg sz_E (pv_T (sz_own true) sz_T) sz_RU [sz_cd507, sz_cd518] sz_cd519 sz_ud519 ri_m_X0_followedOf 56 none sz_hd519_0 = true := by decide +kernel
theorem sz_okd519 (xs : Nat → Value) (L : Nat) : sy_Cok (sz_env xs L) (pv_T (sz_own true) sz_T) sz_RU sz_cd519 := sy_chk_ok (CT := [sz_cd507, sz_cd518]) (CU := sz_ud519) (M := ri_m_X0_followedOf) (List.forall_mem_cons.mpr ⟨sz_okd507 xs L, List.forall_mem_cons.mpr ⟨sz_okd518 xs L, fun _ h => absurd h List.not_mem_nil⟩⟩) rfl rfl ⟨_, _, sz_sd519_0⟩ (fun _ h => absurd h List.not_mem_nil)

/-! X0_heldAt  -/
set_option maxRecDepth 100000 in
noncomputable def sz_cd520 : sy_Ct := (305, 0, 0, [(3, .inr 2, .inl 0), (0, .inl 2, .inl 0), (0, .inl (-1), .inl 0)], ([], []), [], [], [], [(.inl (some (0, .inr 0, .inl 0)), 0, 0, ([(0, 1)], []), [], [])])
set_option maxRecDepth 100000 in
noncomputable def sz_ud520 : List sy_Cut := [(4, [(0, (3, .inr 2, .inl 0)), (1, (0, .inl 2, .inl 0)), (2, (0, .inl (-1), .inl 0)), (3, (0, .inr 0, .inl 0))], ([(3, 4)], []), [], [], [(4, []), ((-1), [0])])]
set_option maxRecDepth 100000 in
noncomputable def sz_hd520_0 : List sy_Hn := [(0, 30, 0, 0, 0, 0, [([], [(1, [0])]), ([], [])], [], [])]
set_option maxRecDepth 100000 in
theorem sz_sd520_0 : sy_seg sz_E (pv_T (sz_own true) sz_T) sz_RU [] sz_cd520 sz_ud520 ri_m_X0_heldAt 11 none sz_hd520_0 = true := by decide +kernel
set_option maxRecDepth 100000 in
noncomputable def sz_hd520_1 : List sy_Hn := [(0, 31, 0, 0, 0, 0, [], [], []),
  (0, 30, 0, 0, 0, 0, [([], [(1, [0])]), ([0], [(1, [0]), (1, [2])])], [], []),
  (0, 30, 0, 0, 0, 0, [([], [(1, [0])]), ([0], [(1, [0]), (1, [2])])], [], []),
  (0, 30, 0, 0, 0, 0, [([], [(1, [0])]), ([0], [(1, [0]), (1, [2])])], [], []),
  (0, 30, 0, 0, 0, 0, [([], [(1, [0])]), ([0], [(1, [0]), (1, [2])])], [], []),
  (0, 30, 0, 0, 0, 0, [([], [(1, [0])]), ([0], [(1, [0]), (1, [2])])], [], []),
  (0, 31, 0, 0, 0, 0, [], [], [])]
set_option maxRecDepth 100000 in
theorem sz_sd520_1 : sy_seg sz_E (pv_T (sz_own true) sz_T) sz_RU [] sz_cd520 sz_ud520 ri_m_X0_heldAt 52 (some ((4, [(0, (3, .inr 2, .inl 0)), (1, (0, .inl 2, .inl 0)), (2, (0, .inl (-1), .inl 0)), (3, (0, .inr 0, .inl 0))], ([(3, 4)], []), [], [], [(4, []), ((-1), [0])]))) sz_hd520_1 = true := by decide +kernel
theorem sz_okd520 (xs : Nat → Value) (L : Nat) : sy_Cok (sz_env xs L) (pv_T (sz_own true) sz_T) sz_RU sz_cd520 := sy_chk_ok (CT := []) (CU := sz_ud520) (M := ri_m_X0_heldAt) (fun _ h => absurd h List.not_mem_nil) rfl rfl ⟨_, _, sz_sd520_0⟩ (List.forall_mem_cons.mpr ⟨⟨_, _, sz_sd520_1⟩, fun _ h => absurd h List.not_mem_nil⟩)

/-! X0_heldAt  -/
set_option maxRecDepth 100000 in
noncomputable def sz_cd521 : sy_Ct := (305, 0, 0, [(3, .inr 2, .inl 0), (0, .inl 2, .inl 0), (0, .inl 1, .inl 0)], ([], []), [], [], [], [(.inl (some (0, .inr 0, .inl 0)), 0, 0, ([(0, 1)], []), [], [])])
set_option maxRecDepth 100000 in
noncomputable def sz_ud521 : List sy_Cut := [(4, [(0, (3, .inr 2, .inl 0)), (1, (0, .inl 2, .inl 0)), (2, (0, .inl 1, .inl 0)), (3, (0, .inr 0, .inl 0))], ([(3, 4)], []), [], [], [(4, []), ((-1), [0])])]
set_option maxRecDepth 100000 in
noncomputable def sz_hd521_0 : List sy_Hn := [(0, 30, 0, 0, 0, 0, [([], [(1, [0])]), ([], [])], [], [])]
set_option maxRecDepth 100000 in
theorem sz_sd521_0 : sy_seg sz_E (pv_T (sz_own true) sz_T) sz_RU [] sz_cd521 sz_ud521 ri_m_X0_heldAt 11 none sz_hd521_0 = true := by decide +kernel
set_option maxRecDepth 100000 in
noncomputable def sz_hd521_1 : List sy_Hn := [(0, 31, 0, 0, 0, 0, [], [], []),
  (0, 30, 0, 0, 0, 0, [([], [(1, [0])]), ([0], [(1, [0]), (1, [2])])], [], []),
  (0, 30, 0, 0, 0, 0, [([], [(1, [0])]), ([0], [(1, [0]), (1, [2])])], [], []),
  (0, 30, 0, 0, 0, 0, [([], [(1, [0])]), ([0], [(1, [0]), (1, [2])])], [], []),
  (0, 30, 0, 0, 0, 0, [([], [(1, [0])]), ([0], [(1, [0]), (1, [2])])], [], []),
  (0, 30, 0, 0, 0, 0, [([], [(1, [0])]), ([0], [(1, [0]), (1, [2])])], [], []),
  (0, 31, 0, 0, 0, 0, [], [], [])]
set_option maxRecDepth 100000 in
theorem sz_sd521_1 : sy_seg sz_E (pv_T (sz_own true) sz_T) sz_RU [] sz_cd521 sz_ud521 ri_m_X0_heldAt 52 (some ((4, [(0, (3, .inr 2, .inl 0)), (1, (0, .inl 2, .inl 0)), (2, (0, .inl 1, .inl 0)), (3, (0, .inr 0, .inl 0))], ([(3, 4)], []), [], [], [(4, []), ((-1), [0])]))) sz_hd521_1 = true := by decide +kernel
theorem sz_okd521 (xs : Nat → Value) (L : Nat) : sy_Cok (sz_env xs L) (pv_T (sz_own true) sz_T) sz_RU sz_cd521 := sy_chk_ok (CT := []) (CU := sz_ud521) (M := ri_m_X0_heldAt) (fun _ h => absurd h List.not_mem_nil) rfl rfl ⟨_, _, sz_sd521_0⟩ (List.forall_mem_cons.mpr ⟨⟨_, _, sz_sd521_1⟩, fun _ h => absurd h List.not_mem_nil⟩)

/-! X0_rule  -/
set_option maxRecDepth 100000 in
noncomputable def sz_cd522 : sy_Ct := (278, 2, 47, [(3, .inr 2, .inl 0), (0, .inl 2, .inl 0)], ([], []), [], [], [(8, 2, 2), (34, 7, 8), (34, 12, 12)], [(.inl none, 0, 0, ([], []), [], [])])
set_option maxRecDepth 100000 in
noncomputable def sz_ud522 : List sy_Cut := [(29, [(0, (3, .inr 2, .inl 0)), (1, (0, .inl 2, .inl 0)), (2, (3, .inr 34, .inl 0)), (3, (1, .inr 0, .inl 0)), (5, (1, .inr 1, .inl 0))], ([((-140737488355328), 140737488355327), ((-9223372036854775808), 9223372036854775807)], []), [], [], [(3, [])]), (50, [(0, (3, .inr 2, .inl 0)), (1, (0, .inl 2, .inl 0)), (2, (3, .inr 34, .inl 0)), (3, (1, .inr 0, .inl 0)), (5, (1, .inr 1, .inl 0))], ([((-140737488355328), 140737488355327), ((-9223372036854775808), 9223372036854775807)], []), [], [], [(2, [])]), (79, [(0, (3, .inr 2, .inl 0)), (1, (0, .inl 2, .inl 0)), (2, (3, .inr 34, .inl 0)), (3, (1, .inr 0, .inl 0)), (5, (1, .inr 1, .inl 0)), (7, (1, .inr 2, .inl 0))], ([((-9223372036854775808), 9223372036854775807), ((-140737488355328), 140737488355327), ((-9223372036854775808), 9223372036854775807)], []), [], [], [(1, [])]), (100, [(0, (3, .inr 2, .inl 0)), (1, (0, .inl 2, .inl 0)), (2, (3, .inr 34, .inl 0)), (3, (1, .inr 0, .inl 0)), (5, (1, .inr 1, .inl 0)), (7, (1, .inr 2, .inl 0))], ([((-9223372036854775808), 9223372036854775807), ((-140737488355328), 140737488355327), ((-9223372036854775808), 9223372036854775807)], []), [], [], [(0, [])])]
set_option maxRecDepth 100000 in
noncomputable def sz_hd522_0 : List sy_Hn := [(95, 6, 481, 0, 0, 0, [([], [(1, [0]), (1, [2])]), ([], [(1, [0]), (1, [1])])], [], [1, 1]),
  (0, 30, 0, 0, 0, 0, [([], [(1, [0])]), ([], [])], [], []),
  (6, 5, 479, 0, 0, 0, [], [], []),
  (0, 6, 481, 0, 0, 0, [([], [(1, [0]), (1, [1])]), ([], [(1, [0]), (1, [1])])], [], [0, 0]),
  (0, 30, 0, 0, 0, 0, [([], [(1, [0])]), ([], [])], [], []),
  (0, 6, 481, 0, 0, 0, [([], [(1, [0]), (1, [1])]), ([], [(1, [0])])], [], [1, 1]),
  (0, 30, 0, 0, 0, 0, [([], [(1, [0])]), ([], [])], [], []),
  (6, 5, 479, 0, 0, 0, [], [], []),
  (0, 6, 481, 0, 0, 0, [([], [(1, [0]), (1, [1])]), ([], [(1, [0]), (1, [1])])], [], [0, 0]),
  (0, 30, 0, 0, 0, 0, [([], [(1, [0])]), ([], [])], [], []),
  (0, 6, 481, 0, 0, 0, [([], [(1, [0])]), ([], [(1, [0]), (1, [1])])], [], [1, 1]),
  (0, 30, 0, 0, 0, 0, [([], [(1, [0])]), ([], [])], [], []),
  (31, 6, 481, 0, 0, 0, [([], [(1, [0]), (1, [2])]), ([], [(1, [0]), (1, [1])])], [], [1, 1]),
  (0, 30, 0, 0, 0, 0, [([], [(1, [0])]), ([], [])], [], []),
  (6, 5, 479, 0, 0, 0, [], [], []),
  (0, 6, 481, 0, 0, 0, [([], [(1, [0]), (1, [1])]), ([], [(1, [0]), (1, [1])])], [], [0, 0]),
  (0, 30, 0, 0, 0, 0, [([], [(1, [0])]), ([], [])], [], []),
  (0, 6, 481, 0, 0, 0, [([], [(1, [0]), (1, [1])]), ([], [(1, [0])])], [], [1, 1]),
  (0, 30, 0, 0, 0, 0, [([], [(1, [0])]), ([], [])], [], []),
  (6, 5, 479, 0, 0, 0, [], [], []),
  (0, 6, 481, 0, 0, 0, [([], [(1, [0]), (1, [1])]), ([], [(1, [0]), (1, [1])])], [], [0, 0]),
  (0, 30, 0, 0, 0, 0, [([], [(1, [0])]), ([], [])], [], []),
  (0, 6, 481, 0, 0, 0, [([], [(1, [0])]), ([], [(1, [0]), (1, [1])])], [], [1, 1]),
  (0, 30, 0, 0, 0, 0, [([], [(1, [0])]), ([], [])], [], [])]
set_option maxRecDepth 100000 in
theorem sz_sd522_0 : sy_seg sz_E (pv_T (sz_own true) sz_T) sz_RU [sz_cd513, sz_cd520, sz_cd521] sz_cd522 sz_ud522 ri_m_X0_rule 193 none sz_hd522_0 = true := by decide +kernel
set_option maxRecDepth 100000 in
noncomputable def sz_hd522_1 : List sy_Hn := [(0, 30, 0, 0, 0, 0, [([], [(1, [0])]), ([], [(1, [0])])], [], []),
  (0, 30, 0, 0, 0, 0, [([], [(1, [0])]), ([], [(1, [0])])], [], []),
  (0, 30, 0, 0, 0, 0, [([], [(1, [0])]), ([], [(1, [0])])], [], [])]
set_option maxRecDepth 100000 in
theorem sz_sd522_1 : sy_seg sz_E (pv_T (sz_own true) sz_T) sz_RU [sz_cd513, sz_cd520, sz_cd521] sz_cd522 sz_ud522 ri_m_X0_rule 34 (some ((29, [(0, (3, .inr 2, .inl 0)), (1, (0, .inl 2, .inl 0)), (2, (3, .inr 34, .inl 0)), (3, (1, .inr 0, .inl 0)), (5, (1, .inr 1, .inl 0))], ([((-140737488355328), 140737488355327), ((-9223372036854775808), 9223372036854775807)], []), [], [], [(3, [])]))) sz_hd522_1 = true := by decide +kernel
set_option maxRecDepth 100000 in
noncomputable def sz_hd522_2 : List sy_Hn := [(0, 30, 0, 0, 0, 0, [([], [(1, [0])]), ([], [(1, [0])])], [], [])]
set_option maxRecDepth 100000 in
theorem sz_sd522_2 : sy_seg sz_E (pv_T (sz_own true) sz_T) sz_RU [sz_cd513, sz_cd520, sz_cd521] sz_cd522 sz_ud522 ri_m_X0_rule 41 (some ((50, [(0, (3, .inr 2, .inl 0)), (1, (0, .inl 2, .inl 0)), (2, (3, .inr 34, .inl 0)), (3, (1, .inr 0, .inl 0)), (5, (1, .inr 1, .inl 0))], ([((-140737488355328), 140737488355327), ((-9223372036854775808), 9223372036854775807)], []), [], [], [(2, [])]))) sz_hd522_2 = true := by decide +kernel
set_option maxRecDepth 100000 in
noncomputable def sz_hd522_3 : List sy_Hn := [(0, 30, 0, 0, 0, 0, [([], [(1, [0])]), ([], [(1, [0])])], [], []),
  (8, 20, 1, 0, 0, 0, [], [], []),
  (0, 30, 0, 0, 0, 0, [([], [(1, [0])]), ([], [(1, [0])])], [], []),
  (6, 20, 0, 0, 0, 0, [], [], []),
  (0, 30, 0, 0, 0, 0, [([], [(1, [0])]), ([], [(1, [0])])], [], []),
  (3, 20, 2, 0, 0, 0, [], [], []),
  (0, 30, 0, 0, 0, 0, [([], [(1, [0])]), ([], [(1, [0])])], [], []),
  (6, 20, 0, 0, 0, 0, [], [], []),
  (0, 30, 0, 0, 0, 0, [([], [(1, [0])]), ([], [(1, [0])])], [], [])]
set_option maxRecDepth 100000 in
theorem sz_sd522_3 : sy_seg sz_E (pv_T (sz_own true) sz_T) sz_RU [sz_cd513, sz_cd520, sz_cd521] sz_cd522 sz_ud522 ri_m_X0_rule 48 (some ((79, [(0, (3, .inr 2, .inl 0)), (1, (0, .inl 2, .inl 0)), (2, (3, .inr 34, .inl 0)), (3, (1, .inr 0, .inl 0)), (5, (1, .inr 1, .inl 0)), (7, (1, .inr 2, .inl 0))], ([((-9223372036854775808), 9223372036854775807), ((-140737488355328), 140737488355327), ((-9223372036854775808), 9223372036854775807)], []), [], [], [(1, [])]))) sz_hd522_3 = true := by decide +kernel
set_option maxRecDepth 100000 in
noncomputable def sz_hd522_4 : List sy_Hn := [(0, 31, 0, 0, 0, 0, [], [], [])]
set_option maxRecDepth 100000 in
theorem sz_sd522_4 : sy_seg sz_E (pv_T (sz_own true) sz_T) sz_RU [sz_cd513, sz_cd520, sz_cd521] sz_cd522 sz_ud522 ri_m_X0_rule 7 (some ((100, [(0, (3, .inr 2, .inl 0)), (1, (0, .inl 2, .inl 0)), (2, (3, .inr 34, .inl 0)), (3, (1, .inr 0, .inl 0)), (5, (1, .inr 1, .inl 0)), (7, (1, .inr 2, .inl 0))], ([((-9223372036854775808), 9223372036854775807), ((-140737488355328), 140737488355327), ((-9223372036854775808), 9223372036854775807)], []), [], [], [(0, [])]))) sz_hd522_4 = true := by decide +kernel
theorem sz_okd522 (xs : Nat → Value) (L : Nat) : sy_Cok (sz_env xs L) (pv_T (sz_own true) sz_T) sz_RU sz_cd522 := sy_chk_ok (CT := [sz_cd513, sz_cd520, sz_cd521]) (CU := sz_ud522) (M := ri_m_X0_rule) (List.forall_mem_cons.mpr ⟨sz_okd513 xs L, List.forall_mem_cons.mpr ⟨sz_okd520 xs L, List.forall_mem_cons.mpr ⟨sz_okd521 xs L, fun _ h => absurd h List.not_mem_nil⟩⟩⟩) rfl rfl ⟨_, _, sz_sd522_0⟩ (List.forall_mem_cons.mpr ⟨⟨_, _, sz_sd522_1⟩, List.forall_mem_cons.mpr ⟨⟨_, _, sz_sd522_2⟩, List.forall_mem_cons.mpr ⟨⟨_, _, sz_sd522_3⟩, List.forall_mem_cons.mpr ⟨⟨_, _, sz_sd522_4⟩, fun _ h => absurd h List.not_mem_nil⟩⟩⟩⟩)

/-! X2_relayEnds  -/
set_option maxRecDepth 100000 in
noncomputable def sz_cd523 : sy_Ct := (280, 2, 45, [(3, .inr 34, .inl 0)], ([], []), [((34, 5), (0, .inl 3, .inl 0))], [], [(34, 5, 5), (34, 7, 7), (34, 17, 18), (44, 3, 8)], [(.inl (some (0, .inr 0, .inl 0)), 0, 0, ([(0, 1)], []), [], [])])
set_option maxRecDepth 100000 in
noncomputable def sz_ud523 : List sy_Cut := []
set_option maxRecDepth 100000 in
noncomputable def sz_hd523_0_0 : List sy_Hn := [(22, 20, 0, 0, 0, 0, [], [], []),
  (6, 20, 1, 0, 0, 0, [], [], []),
  (6, 4, 44, 6, 0, 0, [], [], []),
  (0, 5, 483, 0, 0, 0, [], [], []),
  (0, 7, 0, 0, 0, 0, [([], [(1, [0])])], [], []),
  (0, 3, 9, 0, 1, 240, [([9], [(1, [0]), (1, [1])]), ([], [(1, [0]), (1, [3]), (1, [1])])], [], []),
  (0, 5, 483, 1, 0, 0, [], [], []),
  (0, 7, 0, 0, 0, 0, [([], [(1, [0])])], [], []),
  (6, 3, 11, 0, 1, 240, [([11], [(1, [0]), (1, [1])]), ([], [(1, [0]), (1, [2]), (1, [3]), (1, [4])])], [], []),
  (39, 4, 37, 0, 0, 0, [], [], []),
  (0, 4, 37, 1, 0, 0, [], [], []),
  (0, 5, 479, 0, 0, 0, [], [], []),
  (0, 6, 481, 0, 0, 0, [([], [(1, [0]), (1, [1])]), ([], [(1, [0]), (1, [1])])], [], [0, 0]),
  (0, 6, 483, 0, 0, 0, [([9], [(1, [0]), (1, [2])]), ([], [(1, [0]), (1, [8]), (1, [6]), (1, [5])])], [], [1, 1]),
  (0, 31, 0, 0, 0, 0, [], [], []),
  (0, 4, 37, 3, 0, 0, [], [], []),
  (0, 5, 480, 0, 0, 0, [], [], []),
  (0, 6, 481, 0, 0, 0, [([], [(1, [0]), (1, [1])]), ([], [(1, [0]), (1, [1])])], [], [0, 0]),
  (0, 6, 483, 0, 0, 0, [([9], [(1, [0]), (1, [2])]), ([], [(1, [0]), (1, [9]), (1, [7]), (1, [6])])], [], [1, 1]),
  (0, 31, 0, 0, 0, 0, [], [], []),
  (0, 5, 480, 1, 0, 0, [], [], []),
  (0, 6, 481, 0, 0, 0, [([], [(1, [0]), (1, [1])]), ([], [(1, [0]), (1, [1])])], [], [0, 0]),
  (0, 6, 483, 0, 0, 0, [([9], [(1, [0]), (1, [2])]), ([], [(1, [0]), (1, [10]), (1, [8]), (1, [7])])], [], [1, 1]),
  (0, 31, 0, 0, 0, 0, [], [], []),
  (0, 5, 482, 0, 0, 0, [], [], []),
  (0, 7, 0, 0, 0, 0, [([], [(1, [0])])], [], []),
  (0, 5, 482, 1, 0, 0, [], [], []),
  (0, 7, 0, 0, 0, 0, [([], [(1, [0])])], [], []),
  (0, 6, 481, 0, 0, 0, [([14], [(1, [0]), (1, [8]), (1, [4]), (1, [1])]), ([14], [(1, [0]), (1, [9]), (1, [3]), (1, [1])])], [], [1, 1]),
  (0, 6, 483, 0, 0, 0, [([9], [(1, [0]), (1, [2])]), ([], [(1, [0]), (1, [12]), (1, [10]), (1, [9])])], [], [1, 1]),
  (0, 31, 0, 0, 0, 0, [], [], []),
  (11, 4, 37, 0, 0, 0, [], [], []),
  (0, 4, 37, 1, 0, 0, [], [], []),
  (0, 4, 44, 2, 0, 0, [], [], []),
  (0, 4, 44, 0, 0, 0, [], [], []),
  (0, 5, 482, 0, 0, 0, [], [], []),
  (0, 7, 0, 0, 0, 0, [([], [(1, [0])])], [], []),
  (0, 5, 482, 1, 0, 0, [], [], []),
  (0, 7, 0, 0, 0, 0, [([], [(1, [0])])], [], []),
  (8, 6, 481, 0, 0, 0, [([16], [(1, [0]), (1, [4]), (1, [1])]), ([16], [(1, [0]), (1, [3]), (1, [1])])], [], [1, 1]),
  (0, 6, 482, 0, 0, 0, [([], [(1, [0])]), ([], [(1, [0])])], [], [0, 0]),
  (0, 6, 483, 0, 0, 0, [([], [(1, [0])]), ([], [(1, [0])])], [], [0, 0]),
  (0, 31, 0, 0, 0, 0, [], [], []),
  (33, 4, 37, 0, 0, 0, [], [], []),
  (0, 4, 37, 1, 0, 0, [], [], []),
  (0, 5, 482, 0, 0, 0, [], [], []),
  (0, 7, 0, 0, 0, 0, [([], [(1, [0])])], [], []),
  (0, 5, 479, 0, 0, 0, [], [], []),
  (0, 4, 37, 3, 0, 0, [], [], []),
  (0, 5, 480, 0, 0, 0, [], [], []),
  (0, 5, 480, 1, 0, 0, [], [], []),
  (0, 4, 34, 7, 0, 0, [], [], []),
  (0, 5, 481, 0, 0, 0, [], [], []),
  (0, 5, 481, 1, 0, 0, [], [], []),
  (0, 5, 482, 1, 0, 0, [], [], []),
  (0, 7, 0, 0, 0, 0, [([], [(1, [0])])], [], []),
  (0, 3, 18, 0, (-9999), 9999, [([18], [(1, [0]), (1, [1])]), ([12, 15, 16, 17, 18, 19, 20], [(1, [0]), (999, [2]), (1, [14]), (1, [15]), (1, [23]), (1, [25]), (1, [1, 6])])], [], []),
  (2, 6, 481, 0, 0, 0, [([], [(1, [0]), (1, [2])]), ([], [(1, [0]), (1, [2])])], [], [0, 0]),
  (0, 6, 483, 0, 0, 0, [([9], [(1, [0]), (1, [2])]), ([], [(1, [0]), (1, [17]), (1, [15]), (1, [14])])], [], [1, 1]),
  (0, 31, 0, 0, 0, 0, [], [], []),
  (0, 5, 482, 1, 0, 0, [], [], []),
  (0, 7, 0, 0, 0, 0, [([], [(1, [0])])], [], []),
  (0, 3, 18, 0, (-9999), 9999, [([18], [(1, [0]), (1, [1])]), ([12, 15, 16, 17, 18, 19, 20], [(1, [0]), (999, [2]), (1, [14]), (1, [15]), (1, [23]), (1, [25]), (1, [1, 6])])], [], []),
  (2, 6, 481, 0, 0, 0, [([], [(1, [0]), (1, [3])]), ([], [(1, [0]), (1, [3])])], [], [0, 0]),
  (0, 6, 483, 0, 0, 0, [([9], [(1, [0]), (1, [2])]), ([], [(1, [0]), (1, [17]), (1, [15]), (1, [14])])], [], [1, 1]),
  (0, 31, 0, 0, 0, 0, [], [], []),
  (0, 5, 481, 1, 0, 0, [], [], []),
  (0, 5, 482, 1, 0, 0, [], [], []),
  (0, 7, 0, 0, 0, 0, [([], [(1, [0])])], [], []),
  (0, 3, 18, 0, (-9999), 9999, [([18], [(1, [0]), (1, [1])]), ([12, 15, 16, 17, 18, 19, 20], [(1, [0]), (999, [2]), (1, [14]), (1, [15]), (1, [23]), (1, [25]), (1, [1, 6])])], [], []),
  (2, 6, 481, 0, 0, 0, [([], [(1, [0]), (1, [2])]), ([], [(1, [0]), (1, [2])])], [], [0, 0]),
  (0, 6, 483, 0, 0, 0, [([9], [(1, [0]), (1, [2])]), ([], [(1, [0]), (1, [17]), (1, [15]), (1, [14])])], [], [1, 1]),
  (0, 31, 0, 0, 0, 0, [], [], []),
  (0, 5, 482, 1, 0, 0, [], [], []),
  (0, 7, 0, 0, 0, 0, [([], [(1, [0])])], [], []),
  (0, 3, 18, 0, (-9999), 9999, [([18], [(1, [0]), (1, [1])]), ([12, 15, 16, 17, 18, 19, 20], [(1, [0]), (999, [2]), (1, [14]), (1, [15]), (1, [23]), (1, [25]), (1, [1, 6])])], [], []),
  (2, 6, 481, 0, 0, 0, [([], [(1, [0]), (1, [4])]), ([], [(1, [0]), (1, [4])])], [], [0, 0]),
  (0, 6, 483, 0, 0, 0, [([9], [(1, [0]), (1, [2])]), ([], [(1, [0]), (1, [17]), (1, [15]), (1, [14])])], [], [1, 1]),
  (0, 31, 0, 0, 0, 0, [], [], []),
  (0, 4, 34, 7, 0, 0, [], [], []),
  (0, 5, 481, 0, 0, 0, [], [], []),
  (0, 5, 481, 1, 0, 0, [], [], []),
  (0, 5, 482, 1, 0, 0, [], [], []),
  (0, 7, 0, 0, 0, 0, [([], [(1, [0])])], [], []),
  (0, 3, 18, 0, (-9999), 9999, [([18], [(1, [0]), (1, [1])]), ([12, 15, 16, 17, 18, 19, 20], [(1, [0]), (999, [2]), (1, [14]), (1, [15]), (1, [23]), (1, [25]), (1, [1, 6])])], [], []),
  (2, 6, 481, 0, 0, 0, [([], [(1, [0]), (1, [2])]), ([], [(1, [0]), (1, [2])])], [], [0, 0]),
  (0, 6, 483, 0, 0, 0, [([9], [(1, [0]), (1, [2])]), ([], [(1, [0]), (1, [17]), (1, [15]), (1, [14])])], [], [1, 1]),
  (0, 31, 0, 0, 0, 0, [], [], []),
  (0, 5, 482, 1, 0, 0, [], [], []),
  (0, 7, 0, 0, 0, 0, [([], [(1, [0])])], [], []),
  (0, 3, 18, 0, (-9999), 9999, [([18], [(1, [0]), (1, [1])]), ([12, 15, 16, 17, 18, 19, 20], [(1, [0]), (999, [2]), (1, [14]), (1, [15]), (1, [23]), (1, [25]), (1, [1, 6])])], [], []),
  (2, 6, 481, 0, 0, 0, [([], [(1, [0]), (1, [3])]), ([], [(1, [0]), (1, [3])])], [], [0, 0]),
  (0, 6, 483, 0, 0, 0, [([9], [(1, [0]), (1, [2])]), ([], [(1, [0]), (1, [17]), (1, [15]), (1, [14])])], [], [1, 1]),
  (0, 31, 0, 0, 0, 0, [], [], []),
  (0, 5, 481, 1, 0, 0, [], [], []),
  (0, 5, 482, 1, 0, 0, [], [], []),
  (0, 7, 0, 0, 0, 0, [([], [(1, [0])])], [], []),
  (0, 3, 18, 0, (-9999), 9999, [([18], [(1, [0]), (1, [1])]), ([12, 15, 16, 17, 18, 19, 20], [(1, [0]), (999, [2]), (1, [14]), (1, [15]), (1, [23]), (1, [25]), (1, [1, 6])])], [], []),
  (2, 6, 481, 0, 0, 0, [([], [(1, [0]), (1, [2])]), ([], [(1, [0]), (1, [2])])], [], [0, 0]),
  (0, 6, 483, 0, 0, 0, [([9], [(1, [0]), (1, [2])]), ([], [(1, [0]), (1, [17]), (1, [15]), (1, [14])])], [], [1, 1]),
  (0, 31, 0, 0, 0, 0, [], [], []),
  (0, 5, 482, 1, 0, 0, [], [], []),
  (0, 7, 0, 0, 0, 0, [([], [(1, [0])])], [], []),
  (0, 3, 18, 0, (-9999), 9999, [([18], [(1, [0]), (1, [1])]), ([12, 15, 16, 17, 18, 19, 20], [(1, [0]), (999, [2]), (1, [14]), (1, [15]), (1, [23]), (1, [25]), (1, [1, 6])])], [], []),
  (2, 6, 481, 0, 0, 0, [([], [(1, [0]), (1, [5])]), ([], [(1, [0]), (1, [5])])], [], [0, 0]),
  (0, 6, 483, 0, 0, 0, [([9], [(1, [0]), (1, [2])]), ([], [(1, [0]), (1, [17]), (1, [15]), (1, [14])])], [], [1, 1]),
  (0, 31, 0, 0, 0, 0, [], [], []),
  (0, 5, 480, 1, 0, 0, [], [], []),
  (0, 4, 34, 7, 0, 0, [], [], []),
  (0, 5, 481, 0, 0, 0, [], [], []),
  (0, 5, 481, 1, 0, 0, [], [], []),
  (0, 5, 482, 1, 0, 0, [], [], []),
  (0, 7, 0, 0, 0, 0, [([], [(1, [0])])], [], []),
  (0, 3, 18, 0, (-9999), 9999, [([18], [(1, [0]), (1, [1])]), ([12, 15, 16, 17, 18, 19, 20], [(1, [0]), (999, [2]), (1, [14]), (1, [15]), (1, [23]), (1, [25]), (1, [1, 6])])], [], []),
  (2, 6, 481, 0, 0, 0, [([], [(1, [0]), (1, [2])]), ([], [(1, [0]), (1, [2])])], [], [0, 0]),
  (0, 6, 483, 0, 0, 0, [([9], [(1, [0]), (1, [2])]), ([], [(1, [0]), (1, [17]), (1, [15]), (1, [14])])], [], [1, 1]),
  (0, 31, 0, 0, 0, 0, [], [], []),
  (0, 5, 482, 1, 0, 0, [], [], []),
  (0, 7, 0, 0, 0, 0, [([], [(1, [0])])], [], []),
  (0, 3, 18, 0, (-9999), 9999, [([18], [(1, [0]), (1, [1])]), ([12, 15, 16, 17, 18, 19, 20], [(1, [0]), (999, [2]), (1, [14]), (1, [15]), (1, [23]), (1, [25]), (1, [1, 6])])], [], []),
  (2, 6, 481, 0, 0, 0, [([], [(1, [0]), (1, [3])]), ([], [(1, [0]), (1, [3])])], [], [0, 0]),
  (0, 6, 483, 0, 0, 0, [([9], [(1, [0]), (1, [2])]), ([], [(1, [0]), (1, [17]), (1, [15]), (1, [14])])], [], [1, 1]),
  (0, 31, 0, 0, 0, 0, [], [], []),
  (0, 5, 481, 1, 0, 0, [], [], []),
  (0, 5, 482, 1, 0, 0, [], [], []),
  (0, 7, 0, 0, 0, 0, [([], [(1, [0])])], [], []),
  (0, 3, 18, 0, (-9999), 9999, [([18], [(1, [0]), (1, [1])]), ([12, 15, 16, 17, 18, 19, 20], [(1, [0]), (999, [2]), (1, [14]), (1, [15]), (1, [23]), (1, [25]), (1, [1, 6])])], [], []),
  (2, 6, 481, 0, 0, 0, [([], [(1, [0]), (1, [2])]), ([], [(1, [0]), (1, [2])])], [], [0, 0]),
  (0, 6, 483, 0, 0, 0, [([9], [(1, [0]), (1, [2])]), ([], [(1, [0]), (1, [17]), (1, [15]), (1, [14])])], [], [1, 1]),
  (0, 31, 0, 0, 0, 0, [], [], []),
  (0, 5, 482, 1, 0, 0, [], [], []),
  (0, 7, 0, 0, 0, 0, [([], [(1, [0])])], [], []),
  (0, 3, 18, 0, (-9999), 9999, [([18], [(1, [0]), (1, [1])]), ([12, 15, 16, 17, 18, 19, 20], [(1, [0]), (999, [2]), (1, [14]), (1, [15]), (1, [23]), (1, [25]), (1, [1, 6])])], [], []),
  (2, 6, 481, 0, 0, 0, [([], [(1, [0]), (1, [4])]), ([], [(1, [0]), (1, [4])])], [], [0, 0]),
  (0, 6, 483, 0, 0, 0, [([9], [(1, [0]), (1, [2])]), ([], [(1, [0]), (1, [17]), (1, [15]), (1, [14])])], [], [1, 1]),
  (0, 31, 0, 0, 0, 0, [], [], []),
  (0, 4, 34, 7, 0, 0, [], [], []),
  (0, 5, 481, 0, 0, 0, [], [], []),
  (0, 5, 481, 1, 0, 0, [], [], []),
  (0, 5, 482, 1, 0, 0, [], [], []),
  (0, 7, 0, 0, 0, 0, [([], [(1, [0])])], [], []),
  (0, 3, 18, 0, (-9999), 9999, [([18], [(1, [0]), (1, [1])]), ([12, 15, 16, 17, 18, 19, 20], [(1, [0]), (999, [2]), (1, [14]), (1, [15]), (1, [23]), (1, [25]), (1, [1, 6])])], [], []),
  (2, 6, 481, 0, 0, 0, [([], [(1, [0]), (1, [2])]), ([], [(1, [0]), (1, [2])])], [], [0, 0]),
  (0, 6, 483, 0, 0, 0, [([9], [(1, [0]), (1, [2])]), ([], [(1, [0]), (1, [17]), (1, [15]), (1, [14])])], [], [1, 1]),
  (0, 31, 0, 0, 0, 0, [], [], []),
  (0, 5, 482, 1, 0, 0, [], [], []),
  (0, 7, 0, 0, 0, 0, [([], [(1, [0])])], [], []),
  (0, 3, 18, 0, (-9999), 9999, [([18], [(1, [0]), (1, [1])]), ([12, 15, 16, 17, 18, 19, 20], [(1, [0]), (999, [2]), (1, [14]), (1, [15]), (1, [23]), (1, [25]), (1, [1, 6])])], [], []),
  (2, 6, 481, 0, 0, 0, [([], [(1, [0]), (1, [3])]), ([], [(1, [0]), (1, [3])])], [], [0, 0]),
  (0, 6, 483, 0, 0, 0, [([9], [(1, [0]), (1, [2])]), ([], [(1, [0]), (1, [17]), (1, [15]), (1, [14])])], [], [1, 1])]
set_option maxRecDepth 100000 in
noncomputable def sz_hd523_0_1 : List sy_Hn := [(0, 31, 0, 0, 0, 0, [], [], []),
  (0, 5, 481, 1, 0, 0, [], [], []),
  (0, 5, 482, 1, 0, 0, [], [], []),
  (0, 7, 0, 0, 0, 0, [([], [(1, [0])])], [], []),
  (0, 3, 18, 0, (-9999), 9999, [([18], [(1, [0]), (1, [1])]), ([12, 15, 16, 17, 18, 19, 20], [(1, [0]), (999, [2]), (1, [14]), (1, [15]), (1, [23]), (1, [25]), (1, [1, 6])])], [], []),
  (2, 6, 481, 0, 0, 0, [([], [(1, [0]), (1, [2])]), ([], [(1, [0]), (1, [2])])], [], [0, 0]),
  (0, 6, 483, 0, 0, 0, [([9], [(1, [0]), (1, [2])]), ([], [(1, [0]), (1, [17]), (1, [15]), (1, [14])])], [], [1, 1]),
  (0, 31, 0, 0, 0, 0, [], [], []),
  (0, 5, 482, 1, 0, 0, [], [], []),
  (0, 7, 0, 0, 0, 0, [([], [(1, [0])])], [], []),
  (0, 3, 18, 0, (-9999), 9999, [([18], [(1, [0]), (1, [1])]), ([12, 15, 16, 17, 18, 19, 20], [(1, [0]), (999, [2]), (1, [14]), (1, [15]), (1, [23]), (1, [25]), (1, [1, 6])])], [], []),
  (2, 6, 481, 0, 0, 0, [([], [(1, [0]), (1, [6])]), ([], [(1, [0]), (1, [6])])], [], [0, 0]),
  (0, 6, 483, 0, 0, 0, [([9], [(1, [0]), (1, [2])]), ([], [(1, [0]), (1, [17]), (1, [15]), (1, [14])])], [], [1, 1]),
  (0, 31, 0, 0, 0, 0, [], [], []),
  (0, 4, 37, 3, 0, 0, [], [], []),
  (0, 5, 480, 0, 0, 0, [], [], []),
  (0, 3, 18, 0, (-9999), 9999, [([18], [(1, [0]), (1, [1])]), ([12, 15, 16, 17, 18, 19, 20], [(1, [15]), (1, [16])])], [], []),
  (2, 6, 481, 0, 0, 0, [([], [(1, [0]), (1, [1])]), ([], [(1, [0]), (1, [1])])], [], [0, 0]),
  (0, 6, 483, 0, 0, 0, [([9], [(1, [0]), (1, [2])]), ([], [(1, [0]), (1, [13]), (1, [11]), (1, [10])])], [], [1, 1]),
  (0, 31, 0, 0, 0, 0, [], [], []),
  (0, 5, 480, 1, 0, 0, [], [], []),
  (0, 3, 18, 0, (-9999), 9999, [([18], [(1, [0]), (1, [1])]), ([12, 15, 16, 17, 18, 19, 20, 21], [(1, [17]), (1, [19])])], [], []),
  (2, 6, 481, 0, 0, 0, [([], [(1, [0]), (1, [1])]), ([], [(1, [0]), (1, [1])])], [], [0, 0]),
  (0, 6, 483, 0, 0, 0, [([9], [(1, [0]), (1, [2])]), ([], [(1, [0]), (1, [14]), (1, [12]), (1, [11])])], [], [1, 1]),
  (0, 31, 0, 0, 0, 0, [], [], []),
  (0, 4, 34, 7, 0, 0, [], [], []),
  (0, 5, 481, 0, 0, 0, [], [], []),
  (0, 3, 18, 0, (-9999), 9999, [([18], [(1, [0]), (1, [1])]), ([12, 15, 16, 17, 18, 19, 20, 21], [(1, [17]), (1, [20])])], [], []),
  (2, 6, 481, 0, 0, 0, [([], [(1, [0]), (1, [1])]), ([], [(1, [0]), (1, [1])])], [], [0, 0]),
  (0, 6, 483, 0, 0, 0, [([9], [(1, [0]), (1, [2])]), ([], [(1, [0]), (1, [15]), (1, [13]), (1, [12])])], [], [1, 1]),
  (0, 31, 0, 0, 0, 0, [], [], []),
  (0, 5, 481, 1, 0, 0, [], [], []),
  (0, 3, 18, 0, (-9999), 9999, [([18], [(1, [0]), (1, [1])]), ([12, 15, 16, 17, 18, 19, 20, 21, 22], [(1, [19]), (1, [23])])], [], []),
  (2, 6, 481, 0, 0, 0, [([], [(1, [0]), (1, [1])]), ([], [(1, [0]), (1, [1])])], [], [0, 0]),
  (0, 6, 483, 0, 0, 0, [([9], [(1, [0]), (1, [2])]), ([], [(1, [0]), (1, [16]), (1, [14]), (1, [13])])], [], [1, 1]),
  (0, 31, 0, 0, 0, 0, [], [], []),
  (0, 5, 482, 1, 0, 0, [], [], []),
  (0, 7, 0, 0, 0, 0, [([], [(1, [0])])], [], []),
  (0, 3, 18, 0, (-9999), 9999, [([18], [(1, [0]), (1, [1])]), ([12, 15, 16, 17, 18, 19, 20], [(1, [0]), (999, [2]), (1, [14]), (1, [15]), (1, [23]), (1, [25]), (1, [1, 6])])], [], []),
  (2, 6, 481, 0, 0, 0, [([16, 17], [(1, [0]), (1, [12]), (1, [11]), (1, [1]), (1, [3])]), ([12, 15, 16, 17, 18, 19, 20, 21, 22], [(1, [0]), (999, [2]), (1, [19]), (1, [27]), (1, [29]), (1, [1, 6])])], [], [1, 1]),
  (0, 6, 483, 0, 0, 0, [([9], [(1, [0]), (1, [2])]), ([], [(1, [0]), (1, [17]), (1, [15]), (1, [14])])], [], [1, 1]),
  (0, 31, 0, 0, 0, 0, [], [], []),
  (11, 4, 37, 0, 0, 0, [], [], []),
  (0, 4, 37, 1, 0, 0, [], [], []),
  (0, 4, 44, 2, 0, 0, [], [], []),
  (0, 4, 44, 0, 0, 0, [], [], []),
  (0, 5, 482, 0, 0, 0, [], [], []),
  (0, 7, 0, 0, 0, 0, [([], [(1, [0])])], [], []),
  (0, 5, 482, 1, 0, 0, [], [], []),
  (0, 7, 0, 0, 0, 0, [([], [(1, [0])])], [], []),
  (8, 6, 481, 0, 0, 0, [([18], [(1, [0]), (1, [4]), (1, [1])]), ([18], [(1, [0]), (1, [3]), (1, [1])])], [], [1, 1]),
  (0, 6, 482, 0, 0, 0, [([], [(1, [0])]), ([], [(1, [0])])], [], [0, 0]),
  (0, 6, 483, 0, 0, 0, [([], [(1, [0])]), ([], [(1, [0])])], [], [0, 0]),
  (0, 31, 0, 0, 0, 0, [], [], []),
  (31, 4, 37, 0, 0, 0, [], [], []),
  (0, 4, 37, 1, 0, 0, [], [], []),
  (0, 5, 482, 0, 0, 0, [], [], []),
  (0, 7, 0, 0, 0, 0, [([], [(1, [0])])], [], []),
  (0, 3, 18, 0, (-9999), 9999, [([19], [(1, [0]), (1, [4]), (1, [3]), (1, [6]), (1, [1])]), ([18], [(1, [0]), (1, [2])])], [], []),
  (2, 5, 479, 0, 0, 0, [], [], []),
  (0, 6, 481, 0, 0, 0, [([], [(1, [0]), (1, [1])]), ([], [(1, [0]), (1, [1])])], [], [0, 0]),
  (0, 6, 483, 0, 0, 0, [([9], [(1, [0]), (1, [2])]), ([], [(1, [0]), (1, [12]), (1, [10]), (1, [9])])], [], [1, 1]),
  (0, 31, 0, 0, 0, 0, [], [], []),
  (0, 4, 37, 3, 0, 0, [], [], []),
  (0, 5, 480, 0, 0, 0, [], [], []),
  (0, 6, 481, 0, 0, 0, [([], [(1, [0]), (1, [1])]), ([], [(1, [0]), (1, [1])])], [], [0, 0]),
  (0, 6, 483, 0, 0, 0, [([9], [(1, [0]), (1, [2])]), ([], [(1, [0]), (1, [13]), (1, [11]), (1, [10])])], [], [1, 1]),
  (0, 31, 0, 0, 0, 0, [], [], []),
  (0, 5, 480, 1, 0, 0, [], [], []),
  (0, 6, 481, 0, 0, 0, [([], [(1, [0]), (1, [1])]), ([], [(1, [0]), (1, [1])])], [], [0, 0]),
  (0, 6, 483, 0, 0, 0, [([9], [(1, [0]), (1, [2])]), ([], [(1, [0]), (1, [14]), (1, [12]), (1, [11])])], [], [1, 1]),
  (0, 31, 0, 0, 0, 0, [], [], []),
  (0, 5, 482, 1, 0, 0, [], [], []),
  (0, 7, 0, 0, 0, 0, [([], [(1, [0])])], [], []),
  (0, 6, 481, 0, 0, 0, [([], [(1, [0]), (1, [6]), (1, [5]), (1, [8])]), ([16, 17], [(1, [0]), (1, [11]), (1, [5]), (1, [1]), (1, [4])])], [], [1, 1]),
  (0, 6, 483, 0, 0, 0, [([9], [(1, [0]), (1, [2])]), ([], [(1, [0]), (1, [15]), (1, [13]), (1, [12])])], [], [1, 1]),
  (0, 31, 0, 0, 0, 0, [], [], []),
  (11, 4, 37, 0, 0, 0, [], [], []),
  (0, 4, 37, 1, 0, 0, [], [], []),
  (0, 4, 44, 2, 0, 0, [], [], []),
  (0, 4, 44, 0, 0, 0, [], [], []),
  (0, 5, 482, 0, 0, 0, [], [], []),
  (0, 7, 0, 0, 0, 0, [([], [(1, [0])])], [], []),
  (0, 5, 482, 1, 0, 0, [], [], []),
  (0, 7, 0, 0, 0, 0, [([], [(1, [0])])], [], []),
  (8, 6, 481, 0, 0, 0, [([18], [(1, [0]), (1, [4]), (1, [1])]), ([18], [(1, [0]), (1, [3]), (1, [1])])], [], [1, 1]),
  (0, 6, 482, 0, 0, 0, [([], [(1, [0])]), ([], [(1, [0])])], [], [0, 0]),
  (0, 6, 483, 0, 0, 0, [([], [(1, [0])]), ([], [(1, [0])])], [], [0, 0]),
  (0, 31, 0, 0, 0, 0, [], [], []),
  (36, 4, 37, 0, 0, 0, [], [], []),
  (0, 4, 37, 1, 0, 0, [], [], []),
  (0, 5, 482, 0, 0, 0, [], [], []),
  (0, 7, 0, 0, 0, 0, [([], [(1, [0])])], [], []),
  (0, 3, 17, 0, (-9999), 9999, [([12, 14, 15, 16, 17, 18], [(1, [0]), (1, [11]), (1, [13]), (1, [14]), (1, [16]), (1, [1, 5])]), ([17], [(1, [0]), (1, [2])])], [], []),
  (2, 5, 479, 0, 0, 0, [], [], []),
  (0, 6, 481, 0, 0, 0, [([], [(1, [0]), (1, [1])]), ([], [(1, [0]), (1, [1])])], [], [0, 0]),
  (0, 6, 483, 0, 0, 0, [([9], [(1, [0]), (1, [2])]), ([], [(1, [0]), (1, [12]), (1, [10]), (1, [9])])], [], [1, 1]),
  (0, 31, 0, 0, 0, 0, [], [], []),
  (0, 4, 37, 3, 0, 0, [], [], []),
  (0, 5, 480, 0, 0, 0, [], [], []),
  (0, 6, 481, 0, 0, 0, [([], [(1, [0]), (1, [1])]), ([], [(1, [0]), (1, [1])])], [], [0, 0]),
  (0, 6, 483, 0, 0, 0, [([9], [(1, [0]), (1, [2])]), ([], [(1, [0]), (1, [13]), (1, [11]), (1, [10])])], [], [1, 1]),
  (0, 31, 0, 0, 0, 0, [], [], []),
  (0, 5, 480, 1, 0, 0, [], [], []),
  (0, 6, 481, 0, 0, 0, [([], [(1, [0]), (1, [1])]), ([], [(1, [0]), (1, [1])])], [], [0, 0]),
  (0, 6, 483, 0, 0, 0, [([9], [(1, [0]), (1, [2])]), ([], [(1, [0]), (1, [14]), (1, [12]), (1, [11])])], [], [1, 1]),
  (0, 31, 0, 0, 0, 0, [], [], []),
  (0, 5, 482, 1, 0, 0, [], [], []),
  (0, 7, 0, 0, 0, 0, [([], [(1, [0])])], [], []),
  (0, 6, 481, 0, 0, 0, [([12, 14, 15, 16, 17, 18, 19, 20], [(1, [0]), (1, [21]), (1, [22]), (1, [24]), (1, [1, 5])]), ([15, 16], [(1, [0]), (1, [11]), (1, [5]), (1, [1]), (1, [4])])], [], [1, 1]),
  (0, 6, 483, 0, 0, 0, [([9], [(1, [0]), (1, [2])]), ([], [(1, [0]), (1, [15]), (1, [13]), (1, [12])])], [], [1, 1]),
  (0, 31, 0, 0, 0, 0, [], [], []),
  (11, 4, 37, 0, 0, 0, [], [], []),
  (0, 4, 37, 1, 0, 0, [], [], []),
  (0, 4, 44, 2, 0, 0, [], [], []),
  (0, 4, 44, 0, 0, 0, [], [], []),
  (0, 5, 482, 0, 0, 0, [], [], []),
  (0, 7, 0, 0, 0, 0, [([], [(1, [0])])], [], []),
  (0, 5, 482, 1, 0, 0, [], [], []),
  (0, 7, 0, 0, 0, 0, [([], [(1, [0])])], [], []),
  (8, 6, 481, 0, 0, 0, [([17], [(1, [0]), (1, [4]), (1, [1])]), ([17], [(1, [0]), (1, [3]), (1, [1])])], [], [1, 1]),
  (0, 6, 482, 0, 0, 0, [([], [(1, [0])]), ([], [(1, [0])])], [], [0, 0]),
  (0, 6, 483, 0, 0, 0, [([], [(1, [0])]), ([], [(1, [0])])], [], [0, 0]),
  (0, 31, 0, 0, 0, 0, [], [], []),
  (58, 4, 37, 0, 0, 0, [], [], []),
  (0, 4, 37, 1, 0, 0, [], [], []),
  (0, 5, 482, 0, 0, 0, [], [], []),
  (0, 7, 0, 0, 0, 0, [([], [(1, [0])])], [], []),
  (0, 5, 479, 0, 0, 0, [], [], []),
  (0, 4, 37, 3, 0, 0, [], [], []),
  (0, 5, 480, 0, 0, 0, [], [], []),
  (0, 5, 480, 1, 0, 0, [], [], []),
  (0, 4, 34, 7, 0, 0, [], [], []),
  (0, 5, 481, 0, 0, 0, [], [], []),
  (0, 5, 481, 1, 0, 0, [], [], []),
  (0, 5, 482, 1, 0, 0, [], [], []),
  (0, 7, 0, 0, 0, 0, [([], [(1, [0])])], [], []),
  (0, 3, 19, 0, (-9999), 9999, [([19], [(1, [0]), (1, [1])]), ([21], [(1, [0]), (1, [11]), (1, [3]), (1, [13]), (1, [2])])], [], []),
  (2, 6, 481, 0, 0, 0, [([], [(1, [0]), (1, [2])]), ([], [(1, [0]), (1, [2])])], [], [0, 0]),
  (0, 6, 483, 0, 0, 0, [([9], [(1, [0]), (1, [2])]), ([9], [(1, [0]), (1, [1])])], [], [1, 1]),
  (0, 31, 0, 0, 0, 0, [], [], []),
  (0, 5, 482, 1, 0, 0, [], [], []),
  (0, 7, 0, 0, 0, 0, [([], [(1, [0])])], [], []),
  (0, 3, 19, 0, (-9999), 9999, [([19], [(1, [0]), (1, [1])]), ([21], [(1, [0]), (1, [11]), (1, [3]), (1, [13]), (1, [2])])], [], []),
  (2, 6, 481, 0, 0, 0, [([], [(1, [0]), (1, [3])]), ([], [(1, [0]), (1, [3])])], [], [0, 0]),
  (0, 6, 483, 0, 0, 0, [([9], [(1, [0]), (1, [2])]), ([9], [(1, [0]), (1, [1])])], [], [1, 1]),
  (0, 31, 0, 0, 0, 0, [], [], []),
  (0, 5, 481, 1, 0, 0, [], [], []),
  (0, 5, 482, 1, 0, 0, [], [], []),
  (0, 7, 0, 0, 0, 0, [([], [(1, [0])])], [], [])]
set_option maxRecDepth 100000 in
noncomputable def sz_hd523_0_2 : List sy_Hn := [(0, 3, 19, 0, (-9999), 9999, [([19], [(1, [0]), (1, [1])]), ([21], [(1, [0]), (1, [11]), (1, [3]), (1, [13]), (1, [2])])], [], []),
  (2, 6, 481, 0, 0, 0, [([], [(1, [0]), (1, [2])]), ([], [(1, [0]), (1, [2])])], [], [0, 0]),
  (0, 6, 483, 0, 0, 0, [([9], [(1, [0]), (1, [2])]), ([9], [(1, [0]), (1, [1])])], [], [1, 1]),
  (0, 31, 0, 0, 0, 0, [], [], []),
  (0, 5, 482, 1, 0, 0, [], [], []),
  (0, 7, 0, 0, 0, 0, [([], [(1, [0])])], [], []),
  (0, 3, 19, 0, (-9999), 9999, [([19], [(1, [0]), (1, [1])]), ([21], [(1, [0]), (1, [11]), (1, [3]), (1, [13]), (1, [2])])], [], []),
  (2, 6, 481, 0, 0, 0, [([], [(1, [0]), (1, [4])]), ([], [(1, [0]), (1, [4])])], [], [0, 0]),
  (0, 6, 483, 0, 0, 0, [([9], [(1, [0]), (1, [2])]), ([9], [(1, [0]), (1, [1])])], [], [1, 1]),
  (0, 31, 0, 0, 0, 0, [], [], []),
  (0, 4, 34, 7, 0, 0, [], [], []),
  (0, 5, 481, 0, 0, 0, [], [], []),
  (0, 5, 481, 1, 0, 0, [], [], []),
  (0, 5, 482, 1, 0, 0, [], [], []),
  (0, 7, 0, 0, 0, 0, [([], [(1, [0])])], [], []),
  (0, 3, 19, 0, (-9999), 9999, [([19], [(1, [0]), (1, [1])]), ([21], [(1, [0]), (1, [11]), (1, [3]), (1, [13]), (1, [2])])], [], []),
  (2, 6, 481, 0, 0, 0, [([], [(1, [0]), (1, [2])]), ([], [(1, [0]), (1, [2])])], [], [0, 0]),
  (0, 6, 483, 0, 0, 0, [([9], [(1, [0]), (1, [2])]), ([9], [(1, [0]), (1, [1])])], [], [1, 1]),
  (0, 31, 0, 0, 0, 0, [], [], []),
  (0, 5, 482, 1, 0, 0, [], [], []),
  (0, 7, 0, 0, 0, 0, [([], [(1, [0])])], [], []),
  (0, 3, 19, 0, (-9999), 9999, [([19], [(1, [0]), (1, [1])]), ([21], [(1, [0]), (1, [11]), (1, [3]), (1, [13]), (1, [2])])], [], []),
  (2, 6, 481, 0, 0, 0, [([], [(1, [0]), (1, [3])]), ([], [(1, [0]), (1, [3])])], [], [0, 0]),
  (0, 6, 483, 0, 0, 0, [([9], [(1, [0]), (1, [2])]), ([9], [(1, [0]), (1, [1])])], [], [1, 1]),
  (0, 31, 0, 0, 0, 0, [], [], []),
  (0, 5, 481, 1, 0, 0, [], [], []),
  (0, 5, 482, 1, 0, 0, [], [], []),
  (0, 7, 0, 0, 0, 0, [([], [(1, [0])])], [], []),
  (0, 3, 19, 0, (-9999), 9999, [([19], [(1, [0]), (1, [1])]), ([21], [(1, [0]), (1, [11]), (1, [3]), (1, [13]), (1, [2])])], [], []),
  (2, 6, 481, 0, 0, 0, [([], [(1, [0]), (1, [2])]), ([], [(1, [0]), (1, [2])])], [], [0, 0]),
  (0, 6, 483, 0, 0, 0, [([9], [(1, [0]), (1, [2])]), ([9], [(1, [0]), (1, [1])])], [], [1, 1]),
  (0, 31, 0, 0, 0, 0, [], [], []),
  (0, 5, 482, 1, 0, 0, [], [], []),
  (0, 7, 0, 0, 0, 0, [([], [(1, [0])])], [], []),
  (0, 3, 19, 0, (-9999), 9999, [([19], [(1, [0]), (1, [1])]), ([21], [(1, [0]), (1, [11]), (1, [3]), (1, [13]), (1, [2])])], [], []),
  (2, 6, 481, 0, 0, 0, [([], [(1, [0]), (1, [5])]), ([], [(1, [0]), (1, [5])])], [], [0, 0]),
  (0, 6, 483, 0, 0, 0, [([9], [(1, [0]), (1, [2])]), ([9], [(1, [0]), (1, [1])])], [], [1, 1]),
  (0, 31, 0, 0, 0, 0, [], [], []),
  (0, 5, 480, 1, 0, 0, [], [], []),
  (0, 4, 34, 7, 0, 0, [], [], []),
  (0, 5, 481, 0, 0, 0, [], [], []),
  (0, 5, 481, 1, 0, 0, [], [], []),
  (0, 5, 482, 1, 0, 0, [], [], []),
  (0, 7, 0, 0, 0, 0, [([], [(1, [0])])], [], []),
  (0, 3, 19, 0, (-9999), 9999, [([19], [(1, [0]), (1, [1])]), ([21], [(1, [0]), (1, [11]), (1, [3]), (1, [13]), (1, [2])])], [], []),
  (2, 6, 481, 0, 0, 0, [([], [(1, [0]), (1, [2])]), ([], [(1, [0]), (1, [2])])], [], [0, 0]),
  (0, 6, 483, 0, 0, 0, [([9], [(1, [0]), (1, [2])]), ([9], [(1, [0]), (1, [1])])], [], [1, 1]),
  (0, 31, 0, 0, 0, 0, [], [], []),
  (0, 5, 482, 1, 0, 0, [], [], []),
  (0, 7, 0, 0, 0, 0, [([], [(1, [0])])], [], []),
  (0, 3, 19, 0, (-9999), 9999, [([19], [(1, [0]), (1, [1])]), ([21], [(1, [0]), (1, [11]), (1, [3]), (1, [13]), (1, [2])])], [], []),
  (2, 6, 481, 0, 0, 0, [([], [(1, [0]), (1, [3])]), ([], [(1, [0]), (1, [3])])], [], [0, 0]),
  (0, 6, 483, 0, 0, 0, [([9], [(1, [0]), (1, [2])]), ([9], [(1, [0]), (1, [1])])], [], [1, 1]),
  (0, 31, 0, 0, 0, 0, [], [], []),
  (0, 5, 481, 1, 0, 0, [], [], []),
  (0, 5, 482, 1, 0, 0, [], [], []),
  (0, 7, 0, 0, 0, 0, [([], [(1, [0])])], [], []),
  (0, 3, 19, 0, (-9999), 9999, [([19], [(1, [0]), (1, [1])]), ([21], [(1, [0]), (1, [11]), (1, [3]), (1, [13]), (1, [2])])], [], []),
  (2, 6, 481, 0, 0, 0, [([], [(1, [0]), (1, [2])]), ([], [(1, [0]), (1, [2])])], [], [0, 0]),
  (0, 6, 483, 0, 0, 0, [([9], [(1, [0]), (1, [2])]), ([9], [(1, [0]), (1, [1])])], [], [1, 1]),
  (0, 31, 0, 0, 0, 0, [], [], []),
  (0, 5, 482, 1, 0, 0, [], [], []),
  (0, 7, 0, 0, 0, 0, [([], [(1, [0])])], [], []),
  (0, 3, 19, 0, (-9999), 9999, [([19], [(1, [0]), (1, [1])]), ([21], [(1, [0]), (1, [11]), (1, [3]), (1, [13]), (1, [2])])], [], []),
  (2, 6, 481, 0, 0, 0, [([], [(1, [0]), (1, [4])]), ([], [(1, [0]), (1, [4])])], [], [0, 0]),
  (0, 6, 483, 0, 0, 0, [([9], [(1, [0]), (1, [2])]), ([9], [(1, [0]), (1, [1])])], [], [1, 1]),
  (0, 31, 0, 0, 0, 0, [], [], []),
  (0, 4, 34, 7, 0, 0, [], [], []),
  (0, 5, 481, 0, 0, 0, [], [], []),
  (0, 5, 481, 1, 0, 0, [], [], []),
  (0, 5, 482, 1, 0, 0, [], [], []),
  (0, 7, 0, 0, 0, 0, [([], [(1, [0])])], [], []),
  (0, 3, 19, 0, (-9999), 9999, [([19], [(1, [0]), (1, [1])]), ([21], [(1, [0]), (1, [11]), (1, [3]), (1, [13]), (1, [2])])], [], []),
  (2, 6, 481, 0, 0, 0, [([], [(1, [0]), (1, [2])]), ([], [(1, [0]), (1, [2])])], [], [0, 0]),
  (0, 6, 483, 0, 0, 0, [([9], [(1, [0]), (1, [2])]), ([9], [(1, [0]), (1, [1])])], [], [1, 1]),
  (0, 31, 0, 0, 0, 0, [], [], []),
  (0, 5, 482, 1, 0, 0, [], [], []),
  (0, 7, 0, 0, 0, 0, [([], [(1, [0])])], [], []),
  (0, 3, 19, 0, (-9999), 9999, [([19], [(1, [0]), (1, [1])]), ([21], [(1, [0]), (1, [11]), (1, [3]), (1, [13]), (1, [2])])], [], []),
  (2, 6, 481, 0, 0, 0, [([], [(1, [0]), (1, [3])]), ([], [(1, [0]), (1, [3])])], [], [0, 0]),
  (0, 6, 483, 0, 0, 0, [([9], [(1, [0]), (1, [2])]), ([9], [(1, [0]), (1, [1])])], [], [1, 1]),
  (0, 31, 0, 0, 0, 0, [], [], []),
  (0, 5, 481, 1, 0, 0, [], [], []),
  (0, 5, 482, 1, 0, 0, [], [], []),
  (0, 7, 0, 0, 0, 0, [([], [(1, [0])])], [], []),
  (0, 3, 19, 0, (-9999), 9999, [([19], [(1, [0]), (1, [1])]), ([21], [(1, [0]), (1, [11]), (1, [3]), (1, [13]), (1, [2])])], [], []),
  (2, 6, 481, 0, 0, 0, [([], [(1, [0]), (1, [2])]), ([], [(1, [0]), (1, [2])])], [], [0, 0]),
  (0, 6, 483, 0, 0, 0, [([9], [(1, [0]), (1, [2])]), ([9], [(1, [0]), (1, [1])])], [], [1, 1]),
  (0, 31, 0, 0, 0, 0, [], [], []),
  (0, 5, 482, 1, 0, 0, [], [], []),
  (0, 7, 0, 0, 0, 0, [([], [(1, [0])])], [], []),
  (0, 3, 19, 0, (-9999), 9999, [([19], [(1, [0]), (1, [1])]), ([21], [(1, [0]), (1, [11]), (1, [3]), (1, [13]), (1, [2])])], [], []),
  (2, 6, 481, 0, 0, 0, [([], [(1, [0]), (1, [6])]), ([], [(1, [0]), (1, [6])])], [], [0, 0]),
  (0, 6, 483, 0, 0, 0, [([9], [(1, [0]), (1, [2])]), ([9], [(1, [0]), (1, [1])])], [], [1, 1]),
  (0, 31, 0, 0, 0, 0, [], [], []),
  (0, 4, 37, 3, 0, 0, [], [], []),
  (0, 5, 480, 0, 0, 0, [], [], []),
  (0, 3, 19, 0, (-9999), 9999, [([19], [(1, [0]), (1, [1])]), ([16, 17, 18, 19, 20, 21], [(1, [13]), (1, [14])])], [], []),
  (2, 6, 481, 0, 0, 0, [([], [(1, [0]), (1, [1])]), ([], [(1, [0]), (1, [1])])], [], [0, 0]),
  (0, 6, 483, 0, 0, 0, [([9], [(1, [0]), (1, [2])]), ([9], [(1, [0]), (1, [1])])], [], [1, 1]),
  (0, 31, 0, 0, 0, 0, [], [], []),
  (0, 5, 480, 1, 0, 0, [], [], []),
  (0, 3, 19, 0, (-9999), 9999, [([19], [(1, [0]), (1, [1])]), ([16, 17, 18, 19, 20, 21, 22], [(1, [15]), (1, [17])])], [], []),
  (2, 6, 481, 0, 0, 0, [([], [(1, [0]), (1, [1])]), ([], [(1, [0]), (1, [1])])], [], [0, 0]),
  (0, 6, 483, 0, 0, 0, [([9], [(1, [0]), (1, [2])]), ([9], [(1, [0]), (1, [1])])], [], [1, 1]),
  (0, 31, 0, 0, 0, 0, [], [], []),
  (0, 4, 34, 7, 0, 0, [], [], []),
  (0, 5, 481, 0, 0, 0, [], [], []),
  (0, 3, 19, 0, (-9999), 9999, [([19], [(1, [0]), (1, [1])]), ([16, 17, 18, 19, 20, 21, 22], [(1, [15]), (1, [18])])], [], []),
  (2, 6, 481, 0, 0, 0, [([], [(1, [0]), (1, [1])]), ([], [(1, [0]), (1, [1])])], [], [0, 0]),
  (0, 6, 483, 0, 0, 0, [([9], [(1, [0]), (1, [2])]), ([9], [(1, [0]), (1, [1])])], [], [1, 1]),
  (0, 31, 0, 0, 0, 0, [], [], []),
  (0, 5, 481, 1, 0, 0, [], [], []),
  (0, 3, 19, 0, (-9999), 9999, [([19], [(1, [0]), (1, [1])]), ([16, 17, 18, 19, 20, 21, 22, 23], [(1, [17]), (1, [21])])], [], []),
  (2, 6, 481, 0, 0, 0, [([], [(1, [0]), (1, [1])]), ([], [(1, [0]), (1, [1])])], [], [0, 0]),
  (0, 6, 483, 0, 0, 0, [([9], [(1, [0]), (1, [2])]), ([9], [(1, [0]), (1, [1])])], [], [1, 1]),
  (0, 31, 0, 0, 0, 0, [], [], []),
  (0, 5, 482, 1, 0, 0, [], [], []),
  (0, 7, 0, 0, 0, 0, [([], [(1, [0])])], [], []),
  (0, 3, 19, 0, (-9999), 9999, [([19], [(1, [0]), (1, [1])]), ([21], [(1, [0]), (1, [11]), (1, [3]), (1, [13]), (1, [2])])], [], []),
  (2, 6, 481, 0, 0, 0, [([17, 18], [(1, [0]), (1, [12]), (1, [11]), (1, [1]), (1, [3])]), ([], [(1, [0]), (1, [9]), (1, [1]), (1, [11])])], [], [1, 1]),
  (0, 6, 483, 0, 0, 0, [([9], [(1, [0]), (1, [2])]), ([9], [(1, [0]), (1, [1])])], [], [1, 1]),
  (0, 31, 0, 0, 0, 0, [], [], []),
  (48, 4, 37, 0, 0, 0, [], [], []),
  (0, 4, 37, 1, 0, 0, [], [], []),
  (0, 4, 44, 2, 0, 0, [], [], []),
  (0, 5, 482, 0, 0, 0, [], [], []),
  (0, 7, 0, 0, 0, 0, [([], [(1, [0])])], [], []),
  (0, 5, 482, 1, 0, 0, [], [], []),
  (0, 7, 0, 0, 0, 0, [([], [(1, [0])])], [], []),
  (8, 6, 481, 0, 0, 0, [([17], [(1, [0]), (1, [4]), (1, [1])]), ([17], [(1, [0]), (1, [3]), (1, [1])])], [], [1, 1]),
  (0, 6, 482, 0, 0, 0, [([], [(1, [0])]), ([], [(1, [0])])], [], [0, 0]),
  (0, 6, 483, 0, 0, 0, [([], [(1, [0])]), ([], [(1, [0])])], [], [0, 0]),
  (0, 31, 0, 0, 0, 0, [], [], []),
  (11, 4, 37, 0, 0, 0, [], [], []),
  (0, 4, 37, 1, 0, 0, [], [], []),
  (0, 4, 44, 2, 0, 0, [], [], []),
  (0, 5, 482, 0, 0, 0, [], [], []),
  (0, 7, 0, 0, 0, 0, [([], [(1, [0])])], [], []),
  (0, 5, 482, 1, 0, 0, [], [], []),
  (0, 7, 0, 0, 0, 0, [([], [(1, [0])])], [], []),
  (8, 6, 481, 0, 0, 0, [([17], [(1, [0]), (1, [4]), (1, [1])]), ([17], [(1, [0]), (1, [3]), (1, [1])])], [], [1, 1]),
  (0, 6, 482, 0, 0, 0, [([], [(1, [0])]), ([], [(1, [0])])], [], [0, 0]),
  (0, 6, 483, 0, 0, 0, [([], [(1, [0])]), ([], [(1, [0])])], [], [0, 0]),
  (0, 31, 0, 0, 0, 0, [], [], []),
  (8, 4, 37, 0, 0, 0, [], [], []),
  (0, 4, 37, 1, 0, 0, [], [], []),
  (0, 4, 44, 2, 0, 0, [], [], []),
  (0, 4, 44, 0, 0, 0, [], [], []),
  (0, 5, 482, 0, 0, 0, [], [], [])]
set_option maxRecDepth 100000 in
noncomputable def sz_hd523_0_3 : List sy_Hn := [(0, 7, 0, 0, 0, 0, [([], [(1, [0])])], [], []),
  (0, 5, 482, 1, 0, 0, [], [], []),
  (0, 7, 0, 0, 0, 0, [([], [(1, [0])])], [], []),
  (8, 6, 481, 0, 0, 0, [([20], [(1, [0]), (1, [4]), (1, [1])]), ([20], [(1, [0]), (1, [3]), (1, [1])])], [], [1, 1]),
  (0, 6, 482, 0, 0, 0, [([], [(1, [0])]), ([], [(1, [0])])], [], [0, 0]),
  (0, 6, 483, 0, 0, 0, [([], [(1, [0])]), ([], [(1, [0])])], [], [0, 0]),
  (0, 31, 0, 0, 0, 0, [], [], []),
  (32, 4, 37, 0, 0, 0, [], [], []),
  (0, 4, 37, 1, 0, 0, [], [], []),
  (0, 4, 44, 2, 0, 0, [], [], []),
  (0, 4, 44, 0, 0, 0, [], [], []),
  (0, 5, 482, 0, 0, 0, [], [], []),
  (0, 7, 0, 0, 0, 0, [([], [(1, [0])])], [], []),
  (0, 5, 482, 1, 0, 0, [], [], []),
  (0, 7, 0, 0, 0, 0, [([], [(1, [0])])], [], []),
  (8, 6, 481, 0, 0, 0, [([19], [(1, [0]), (1, [4]), (1, [1])]), ([19], [(1, [0]), (1, [3]), (1, [1])])], [], [1, 1]),
  (0, 6, 482, 0, 0, 0, [([], [(1, [0])]), ([], [(1, [0])])], [], [0, 0]),
  (0, 6, 483, 0, 0, 0, [([], [(1, [0])]), ([], [(1, [0])])], [], [0, 0]),
  (0, 31, 0, 0, 0, 0, [], [], []),
  (48, 4, 37, 0, 0, 0, [], [], []),
  (0, 4, 37, 1, 0, 0, [], [], []),
  (0, 4, 44, 2, 0, 0, [], [], []),
  (0, 5, 482, 0, 0, 0, [], [], []),
  (0, 7, 0, 0, 0, 0, [([], [(1, [0])])], [], []),
  (0, 5, 482, 1, 0, 0, [], [], []),
  (0, 7, 0, 0, 0, 0, [([], [(1, [0])])], [], []),
  (8, 6, 481, 0, 0, 0, [([17], [(1, [0]), (1, [4]), (1, [1])]), ([17], [(1, [0]), (1, [3]), (1, [1])])], [], [1, 1]),
  (0, 6, 482, 0, 0, 0, [([], [(1, [0])]), ([], [(1, [0])])], [], [0, 0]),
  (0, 6, 483, 0, 0, 0, [([], [(1, [0])]), ([], [(1, [0])])], [], [0, 0]),
  (0, 31, 0, 0, 0, 0, [], [], []),
  (11, 4, 37, 0, 0, 0, [], [], []),
  (0, 4, 37, 1, 0, 0, [], [], []),
  (0, 4, 44, 2, 0, 0, [], [], []),
  (0, 5, 482, 0, 0, 0, [], [], []),
  (0, 7, 0, 0, 0, 0, [([], [(1, [0])])], [], []),
  (0, 5, 482, 1, 0, 0, [], [], []),
  (0, 7, 0, 0, 0, 0, [([], [(1, [0])])], [], []),
  (8, 6, 481, 0, 0, 0, [([17], [(1, [0]), (1, [4]), (1, [1])]), ([17], [(1, [0]), (1, [3]), (1, [1])])], [], [1, 1]),
  (0, 6, 482, 0, 0, 0, [([], [(1, [0])]), ([], [(1, [0])])], [], [0, 0]),
  (0, 6, 483, 0, 0, 0, [([], [(1, [0])]), ([], [(1, [0])])], [], [0, 0]),
  (0, 31, 0, 0, 0, 0, [], [], []),
  (8, 4, 37, 0, 0, 0, [], [], []),
  (0, 4, 37, 1, 0, 0, [], [], []),
  (0, 4, 44, 2, 0, 0, [], [], []),
  (0, 4, 44, 0, 0, 0, [], [], []),
  (0, 5, 482, 0, 0, 0, [], [], []),
  (0, 7, 0, 0, 0, 0, [([], [(1, [0])])], [], []),
  (0, 5, 482, 1, 0, 0, [], [], []),
  (0, 7, 0, 0, 0, 0, [([], [(1, [0])])], [], []),
  (8, 6, 481, 0, 0, 0, [([20], [(1, [0]), (1, [4]), (1, [1])]), ([20], [(1, [0]), (1, [3]), (1, [1])])], [], [1, 1]),
  (0, 6, 482, 0, 0, 0, [([], [(1, [0])]), ([], [(1, [0])])], [], [0, 0]),
  (0, 6, 483, 0, 0, 0, [([], [(1, [0])]), ([], [(1, [0])])], [], [0, 0]),
  (0, 31, 0, 0, 0, 0, [], [], [])]
noncomputable def sz_hd523_0 : List sy_Hn := sz_hd523_0_0 ++ (sz_hd523_0_1 ++ (sz_hd523_0_2 ++ (sz_hd523_0_3)))
set_option maxRecDepth 100000 in
theorem sz_sd523_0 : sy_seg sz_E (pv_T (sz_own true) sz_T) sz_RU [sz_cd85, sz_cd86] sz_cd523 sz_ud523 ri_m_X2_relayEnds 1354 none sz_hd523_0 = true := by decide +kernel
theorem sz_okd523 (xs : Nat → Value) (L : Nat) : sy_Cok (sz_env xs L) (pv_T (sz_own true) sz_T) sz_RU sz_cd523 := sy_chk_ok (CT := [sz_cd85, sz_cd86]) (CU := sz_ud523) (M := ri_m_X2_relayEnds) (List.forall_mem_cons.mpr ⟨sz_okd85 xs L, List.forall_mem_cons.mpr ⟨sz_okd86 xs L, fun _ h => absurd h List.not_mem_nil⟩⟩) rfl rfl ⟨_, _, sz_sd523_0⟩ (fun _ h => absurd h List.not_mem_nil)

/-! X2_balance  -/
set_option maxRecDepth 100000 in
noncomputable def sz_cd524 : sy_Ct := (173, 2, 47, [(3, .inr 34, .inl 0)], ([], []), [], [], [(34, 8, 8)], [(.inl none, 0, 0, ([], []), [], [])])
set_option maxRecDepth 100000 in
noncomputable def sz_ud524 : List sy_Cut := []
set_option maxRecDepth 100000 in
noncomputable def sz_hd524_0 : List sy_Hn := [(52, 20, 0, 0, 0, 0, [], [], []),
  (0, 31, 0, 0, 0, 0, [], [], [])]
set_option maxRecDepth 100000 in
theorem sz_sd524_0 : sy_seg sz_E (pv_T (sz_own true) sz_T) sz_RU [sz_cd513] sz_cd524 sz_ud524 ri_m_X2_balance 60 none sz_hd524_0 = true := by decide +kernel
theorem sz_okd524 (xs : Nat → Value) (L : Nat) : sy_Cok (sz_env xs L) (pv_T (sz_own true) sz_T) sz_RU sz_cd524 := sy_chk_ok (CT := [sz_cd513]) (CU := sz_ud524) (M := ri_m_X2_balance) (List.forall_mem_cons.mpr ⟨sz_okd513 xs L, fun _ h => absurd h List.not_mem_nil⟩) rfl rfl ⟨_, _, sz_sd524_0⟩ (fun _ h => absurd h List.not_mem_nil)

/-! X0_drive  -/
set_option maxRecDepth 100000 in
noncomputable def sz_cd525 : sy_Ct := (223, 3, 75, [(3, .inr 2, .inl 0), (0, .inl 2, .inl 0)], ([], []), [], [], [(6, 2, 2), (7, 0, 239), (8, 2, 2), (34, 5, 5), (34, 7, 8), (34, 12, 13), (34, 17, 18), (37, 3, 3), (44, 3, 8)], [(.inl none, 0, 0, ([], []), [], [])])
set_option maxRecDepth 100000 in
noncomputable def sz_ud525 : List sy_Cut := [(17, [(0, (3, .inr 2, .inl 0)), (1, (0, .inl 2, .inl 0)), (2, (3, .inr 34, .inl 0)), (3, (0, .inr 0, .inl 0))], ([((-1), 3)], []), [], [], [(4, [])]), (47, [(0, (3, .inr 2, .inl 0)), (1, (0, .inl 2, .inl 0)), (2, (3, .inr 34, .inl 0)), (3, (0, .inr 0, .inl 0))], ([((-1), (-1))], []), [], [], [(3, [])]), (63, [(0, (3, .inr 2, .inl 0)), (1, (0, .inl 2, .inl 0)), (2, (3, .inr 34, .inl 0)), (3, (0, .inr 0, .inl 0))], ([((-1), 3)], []), [], [], [(2, [])]), (65, [(0, (3, .inr 2, .inl 0)), (1, (0, .inl 2, .inl 0)), (2, (3, .inr 34, .inl 0)), (3, (0, .inr 0, .inl 0))], ([((-1), 3)], []), [], [], [(1, [])]), (78, [(0, (3, .inr 2, .inl 0)), (1, (0, .inl 2, .inl 0)), (2, (3, .inr 34, .inl 0)), (3, (0, .inr 0, .inl 0))], ([((-1), 3)], []), [], [], [(0, [])])]
set_option maxRecDepth 100000 in
noncomputable def sz_hd525_0 : List sy_Hn := [(16, 20, 1, 0, 0, 0, [], [], []),
  (0, 30, 0, 0, 0, 0, [([], [(1, [0])]), ([], [])], [], [])]
set_option maxRecDepth 100000 in
theorem sz_sd525_0 : sy_seg sz_E (pv_T (sz_own true) sz_T) sz_RU [sz_cd470, sz_cd519, sz_cd522, sz_cd523, sz_cd524] sz_cd525 sz_ud525 ri_m_X0_drive 25 none sz_hd525_0 = true := by decide +kernel
set_option maxRecDepth 100000 in
noncomputable def sz_hd525_1_0 : List sy_Hn := [(15, 1, 0, 0, 0, 0, [], [], []),
  (26, 6, 481, 0, 0, 0, [([], [(1, [0]), (1, [2])]), ([], [(1, [0]), (1, [1])])], [], [1, 1]),
  (0, 30, 0, 0, 0, 0, [([], [(1, [0])]), ([], [(1, [0])])], [], []),
  (7, 5, 479, 0, 0, 0, [], [], []),
  (0, 6, 481, 0, 0, 0, [([], [(1, [0]), (1, [1])]), ([], [(1, [0]), (1, [1])])], [], [0, 0]),
  (0, 30, 0, 0, 0, 0, [([], [(1, [0])]), ([], [(1, [0])])], [], []),
  (0, 6, 481, 0, 0, 0, [([], [(1, [0]), (1, [1])]), ([], [(1, [0])])], [], [1, 1]),
  (0, 30, 0, 0, 0, 0, [([], [(1, [0])]), ([], [(1, [0])])], [], []),
  (7, 5, 479, 0, 0, 0, [], [], []),
  (0, 6, 481, 0, 0, 0, [([], [(1, [0]), (1, [1])]), ([], [(1, [0]), (1, [1])])], [], [0, 0]),
  (0, 30, 0, 0, 0, 0, [([], [(1, [0])]), ([], [(1, [0])])], [], []),
  (0, 6, 481, 0, 0, 0, [([], [(1, [0])]), ([], [(1, [0]), (1, [1])])], [], [1, 1]),
  (0, 30, 0, 0, 0, 0, [([], [(1, [0])]), ([], [(1, [0])])], [], []),
  (0, 1, 0, 0, 1, 0, [], [], []),
  (26, 6, 481, 0, 0, 0, [([], [(1, [0]), (1, [2])]), ([], [(1, [0]), (1, [1])])], [], [1, 1]),
  (0, 30, 0, 0, 0, 0, [([], [(1, [0])]), ([], [(1, [0])])], [], []),
  (7, 5, 479, 0, 0, 0, [], [], []),
  (0, 6, 481, 0, 0, 0, [([], [(1, [0]), (1, [1])]), ([], [(1, [0]), (1, [1])])], [], [0, 0]),
  (0, 30, 0, 0, 0, 0, [([], [(1, [0])]), ([], [(1, [0])])], [], []),
  (0, 6, 481, 0, 0, 0, [([], [(1, [0]), (1, [1])]), ([], [(1, [0])])], [], [1, 1]),
  (0, 30, 0, 0, 0, 0, [([], [(1, [0])]), ([], [(1, [0])])], [], []),
  (7, 5, 479, 0, 0, 0, [], [], []),
  (0, 6, 481, 0, 0, 0, [([], [(1, [0]), (1, [1])]), ([], [(1, [0]), (1, [1])])], [], [0, 0]),
  (0, 30, 0, 0, 0, 0, [([], [(1, [0])]), ([], [(1, [0])])], [], []),
  (0, 6, 481, 0, 0, 0, [([], [(1, [0])]), ([], [(1, [0]), (1, [1])])], [], [1, 1]),
  (0, 30, 0, 0, 0, 0, [([], [(1, [0])]), ([], [(1, [0])])], [], []),
  (0, 1, 0, 0, 2, 0, [], [], []),
  (26, 6, 481, 0, 0, 0, [([], [(1, [0]), (1, [2])]), ([], [(1, [0]), (1, [1])])], [], [1, 1]),
  (0, 30, 0, 0, 0, 0, [([], [(1, [0])]), ([], [(1, [0])])], [], []),
  (7, 5, 479, 0, 0, 0, [], [], []),
  (0, 6, 481, 0, 0, 0, [([], [(1, [0]), (1, [1])]), ([], [(1, [0]), (1, [1])])], [], [0, 0]),
  (0, 30, 0, 0, 0, 0, [([], [(1, [0])]), ([], [(1, [0])])], [], []),
  (0, 6, 481, 0, 0, 0, [([], [(1, [0]), (1, [1])]), ([], [(1, [0])])], [], [1, 1]),
  (0, 30, 0, 0, 0, 0, [([], [(1, [0])]), ([], [(1, [0])])], [], []),
  (7, 5, 479, 0, 0, 0, [], [], []),
  (0, 6, 481, 0, 0, 0, [([], [(1, [0]), (1, [1])]), ([], [(1, [0]), (1, [1])])], [], [0, 0]),
  (0, 30, 0, 0, 0, 0, [([], [(1, [0])]), ([], [(1, [0])])], [], []),
  (0, 6, 481, 0, 0, 0, [([], [(1, [0])]), ([], [(1, [0]), (1, [1])])], [], [1, 1]),
  (0, 30, 0, 0, 0, 0, [([], [(1, [0])]), ([], [(1, [0])])], [], []),
  (26, 6, 481, 0, 0, 0, [([], [(1, [0]), (1, [2])]), ([], [(1, [0]), (1, [1])])], [], [1, 1]),
  (0, 30, 0, 0, 0, 0, [([], [(1, [0])]), ([], [(1, [0])])], [], []),
  (7, 5, 479, 0, 0, 0, [], [], []),
  (0, 6, 481, 0, 0, 0, [([], [(1, [0]), (1, [1])]), ([], [(1, [0]), (1, [1])])], [], [0, 0]),
  (0, 30, 0, 0, 0, 0, [([], [(1, [0])]), ([], [(1, [0])])], [], []),
  (0, 6, 481, 0, 0, 0, [([], [(1, [0]), (1, [1])]), ([], [(1, [0])])], [], [1, 1]),
  (0, 30, 0, 0, 0, 0, [([], [(1, [0])]), ([], [(1, [0])])], [], []),
  (7, 5, 479, 0, 0, 0, [], [], []),
  (0, 6, 481, 0, 0, 0, [([], [(1, [0]), (1, [1])]), ([], [(1, [0]), (1, [1])])], [], [0, 0]),
  (0, 30, 0, 0, 0, 0, [([], [(1, [0])]), ([], [(1, [0])])], [], []),
  (0, 6, 481, 0, 0, 0, [([], [(1, [0])]), ([], [(1, [0]), (1, [1])])], [], [1, 1]),
  (0, 30, 0, 0, 0, 0, [([], [(1, [0])]), ([], [(1, [0])])], [], []),
  (3, 20, 2, 0, 0, 0, [], [], []),
  (0, 30, 0, 0, 0, 0, [([], [(1, [0])]), ([], [(1, [0])])], [], []),
  (0, 30, 0, 0, 0, 0, [([], [(1, [0])]), ([], [(1, [0])])], [], []),
  (6, 1, 0, 0, 0, 0, [], [], []),
  (26, 6, 481, 0, 0, 0, [([], [(1, [0]), (1, [2])]), ([], [(1, [0]), (1, [1])])], [], [1, 1]),
  (0, 30, 0, 0, 0, 0, [([], [(1, [0])]), ([], [(1, [0])])], [], []),
  (7, 5, 479, 0, 0, 0, [], [], []),
  (0, 6, 481, 0, 0, 0, [([], [(1, [0]), (1, [1])]), ([], [(1, [0]), (1, [1])])], [], [0, 0]),
  (0, 30, 0, 0, 0, 0, [([], [(1, [0])]), ([], [(1, [0])])], [], []),
  (0, 6, 481, 0, 0, 0, [([], [(1, [0]), (1, [1])]), ([], [(1, [0])])], [], [1, 1]),
  (0, 30, 0, 0, 0, 0, [([], [(1, [0])]), ([], [(1, [0])])], [], []),
  (7, 5, 479, 0, 0, 0, [], [], []),
  (0, 6, 481, 0, 0, 0, [([], [(1, [0]), (1, [1])]), ([], [(1, [0]), (1, [1])])], [], [0, 0]),
  (0, 30, 0, 0, 0, 0, [([], [(1, [0])]), ([], [(1, [0])])], [], []),
  (0, 6, 481, 0, 0, 0, [([], [(1, [0])]), ([], [(1, [0]), (1, [1])])], [], [1, 1]),
  (0, 30, 0, 0, 0, 0, [([], [(1, [0])]), ([], [(1, [0])])], [], []),
  (0, 1, 0, 0, 1, 0, [], [], []),
  (26, 6, 481, 0, 0, 0, [([], [(1, [0]), (1, [2])]), ([], [(1, [0]), (1, [1])])], [], [1, 1]),
  (0, 30, 0, 0, 0, 0, [([], [(1, [0])]), ([], [(1, [0])])], [], []),
  (7, 5, 479, 0, 0, 0, [], [], []),
  (0, 6, 481, 0, 0, 0, [([], [(1, [0]), (1, [1])]), ([], [(1, [0]), (1, [1])])], [], [0, 0]),
  (0, 30, 0, 0, 0, 0, [([], [(1, [0])]), ([], [(1, [0])])], [], []),
  (0, 6, 481, 0, 0, 0, [([], [(1, [0]), (1, [1])]), ([], [(1, [0])])], [], [1, 1]),
  (0, 30, 0, 0, 0, 0, [([], [(1, [0])]), ([], [(1, [0])])], [], []),
  (7, 5, 479, 0, 0, 0, [], [], []),
  (0, 6, 481, 0, 0, 0, [([], [(1, [0]), (1, [1])]), ([], [(1, [0]), (1, [1])])], [], [0, 0]),
  (0, 30, 0, 0, 0, 0, [([], [(1, [0])]), ([], [(1, [0])])], [], []),
  (0, 6, 481, 0, 0, 0, [([], [(1, [0])]), ([], [(1, [0]), (1, [1])])], [], [1, 1]),
  (0, 30, 0, 0, 0, 0, [([], [(1, [0])]), ([], [(1, [0])])], [], []),
  (0, 1, 0, 0, 2, 0, [], [], []),
  (26, 6, 481, 0, 0, 0, [([], [(1, [0]), (1, [2])]), ([], [(1, [0]), (1, [1])])], [], [1, 1]),
  (0, 30, 0, 0, 0, 0, [([], [(1, [0])]), ([], [(1, [0])])], [], []),
  (7, 5, 479, 0, 0, 0, [], [], []),
  (0, 6, 481, 0, 0, 0, [([], [(1, [0]), (1, [1])]), ([], [(1, [0]), (1, [1])])], [], [0, 0]),
  (0, 30, 0, 0, 0, 0, [([], [(1, [0])]), ([], [(1, [0])])], [], []),
  (0, 6, 481, 0, 0, 0, [([], [(1, [0]), (1, [1])]), ([], [(1, [0])])], [], [1, 1]),
  (0, 30, 0, 0, 0, 0, [([], [(1, [0])]), ([], [(1, [0])])], [], []),
  (7, 5, 479, 0, 0, 0, [], [], []),
  (0, 6, 481, 0, 0, 0, [([], [(1, [0]), (1, [1])]), ([], [(1, [0]), (1, [1])])], [], [0, 0]),
  (0, 30, 0, 0, 0, 0, [([], [(1, [0])]), ([], [(1, [0])])], [], []),
  (0, 6, 481, 0, 0, 0, [([], [(1, [0])]), ([], [(1, [0]), (1, [1])])], [], [1, 1]),
  (0, 30, 0, 0, 0, 0, [([], [(1, [0])]), ([], [(1, [0])])], [], []),
  (26, 6, 481, 0, 0, 0, [([], [(1, [0]), (1, [2])]), ([], [(1, [0]), (1, [1])])], [], [1, 1]),
  (0, 30, 0, 0, 0, 0, [([], [(1, [0])]), ([], [(1, [0])])], [], []),
  (7, 5, 479, 0, 0, 0, [], [], []),
  (0, 6, 481, 0, 0, 0, [([], [(1, [0]), (1, [1])]), ([], [(1, [0]), (1, [1])])], [], [0, 0]),
  (0, 30, 0, 0, 0, 0, [([], [(1, [0])]), ([], [(1, [0])])], [], []),
  (0, 6, 481, 0, 0, 0, [([], [(1, [0]), (1, [1])]), ([], [(1, [0])])], [], [1, 1]),
  (0, 30, 0, 0, 0, 0, [([], [(1, [0])]), ([], [(1, [0])])], [], []),
  (7, 5, 479, 0, 0, 0, [], [], []),
  (0, 6, 481, 0, 0, 0, [([], [(1, [0]), (1, [1])]), ([], [(1, [0]), (1, [1])])], [], [0, 0]),
  (0, 30, 0, 0, 0, 0, [([], [(1, [0])]), ([], [(1, [0])])], [], []),
  (0, 6, 481, 0, 0, 0, [([], [(1, [0])]), ([], [(1, [0]), (1, [1])])], [], [1, 1]),
  (0, 30, 0, 0, 0, 0, [([], [(1, [0])]), ([], [(1, [0])])], [], []),
  (0, 30, 0, 0, 0, 0, [([], [(1, [0])]), ([], [(1, [0])])], [], []),
  (6, 1, 0, 0, 0, 0, [], [], []),
  (26, 6, 481, 0, 0, 0, [([], [(1, [0]), (1, [2])]), ([], [(1, [0]), (1, [1])])], [], [1, 1]),
  (0, 30, 0, 0, 0, 0, [([], [(1, [0])]), ([], [(1, [0])])], [], []),
  (7, 5, 479, 0, 0, 0, [], [], []),
  (0, 6, 481, 0, 0, 0, [([], [(1, [0]), (1, [1])]), ([], [(1, [0]), (1, [1])])], [], [0, 0]),
  (0, 30, 0, 0, 0, 0, [([], [(1, [0])]), ([], [(1, [0])])], [], []),
  (0, 6, 481, 0, 0, 0, [([], [(1, [0]), (1, [1])]), ([], [(1, [0])])], [], [1, 1]),
  (0, 30, 0, 0, 0, 0, [([], [(1, [0])]), ([], [(1, [0])])], [], []),
  (7, 5, 479, 0, 0, 0, [], [], []),
  (0, 6, 481, 0, 0, 0, [([], [(1, [0]), (1, [1])]), ([], [(1, [0]), (1, [1])])], [], [0, 0]),
  (0, 30, 0, 0, 0, 0, [([], [(1, [0])]), ([], [(1, [0])])], [], []),
  (0, 6, 481, 0, 0, 0, [([], [(1, [0])]), ([], [(1, [0]), (1, [1])])], [], [1, 1]),
  (0, 30, 0, 0, 0, 0, [([], [(1, [0])]), ([], [(1, [0])])], [], []),
  (0, 1, 0, 0, 1, 0, [], [], []),
  (26, 6, 481, 0, 0, 0, [([], [(1, [0]), (1, [2])]), ([], [(1, [0]), (1, [1])])], [], [1, 1]),
  (0, 30, 0, 0, 0, 0, [([], [(1, [0])]), ([], [(1, [0])])], [], []),
  (7, 5, 479, 0, 0, 0, [], [], []),
  (0, 6, 481, 0, 0, 0, [([], [(1, [0]), (1, [1])]), ([], [(1, [0]), (1, [1])])], [], [0, 0]),
  (0, 30, 0, 0, 0, 0, [([], [(1, [0])]), ([], [(1, [0])])], [], []),
  (0, 6, 481, 0, 0, 0, [([], [(1, [0]), (1, [1])]), ([], [(1, [0])])], [], [1, 1]),
  (0, 30, 0, 0, 0, 0, [([], [(1, [0])]), ([], [(1, [0])])], [], []),
  (7, 5, 479, 0, 0, 0, [], [], []),
  (0, 6, 481, 0, 0, 0, [([], [(1, [0]), (1, [1])]), ([], [(1, [0]), (1, [1])])], [], [0, 0]),
  (0, 30, 0, 0, 0, 0, [([], [(1, [0])]), ([], [(1, [0])])], [], []),
  (0, 6, 481, 0, 0, 0, [([], [(1, [0])]), ([], [(1, [0]), (1, [1])])], [], [1, 1]),
  (0, 30, 0, 0, 0, 0, [([], [(1, [0])]), ([], [(1, [0])])], [], []),
  (0, 1, 0, 0, 2, 0, [], [], []),
  (26, 6, 481, 0, 0, 0, [([], [(1, [0]), (1, [2])]), ([], [(1, [0]), (1, [1])])], [], [1, 1]),
  (0, 30, 0, 0, 0, 0, [([], [(1, [0])]), ([], [(1, [0])])], [], []),
  (7, 5, 479, 0, 0, 0, [], [], []),
  (0, 6, 481, 0, 0, 0, [([], [(1, [0]), (1, [1])]), ([], [(1, [0]), (1, [1])])], [], [0, 0]),
  (0, 30, 0, 0, 0, 0, [([], [(1, [0])]), ([], [(1, [0])])], [], []),
  (0, 6, 481, 0, 0, 0, [([], [(1, [0]), (1, [1])]), ([], [(1, [0])])], [], [1, 1]),
  (0, 30, 0, 0, 0, 0, [([], [(1, [0])]), ([], [(1, [0])])], [], []),
  (7, 5, 479, 0, 0, 0, [], [], []),
  (0, 6, 481, 0, 0, 0, [([], [(1, [0]), (1, [1])]), ([], [(1, [0]), (1, [1])])], [], [0, 0]),
  (0, 30, 0, 0, 0, 0, [([], [(1, [0])]), ([], [(1, [0])])], [], []),
  (0, 6, 481, 0, 0, 0, [([], [(1, [0])]), ([], [(1, [0]), (1, [1])])], [], [1, 1]),
  (0, 30, 0, 0, 0, 0, [([], [(1, [0])]), ([], [(1, [0])])], [], []),
  (26, 6, 481, 0, 0, 0, [([], [(1, [0]), (1, [2])]), ([], [(1, [0]), (1, [1])])], [], [1, 1]),
  (0, 30, 0, 0, 0, 0, [([], [(1, [0])]), ([], [(1, [0])])], [], []),
  (7, 5, 479, 0, 0, 0, [], [], []),
  (0, 6, 481, 0, 0, 0, [([], [(1, [0]), (1, [1])]), ([], [(1, [0]), (1, [1])])], [], [0, 0]),
  (0, 30, 0, 0, 0, 0, [([], [(1, [0])]), ([], [(1, [0])])], [], [])]
set_option maxRecDepth 100000 in
noncomputable def sz_hd525_1_1 : List sy_Hn := [(0, 6, 481, 0, 0, 0, [([], [(1, [0]), (1, [1])]), ([], [(1, [0])])], [], [1, 1]),
  (0, 30, 0, 0, 0, 0, [([], [(1, [0])]), ([], [(1, [0])])], [], []),
  (7, 5, 479, 0, 0, 0, [], [], []),
  (0, 6, 481, 0, 0, 0, [([], [(1, [0]), (1, [1])]), ([], [(1, [0]), (1, [1])])], [], [0, 0]),
  (0, 30, 0, 0, 0, 0, [([], [(1, [0])]), ([], [(1, [0])])], [], []),
  (0, 6, 481, 0, 0, 0, [([], [(1, [0])]), ([], [(1, [0]), (1, [1])])], [], [1, 1]),
  (0, 30, 0, 0, 0, 0, [([], [(1, [0])]), ([], [(1, [0])])], [], []),
  (12, 1, 0, 0, 0, 0, [], [], []),
  (26, 6, 481, 0, 0, 0, [([], [(1, [0]), (1, [2])]), ([], [(1, [0]), (1, [1])])], [], [1, 1]),
  (0, 30, 0, 0, 0, 0, [([], [(1, [0])]), ([], [(1, [0])])], [], []),
  (7, 5, 479, 0, 0, 0, [], [], []),
  (0, 6, 481, 0, 0, 0, [([], [(1, [0]), (1, [1])]), ([], [(1, [0]), (1, [1])])], [], [0, 0]),
  (0, 30, 0, 0, 0, 0, [([], [(1, [0])]), ([], [(1, [0])])], [], []),
  (0, 6, 481, 0, 0, 0, [([], [(1, [0]), (1, [1])]), ([], [(1, [0])])], [], [1, 1]),
  (0, 30, 0, 0, 0, 0, [([], [(1, [0])]), ([], [(1, [0])])], [], []),
  (7, 5, 479, 0, 0, 0, [], [], []),
  (0, 6, 481, 0, 0, 0, [([], [(1, [0]), (1, [1])]), ([], [(1, [0]), (1, [1])])], [], [0, 0]),
  (0, 30, 0, 0, 0, 0, [([], [(1, [0])]), ([], [(1, [0])])], [], []),
  (0, 6, 481, 0, 0, 0, [([], [(1, [0])]), ([], [(1, [0]), (1, [1])])], [], [1, 1]),
  (0, 30, 0, 0, 0, 0, [([], [(1, [0])]), ([], [(1, [0])])], [], []),
  (0, 1, 0, 0, 1, 0, [], [], []),
  (26, 6, 481, 0, 0, 0, [([], [(1, [0]), (1, [2])]), ([], [(1, [0]), (1, [1])])], [], [1, 1]),
  (0, 30, 0, 0, 0, 0, [([], [(1, [0])]), ([], [(1, [0])])], [], []),
  (7, 5, 479, 0, 0, 0, [], [], []),
  (0, 6, 481, 0, 0, 0, [([], [(1, [0]), (1, [1])]), ([], [(1, [0]), (1, [1])])], [], [0, 0]),
  (0, 30, 0, 0, 0, 0, [([], [(1, [0])]), ([], [(1, [0])])], [], []),
  (0, 6, 481, 0, 0, 0, [([], [(1, [0]), (1, [1])]), ([], [(1, [0])])], [], [1, 1]),
  (0, 30, 0, 0, 0, 0, [([], [(1, [0])]), ([], [(1, [0])])], [], []),
  (7, 5, 479, 0, 0, 0, [], [], []),
  (0, 6, 481, 0, 0, 0, [([], [(1, [0]), (1, [1])]), ([], [(1, [0]), (1, [1])])], [], [0, 0]),
  (0, 30, 0, 0, 0, 0, [([], [(1, [0])]), ([], [(1, [0])])], [], []),
  (0, 6, 481, 0, 0, 0, [([], [(1, [0])]), ([], [(1, [0]), (1, [1])])], [], [1, 1]),
  (0, 30, 0, 0, 0, 0, [([], [(1, [0])]), ([], [(1, [0])])], [], []),
  (0, 1, 0, 0, 2, 0, [], [], []),
  (26, 6, 481, 0, 0, 0, [([], [(1, [0]), (1, [2])]), ([], [(1, [0]), (1, [1])])], [], [1, 1]),
  (0, 30, 0, 0, 0, 0, [([], [(1, [0])]), ([], [(1, [0])])], [], []),
  (7, 5, 479, 0, 0, 0, [], [], []),
  (0, 6, 481, 0, 0, 0, [([], [(1, [0]), (1, [1])]), ([], [(1, [0]), (1, [1])])], [], [0, 0]),
  (0, 30, 0, 0, 0, 0, [([], [(1, [0])]), ([], [(1, [0])])], [], []),
  (0, 6, 481, 0, 0, 0, [([], [(1, [0]), (1, [1])]), ([], [(1, [0])])], [], [1, 1]),
  (0, 30, 0, 0, 0, 0, [([], [(1, [0])]), ([], [(1, [0])])], [], []),
  (7, 5, 479, 0, 0, 0, [], [], []),
  (0, 6, 481, 0, 0, 0, [([], [(1, [0]), (1, [1])]), ([], [(1, [0]), (1, [1])])], [], [0, 0]),
  (0, 30, 0, 0, 0, 0, [([], [(1, [0])]), ([], [(1, [0])])], [], []),
  (0, 6, 481, 0, 0, 0, [([], [(1, [0])]), ([], [(1, [0]), (1, [1])])], [], [1, 1]),
  (0, 30, 0, 0, 0, 0, [([], [(1, [0])]), ([], [(1, [0])])], [], []),
  (26, 6, 481, 0, 0, 0, [([], [(1, [0]), (1, [2])]), ([], [(1, [0]), (1, [1])])], [], [1, 1]),
  (0, 30, 0, 0, 0, 0, [([], [(1, [0])]), ([], [(1, [0])])], [], []),
  (7, 5, 479, 0, 0, 0, [], [], []),
  (0, 6, 481, 0, 0, 0, [([], [(1, [0]), (1, [1])]), ([], [(1, [0]), (1, [1])])], [], [0, 0]),
  (0, 30, 0, 0, 0, 0, [([], [(1, [0])]), ([], [(1, [0])])], [], []),
  (0, 6, 481, 0, 0, 0, [([], [(1, [0]), (1, [1])]), ([], [(1, [0])])], [], [1, 1]),
  (0, 30, 0, 0, 0, 0, [([], [(1, [0])]), ([], [(1, [0])])], [], []),
  (7, 5, 479, 0, 0, 0, [], [], []),
  (0, 6, 481, 0, 0, 0, [([], [(1, [0]), (1, [1])]), ([], [(1, [0]), (1, [1])])], [], [0, 0]),
  (0, 30, 0, 0, 0, 0, [([], [(1, [0])]), ([], [(1, [0])])], [], []),
  (0, 6, 481, 0, 0, 0, [([], [(1, [0])]), ([], [(1, [0]), (1, [1])])], [], [1, 1]),
  (0, 30, 0, 0, 0, 0, [([], [(1, [0])]), ([], [(1, [0])])], [], []),
  (3, 20, 2, 0, 0, 0, [], [], []),
  (0, 30, 0, 0, 0, 0, [([], [(1, [0])]), ([], [(1, [0])])], [], [])]
noncomputable def sz_hd525_1 : List sy_Hn := sz_hd525_1_0 ++ (sz_hd525_1_1)
set_option maxRecDepth 100000 in
theorem sz_sd525_1 : sy_seg sz_E (pv_T (sz_own true) sz_T) sz_RU [sz_cd470, sz_cd519, sz_cd522, sz_cd523, sz_cd524] sz_cd525 sz_ud525 ri_m_X0_drive 1045 (some ((17, [(0, (3, .inr 2, .inl 0)), (1, (0, .inl 2, .inl 0)), (2, (3, .inr 34, .inl 0)), (3, (0, .inr 0, .inl 0))], ([((-1), 3)], []), [], [], [(4, [])]))) sz_hd525_1 = true := by decide +kernel
set_option maxRecDepth 100000 in
noncomputable def sz_hd525_2 : List sy_Hn := [(0, 30, 0, 0, 0, 0, [([], [(1, [0])]), ([], [(1, [0])])], [], []),
  (2, 20, 3, 0, 0, 0, [], [], []),
  (0, 30, 0, 0, 0, 0, [([], [(1, [0])]), ([], [(1, [0])])], [], []),
  (9, 20, 0, 0, 0, 0, [], [], []),
  (0, 30, 0, 0, 0, 0, [([], [(1, [0])]), ([], [(1, [0])])], [], [])]
set_option maxRecDepth 100000 in
theorem sz_sd525_2 : sy_seg sz_E (pv_T (sz_own true) sz_T) sz_RU [sz_cd470, sz_cd519, sz_cd522, sz_cd523, sz_cd524] sz_cd525 sz_ud525 ri_m_X0_drive 29 (some ((47, [(0, (3, .inr 2, .inl 0)), (1, (0, .inl 2, .inl 0)), (2, (3, .inr 34, .inl 0)), (3, (0, .inr 0, .inl 0))], ([((-1), (-1))], []), [], [], [(3, [])]))) sz_hd525_2 = true := by decide +kernel
set_option maxRecDepth 100000 in
noncomputable def sz_hd525_3 : List sy_Hn := [(1, 20, 4, 0, 0, 0, [], [], []),
  (0, 30, 0, 0, 0, 0, [([], [(1, [0])]), ([], [(1, [0])])], [], [])]
set_option maxRecDepth 100000 in
theorem sz_sd525_3 : sy_seg sz_E (pv_T (sz_own true) sz_T) sz_RU [sz_cd470, sz_cd519, sz_cd522, sz_cd523, sz_cd524] sz_cd525 sz_ud525 ri_m_X0_drive 10 (some ((63, [(0, (3, .inr 2, .inl 0)), (1, (0, .inl 2, .inl 0)), (2, (3, .inr 34, .inl 0)), (3, (0, .inr 0, .inl 0))], ([((-1), 3)], []), [], [], [(2, [])]))) sz_hd525_3 = true := by decide +kernel
set_option maxRecDepth 100000 in
noncomputable def sz_hd525_4 : List sy_Hn := [(0, 30, 0, 0, 0, 0, [([], [(1, [0])]), ([], [(1, [0])])], [], []),
  (0, 30, 0, 0, 0, 0, [([], [(1, [0])]), ([], [(1, [0])])], [], []),
  (0, 30, 0, 0, 0, 0, [([], [(1, [0])]), ([], [(1, [0])])], [], []),
  (0, 30, 0, 0, 0, 0, [([], [(1, [0])]), ([], [(1, [0])])], [], []),
  (0, 30, 0, 0, 0, 0, [([], [(1, [0])]), ([], [(1, [0])])], [], [])]
set_option maxRecDepth 100000 in
theorem sz_sd525_4 : sy_seg sz_E (pv_T (sz_own true) sz_T) sz_RU [sz_cd470, sz_cd519, sz_cd522, sz_cd523, sz_cd524] sz_cd525 sz_ud525 ri_m_X0_drive 54 (some ((65, [(0, (3, .inr 2, .inl 0)), (1, (0, .inl 2, .inl 0)), (2, (3, .inr 34, .inl 0)), (3, (0, .inr 0, .inl 0))], ([((-1), 3)], []), [], [], [(1, [])]))) sz_hd525_4 = true := by decide +kernel
set_option maxRecDepth 100000 in
noncomputable def sz_hd525_5 : List sy_Hn := [(0, 31, 0, 0, 0, 0, [], [], []),
  (4, 4, 37, 0, 0, 0, [], [], []),
  (0, 4, 37, 1, 0, 0, [], [], []),
  (0, 5, 479, 0, 0, 0, [], [], []),
  (0, 6, 480, 0, 0, 0, [([], [(1, [0]), (1, [1])]), ([], [(1, [0]), (1, [1])])], [], [0, 0]),
  (0, 31, 0, 0, 0, 0, [], [], []),
  (0, 5, 481, 0, 0, 0, [], [], []),
  (0, 6, 480, 0, 0, 0, [([], [(1, [0]), (1, [1])]), ([], [(1, [0]), (1, [1])])], [], [0, 0]),
  (0, 31, 0, 0, 0, 0, [], [], []),
  (0, 5, 481, 1, 0, 0, [], [], []),
  (0, 6, 480, 0, 0, 0, [([], [(1, [0]), (1, [1])]), ([], [(1, [0]), (1, [1])])], [], [0, 0]),
  (0, 31, 0, 0, 0, 0, [], [], []),
  (0, 6, 480, 0, 0, 0, [([], [(1, [0]), (1, [2])]), ([], [(1, [0]), (1, [1])])], [], [1, 1]),
  (0, 31, 0, 0, 0, 0, [], [], []),
  (0, 31, 0, 0, 0, 0, [], [], []),
  (4, 4, 37, 0, 0, 0, [], [], []),
  (0, 4, 37, 1, 0, 0, [], [], []),
  (0, 5, 479, 0, 0, 0, [], [], []),
  (0, 6, 480, 0, 0, 0, [([], [(1, [0]), (1, [1])]), ([], [(1, [0]), (1, [1])])], [], [0, 0]),
  (0, 31, 0, 0, 0, 0, [], [], []),
  (0, 5, 481, 0, 0, 0, [], [], []),
  (0, 6, 480, 0, 0, 0, [([], [(1, [0]), (1, [1])]), ([], [(1, [0]), (1, [1])])], [], [0, 0]),
  (0, 31, 0, 0, 0, 0, [], [], []),
  (0, 5, 481, 1, 0, 0, [], [], []),
  (0, 6, 480, 0, 0, 0, [([], [(1, [0]), (1, [1])]), ([], [(1, [0]), (1, [1])])], [], [0, 0]),
  (0, 31, 0, 0, 0, 0, [], [], []),
  (0, 6, 480, 0, 0, 0, [([], [(1, [0]), (1, [2])]), ([], [(1, [0]), (1, [1])])], [], [1, 1]),
  (0, 31, 0, 0, 0, 0, [], [], [])]
set_option maxRecDepth 100000 in
theorem sz_sd525_5 : sy_seg sz_E (pv_T (sz_own true) sz_T) sz_RU [sz_cd470, sz_cd519, sz_cd522, sz_cd523, sz_cd524] sz_cd525 sz_ud525 ri_m_X0_drive 83 (some ((78, [(0, (3, .inr 2, .inl 0)), (1, (0, .inl 2, .inl 0)), (2, (3, .inr 34, .inl 0)), (3, (0, .inr 0, .inl 0))], ([((-1), 3)], []), [], [], [(0, [])]))) sz_hd525_5 = true := by decide +kernel
theorem sz_okd525 (xs : Nat → Value) (L : Nat) : sy_Cok (sz_env xs L) (pv_T (sz_own true) sz_T) sz_RU sz_cd525 := sy_chk_ok (CT := [sz_cd470, sz_cd519, sz_cd522, sz_cd523, sz_cd524]) (CU := sz_ud525) (M := ri_m_X0_drive) (List.forall_mem_cons.mpr ⟨sz_okd470 xs L, List.forall_mem_cons.mpr ⟨sz_okd519 xs L, List.forall_mem_cons.mpr ⟨sz_okd522 xs L, List.forall_mem_cons.mpr ⟨sz_okd523 xs L, List.forall_mem_cons.mpr ⟨sz_okd524 xs L, fun _ h => absurd h List.not_mem_nil⟩⟩⟩⟩⟩) rfl rfl ⟨_, _, sz_sd525_0⟩ (List.forall_mem_cons.mpr ⟨⟨_, _, sz_sd525_1⟩, List.forall_mem_cons.mpr ⟨⟨_, _, sz_sd525_2⟩, List.forall_mem_cons.mpr ⟨⟨_, _, sz_sd525_3⟩, List.forall_mem_cons.mpr ⟨⟨_, _, sz_sd525_4⟩, List.forall_mem_cons.mpr ⟨⟨_, _, sz_sd525_5⟩, fun _ h => absurd h List.not_mem_nil⟩⟩⟩⟩⟩)

/-! X0_shutDown  -/
set_option maxRecDepth 100000 in
noncomputable def sz_cd526 : sy_Ct := (221, 3, 64, [(3, .inr 2, .inl 0), (0, .inl 3, .inl 0), (0, .inl 2, .inl 0)], ([], []), [], [], [(6, 2, 2), (7, 0, 239), (46, 5, 5), (46, 12, 13), (46, 16, 16), (57, 0, 0)], [(.inl none, 0, 0, ([], []), [], [])])
set_option maxRecDepth 100000 in
noncomputable def sz_ud526 : List sy_Cut := []
set_option maxRecDepth 100000 in
noncomputable def sz_hd526_0 : List sy_Hn := [(32, 4, 49, 0, 0, 0, [], [], []),
  (0, 4, 49, 1, 0, 0, [], [], []),
  (0, 4, 56, 2, 0, 0, [], [], []),
  (0, 4, 56, 0, 0, 0, [], [], []),
  (0, 6, 487, 0, 0, 0, [([], [(1, [0])]), ([], [(1, [0])])], [], [0, 0]),
  (0, 4, 56, 5, 0, 0, [], [], []),
  (0, 4, 56, 6, 0, 0, [], [], []),
  (0, 6, 488, 0, 0, 0, [([], [(1, [0])]), ([], [(1, [0])])], [], [0, 0]),
  (1, 20, 0, 0, 0, 0, [], [], []),
  (0, 31, 0, 0, 0, 0, [], [], [])]
set_option maxRecDepth 100000 in
theorem sz_sd526_0 : sy_seg sz_E (pv_T (sz_own true) sz_T) sz_RU [sz_cd470] sz_cd526 sz_ud526 ri_m_X0_shutDown 49 none sz_hd526_0 = true := by decide +kernel
theorem sz_okd526 (xs : Nat → Value) (L : Nat) : sy_Cok (sz_env xs L) (pv_T (sz_own true) sz_T) sz_RU sz_cd526 := sy_chk_ok (CT := [sz_cd470]) (CU := sz_ud526) (M := ri_m_X0_shutDown) (List.forall_mem_cons.mpr ⟨sz_okd470 xs L, fun _ h => absurd h List.not_mem_nil⟩) rfl rfl ⟨_, _, sz_sd526_0⟩ (fun _ h => absurd h List.not_mem_nil)

/-! X0_shutDown  -/
set_option maxRecDepth 100000 in
noncomputable def sz_cd527 : sy_Ct := (221, 3, 64, [(3, .inr 2, .inl 0), (0, .inl 3, .inl 0), (0, .inl 1, .inl 0)], ([], []), [], [], [(6, 2, 2), (7, 0, 239), (46, 5, 5), (46, 12, 13), (46, 16, 16), (57, 0, 4)], [(.inl none, 0, 0, ([], []), [], [])])
set_option maxRecDepth 100000 in
noncomputable def sz_ud527 : List sy_Cut := []
set_option maxRecDepth 100000 in
noncomputable def sz_hd527_0 : List sy_Hn := [(36, 4, 49, 0, 0, 0, [], [], []),
  (0, 4, 49, 1, 0, 0, [], [], []),
  (0, 4, 56, 2, 0, 0, [], [], []),
  (0, 4, 56, 0, 0, 0, [], [], []),
  (0, 6, 487, 0, 0, 0, [([], [(1, [0])]), ([], [(1, [0])])], [], [0, 0]),
  (0, 4, 56, 5, 0, 0, [], [], []),
  (0, 4, 56, 6, 0, 0, [], [], []),
  (0, 6, 488, 0, 0, 0, [([], [(1, [0])]), ([], [(1, [0])])], [], [0, 0]),
  (1, 20, 0, 0, 0, 0, [], [], []),
  (0, 31, 0, 0, 0, 0, [], [], []),
  (4, 1, 0, 0, 0, 0, [], [], []),
  (33, 4, 49, 0, 0, 0, [], [], []),
  (0, 4, 49, 1, 0, 0, [], [], []),
  (0, 4, 56, 2, 0, 0, [], [], []),
  (0, 4, 56, 0, 0, 0, [], [], []),
  (0, 6, 487, 0, 0, 0, [([], [(1, [0])]), ([], [(1, [0])])], [], [0, 0]),
  (0, 4, 56, 5, 0, 0, [], [], []),
  (0, 4, 56, 6, 0, 0, [], [], []),
  (0, 6, 488, 0, 0, 0, [([], [(1, [0])]), ([], [(1, [0])])], [], [0, 0]),
  (1, 20, 0, 0, 0, 0, [], [], []),
  (0, 31, 0, 0, 0, 0, [], [], []),
  (25, 4, 49, 0, 0, 0, [], [], []),
  (0, 4, 49, 1, 0, 0, [], [], []),
  (0, 4, 56, 2, 0, 0, [], [], []),
  (0, 4, 56, 0, 0, 0, [], [], []),
  (0, 6, 487, 0, 0, 0, [([], [(1, [0])]), ([], [(1, [0])])], [], [0, 0]),
  (0, 4, 56, 5, 0, 0, [], [], []),
  (0, 4, 56, 6, 0, 0, [], [], []),
  (0, 6, 488, 0, 0, 0, [([], [(1, [0])]), ([], [(1, [0])])], [], [0, 0]),
  (1, 20, 0, 0, 0, 0, [], [], []),
  (0, 31, 0, 0, 0, 0, [], [], []),
  (0, 1, 0, 0, 1, 0, [], [], []),
  (33, 4, 49, 0, 0, 0, [], [], []),
  (0, 4, 49, 1, 0, 0, [], [], []),
  (0, 4, 56, 2, 0, 0, [], [], []),
  (0, 4, 56, 0, 0, 0, [], [], []),
  (0, 6, 487, 0, 0, 0, [([], [(1, [0])]), ([], [(1, [0])])], [], [0, 0]),
  (0, 4, 56, 5, 0, 0, [], [], []),
  (0, 4, 56, 6, 0, 0, [], [], []),
  (0, 6, 488, 0, 0, 0, [([], [(1, [0])]), ([], [(1, [0])])], [], [0, 0]),
  (1, 20, 0, 0, 0, 0, [], [], []),
  (0, 31, 0, 0, 0, 0, [], [], []),
  (25, 4, 49, 0, 0, 0, [], [], []),
  (0, 4, 49, 1, 0, 0, [], [], []),
  (0, 4, 56, 2, 0, 0, [], [], []),
  (0, 4, 56, 0, 0, 0, [], [], []),
  (0, 6, 487, 0, 0, 0, [([], [(1, [0])]), ([], [(1, [0])])], [], [0, 0]),
  (0, 4, 56, 5, 0, 0, [], [], []),
  (0, 4, 56, 6, 0, 0, [], [], []),
  (0, 6, 488, 0, 0, 0, [([], [(1, [0])]), ([], [(1, [0])])], [], [0, 0]),
  (1, 20, 0, 0, 0, 0, [], [], []),
  (0, 31, 0, 0, 0, 0, [], [], []),
  (0, 1, 0, 0, 2, 0, [], [], []),
  (33, 4, 49, 0, 0, 0, [], [], []),
  (0, 4, 49, 1, 0, 0, [], [], []),
  (0, 4, 56, 2, 0, 0, [], [], []),
  (0, 4, 56, 0, 0, 0, [], [], []),
  (0, 6, 487, 0, 0, 0, [([], [(1, [0])]), ([], [(1, [0])])], [], [0, 0]),
  (0, 4, 56, 5, 0, 0, [], [], []),
  (0, 4, 56, 6, 0, 0, [], [], []),
  (0, 6, 488, 0, 0, 0, [([], [(1, [0])]), ([], [(1, [0])])], [], [0, 0]),
  (1, 20, 0, 0, 0, 0, [], [], []),
  (0, 31, 0, 0, 0, 0, [], [], []),
  (25, 4, 49, 0, 0, 0, [], [], []),
  (0, 4, 49, 1, 0, 0, [], [], []),
  (0, 4, 56, 2, 0, 0, [], [], []),
  (0, 4, 56, 0, 0, 0, [], [], []),
  (0, 6, 487, 0, 0, 0, [([], [(1, [0])]), ([], [(1, [0])])], [], [0, 0]),
  (0, 4, 56, 5, 0, 0, [], [], []),
  (0, 4, 56, 6, 0, 0, [], [], []),
  (0, 6, 488, 0, 0, 0, [([], [(1, [0])]), ([], [(1, [0])])], [], [0, 0]),
  (1, 20, 0, 0, 0, 0, [], [], []),
  (0, 31, 0, 0, 0, 0, [], [], []),
  (34, 4, 49, 0, 0, 0, [], [], []),
  (0, 4, 49, 1, 0, 0, [], [], []),
  (0, 4, 56, 2, 0, 0, [], [], []),
  (0, 4, 56, 0, 0, 0, [], [], []),
  (0, 6, 487, 0, 0, 0, [([], [(1, [0])]), ([], [(1, [0])])], [], [0, 0]),
  (0, 4, 56, 5, 0, 0, [], [], []),
  (0, 4, 56, 6, 0, 0, [], [], []),
  (0, 6, 488, 0, 0, 0, [([], [(1, [0])]), ([], [(1, [0])])], [], [0, 0]),
  (1, 20, 0, 0, 0, 0, [], [], []),
  (0, 31, 0, 0, 0, 0, [], [], [])]
set_option maxRecDepth 100000 in
theorem sz_sd527_0 : sy_seg sz_E (pv_T (sz_own true) sz_T) sz_RU [sz_cd470] sz_cd527 sz_ud527 ri_m_X0_shutDown 355 none sz_hd527_0 = true := by decide +kernel
theorem sz_okd527 (xs : Nat → Value) (L : Nat) : sy_Cok (sz_env xs L) (pv_T (sz_own true) sz_T) sz_RU sz_cd527 := sy_chk_ok (CT := [sz_cd470]) (CU := sz_ud527) (M := ri_m_X0_shutDown) (List.forall_mem_cons.mpr ⟨sz_okd470 xs L, fun _ h => absurd h List.not_mem_nil⟩) rfl rfl ⟨_, _, sz_sd527_0⟩ (fun _ h => absurd h List.not_mem_nil)

/-! X0_shutDown  -/
set_option maxRecDepth 100000 in
noncomputable def sz_cd528 : sy_Ct := (221, 3, 64, [(3, .inr 2, .inl 0), (0, .inl 3, .inl 0), (0, .inl 0, .inl 0)], ([], []), [], [], [(6, 2, 2), (7, 0, 239), (46, 5, 5), (46, 12, 13), (46, 16, 16), (57, 0, 0)], [(.inl none, 0, 0, ([], []), [], [])])
set_option maxRecDepth 100000 in
noncomputable def sz_ud528 : List sy_Cut := []
set_option maxRecDepth 100000 in
noncomputable def sz_hd528_0 : List sy_Hn := [(32, 4, 49, 0, 0, 0, [], [], []),
  (0, 4, 49, 1, 0, 0, [], [], []),
  (0, 4, 56, 2, 0, 0, [], [], []),
  (0, 4, 56, 0, 0, 0, [], [], []),
  (0, 6, 487, 0, 0, 0, [([], [(1, [0])]), ([], [(1, [0])])], [], [0, 0]),
  (0, 4, 56, 5, 0, 0, [], [], []),
  (0, 4, 56, 6, 0, 0, [], [], []),
  (0, 6, 488, 0, 0, 0, [([], [(1, [0])]), ([], [(1, [0])])], [], [0, 0]),
  (1, 20, 0, 0, 0, 0, [], [], []),
  (0, 31, 0, 0, 0, 0, [], [], [])]
set_option maxRecDepth 100000 in
theorem sz_sd528_0 : sy_seg sz_E (pv_T (sz_own true) sz_T) sz_RU [sz_cd470] sz_cd528 sz_ud528 ri_m_X0_shutDown 49 none sz_hd528_0 = true := by decide +kernel
theorem sz_okd528 (xs : Nat → Value) (L : Nat) : sy_Cok (sz_env xs L) (pv_T (sz_own true) sz_T) sz_RU sz_cd528 := sy_chk_ok (CT := [sz_cd470]) (CU := sz_ud528) (M := ri_m_X0_shutDown) (List.forall_mem_cons.mpr ⟨sz_okd470 xs L, fun _ h => absurd h List.not_mem_nil⟩) rfl rfl ⟨_, _, sz_sd528_0⟩ (fun _ h => absurd h List.not_mem_nil)

/-! X1_setFor  -/
set_option maxRecDepth 100000 in
noncomputable def sz_cd529 : sy_Ct := (304, 0, 0, [(3, .inr 51, .inl 0), (0, .inr 0, .inl 0), (0, .inr 1, .inl 0)], ([(0, 2), ((-2147483648), 2147483647)], []), [], [], [], [(.inl (some (0, .inr 2, .inl 0)), 0, 0, ([(0, 2), (0, 2), ((-2147483648), 2147483647)], []), [], [])])
set_option maxRecDepth 100000 in
noncomputable def sz_ud529 : List sy_Cut := [(4, [(0, (3, .inr 51, .inl 0)), (1, (0, .inr 0, .inl 0)), (2, (0, .inr 1, .inl 0)), (3, (0, .inr 2, .inl 0)), (4, (0, .inr 3, .inl 0))], ([(1, 3), (0, 2), (0, 2), ((-2147483648), 2147483647)], []), [], [], [(3, []), ((-1), [3])])]
set_option maxRecDepth 100000 in
noncomputable def sz_hd529_0 : List sy_Hn := [(0, 30, 0, 0, 0, 0, [([], [(1, [0])]), ([], [])], [], [])]
set_option maxRecDepth 100000 in
theorem sz_sd529_0 : sy_seg sz_E (pv_T (sz_own true) sz_T) sz_RU [] sz_cd529 sz_ud529 ri_m_X1_setFor 11 none sz_hd529_0 = true := by decide +kernel
set_option maxRecDepth 100000 in
noncomputable def sz_hd529_1 : List sy_Hn := [(0, 31, 0, 0, 0, 0, [], [], []),
  (0, 31, 0, 0, 0, 0, [], [], []),
  (0, 31, 0, 0, 0, 0, [], [], []),
  (0, 31, 0, 0, 0, 0, [], [], []),
  (0, 30, 0, 0, 0, 0, [([6], [(1, [0]), (1, [2])]), ([], [(1, [0]), (1, [1])])], [], []),
  (0, 30, 0, 0, 0, 0, [([6], [(1, [0]), (1, [2])]), ([], [(1, [0]), (1, [1])])], [], [])]
set_option maxRecDepth 100000 in
theorem sz_sd529_1 : sy_seg sz_E (pv_T (sz_own true) sz_T) sz_RU [] sz_cd529 sz_ud529 ri_m_X1_setFor 72 (some ((4, [(0, (3, .inr 51, .inl 0)), (1, (0, .inr 0, .inl 0)), (2, (0, .inr 1, .inl 0)), (3, (0, .inr 2, .inl 0)), (4, (0, .inr 3, .inl 0))], ([(1, 3), (0, 2), (0, 2), ((-2147483648), 2147483647)], []), [], [], [(3, []), ((-1), [3])]))) sz_hd529_1 = true := by decide +kernel
theorem sz_okd529 (xs : Nat → Value) (L : Nat) : sy_Cok (sz_env xs L) (pv_T (sz_own true) sz_T) sz_RU sz_cd529 := sy_chk_ok (CT := []) (CU := sz_ud529) (M := ri_m_X1_setFor) (fun _ h => absurd h List.not_mem_nil) rfl rfl ⟨_, _, sz_sd529_0⟩ (List.forall_mem_cons.mpr ⟨⟨_, _, sz_sd529_1⟩, fun _ h => absurd h List.not_mem_nil⟩)

/-! X2_keepI  -/
set_option maxRecDepth 100000 in
noncomputable def sz_cd530 : sy_Ct := (235, 1, 25, [(3, .inr 46, .inl 0), (1, .inr 0, .inl 0)], ([((-9223372036854775808), 9223372036854775807)], []), [], [], [(46, 8, 8)], [(.inl none, 0, 0, ([((-9223372036854775808), 9223372036854775807)], []), [], [])])
set_option maxRecDepth 100000 in
noncomputable def sz_ud530 : List sy_Cut := []
set_option maxRecDepth 100000 in
noncomputable def sz_hd530_0 : List sy_Hn := [(0, 31, 0, 0, 0, 0, [], [], []),
  (0, 31, 0, 0, 0, 0, [], [], []),
  (0, 31, 0, 0, 0, 0, [], [], [])]
set_option maxRecDepth 100000 in
theorem sz_sd530_0 : sy_seg sz_E (pv_T (sz_own true) sz_T) sz_RU [] sz_cd530 sz_ud530 ri_m_X2_keepI 35 none sz_hd530_0 = true := by decide +kernel
theorem sz_okd530 (xs : Nat → Value) (L : Nat) : sy_Cok (sz_env xs L) (pv_T (sz_own true) sz_T) sz_RU sz_cd530 := sy_chk_ok (CT := []) (CU := sz_ud530) (M := ri_m_X2_keepI) (fun _ h => absurd h List.not_mem_nil) rfl rfl ⟨_, _, sz_sd530_0⟩ (fun _ h => absurd h List.not_mem_nil)

/-! X2_chooseSet  -/
set_option maxRecDepth 100000 in
noncomputable def sz_cd531 : sy_Ct := (276, 2, 47, [(3, .inr 46, .inl 0)], ([], []), [], [], [(46, 8, 8), (46, 11, 11)], [(.inl (some (0, .inr 0, .inl 0)), 0, 0, ([(0, 1)], []), [], [])])
set_option maxRecDepth 100000 in
noncomputable def sz_ud531 : List sy_Cut := []
set_option maxRecDepth 100000 in
noncomputable def sz_hd531_0 : List sy_Hn := [(13, 20, 0, 0, 0, 0, [], [], []),
  (98, 20, 1, 0, 0, 0, [], [], []),
  (0, 31, 0, 0, 0, 0, [], [], []),
  (93, 20, 1, 0, 0, 0, [], [], []),
  (0, 31, 0, 0, 0, 0, [], [], []),
  (0, 31, 0, 0, 0, 0, [], [], [])]
set_option maxRecDepth 100000 in
theorem sz_sd531_0 : sy_seg sz_E (pv_T (sz_own true) sz_T) sz_RU [sz_cd529, sz_cd530] sz_cd531 sz_ud531 ri_m_X2_chooseSet 227 none sz_hd531_0 = true := by decide +kernel
theorem sz_okd531 (xs : Nat → Value) (L : Nat) : sy_Cok (sz_env xs L) (pv_T (sz_own true) sz_T) sz_RU sz_cd531 := sy_chk_ok (CT := [sz_cd529, sz_cd530]) (CU := sz_ud531) (M := ri_m_X2_chooseSet) (List.forall_mem_cons.mpr ⟨sz_okd529 xs L, List.forall_mem_cons.mpr ⟨sz_okd530 xs L, fun _ h => absurd h List.not_mem_nil⟩⟩) rfl rfl ⟨_, _, sz_sd531_0⟩ (fun _ h => absurd h List.not_mem_nil)

/-! X2_filterRate  -/
set_option maxRecDepth 100000 in
noncomputable def sz_cd532 : sy_Ct := (277, 1, 20, [(3, .inr 46, .inl 0)], ([], []), [], [], [(46, 9, 10)], [(.inl none, 0, 0, ([], []), [], [])])
set_option maxRecDepth 100000 in
noncomputable def sz_ud532 : List sy_Cut := []
set_option maxRecDepth 100000 in
noncomputable def sz_hd532_0 : List sy_Hn := [(0, 31, 0, 0, 0, 0, [], [], [])]
set_option maxRecDepth 100000 in
theorem sz_sd532_0 : sy_seg sz_E (pv_T (sz_own true) sz_T) sz_RU [] sz_cd532 sz_ud532 ri_m_X2_filterRate 47 none sz_hd532_0 = true := by decide +kernel
theorem sz_okd532 (xs : Nat → Value) (L : Nat) : sy_Cok (sz_env xs L) (pv_T (sz_own true) sz_T) sz_RU sz_cd532 := sy_chk_ok (CT := []) (CU := sz_ud532) (M := ri_m_X2_filterRate) (fun _ h => absurd h List.not_mem_nil) rfl rfl ⟨_, _, sz_sd532_0⟩ (fun _ h => absurd h List.not_mem_nil)

/-! X0_takeSp  -/
set_option maxRecDepth 100000 in
noncomputable def sz_cd533 : sy_Ct := (232, 0, 0, [(3, .inr 2, .inl 0), (3, .inr 46, .inl 0)], ([], []), [], [], [(46, 6, 6)], [(.inl none, 0, 0, ([], []), [], [])])
set_option maxRecDepth 100000 in
noncomputable def sz_ud533 : List sy_Cut := []
set_option maxRecDepth 100000 in
noncomputable def sz_hd533_0 : List sy_Hn := [(0, 31, 0, 0, 0, 0, [], [], []),
  (5, 1, 0, 0, 0, 0, [], [], []),
  (0, 31, 0, 0, 0, 0, [], [], []),
  (0, 1, 0, 0, 1, 0, [], [], []),
  (0, 31, 0, 0, 0, 0, [], [], []),
  (0, 1, 0, 0, 2, 0, [], [], []),
  (0, 31, 0, 0, 0, 0, [], [], []),
  (0, 31, 0, 0, 0, 0, [], [], [])]
set_option maxRecDepth 100000 in
theorem sz_sd533_0 : sy_seg sz_E (pv_T (sz_own true) sz_T) sz_RU [] sz_cd533 sz_ud533 ri_m_X0_takeSp 42 none sz_hd533_0 = true := by decide +kernel
theorem sz_okd533 (xs : Nat → Value) (L : Nat) : sy_Cok (sz_env xs L) (pv_T (sz_own true) sz_T) sz_RU sz_cd533 := sy_chk_ok (CT := []) (CU := sz_ud533) (M := ri_m_X0_takeSp) (fun _ h => absurd h List.not_mem_nil) rfl rfl ⟨_, _, sz_sd533_0⟩ (fun _ h => absurd h List.not_mem_nil)

/-! X0_measure  -/
set_option maxRecDepth 100000 in
noncomputable def sz_cd534 : sy_Ct := (222, 3, 68, [(3, .inr 2, .inl 0), (0, .inl 3, .inl 0)], ([], []), [], [], [(6, 2, 2), (7, 0, 239), (46, 6, 6), (46, 8, 11)], [(.inl none, 0, 0, ([], []), [], [])])
set_option maxRecDepth 100000 in
noncomputable def sz_ud534 : List sy_Cut := []
set_option maxRecDepth 100000 in
noncomputable def sz_hd534_0 : List sy_Hn := [(11, 20, 1, 0, 0, 0, [], [], []),
  (3, 20, 2, 0, 0, 0, [], [], []),
  (0, 31, 0, 0, 0, 0, [], [], []),
  (9, 20, 0, 0, 0, 0, [], [], []),
  (2, 20, 2, 0, 0, 0, [], [], []),
  (0, 31, 0, 0, 0, 0, [], [], []),
  (2, 20, 1, 0, 0, 0, [], [], []),
  (3, 20, 2, 0, 0, 0, [], [], []),
  (0, 31, 0, 0, 0, 0, [], [], []),
  (9, 20, 0, 0, 0, 0, [], [], []),
  (2, 20, 2, 0, 0, 0, [], [], []),
  (0, 31, 0, 0, 0, 0, [], [], []),
  (3, 20, 3, 0, 0, 0, [], [], []),
  (2, 20, 1, 0, 0, 0, [], [], []),
  (3, 20, 2, 0, 0, 0, [], [], []),
  (0, 31, 0, 0, 0, 0, [], [], []),
  (9, 20, 0, 0, 0, 0, [], [], []),
  (2, 20, 2, 0, 0, 0, [], [], []),
  (0, 31, 0, 0, 0, 0, [], [], [])]
set_option maxRecDepth 100000 in
theorem sz_sd534_0 : sy_seg sz_E (pv_T (sz_own true) sz_T) sz_RU [sz_cd470, sz_cd531, sz_cd532, sz_cd533] sz_cd534 sz_ud534 ri_m_X0_measure 90 none sz_hd534_0 = true := by decide +kernel
theorem sz_okd534 (xs : Nat → Value) (L : Nat) : sy_Cok (sz_env xs L) (pv_T (sz_own true) sz_T) sz_RU sz_cd534 := sy_chk_ok (CT := [sz_cd470, sz_cd531, sz_cd532, sz_cd533]) (CU := sz_ud534) (M := ri_m_X0_measure) (List.forall_mem_cons.mpr ⟨sz_okd470 xs L, List.forall_mem_cons.mpr ⟨sz_okd531 xs L, List.forall_mem_cons.mpr ⟨sz_okd532 xs L, List.forall_mem_cons.mpr ⟨sz_okd533 xs L, fun _ h => absurd h List.not_mem_nil⟩⟩⟩⟩) rfl rfl ⟨_, _, sz_sd534_0⟩ (fun _ h => absurd h List.not_mem_nil)

/-! X0_leads  -/
set_option maxRecDepth 100000 in
noncomputable def sz_cd535 : sy_Ct := (287, 0, 0, [(3, .inr 2, .inl 0), (0, .inl 3, .inl 0)], ([], []), [], [], [], [(.inl (some (0, .inl 0, .inl 0)), 0, 0, ([], []), [], [])])
set_option maxRecDepth 100000 in
noncomputable def sz_ud535 : List sy_Cut := [(4, [(0, (3, .inr 2, .inl 0)), (1, (0, .inl 3, .inl 0)), (2, (0, .inr 0, .inl 0))], ([(4, 4)], []), [], [], [(4, []), ((-1), [0])])]
set_option maxRecDepth 100000 in
noncomputable def sz_hd535_0 : List sy_Hn := [(0, 30, 0, 0, 0, 0, [([], [(1, [0])]), ([], [])], [], [])]
set_option maxRecDepth 100000 in
theorem sz_sd535_0 : sy_seg sz_E (pv_T (sz_own true) sz_T) sz_RU [] sz_cd535 sz_ud535 ri_m_X0_leads 11 none sz_hd535_0 = true := by decide +kernel
set_option maxRecDepth 100000 in
noncomputable def sz_hd535_1 : List sy_Hn := [(0, 31, 0, 0, 0, 0, [], [], [])]
set_option maxRecDepth 100000 in
theorem sz_sd535_1 : sy_seg sz_E (pv_T (sz_own true) sz_T) sz_RU [] sz_cd535 sz_ud535 ri_m_X0_leads 12 (some ((4, [(0, (3, .inr 2, .inl 0)), (1, (0, .inl 3, .inl 0)), (2, (0, .inr 0, .inl 0))], ([(4, 4)], []), [], [], [(4, []), ((-1), [0])]))) sz_hd535_1 = true := by decide +kernel
theorem sz_okd535 (xs : Nat → Value) (L : Nat) : sy_Cok (sz_env xs L) (pv_T (sz_own true) sz_T) sz_RU sz_cd535 := sy_chk_ok (CT := []) (CU := sz_ud535) (M := ri_m_X0_leads) (fun _ h => absurd h List.not_mem_nil) rfl rfl ⟨_, _, sz_sd535_0⟩ (List.forall_mem_cons.mpr ⟨⟨_, _, sz_sd535_1⟩, fun _ h => absurd h List.not_mem_nil⟩)

/-! X0_followedOf  -/
set_option maxRecDepth 100000 in
noncomputable def sz_cd536 : sy_Ct := (252, 1, 22, [(3, .inr 2, .inl 0), (0, .inl 3, .inl 0)], ([], []), [], [], [], [(.inl (some (0, .inl (-1), .inl 0)), 0, 0, ([], []), [], [])])
set_option maxRecDepth 100000 in
noncomputable def sz_ud536 : List sy_Cut := []
set_option maxRecDepth 100000 in
noncomputable def sz_hd536_0 : List sy_Hn := [(12, 20, 1, 0, 0, 0, [], [], []),
  (4, 20, 0, 0, 0, 0, [], [], []),
  (0, 31, 0, 0, 0, 0, [], [], []),
  (0, 31, 0, 0, 0, 0, [], [], []),
  (0, 31, 0, 0, 0, 0, [], [], []),
  (3, 20, 1, 0, 0, 0, [], [], []),
  (4, 20, 0, 0, 0, 0, [], [], []),
  (0, 31, 0, 0, 0, 0, [], [], [])]
set_option maxRecDepth 100000 in
theorem sz_sd536_0 : sy_seg sz_E (pv_T (sz_own true) sz_T) sz_RU [sz_cd511, sz_cd535] sz_cd536 sz_ud536 ri_m_X0_followedOf 50 none sz_hd536_0 = true := by decide +kernel
theorem sz_okd536 (xs : Nat → Value) (L : Nat) : sy_Cok (sz_env xs L) (pv_T (sz_own true) sz_T) sz_RU sz_cd536 := sy_chk_ok (CT := [sz_cd511, sz_cd535]) (CU := sz_ud536) (M := ri_m_X0_followedOf) (List.forall_mem_cons.mpr ⟨sz_okd511 xs L, List.forall_mem_cons.mpr ⟨sz_okd535 xs L, fun _ h => absurd h List.not_mem_nil⟩⟩) rfl rfl ⟨_, _, sz_sd536_0⟩ (fun _ h => absurd h List.not_mem_nil)

/-! X0_heldAt  -/
set_option maxRecDepth 100000 in
noncomputable def sz_cd537 : sy_Ct := (305, 0, 0, [(3, .inr 2, .inl 0), (0, .inl 3, .inl 0), (0, .inl (-1), .inl 0)], ([], []), [], [], [], [(.inl (some (0, .inl 0, .inl 0)), 0, 0, ([], []), [], [])])
set_option maxRecDepth 100000 in
noncomputable def sz_ud537 : List sy_Cut := [(4, [(0, (3, .inr 2, .inl 0)), (1, (0, .inl 3, .inl 0)), (2, (0, .inl (-1), .inl 0)), (3, (0, .inr 0, .inl 0))], ([(4, 4)], []), [], [], [(4, []), ((-1), [0])])]
set_option maxRecDepth 100000 in
noncomputable def sz_hd537_0 : List sy_Hn := [(0, 30, 0, 0, 0, 0, [([], [(1, [0])]), ([], [])], [], [])]
set_option maxRecDepth 100000 in
theorem sz_sd537_0 : sy_seg sz_E (pv_T (sz_own true) sz_T) sz_RU [] sz_cd537 sz_ud537 ri_m_X0_heldAt 11 none sz_hd537_0 = true := by decide +kernel
set_option maxRecDepth 100000 in
noncomputable def sz_hd537_1 : List sy_Hn := [(0, 31, 0, 0, 0, 0, [], [], [])]
set_option maxRecDepth 100000 in
theorem sz_sd537_1 : sy_seg sz_E (pv_T (sz_own true) sz_T) sz_RU [] sz_cd537 sz_ud537 ri_m_X0_heldAt 12 (some ((4, [(0, (3, .inr 2, .inl 0)), (1, (0, .inl 3, .inl 0)), (2, (0, .inl (-1), .inl 0)), (3, (0, .inr 0, .inl 0))], ([(4, 4)], []), [], [], [(4, []), ((-1), [0])]))) sz_hd537_1 = true := by decide +kernel
theorem sz_okd537 (xs : Nat → Value) (L : Nat) : sy_Cok (sz_env xs L) (pv_T (sz_own true) sz_T) sz_RU sz_cd537 := sy_chk_ok (CT := []) (CU := sz_ud537) (M := ri_m_X0_heldAt) (fun _ h => absurd h List.not_mem_nil) rfl rfl ⟨_, _, sz_sd537_0⟩ (List.forall_mem_cons.mpr ⟨⟨_, _, sz_sd537_1⟩, fun _ h => absurd h List.not_mem_nil⟩)

/-! X0_heldAt  -/
set_option maxRecDepth 100000 in
noncomputable def sz_cd538 : sy_Ct := (305, 0, 0, [(3, .inr 2, .inl 0), (0, .inl 3, .inl 0), (0, .inl 1, .inl 0)], ([], []), [], [], [], [(.inl (some (0, .inl 0, .inl 0)), 0, 0, ([], []), [], [])])
set_option maxRecDepth 100000 in
noncomputable def sz_ud538 : List sy_Cut := [(4, [(0, (3, .inr 2, .inl 0)), (1, (0, .inl 3, .inl 0)), (2, (0, .inl 1, .inl 0)), (3, (0, .inr 0, .inl 0))], ([(4, 4)], []), [], [], [(4, []), ((-1), [0])])]
set_option maxRecDepth 100000 in
noncomputable def sz_hd538_0 : List sy_Hn := [(0, 30, 0, 0, 0, 0, [([], [(1, [0])]), ([], [])], [], [])]
set_option maxRecDepth 100000 in
theorem sz_sd538_0 : sy_seg sz_E (pv_T (sz_own true) sz_T) sz_RU [] sz_cd538 sz_ud538 ri_m_X0_heldAt 11 none sz_hd538_0 = true := by decide +kernel
set_option maxRecDepth 100000 in
noncomputable def sz_hd538_1 : List sy_Hn := [(0, 31, 0, 0, 0, 0, [], [], [])]
set_option maxRecDepth 100000 in
theorem sz_sd538_1 : sy_seg sz_E (pv_T (sz_own true) sz_T) sz_RU [] sz_cd538 sz_ud538 ri_m_X0_heldAt 12 (some ((4, [(0, (3, .inr 2, .inl 0)), (1, (0, .inl 3, .inl 0)), (2, (0, .inl 1, .inl 0)), (3, (0, .inr 0, .inl 0))], ([(4, 4)], []), [], [], [(4, []), ((-1), [0])]))) sz_hd538_1 = true := by decide +kernel
theorem sz_okd538 (xs : Nat → Value) (L : Nat) : sy_Cok (sz_env xs L) (pv_T (sz_own true) sz_T) sz_RU sz_cd538 := sy_chk_ok (CT := []) (CU := sz_ud538) (M := ri_m_X0_heldAt) (fun _ h => absurd h List.not_mem_nil) rfl rfl ⟨_, _, sz_sd538_0⟩ (List.forall_mem_cons.mpr ⟨⟨_, _, sz_sd538_1⟩, fun _ h => absurd h List.not_mem_nil⟩)

/-! X0_rule  -/
set_option maxRecDepth 100000 in
noncomputable def sz_cd539 : sy_Ct := (278, 2, 47, [(3, .inr 2, .inl 0), (0, .inl 3, .inl 0)], ([], []), [], [], [(8, 3, 3), (46, 7, 8), (46, 12, 12)], [(.inl none, 0, 0, ([], []), [], [])])
set_option maxRecDepth 100000 in
noncomputable def sz_ud539 : List sy_Cut := [(29, [(0, (3, .inr 2, .inl 0)), (1, (0, .inl 3, .inl 0)), (2, (3, .inr 46, .inl 0)), (3, (1, .inr 0, .inl 0)), (5, (1, .inr 1, .inl 0))], ([((-140737488355328), 140737488355327), ((-9223372036854775808), 9223372036854775807)], []), [], [], [(3, [])]), (50, [(0, (3, .inr 2, .inl 0)), (1, (0, .inl 3, .inl 0)), (2, (3, .inr 46, .inl 0)), (3, (1, .inr 0, .inl 0)), (5, (1, .inr 1, .inl 0))], ([((-140737488355328), 140737488355327), ((-9223372036854775808), 9223372036854775807)], []), [], [], [(2, [])]), (79, [(0, (3, .inr 2, .inl 0)), (1, (0, .inl 3, .inl 0)), (2, (3, .inr 46, .inl 0)), (3, (1, .inr 0, .inl 0)), (5, (1, .inr 1, .inl 0)), (7, (1, .inr 2, .inl 0))], ([((-9223372036854775808), 9223372036854775807), ((-140737488355328), 140737488355327), ((-9223372036854775808), 9223372036854775807)], []), [], [], [(1, [])]), (100, [(0, (3, .inr 2, .inl 0)), (1, (0, .inl 3, .inl 0)), (2, (3, .inr 46, .inl 0)), (3, (1, .inr 0, .inl 0)), (5, (1, .inr 1, .inl 0)), (7, (1, .inr 2, .inl 0))], ([((-9223372036854775808), 9223372036854775807), ((-140737488355328), 140737488355327), ((-9223372036854775808), 9223372036854775807)], []), [], [], [(0, [])])]
set_option maxRecDepth 100000 in
noncomputable def sz_hd539_0 : List sy_Hn := [(95, 6, 486, 0, 0, 0, [([], [(1, [0]), (1, [2])]), ([], [(1, [0]), (1, [1])])], [], [1, 1]),
  (0, 30, 0, 0, 0, 0, [([], [(1, [0])]), ([], [])], [], []),
  (6, 5, 484, 0, 0, 0, [], [], []),
  (0, 6, 486, 0, 0, 0, [([], [(1, [0]), (1, [1])]), ([], [(1, [0]), (1, [1])])], [], [0, 0]),
  (0, 30, 0, 0, 0, 0, [([], [(1, [0])]), ([], [])], [], []),
  (0, 6, 486, 0, 0, 0, [([], [(1, [0]), (1, [1])]), ([], [(1, [0])])], [], [1, 1]),
  (0, 30, 0, 0, 0, 0, [([], [(1, [0])]), ([], [])], [], []),
  (6, 5, 484, 0, 0, 0, [], [], []),
  (0, 6, 486, 0, 0, 0, [([], [(1, [0]), (1, [1])]), ([], [(1, [0]), (1, [1])])], [], [0, 0]),
  (0, 30, 0, 0, 0, 0, [([], [(1, [0])]), ([], [])], [], []),
  (0, 6, 486, 0, 0, 0, [([], [(1, [0])]), ([], [(1, [0]), (1, [1])])], [], [1, 1]),
  (0, 30, 0, 0, 0, 0, [([], [(1, [0])]), ([], [])], [], []),
  (31, 6, 486, 0, 0, 0, [([], [(1, [0]), (1, [2])]), ([], [(1, [0]), (1, [1])])], [], [1, 1]),
  (0, 30, 0, 0, 0, 0, [([], [(1, [0])]), ([], [])], [], []),
  (6, 5, 484, 0, 0, 0, [], [], []),
  (0, 6, 486, 0, 0, 0, [([], [(1, [0]), (1, [1])]), ([], [(1, [0]), (1, [1])])], [], [0, 0]),
  (0, 30, 0, 0, 0, 0, [([], [(1, [0])]), ([], [])], [], []),
  (0, 6, 486, 0, 0, 0, [([], [(1, [0]), (1, [1])]), ([], [(1, [0])])], [], [1, 1]),
  (0, 30, 0, 0, 0, 0, [([], [(1, [0])]), ([], [])], [], []),
  (6, 5, 484, 0, 0, 0, [], [], []),
  (0, 6, 486, 0, 0, 0, [([], [(1, [0]), (1, [1])]), ([], [(1, [0]), (1, [1])])], [], [0, 0]),
  (0, 30, 0, 0, 0, 0, [([], [(1, [0])]), ([], [])], [], []),
  (0, 6, 486, 0, 0, 0, [([], [(1, [0])]), ([], [(1, [0]), (1, [1])])], [], [1, 1]),
  (0, 30, 0, 0, 0, 0, [([], [(1, [0])]), ([], [])], [], [])]
set_option maxRecDepth 100000 in
theorem sz_sd539_0 : sy_seg sz_E (pv_T (sz_own true) sz_T) sz_RU [sz_cd530, sz_cd537, sz_cd538] sz_cd539 sz_ud539 ri_m_X0_rule 193 none sz_hd539_0 = true := by decide +kernel
set_option maxRecDepth 100000 in
noncomputable def sz_hd539_1 : List sy_Hn := [(0, 30, 0, 0, 0, 0, [([], [(1, [0])]), ([], [(1, [0])])], [], []),
  (0, 30, 0, 0, 0, 0, [([], [(1, [0])]), ([], [(1, [0])])], [], []),
  (0, 30, 0, 0, 0, 0, [([], [(1, [0])]), ([], [(1, [0])])], [], [])]
set_option maxRecDepth 100000 in
theorem sz_sd539_1 : sy_seg sz_E (pv_T (sz_own true) sz_T) sz_RU [sz_cd530, sz_cd537, sz_cd538] sz_cd539 sz_ud539 ri_m_X0_rule 34 (some ((29, [(0, (3, .inr 2, .inl 0)), (1, (0, .inl 3, .inl 0)), (2, (3, .inr 46, .inl 0)), (3, (1, .inr 0, .inl 0)), (5, (1, .inr 1, .inl 0))], ([((-140737488355328), 140737488355327), ((-9223372036854775808), 9223372036854775807)], []), [], [], [(3, [])]))) sz_hd539_1 = true := by decide +kernel
set_option maxRecDepth 100000 in
noncomputable def sz_hd539_2 : List sy_Hn := [(0, 30, 0, 0, 0, 0, [([], [(1, [0])]), ([], [(1, [0])])], [], [])]
set_option maxRecDepth 100000 in
theorem sz_sd539_2 : sy_seg sz_E (pv_T (sz_own true) sz_T) sz_RU [sz_cd530, sz_cd537, sz_cd538] sz_cd539 sz_ud539 ri_m_X0_rule 41 (some ((50, [(0, (3, .inr 2, .inl 0)), (1, (0, .inl 3, .inl 0)), (2, (3, .inr 46, .inl 0)), (3, (1, .inr 0, .inl 0)), (5, (1, .inr 1, .inl 0))], ([((-140737488355328), 140737488355327), ((-9223372036854775808), 9223372036854775807)], []), [], [], [(2, [])]))) sz_hd539_2 = true := by decide +kernel
set_option maxRecDepth 100000 in
noncomputable def sz_hd539_3 : List sy_Hn := [(0, 30, 0, 0, 0, 0, [([], [(1, [0])]), ([], [(1, [0])])], [], []),
  (8, 20, 1, 0, 0, 0, [], [], []),
  (7, 20, 0, 0, 0, 0, [], [], []),
  (0, 30, 0, 0, 0, 0, [([], [(1, [0])]), ([], [(1, [0])])], [], []),
  (3, 20, 2, 0, 0, 0, [], [], []),
  (7, 20, 0, 0, 0, 0, [], [], []),
  (0, 30, 0, 0, 0, 0, [([], [(1, [0])]), ([], [(1, [0])])], [], [])]
set_option maxRecDepth 100000 in
theorem sz_sd539_3 : sy_seg sz_E (pv_T (sz_own true) sz_T) sz_RU [sz_cd530, sz_cd537, sz_cd538] sz_cd539 sz_ud539 ri_m_X0_rule 44 (some ((79, [(0, (3, .inr 2, .inl 0)), (1, (0, .inl 3, .inl 0)), (2, (3, .inr 46, .inl 0)), (3, (1, .inr 0, .inl 0)), (5, (1, .inr 1, .inl 0)), (7, (1, .inr 2, .inl 0))], ([((-9223372036854775808), 9223372036854775807), ((-140737488355328), 140737488355327), ((-9223372036854775808), 9223372036854775807)], []), [], [], [(1, [])]))) sz_hd539_3 = true := by decide +kernel
set_option maxRecDepth 100000 in
noncomputable def sz_hd539_4 : List sy_Hn := [(0, 31, 0, 0, 0, 0, [], [], [])]
set_option maxRecDepth 100000 in
theorem sz_sd539_4 : sy_seg sz_E (pv_T (sz_own true) sz_T) sz_RU [sz_cd530, sz_cd537, sz_cd538] sz_cd539 sz_ud539 ri_m_X0_rule 7 (some ((100, [(0, (3, .inr 2, .inl 0)), (1, (0, .inl 3, .inl 0)), (2, (3, .inr 46, .inl 0)), (3, (1, .inr 0, .inl 0)), (5, (1, .inr 1, .inl 0)), (7, (1, .inr 2, .inl 0))], ([((-9223372036854775808), 9223372036854775807), ((-140737488355328), 140737488355327), ((-9223372036854775808), 9223372036854775807)], []), [], [], [(0, [])]))) sz_hd539_4 = true := by decide +kernel
theorem sz_okd539 (xs : Nat → Value) (L : Nat) : sy_Cok (sz_env xs L) (pv_T (sz_own true) sz_T) sz_RU sz_cd539 := sy_chk_ok (CT := [sz_cd530, sz_cd537, sz_cd538]) (CU := sz_ud539) (M := ri_m_X0_rule) (List.forall_mem_cons.mpr ⟨sz_okd530 xs L, List.forall_mem_cons.mpr ⟨sz_okd537 xs L, List.forall_mem_cons.mpr ⟨sz_okd538 xs L, fun _ h => absurd h List.not_mem_nil⟩⟩⟩) rfl rfl ⟨_, _, sz_sd539_0⟩ (List.forall_mem_cons.mpr ⟨⟨_, _, sz_sd539_1⟩, List.forall_mem_cons.mpr ⟨⟨_, _, sz_sd539_2⟩, List.forall_mem_cons.mpr ⟨⟨_, _, sz_sd539_3⟩, List.forall_mem_cons.mpr ⟨⟨_, _, sz_sd539_4⟩, fun _ h => absurd h List.not_mem_nil⟩⟩⟩⟩)
