/-! ===== the survey: contracts 810 to 915 ===== -/
/-! X2_told [203, 0] -/
set_option maxRecDepth 100000 in
noncomputable def sz_c810 : sy_Ct := (284, 1, 22, [(3, .inr 203, .inl 0), (0, .inr 0, .inl 0)], ([(0, 24)], []), [], [], [], [(.inl (some (1, .inr 1, .inl 0)), 0, 0, ([((-9223372036854775808), 9223372036854775807), (0, 24)], []), [], [])])
set_option maxRecDepth 100000 in
noncomputable def sz_u810 : List sy_Cut := []
set_option maxRecDepth 100000 in
noncomputable def sz_h810_0 : List sy_Hn := [(0, 31, 0, 0, 0, 0, [], [], []),
  (0, 31, 0, 0, 0, 0, [], [], []),
  (0, 31, 0, 0, 0, 0, [], [], []),
  (0, 31, 0, 0, 0, 0, [], [], []),
  (0, 31, 0, 0, 0, 0, [], [], []),
  (0, 31, 0, 0, 0, 0, [], [], []),
  (0, 31, 0, 0, 0, 0, [], [], []),
  (0, 31, 0, 0, 0, 0, [], [], []),
  (0, 31, 0, 0, 0, 0, [], [], []),
  (0, 31, 0, 0, 0, 0, [], [], []),
  (0, 31, 0, 0, 0, 0, [], [], []),
  (0, 31, 0, 0, 0, 0, [], [], []),
  (0, 31, 0, 0, 0, 0, [], [], []),
  (0, 31, 0, 0, 0, 0, [], [], []),
  (0, 31, 0, 0, 0, 0, [], [], []),
  (0, 31, 0, 0, 0, 0, [], [], []),
  (0, 31, 0, 0, 0, 0, [], [], []),
  (0, 31, 0, 0, 0, 0, [], [], []),
  (0, 31, 0, 0, 0, 0, [], [], []),
  (0, 31, 0, 0, 0, 0, [], [], []),
  (0, 31, 0, 0, 0, 0, [], [], []),
  (0, 31, 0, 0, 0, 0, [], [], [])]
set_option maxRecDepth 100000 in
theorem sz_s810_0 : sy_seg sz_E sz_T sz_RU [] sz_c810 sz_u810 ri_m_X2_told 203 none sz_h810_0 = true := by decide +kernel
theorem sz_ok810 (xs : Nat → Value) (L : Nat) : sy_Cok (sz_env xs L) sz_T sz_RU sz_c810 := sy_chk_ok (CT := []) (CU := sz_u810) (M := ri_m_X2_told) (fun _ h => absurd h List.not_mem_nil) rfl rfl ⟨_, _, sz_s810_0⟩ (fun _ h => absurd h List.not_mem_nil)

/-! X2_told [215, 0] -/
set_option maxRecDepth 100000 in
noncomputable def sz_c811 : sy_Ct := (284, 1, 22, [(3, .inr 215, .inl 0), (0, .inr 0, .inl 0)], ([(0, 24)], []), [], [], [], [(.inl (some (1, .inr 1, .inl 0)), 0, 0, ([((-9223372036854775808), 9223372036854775807), (0, 24)], []), [], [])])
set_option maxRecDepth 100000 in
noncomputable def sz_u811 : List sy_Cut := []
set_option maxRecDepth 100000 in
noncomputable def sz_h811_0 : List sy_Hn := [(0, 31, 0, 0, 0, 0, [], [], []),
  (0, 31, 0, 0, 0, 0, [], [], []),
  (0, 31, 0, 0, 0, 0, [], [], []),
  (0, 31, 0, 0, 0, 0, [], [], []),
  (0, 31, 0, 0, 0, 0, [], [], []),
  (0, 31, 0, 0, 0, 0, [], [], []),
  (0, 31, 0, 0, 0, 0, [], [], []),
  (0, 31, 0, 0, 0, 0, [], [], []),
  (0, 31, 0, 0, 0, 0, [], [], []),
  (0, 31, 0, 0, 0, 0, [], [], []),
  (0, 31, 0, 0, 0, 0, [], [], []),
  (0, 31, 0, 0, 0, 0, [], [], []),
  (0, 31, 0, 0, 0, 0, [], [], []),
  (0, 31, 0, 0, 0, 0, [], [], []),
  (0, 31, 0, 0, 0, 0, [], [], []),
  (0, 31, 0, 0, 0, 0, [], [], []),
  (0, 31, 0, 0, 0, 0, [], [], []),
  (0, 31, 0, 0, 0, 0, [], [], []),
  (0, 31, 0, 0, 0, 0, [], [], []),
  (0, 31, 0, 0, 0, 0, [], [], []),
  (0, 31, 0, 0, 0, 0, [], [], []),
  (0, 31, 0, 0, 0, 0, [], [], [])]
set_option maxRecDepth 100000 in
theorem sz_s811_0 : sy_seg sz_E sz_T sz_RU [] sz_c811 sz_u811 ri_m_X2_told 203 none sz_h811_0 = true := by decide +kernel
theorem sz_ok811 (xs : Nat → Value) (L : Nat) : sy_Cok (sz_env xs L) sz_T sz_RU sz_c811 := sy_chk_ok (CT := []) (CU := sz_u811) (M := ri_m_X2_told) (fun _ h => absurd h List.not_mem_nil) rfl rfl ⟨_, _, sz_s811_0⟩ (fun _ h => absurd h List.not_mem_nil)

/-! X6_keep [241, 171, 0] -/
set_option maxRecDepth 100000 in
noncomputable def sz_c812 : sy_Ct := (240, 2, 43, [(3, .inr 241, .inl 0), (3, .inr 171, .inl 0), (0, .inr 0, .inl 0)], ([(0, 9)], []), [], [], [(243, 0, 999)], [(.inl none, 0, 0, ([(0, 9)], []), [], [])])
set_option maxRecDepth 100000 in
noncomputable def sz_u812 : List sy_Cut := [(2, [(0, (3, .inr 241, .inl 0)), (1, (3, .inr 171, .inl 0)), (2, (0, .inr 0, .inl 0)), (3, (0, .inr 1, .inl 0))], ([(0, 4), (0, 9)], []), [], [], [(4000, []), ((-1000), [1]), (500, [])]), (16, [(0, (3, .inr 241, .inl 0)), (1, (3, .inr 171, .inl 0)), (2, (0, .inr 0, .inl 0)), (3, (0, .inr 1, .inl 0)), (4, (0, .inr 2, .inl 0)), (5, (0, .inr 3, .inl 0))], ([(0, 25), (0, 975), (0, 3), (0, 9)], []), [], [], [(4000, []), ((-1000), [1]), (25, []), ((-1), [3])])]
set_option maxRecDepth 100000 in
noncomputable def sz_h812_0 : List sy_Hn := [(0, 30, 0, 0, 0, 0, [([], [(1, [0])]), ([], [])], [], [])]
set_option maxRecDepth 100000 in
theorem sz_s812_0 : sy_seg sz_E sz_T sz_RU [sz_c808, sz_c809, sz_c810, sz_c811] sz_c812 sz_u812 ri_m_X6_keep 9 none sz_h812_0 = true := by decide +kernel
set_option maxRecDepth 100000 in
noncomputable def sz_h812_1 : List sy_Hn := [(0, 31, 0, 0, 0, 0, [], [], []),
  (0, 30, 0, 0, 0, 0, [([1], [(1, [0]), (1000, [2])]), ([], [(1, [0])])], [], [])]
set_option maxRecDepth 100000 in
theorem sz_s812_1 : sy_seg sz_E sz_T sz_RU [sz_c808, sz_c809, sz_c810, sz_c811] sz_c812 sz_u812 ri_m_X6_keep 23 (some ((2, [(0, (3, .inr 241, .inl 0)), (1, (3, .inr 171, .inl 0)), (2, (0, .inr 0, .inl 0)), (3, (0, .inr 1, .inl 0))], ([(0, 4), (0, 9)], []), [], [], [(4000, []), ((-1000), [1]), (500, [])]))) sz_h812_1 = true := by decide +kernel
set_option maxRecDepth 100000 in
noncomputable def sz_h812_2 : List sy_Hn := [(0, 30, 0, 0, 0, 0, [([4], [(1, [0]), (1000, [2])]), ([3], [(1, [0]), (1000, [3]), (1, [2])])], [], []),
  (8, 1, 1, 0, 0, 0, [], [], []),
  (3, 20, 0, 0, 0, 0, [], [], []),
  (0, 30, 0, 0, 0, 0, [([1, 6], [(1, [0]), (1000, [2]), (1, [4])]), ([], [(1, [0]), (1, [1])])], [], []),
  (0, 1, 1, 0, 1, 0, [], [], []),
  (3, 20, 1, 0, 0, 0, [], [], []),
  (0, 30, 0, 0, 0, 0, [([1, 6], [(1, [0]), (1000, [2]), (1, [4])]), ([], [(1, [0]), (1, [1])])], [], []),
  (0, 1, 1, 0, 2, 0, [], [], []),
  (3, 20, 2, 0, 0, 0, [], [], []),
  (0, 30, 0, 0, 0, 0, [([1, 6], [(1, [0]), (1000, [2]), (1, [4])]), ([], [(1, [0]), (1, [1])])], [], []),
  (3, 20, 3, 0, 0, 0, [], [], []),
  (0, 30, 0, 0, 0, 0, [([1, 6], [(1, [0]), (1000, [2]), (1, [4])]), ([], [(1, [0]), (1, [1])])], [], [])]
set_option maxRecDepth 100000 in
theorem sz_s812_2 : sy_seg sz_E sz_T sz_RU [sz_c808, sz_c809, sz_c810, sz_c811] sz_c812 sz_u812 ri_m_X6_keep 62 (some ((16, [(0, (3, .inr 241, .inl 0)), (1, (3, .inr 171, .inl 0)), (2, (0, .inr 0, .inl 0)), (3, (0, .inr 1, .inl 0)), (4, (0, .inr 2, .inl 0)), (5, (0, .inr 3, .inl 0))], ([(0, 25), (0, 975), (0, 3), (0, 9)], []), [], [], [(4000, []), ((-1000), [1]), (25, []), ((-1), [3])]))) sz_h812_2 = true := by decide +kernel
theorem sz_ok812 (xs : Nat → Value) (L : Nat) : sy_Cok (sz_env xs L) sz_T sz_RU sz_c812 := sy_chk_ok (CT := [sz_c808, sz_c809, sz_c810, sz_c811]) (CU := sz_u812) (M := ri_m_X6_keep) (List.forall_mem_cons.mpr ⟨sz_ok808 xs L, List.forall_mem_cons.mpr ⟨sz_ok809 xs L, List.forall_mem_cons.mpr ⟨sz_ok810 xs L, List.forall_mem_cons.mpr ⟨sz_ok811 xs L, fun _ h => absurd h List.not_mem_nil⟩⟩⟩⟩) rfl rfl ⟨_, _, sz_s812_0⟩ (List.forall_mem_cons.mpr ⟨⟨_, _, sz_s812_1⟩, List.forall_mem_cons.mpr ⟨⟨_, _, sz_s812_2⟩, fun _ h => absurd h List.not_mem_nil⟩⟩)

/-! X6_isKept [241, 171, 0] -/
set_option maxRecDepth 100000 in
noncomputable def sz_c813 : sy_Ct := (241, 2, 43, [(3, .inr 241, .inl 0), (3, .inr 171, .inl 0), (0, .inr 0, .inl 0)], ([(0, 9)], []), [], [], [], [(.inl (some (0, .inr 1, .inl 0)), 0, 0, ([(0, 1), (0, 9)], []), [], [])])
set_option maxRecDepth 100000 in
noncomputable def sz_u813 : List sy_Cut := [(2, [(0, (3, .inr 241, .inl 0)), (1, (3, .inr 171, .inl 0)), (2, (0, .inr 0, .inl 0)), (3, (0, .inr 1, .inl 0))], ([(0, 4), (0, 9)], []), [], [], [(4000, []), ((-1000), [1]), (500, [])]), (16, [(0, (3, .inr 241, .inl 0)), (1, (3, .inr 171, .inl 0)), (2, (0, .inr 0, .inl 0)), (3, (0, .inr 1, .inl 0)), (4, (0, .inr 2, .inl 0)), (5, (0, .inr 3, .inl 0))], ([(0, 25), (0, 975), (0, 3), (0, 9)], []), [], [], [(4000, []), ((-1000), [1]), (25, []), ((-1), [3])])]
set_option maxRecDepth 100000 in
noncomputable def sz_h813_0 : List sy_Hn := [(0, 30, 0, 0, 0, 0, [([], [(1, [0])]), ([], [])], [], [])]
set_option maxRecDepth 100000 in
theorem sz_s813_0 : sy_seg sz_E sz_T sz_RU [sz_c808, sz_c809, sz_c810, sz_c811] sz_c813 sz_u813 ri_m_X6_isKept 9 none sz_h813_0 = true := by decide +kernel
set_option maxRecDepth 100000 in
noncomputable def sz_h813_1 : List sy_Hn := [(0, 31, 0, 0, 0, 0, [], [], []),
  (0, 30, 0, 0, 0, 0, [([1], [(1, [0]), (1000, [2])]), ([], [(1, [0])])], [], [])]
set_option maxRecDepth 100000 in
theorem sz_s813_1 : sy_seg sz_E sz_T sz_RU [sz_c808, sz_c809, sz_c810, sz_c811] sz_c813 sz_u813 ri_m_X6_isKept 24 (some ((2, [(0, (3, .inr 241, .inl 0)), (1, (3, .inr 171, .inl 0)), (2, (0, .inr 0, .inl 0)), (3, (0, .inr 1, .inl 0))], ([(0, 4), (0, 9)], []), [], [], [(4000, []), ((-1000), [1]), (500, [])]))) sz_h813_1 = true := by decide +kernel
set_option maxRecDepth 100000 in
noncomputable def sz_h813_2 : List sy_Hn := [(0, 30, 0, 0, 0, 0, [([4], [(1, [0]), (1000, [2])]), ([3], [(1, [0]), (1000, [3]), (1, [2])])], [], []),
  (9, 1, 1, 0, 0, 0, [], [], []),
  (3, 20, 0, 0, 0, 0, [], [], []),
  (0, 30, 0, 0, 0, 0, [([1, 7], [(1, [0]), (1000, [2]), (1, [4])]), ([], [(1, [0]), (1, [1])])], [], []),
  (0, 31, 0, 0, 0, 0, [], [], []),
  (0, 1, 1, 0, 1, 0, [], [], []),
  (3, 20, 1, 0, 0, 0, [], [], []),
  (0, 30, 0, 0, 0, 0, [([1, 7], [(1, [0]), (1000, [2]), (1, [4])]), ([], [(1, [0]), (1, [1])])], [], []),
  (0, 31, 0, 0, 0, 0, [], [], []),
  (0, 1, 1, 0, 2, 0, [], [], []),
  (3, 20, 2, 0, 0, 0, [], [], []),
  (0, 30, 0, 0, 0, 0, [([1, 7], [(1, [0]), (1000, [2]), (1, [4])]), ([], [(1, [0]), (1, [1])])], [], []),
  (0, 31, 0, 0, 0, 0, [], [], []),
  (3, 20, 3, 0, 0, 0, [], [], []),
  (0, 30, 0, 0, 0, 0, [([1, 7], [(1, [0]), (1000, [2]), (1, [4])]), ([], [(1, [0]), (1, [1])])], [], []),
  (0, 31, 0, 0, 0, 0, [], [], [])]
set_option maxRecDepth 100000 in
theorem sz_s813_2 : sy_seg sz_E sz_T sz_RU [sz_c808, sz_c809, sz_c810, sz_c811] sz_c813 sz_u813 ri_m_X6_isKept 79 (some ((16, [(0, (3, .inr 241, .inl 0)), (1, (3, .inr 171, .inl 0)), (2, (0, .inr 0, .inl 0)), (3, (0, .inr 1, .inl 0)), (4, (0, .inr 2, .inl 0)), (5, (0, .inr 3, .inl 0))], ([(0, 25), (0, 975), (0, 3), (0, 9)], []), [], [], [(4000, []), ((-1000), [1]), (25, []), ((-1), [3])]))) sz_h813_2 = true := by decide +kernel
theorem sz_ok813 (xs : Nat → Value) (L : Nat) : sy_Cok (sz_env xs L) sz_T sz_RU sz_c813 := sy_chk_ok (CT := [sz_c808, sz_c809, sz_c810, sz_c811]) (CU := sz_u813) (M := ri_m_X6_isKept) (List.forall_mem_cons.mpr ⟨sz_ok808 xs L, List.forall_mem_cons.mpr ⟨sz_ok809 xs L, List.forall_mem_cons.mpr ⟨sz_ok810 xs L, List.forall_mem_cons.mpr ⟨sz_ok811 xs L, fun _ h => absurd h List.not_mem_nil⟩⟩⟩⟩) rfl rfl ⟨_, _, sz_s813_0⟩ (List.forall_mem_cons.mpr ⟨⟨_, _, sz_s813_1⟩, List.forall_mem_cons.mpr ⟨⟨_, _, sz_s813_2⟩, fun _ h => absurd h List.not_mem_nil⟩⟩)

/-! X6_lengthOf [241, 171] -/
set_option maxRecDepth 100000 in
noncomputable def sz_c814 : sy_Ct := (182, 5, 122, [(3, .inr 241, .inl 0), (3, .inr 171, .inl 0)], ([], []), [], [], [(171, 3, 3), (175, 2, 2), (176, 0, 240), (177, 0, 3), (178, 0, 3), (179, 5, 13), (179, 16, 18), (180, 5, 6), (181, 0, 9), (182, 3, 3), (189, 3, 8), (190, 0, 4), (191, 5, 13), (191, 16, 18), (192, 5, 6), (193, 0, 9), (194, 3, 3), (201, 3, 8), (202, 0, 4), (203, 5, 13), (203, 16, 18), (204, 5, 6), (205, 0, 9), (206, 3, 3), (213, 3, 8), (214, 0, 4), (215, 5, 13), (215, 16, 18), (216, 5, 6), (217, 0, 9), (218, 3, 3), (225, 3, 8), (226, 0, 4), (243, 0, 999)], [(.inl (some (0, .inr 0, .inl 0)), 0, 0, ([((-1), 400)], []), [], [])])
set_option maxRecDepth 100000 in
noncomputable def sz_u814 : List sy_Cut := [(10, [(0, (3, .inr 241, .inl 0)), (1, (3, .inr 171, .inl 0)), (2, (0, .inr 0, .inl 0)), (3, (0, .inr 1, .inl 0)), (4, (0, .inr 2, .inl 0))], ([(1, 401), (1, 200), (0, 200)], [[(1, [2]), ((-1), [0]), ((-1), [])]]), [], [], [(401, []), ((-1), [2])])]
set_option maxRecDepth 100000 in
noncomputable def sz_h814_0 : List sy_Hn := [(8, 20, 1, 0, 0, 0, [], [], []),
  (0, 30, 0, 0, 0, 0, [([], [(1, [0])]), ([], []), ([], [(1, [0])])], [], [])]
set_option maxRecDepth 100000 in
theorem sz_s814_0 : sy_seg sz_E sz_T sz_RU [sz_c538, sz_c812, sz_c813] sz_c814 sz_u814 ri_m_X6_lengthOf 18 none sz_h814_0 = true := by decide +kernel
set_option maxRecDepth 100000 in
noncomputable def sz_h814_1 : List sy_Hn := [(0, 31, 0, 0, 0, 0, [], [], []),
  (2, 20, 0, 0, 0, 0, [], [], []),
  (5, 20, 2, 0, 0, 0, [], [], []),
  (0, 30, 0, 0, 0, 0, [([5], [(1, [0]), (1, [2])]), ([], [(1, [0]), (1, [1])]), ([], [(1, [0]), (1, [3]), (1, [1])])], [], []),
  (4, 20, 1, 0, 0, 0, [], [], []),
  (0, 30, 0, 0, 0, 0, [([6], [(1, [0]), (1, [2])]), ([], [(1, [0]), (1, [1])]), ([], [(1, [0]), (1, [1])])], [], []),
  (0, 30, 0, 0, 0, 0, [([6], [(1, [0]), (1, [2])]), ([], [(1, [0]), (1, [1])]), ([], [(1, [0]), (1, [1])])], [], []),
  (3, 3, 5, 0, 1, 400, [([], [(1, [0]), (1, [1]), (1, [3])]), ([5], [(1, [0]), (1, [2])])], [], []),
  (0, 31, 0, 0, 0, 0, [], [], [])]
set_option maxRecDepth 100000 in
theorem sz_s814_1 : sy_seg sz_E sz_T sz_RU [sz_c538, sz_c812, sz_c813] sz_c814 sz_u814 ri_m_X6_lengthOf 64 (some ((10, [(0, (3, .inr 241, .inl 0)), (1, (3, .inr 171, .inl 0)), (2, (0, .inr 0, .inl 0)), (3, (0, .inr 1, .inl 0)), (4, (0, .inr 2, .inl 0))], ([(1, 401), (1, 200), (0, 200)], [[(1, [2]), ((-1), [0]), ((-1), [])]]), [], [], [(401, []), ((-1), [2])]))) sz_h814_1 = true := by decide +kernel
theorem sz_ok814 (xs : Nat → Value) (L : Nat) : sy_Cok (sz_env xs L) sz_T sz_RU sz_c814 := sy_chk_ok (CT := [sz_c538, sz_c812, sz_c813]) (CU := sz_u814) (M := ri_m_X6_lengthOf) (List.forall_mem_cons.mpr ⟨sz_ok538 xs L, List.forall_mem_cons.mpr ⟨sz_ok812 xs L, List.forall_mem_cons.mpr ⟨sz_ok813 xs L, fun _ h => absurd h List.not_mem_nil⟩⟩⟩) rfl rfl ⟨_, _, sz_s814_0⟩ (List.forall_mem_cons.mpr ⟨⟨_, _, sz_s814_1⟩, fun _ h => absurd h List.not_mem_nil⟩)

/-! X7_copyFrom [173, 4] -/
set_option maxRecDepth 100000 in
noncomputable def sz_c815 : sy_Ct := (202, 1, 18, [(3, .inr 173, .inl 0), (3, .inr 4, .inl 0)], ([], []), [], [], [(173, 2, 2), (174, 0, 32)], [(.inl none, 0, 0, ([], []), [], [])])
set_option maxRecDepth 100000 in
noncomputable def sz_u815 : List sy_Cut := []
set_option maxRecDepth 100000 in
noncomputable def sz_h815_0 : List sy_Hn := [(0, 4, 4, 2, 0, 0, [], [], []),
  (0, 1, 0, 0, 0, 0, [], [], []),
  (0, 31, 0, 0, 0, 0, [], [], []),
  (0, 1, 0, 0, 1, 0, [], [], []),
  (0, 31, 0, 0, 0, 0, [], [], []),
  (0, 1, 0, 0, 2, 0, [], [], []),
  (0, 31, 0, 0, 0, 0, [], [], []),
  (0, 1, 0, 0, 3, 0, [], [], []),
  (0, 31, 0, 0, 0, 0, [], [], []),
  (0, 1, 0, 0, 4, 0, [], [], []),
  (0, 31, 0, 0, 0, 0, [], [], []),
  (0, 1, 0, 0, 5, 0, [], [], []),
  (0, 31, 0, 0, 0, 0, [], [], []),
  (0, 1, 0, 0, 6, 0, [], [], []),
  (0, 31, 0, 0, 0, 0, [], [], []),
  (0, 1, 0, 0, 7, 0, [], [], []),
  (0, 31, 0, 0, 0, 0, [], [], []),
  (0, 31, 0, 0, 0, 0, [], [], [])]
set_option maxRecDepth 100000 in
theorem sz_s815_0 : sy_seg sz_E sz_T sz_RU [] sz_c815 sz_u815 ri_m_X7_copyFrom 168 none sz_h815_0 = true := by decide +kernel
theorem sz_ok815 (xs : Nat → Value) (L : Nat) : sy_Cok (sz_env xs L) sz_T sz_RU sz_c815 := sy_chk_ok (CT := []) (CU := sz_u815) (M := ri_m_X7_copyFrom) (fun _ h => absurd h List.not_mem_nil) rfl rfl ⟨_, _, sz_s815_0⟩ (fun _ h => absurd h List.not_mem_nil)

/-! X7_copyFrom [175, 6] -/
set_option maxRecDepth 100000 in
noncomputable def sz_c816 : sy_Ct := (202, 1, 18, [(3, .inr 175, .inl 0), (3, .inr 6, .inl 0)], ([], []), [], [], [(175, 2, 2), (176, 0, 240)], [(.inl none, 0, 0, ([], []), [], [])])
set_option maxRecDepth 100000 in
noncomputable def sz_u816 : List sy_Cut := []
set_option maxRecDepth 100000 in
noncomputable def sz_h816_0 : List sy_Hn := [(0, 31, 0, 0, 0, 0, [], [], [])]
set_option maxRecDepth 100000 in
theorem sz_s816_0 : sy_seg sz_E sz_T sz_RU [] sz_c816 sz_u816 ri_m_X7_copyFrom 22 none sz_h816_0 = true := by decide +kernel
theorem sz_ok816 (xs : Nat → Value) (L : Nat) : sy_Cok (sz_env xs L) sz_T sz_RU sz_c816 := sy_chk_ok (CT := []) (CU := sz_u816) (M := ri_m_X7_copyFrom) (fun _ h => absurd h List.not_mem_nil) rfl rfl ⟨_, _, sz_s816_0⟩ (fun _ h => absurd h List.not_mem_nil)

/-! X2_copyFrom [179, 10] -/
set_option maxRecDepth 100000 in
noncomputable def sz_c817 : sy_Ct := (201, 2, 39, [(3, .inr 179, .inl 0), (3, .inr 10, .inl 0)], ([(1, 3)], []), [((15, 5), (0, .inr 0, .inl 0))], [457, 458, 459, 460], [(179, 4, 14), (179, 16, 18), (180, 0, 6), (181, 0, 9), (182, 0, 4), (183, 0, 8), (184, 0, 5), (185, 0, 3), (186, 0, 3), (187, 0, 3), (188, 0, 3), (189, 0, 8), (190, 0, 4)], [(.inl none, 0, 0, ([(1, 3), (1, 3)], []), [((184, 5), (0, .inr 1, .inl 0))], [457, 458, 459, 460])])
set_option maxRecDepth 100000 in
noncomputable def sz_u817 : List sy_Cut := []
set_option maxRecDepth 100000 in
noncomputable def sz_h817_0 : List sy_Hn := [(244, 9, 469, 437, 0, 0, [], [], []),
  (0, 9, 470, 438, 0, 0, [], [], []),
  (0, 9, 471, 439, 0, 0, [], [], []),
  (0, 9, 472, 440, 0, 0, [], [], []),
  (0, 9, 473, 441, 0, 0, [], [], []),
  (0, 31, 0, 0, 0, 0, [], [], [])]
set_option maxRecDepth 100000 in
theorem sz_s817_0 : sy_seg sz_E sz_T sz_RU [] sz_c817 sz_u817 ri_m_X2_copyFrom 256 none sz_h817_0 = true := by decide +kernel
theorem sz_ok817 (xs : Nat → Value) (L : Nat) : sy_Cok (sz_env xs L) sz_T sz_RU sz_c817 := sy_chk_ok (CT := []) (CU := sz_u817) (M := ri_m_X2_copyFrom) (fun _ h => absurd h List.not_mem_nil) rfl rfl ⟨_, _, sz_s817_0⟩ (fun _ h => absurd h List.not_mem_nil)

/-! X2_copyFrom [191, 22] -/
set_option maxRecDepth 100000 in
noncomputable def sz_c818 : sy_Ct := (201, 2, 39, [(3, .inr 191, .inl 0), (3, .inr 22, .inl 0)], ([(1, 3)], []), [((27, 5), (0, .inr 0, .inl 0))], [457, 458, 459, 460], [(191, 4, 14), (191, 16, 18), (192, 0, 6), (193, 0, 9), (194, 0, 4), (195, 0, 8), (196, 0, 5), (197, 0, 3), (198, 0, 3), (199, 0, 3), (200, 0, 3), (201, 0, 8), (202, 0, 4)], [(.inl none, 0, 0, ([(1, 3), (1, 3)], []), [((196, 5), (0, .inr 1, .inl 0))], [457, 458, 459, 460])])
set_option maxRecDepth 100000 in
noncomputable def sz_u818 : List sy_Cut := []
set_option maxRecDepth 100000 in
noncomputable def sz_h818_0 : List sy_Hn := [(244, 9, 474, 442, 0, 0, [], [], []),
  (0, 9, 475, 443, 0, 0, [], [], []),
  (0, 9, 476, 444, 0, 0, [], [], []),
  (0, 9, 477, 445, 0, 0, [], [], []),
  (0, 9, 478, 446, 0, 0, [], [], []),
  (0, 31, 0, 0, 0, 0, [], [], [])]
set_option maxRecDepth 100000 in
theorem sz_s818_0 : sy_seg sz_E sz_T sz_RU [] sz_c818 sz_u818 ri_m_X2_copyFrom 256 none sz_h818_0 = true := by decide +kernel
theorem sz_ok818 (xs : Nat → Value) (L : Nat) : sy_Cok (sz_env xs L) sz_T sz_RU sz_c818 := sy_chk_ok (CT := []) (CU := sz_u818) (M := ri_m_X2_copyFrom) (fun _ h => absurd h List.not_mem_nil) rfl rfl ⟨_, _, sz_s818_0⟩ (fun _ h => absurd h List.not_mem_nil)

/-! X2_copyFrom [203, 34] -/
set_option maxRecDepth 100000 in
noncomputable def sz_c819 : sy_Ct := (201, 2, 39, [(3, .inr 203, .inl 0), (3, .inr 34, .inl 0)], ([(1, 3)], []), [((39, 5), (0, .inr 0, .inl 0))], [457, 458, 459, 460], [(203, 4, 14), (203, 16, 18), (204, 0, 6), (205, 0, 9), (206, 0, 4), (207, 0, 8), (208, 0, 5), (209, 0, 3), (210, 0, 3), (211, 0, 3), (212, 0, 3), (213, 0, 8), (214, 0, 4)], [(.inl none, 0, 0, ([(1, 3), (1, 3)], []), [((208, 5), (0, .inr 1, .inl 0))], [457, 458, 459, 460])])
set_option maxRecDepth 100000 in
noncomputable def sz_u819 : List sy_Cut := []
set_option maxRecDepth 100000 in
noncomputable def sz_h819_0 : List sy_Hn := [(244, 9, 479, 447, 0, 0, [], [], []),
  (0, 9, 480, 448, 0, 0, [], [], []),
  (0, 9, 481, 449, 0, 0, [], [], []),
  (0, 9, 482, 450, 0, 0, [], [], []),
  (0, 9, 483, 451, 0, 0, [], [], []),
  (0, 31, 0, 0, 0, 0, [], [], [])]
set_option maxRecDepth 100000 in
theorem sz_s819_0 : sy_seg sz_E sz_T sz_RU [] sz_c819 sz_u819 ri_m_X2_copyFrom 256 none sz_h819_0 = true := by decide +kernel
theorem sz_ok819 (xs : Nat → Value) (L : Nat) : sy_Cok (sz_env xs L) sz_T sz_RU sz_c819 := sy_chk_ok (CT := []) (CU := sz_u819) (M := ri_m_X2_copyFrom) (fun _ h => absurd h List.not_mem_nil) rfl rfl ⟨_, _, sz_s819_0⟩ (fun _ h => absurd h List.not_mem_nil)

/-! X2_copyFrom [215, 46] -/
set_option maxRecDepth 100000 in
noncomputable def sz_c820 : sy_Ct := (201, 2, 39, [(3, .inr 215, .inl 0), (3, .inr 46, .inl 0)], ([(1, 3)], []), [((51, 5), (0, .inr 0, .inl 0))], [457, 458, 459, 460], [(215, 4, 14), (215, 16, 18), (216, 0, 6), (217, 0, 9), (218, 0, 4), (219, 0, 8), (220, 0, 5), (221, 0, 3), (222, 0, 3), (223, 0, 3), (224, 0, 3), (225, 0, 8), (226, 0, 4)], [(.inl none, 0, 0, ([(1, 3), (1, 3)], []), [((220, 5), (0, .inr 1, .inl 0))], [457, 458, 459, 460])])
set_option maxRecDepth 100000 in
noncomputable def sz_u820 : List sy_Cut := []
set_option maxRecDepth 100000 in
noncomputable def sz_h820_0 : List sy_Hn := [(244, 9, 484, 452, 0, 0, [], [], []),
  (0, 9, 485, 453, 0, 0, [], [], []),
  (0, 9, 486, 454, 0, 0, [], [], []),
  (0, 9, 487, 455, 0, 0, [], [], []),
  (0, 9, 488, 456, 0, 0, [], [], []),
  (0, 31, 0, 0, 0, 0, [], [], [])]
set_option maxRecDepth 100000 in
theorem sz_s820_0 : sy_seg sz_E sz_T sz_RU [] sz_c820 sz_u820 ri_m_X2_copyFrom 256 none sz_h820_0 = true := by decide +kernel
theorem sz_ok820 (xs : Nat → Value) (L : Nat) : sy_Cok (sz_env xs L) sz_T sz_RU sz_c820 := sy_chk_ok (CT := []) (CU := sz_u820) (M := ri_m_X2_copyFrom) (fun _ h => absurd h List.not_mem_nil) rfl rfl ⟨_, _, sz_s820_0⟩ (fun _ h => absurd h List.not_mem_nil)

/-! X0_copyFrom [171, 2] -/
set_option maxRecDepth 100000 in
noncomputable def sz_c821 : sy_Ct := (147, 3, 60, [(3, .inr 171, .inl 0), (3, .inr 2, .inl 0)], ([(0, 12)], []), [((2, 2), (0, .inr 0, .inl 0))], [], [(171, 1, 3), (173, 2, 2), (174, 0, 32), (175, 2, 2), (176, 0, 240), (179, 4, 14), (179, 16, 18), (180, 0, 6), (181, 0, 9), (182, 0, 4), (183, 0, 8), (184, 0, 5), (185, 0, 3), (186, 0, 3), (187, 0, 3), (188, 0, 3), (189, 0, 8), (190, 0, 4), (191, 4, 14), (191, 16, 18), (192, 0, 6), (193, 0, 9), (194, 0, 4), (195, 0, 8), (196, 0, 5), (197, 0, 3), (198, 0, 3), (199, 0, 3), (200, 0, 3), (201, 0, 8), (202, 0, 4), (203, 4, 14), (203, 16, 18), (204, 0, 6), (205, 0, 9), (206, 0, 4), (207, 0, 8), (208, 0, 5), (209, 0, 3), (210, 0, 3), (211, 0, 3), (212, 0, 3), (213, 0, 8), (214, 0, 4), (215, 4, 14), (215, 16, 18), (216, 0, 6), (217, 0, 9), (218, 0, 4), (219, 0, 8), (220, 0, 5), (221, 0, 3), (222, 0, 3), (223, 0, 3), (224, 0, 3), (225, 0, 8), (226, 0, 4)], [(.inl none, 0, 0, ([(0, 12), (0, 12)], [[((-1), [1]), (1, [0])], [(1, [1]), ((-1), [0])]]), [((171, 2), (0, .inr 1, .inl 0))], [])])
set_option maxRecDepth 100000 in
noncomputable def sz_u821 : List sy_Cut := []
set_option maxRecDepth 100000 in
noncomputable def sz_h821_0 : List sy_Hn := [(22, 4, 184, 5, 0, 0, [], [], []),
  (0, 6, 457, 0, 0, 0, [([1], [(1, [0]), (1, [2])])], [], [0]),
  (0, 4, 196, 5, 0, 0, [], [], []),
  (0, 6, 458, 0, 0, 0, [([1], [(1, [0]), (1, [2])])], [], [0]),
  (0, 4, 208, 5, 0, 0, [], [], []),
  (0, 6, 459, 0, 0, 0, [([1], [(1, [0]), (1, [2])])], [], [0]),
  (0, 4, 220, 5, 0, 0, [], [], []),
  (0, 6, 460, 0, 0, 0, [([1], [(1, [0]), (1, [2])])], [], [0]),
  (1, 20, 0, 0, 0, 0, [], [], []),
  (5, 20, 1, 0, 0, 0, [], [], []),
  (0, 31, 0, 0, 0, 0, [([], [(1, [0])]), ([], [(1, [0])])], [], []),
  (8, 4, 15, 5, 0, 0, [], [], []),
  (0, 5, 489, 0, 0, 0, [], [], []),
  (0, 7, 0, 0, 0, 0, [([1], [(1, [2]), (1, [0])])], [], []),
  (0, 3, 3, 0, 1, 3, [([], [(1, [0]), (1, [1])]), ([3], [(1, [0]), (1, [2])])], [], []),
  (1, 20, 2, 0, 0, 0, [], [], []),
  (10, 6, 457, 0, 0, 0, [([4], [(1, [0]), (1, [1])])], [], [1]),
  (0, 4, 196, 5, 0, 0, [], [], []),
  (0, 6, 458, 0, 0, 0, [([1], [(1, [0]), (1, [2])])], [], [0]),
  (0, 4, 208, 5, 0, 0, [], [], []),
  (0, 6, 459, 0, 0, 0, [([1], [(1, [0]), (1, [2])])], [], [0]),
  (0, 4, 220, 5, 0, 0, [], [], []),
  (0, 6, 460, 0, 0, 0, [([1], [(1, [0]), (1, [2])])], [], [0]),
  (1, 20, 0, 0, 0, 0, [], [], []),
  (5, 20, 1, 0, 0, 0, [], [], []),
  (0, 31, 0, 0, 0, 0, [([], [(1, [0])]), ([], [(1, [0])])], [], []),
  (8, 4, 27, 5, 0, 0, [], [], []),
  (0, 5, 490, 0, 0, 0, [], [], []),
  (0, 7, 0, 0, 0, 0, [([1], [(1, [2]), (1, [0])])], [], []),
  (0, 3, 5, 0, 1, 3, [([], [(1, [0]), (1, [1])]), ([5], [(1, [0]), (1, [2])])], [], []),
  (1, 20, 3, 0, 0, 0, [], [], []),
  (10, 6, 457, 0, 0, 0, [([4], [(1, [0]), (1, [1])])], [], [1]),
  (0, 6, 458, 0, 0, 0, [([6], [(1, [0]), (1, [1])])], [], [1]),
  (0, 4, 208, 5, 0, 0, [], [], []),
  (0, 6, 459, 0, 0, 0, [([1], [(1, [0]), (1, [2])])], [], [0]),
  (0, 4, 220, 5, 0, 0, [], [], []),
  (0, 6, 460, 0, 0, 0, [([1], [(1, [0]), (1, [2])])], [], [0]),
  (1, 20, 0, 0, 0, 0, [], [], []),
  (5, 20, 1, 0, 0, 0, [], [], []),
  (0, 31, 0, 0, 0, 0, [([], [(1, [0])]), ([], [(1, [0])])], [], []),
  (8, 4, 39, 5, 0, 0, [], [], []),
  (0, 5, 491, 0, 0, 0, [], [], []),
  (0, 7, 0, 0, 0, 0, [([1], [(1, [2]), (1, [0])])], [], []),
  (0, 3, 7, 0, 1, 3, [([], [(1, [0]), (1, [1])]), ([7], [(1, [0]), (1, [2])])], [], []),
  (1, 20, 4, 0, 0, 0, [], [], []),
  (10, 6, 457, 0, 0, 0, [([4], [(1, [0]), (1, [1])])], [], [1]),
  (0, 6, 458, 0, 0, 0, [([6], [(1, [0]), (1, [1])])], [], [1]),
  (0, 6, 459, 0, 0, 0, [([8], [(1, [0]), (1, [1])])], [], [1]),
  (0, 4, 220, 5, 0, 0, [], [], []),
  (0, 6, 460, 0, 0, 0, [([1], [(1, [0]), (1, [2])])], [], [0]),
  (1, 20, 0, 0, 0, 0, [], [], []),
  (5, 20, 1, 0, 0, 0, [], [], []),
  (0, 31, 0, 0, 0, 0, [([], [(1, [0])]), ([], [(1, [0])])], [], []),
  (8, 4, 51, 5, 0, 0, [], [], []),
  (0, 5, 492, 0, 0, 0, [], [], []),
  (0, 7, 0, 0, 0, 0, [([1], [(1, [2]), (1, [0])])], [], []),
  (0, 3, 9, 0, 1, 3, [([], [(1, [0]), (1, [1])]), ([9], [(1, [0]), (1, [2])])], [], []),
  (1, 20, 5, 0, 0, 0, [], [], []),
  (10, 6, 457, 0, 0, 0, [([4], [(1, [0]), (1, [1])])], [], [1]),
  (0, 6, 458, 0, 0, 0, [([6], [(1, [0]), (1, [1])])], [], [1]),
  (0, 6, 459, 0, 0, 0, [([8], [(1, [0]), (1, [1])])], [], [1]),
  (0, 6, 460, 0, 0, 0, [([10], [(1, [0]), (1, [1])])], [], [1]),
  (1, 20, 0, 0, 0, 0, [], [], []),
  (5, 20, 1, 0, 0, 0, [], [], []),
  (0, 31, 0, 0, 0, 0, [([], [(1, [0])]), ([], [(1, [0])])], [], [])]
set_option maxRecDepth 100000 in
theorem sz_s821_0 : sy_seg sz_E sz_T sz_RU [sz_c815, sz_c816, sz_c817, sz_c818, sz_c819, sz_c820] sz_c821 sz_u821 ri_m_X0_copyFrom 211 none sz_h821_0 = true := by decide +kernel
theorem sz_ok821 (xs : Nat → Value) (L : Nat) : sy_Cok (sz_env xs L) sz_T sz_RU sz_c821 := sy_chk_ok (CT := [sz_c815, sz_c816, sz_c817, sz_c818, sz_c819, sz_c820]) (CU := sz_u821) (M := ri_m_X0_copyFrom) (List.forall_mem_cons.mpr ⟨sz_ok815 xs L, List.forall_mem_cons.mpr ⟨sz_ok816 xs L, List.forall_mem_cons.mpr ⟨sz_ok817 xs L, List.forall_mem_cons.mpr ⟨sz_ok818 xs L, List.forall_mem_cons.mpr ⟨sz_ok819 xs L, List.forall_mem_cons.mpr ⟨sz_ok820 xs L, fun _ h => absurd h List.not_mem_nil⟩⟩⟩⟩⟩⟩) rfl rfl ⟨_, _, sz_s821_0⟩ (fun _ h => absurd h List.not_mem_nil)

/-! X2_told [10, 0] -/
set_option maxRecDepth 100000 in
noncomputable def sz_c822 : sy_Ct := (284, 1, 22, [(3, .inr 10, .inl 0), (0, .inr 0, .inl 0)], ([(0, 24)], []), [], [], [], [(.inl (some (1, .inr 1, .inl 0)), 0, 0, ([((-9223372036854775808), 9223372036854775807), (0, 24)], []), [], [])])
set_option maxRecDepth 100000 in
noncomputable def sz_u822 : List sy_Cut := []
set_option maxRecDepth 100000 in
noncomputable def sz_h822_0 : List sy_Hn := [(0, 31, 0, 0, 0, 0, [], [], []),
  (0, 31, 0, 0, 0, 0, [], [], []),
  (0, 31, 0, 0, 0, 0, [], [], []),
  (0, 31, 0, 0, 0, 0, [], [], []),
  (0, 31, 0, 0, 0, 0, [], [], []),
  (0, 31, 0, 0, 0, 0, [], [], []),
  (0, 31, 0, 0, 0, 0, [], [], []),
  (0, 31, 0, 0, 0, 0, [], [], []),
  (0, 31, 0, 0, 0, 0, [], [], []),
  (0, 31, 0, 0, 0, 0, [], [], []),
  (0, 31, 0, 0, 0, 0, [], [], []),
  (0, 31, 0, 0, 0, 0, [], [], []),
  (0, 31, 0, 0, 0, 0, [], [], []),
  (0, 31, 0, 0, 0, 0, [], [], []),
  (0, 31, 0, 0, 0, 0, [], [], []),
  (0, 31, 0, 0, 0, 0, [], [], []),
  (0, 31, 0, 0, 0, 0, [], [], []),
  (0, 31, 0, 0, 0, 0, [], [], []),
  (0, 31, 0, 0, 0, 0, [], [], []),
  (0, 31, 0, 0, 0, 0, [], [], []),
  (0, 31, 0, 0, 0, 0, [], [], []),
  (0, 31, 0, 0, 0, 0, [], [], [])]
set_option maxRecDepth 100000 in
theorem sz_s822_0 : sy_seg sz_E sz_T sz_RU [] sz_c822 sz_u822 ri_m_X2_told 203 none sz_h822_0 = true := by decide +kernel
theorem sz_ok822 (xs : Nat → Value) (L : Nat) : sy_Cok (sz_env xs L) sz_T sz_RU sz_c822 := sy_chk_ok (CT := []) (CU := sz_u822) (M := ri_m_X2_told) (fun _ h => absurd h List.not_mem_nil) rfl rfl ⟨_, _, sz_s822_0⟩ (fun _ h => absurd h List.not_mem_nil)

/-! X2_told [22, 0] -/
set_option maxRecDepth 100000 in
noncomputable def sz_c823 : sy_Ct := (284, 1, 22, [(3, .inr 22, .inl 0), (0, .inr 0, .inl 0)], ([(0, 24)], []), [], [], [], [(.inl (some (1, .inr 1, .inl 0)), 0, 0, ([((-9223372036854775808), 9223372036854775807), (0, 24)], []), [], [])])
set_option maxRecDepth 100000 in
noncomputable def sz_u823 : List sy_Cut := []
set_option maxRecDepth 100000 in
noncomputable def sz_h823_0 : List sy_Hn := [(0, 31, 0, 0, 0, 0, [], [], []),
  (0, 31, 0, 0, 0, 0, [], [], []),
  (0, 31, 0, 0, 0, 0, [], [], []),
  (0, 31, 0, 0, 0, 0, [], [], []),
  (0, 31, 0, 0, 0, 0, [], [], []),
  (0, 31, 0, 0, 0, 0, [], [], []),
  (0, 31, 0, 0, 0, 0, [], [], []),
  (0, 31, 0, 0, 0, 0, [], [], []),
  (0, 31, 0, 0, 0, 0, [], [], []),
  (0, 31, 0, 0, 0, 0, [], [], []),
  (0, 31, 0, 0, 0, 0, [], [], []),
  (0, 31, 0, 0, 0, 0, [], [], []),
  (0, 31, 0, 0, 0, 0, [], [], []),
  (0, 31, 0, 0, 0, 0, [], [], []),
  (0, 31, 0, 0, 0, 0, [], [], []),
  (0, 31, 0, 0, 0, 0, [], [], []),
  (0, 31, 0, 0, 0, 0, [], [], []),
  (0, 31, 0, 0, 0, 0, [], [], []),
  (0, 31, 0, 0, 0, 0, [], [], []),
  (0, 31, 0, 0, 0, 0, [], [], []),
  (0, 31, 0, 0, 0, 0, [], [], []),
  (0, 31, 0, 0, 0, 0, [], [], [])]
set_option maxRecDepth 100000 in
theorem sz_s823_0 : sy_seg sz_E sz_T sz_RU [] sz_c823 sz_u823 ri_m_X2_told 203 none sz_h823_0 = true := by decide +kernel
theorem sz_ok823 (xs : Nat → Value) (L : Nat) : sy_Cok (sz_env xs L) sz_T sz_RU sz_c823 := sy_chk_ok (CT := []) (CU := sz_u823) (M := ri_m_X2_told) (fun _ h => absurd h List.not_mem_nil) rfl rfl ⟨_, _, sz_s823_0⟩ (fun _ h => absurd h List.not_mem_nil)

/-! X2_told [34, 0] -/
set_option maxRecDepth 100000 in
noncomputable def sz_c824 : sy_Ct := (284, 1, 22, [(3, .inr 34, .inl 0), (0, .inr 0, .inl 0)], ([(0, 24)], []), [], [], [], [(.inl (some (1, .inr 1, .inl 0)), 0, 0, ([((-9223372036854775808), 9223372036854775807), (0, 24)], []), [], [])])
set_option maxRecDepth 100000 in
noncomputable def sz_u824 : List sy_Cut := []
set_option maxRecDepth 100000 in
noncomputable def sz_h824_0 : List sy_Hn := [(0, 31, 0, 0, 0, 0, [], [], []),
  (0, 31, 0, 0, 0, 0, [], [], []),
  (0, 31, 0, 0, 0, 0, [], [], []),
  (0, 31, 0, 0, 0, 0, [], [], []),
  (0, 31, 0, 0, 0, 0, [], [], []),
  (0, 31, 0, 0, 0, 0, [], [], []),
  (0, 31, 0, 0, 0, 0, [], [], []),
  (0, 31, 0, 0, 0, 0, [], [], []),
  (0, 31, 0, 0, 0, 0, [], [], []),
  (0, 31, 0, 0, 0, 0, [], [], []),
  (0, 31, 0, 0, 0, 0, [], [], []),
  (0, 31, 0, 0, 0, 0, [], [], []),
  (0, 31, 0, 0, 0, 0, [], [], []),
  (0, 31, 0, 0, 0, 0, [], [], []),
  (0, 31, 0, 0, 0, 0, [], [], []),
  (0, 31, 0, 0, 0, 0, [], [], []),
  (0, 31, 0, 0, 0, 0, [], [], []),
  (0, 31, 0, 0, 0, 0, [], [], []),
  (0, 31, 0, 0, 0, 0, [], [], []),
  (0, 31, 0, 0, 0, 0, [], [], []),
  (0, 31, 0, 0, 0, 0, [], [], []),
  (0, 31, 0, 0, 0, 0, [], [], [])]
set_option maxRecDepth 100000 in
theorem sz_s824_0 : sy_seg sz_E sz_T sz_RU [] sz_c824 sz_u824 ri_m_X2_told 203 none sz_h824_0 = true := by decide +kernel
theorem sz_ok824 (xs : Nat → Value) (L : Nat) : sy_Cok (sz_env xs L) sz_T sz_RU sz_c824 := sy_chk_ok (CT := []) (CU := sz_u824) (M := ri_m_X2_told) (fun _ h => absurd h List.not_mem_nil) rfl rfl ⟨_, _, sz_s824_0⟩ (fun _ h => absurd h List.not_mem_nil)

/-! X2_told [46, 0] -/
set_option maxRecDepth 100000 in
noncomputable def sz_c825 : sy_Ct := (284, 1, 22, [(3, .inr 46, .inl 0), (0, .inr 0, .inl 0)], ([(0, 24)], []), [], [], [], [(.inl (some (1, .inr 1, .inl 0)), 0, 0, ([((-9223372036854775808), 9223372036854775807), (0, 24)], []), [], [])])
set_option maxRecDepth 100000 in
noncomputable def sz_u825 : List sy_Cut := []
set_option maxRecDepth 100000 in
noncomputable def sz_h825_0 : List sy_Hn := [(0, 31, 0, 0, 0, 0, [], [], []),
  (0, 31, 0, 0, 0, 0, [], [], []),
  (0, 31, 0, 0, 0, 0, [], [], []),
  (0, 31, 0, 0, 0, 0, [], [], []),
  (0, 31, 0, 0, 0, 0, [], [], []),
  (0, 31, 0, 0, 0, 0, [], [], []),
  (0, 31, 0, 0, 0, 0, [], [], []),
  (0, 31, 0, 0, 0, 0, [], [], []),
  (0, 31, 0, 0, 0, 0, [], [], []),
  (0, 31, 0, 0, 0, 0, [], [], []),
  (0, 31, 0, 0, 0, 0, [], [], []),
  (0, 31, 0, 0, 0, 0, [], [], []),
  (0, 31, 0, 0, 0, 0, [], [], []),
  (0, 31, 0, 0, 0, 0, [], [], []),
  (0, 31, 0, 0, 0, 0, [], [], []),
  (0, 31, 0, 0, 0, 0, [], [], []),
  (0, 31, 0, 0, 0, 0, [], [], []),
  (0, 31, 0, 0, 0, 0, [], [], []),
  (0, 31, 0, 0, 0, 0, [], [], []),
  (0, 31, 0, 0, 0, 0, [], [], []),
  (0, 31, 0, 0, 0, 0, [], [], []),
  (0, 31, 0, 0, 0, 0, [], [], [])]
set_option maxRecDepth 100000 in
theorem sz_s825_0 : sy_seg sz_E sz_T sz_RU [] sz_c825 sz_u825 ri_m_X2_told 203 none sz_h825_0 = true := by decide +kernel
theorem sz_ok825 (xs : Nat → Value) (L : Nat) : sy_Cok (sz_env xs L) sz_T sz_RU sz_c825 := sy_chk_ok (CT := []) (CU := sz_u825) (M := ri_m_X2_told) (fun _ h => absurd h List.not_mem_nil) rfl rfl ⟨_, _, sz_s825_0⟩ (fun _ h => absurd h List.not_mem_nil)

/-! X6_keep [241, 2, 0] -/
set_option maxRecDepth 100000 in
noncomputable def sz_c826 : sy_Ct := (240, 2, 43, [(3, .inr 241, .inl 0), (3, .inr 2, .inl 0), (0, .inr 0, .inl 0)], ([(0, 9)], []), [], [], [(243, 0, 999)], [(.inl none, 0, 0, ([(0, 9)], []), [], [])])
set_option maxRecDepth 100000 in
noncomputable def sz_u826 : List sy_Cut := [(2, [(0, (3, .inr 241, .inl 0)), (1, (3, .inr 2, .inl 0)), (2, (0, .inr 0, .inl 0)), (3, (0, .inr 1, .inl 0))], ([(0, 4), (0, 9)], []), [], [], [(4000, []), ((-1000), [1]), (500, [])]), (16, [(0, (3, .inr 241, .inl 0)), (1, (3, .inr 2, .inl 0)), (2, (0, .inr 0, .inl 0)), (3, (0, .inr 1, .inl 0)), (4, (0, .inr 2, .inl 0)), (5, (0, .inr 3, .inl 0))], ([(0, 25), (0, 975), (0, 3), (0, 9)], []), [], [], [(4000, []), ((-1000), [1]), (25, []), ((-1), [3])])]
set_option maxRecDepth 100000 in
noncomputable def sz_h826_0 : List sy_Hn := [(0, 30, 0, 0, 0, 0, [([], [(1, [0])]), ([], [])], [], [])]
set_option maxRecDepth 100000 in
theorem sz_s826_0 : sy_seg sz_E sz_T sz_RU [sz_c822, sz_c823, sz_c824, sz_c825] sz_c826 sz_u826 ri_m_X6_keep 9 none sz_h826_0 = true := by decide +kernel
set_option maxRecDepth 100000 in
noncomputable def sz_h826_1 : List sy_Hn := [(0, 31, 0, 0, 0, 0, [], [], []),
  (0, 30, 0, 0, 0, 0, [([1], [(1, [0]), (1000, [2])]), ([], [(1, [0])])], [], [])]
set_option maxRecDepth 100000 in
theorem sz_s826_1 : sy_seg sz_E sz_T sz_RU [sz_c822, sz_c823, sz_c824, sz_c825] sz_c826 sz_u826 ri_m_X6_keep 23 (some ((2, [(0, (3, .inr 241, .inl 0)), (1, (3, .inr 2, .inl 0)), (2, (0, .inr 0, .inl 0)), (3, (0, .inr 1, .inl 0))], ([(0, 4), (0, 9)], []), [], [], [(4000, []), ((-1000), [1]), (500, [])]))) sz_h826_1 = true := by decide +kernel
set_option maxRecDepth 100000 in
noncomputable def sz_h826_2 : List sy_Hn := [(0, 30, 0, 0, 0, 0, [([4], [(1, [0]), (1000, [2])]), ([3], [(1, [0]), (1000, [3]), (1, [2])])], [], []),
  (8, 1, 1, 0, 0, 0, [], [], []),
  (3, 20, 0, 0, 0, 0, [], [], []),
  (0, 30, 0, 0, 0, 0, [([1, 6], [(1, [0]), (1000, [2]), (1, [4])]), ([], [(1, [0]), (1, [1])])], [], []),
  (0, 1, 1, 0, 1, 0, [], [], []),
  (3, 20, 1, 0, 0, 0, [], [], []),
  (0, 30, 0, 0, 0, 0, [([1, 6], [(1, [0]), (1000, [2]), (1, [4])]), ([], [(1, [0]), (1, [1])])], [], []),
  (0, 1, 1, 0, 2, 0, [], [], []),
  (3, 20, 2, 0, 0, 0, [], [], []),
  (0, 30, 0, 0, 0, 0, [([1, 6], [(1, [0]), (1000, [2]), (1, [4])]), ([], [(1, [0]), (1, [1])])], [], []),
  (3, 20, 3, 0, 0, 0, [], [], []),
  (0, 30, 0, 0, 0, 0, [([1, 6], [(1, [0]), (1000, [2]), (1, [4])]), ([], [(1, [0]), (1, [1])])], [], [])]
set_option maxRecDepth 100000 in
theorem sz_s826_2 : sy_seg sz_E sz_T sz_RU [sz_c822, sz_c823, sz_c824, sz_c825] sz_c826 sz_u826 ri_m_X6_keep 62 (some ((16, [(0, (3, .inr 241, .inl 0)), (1, (3, .inr 2, .inl 0)), (2, (0, .inr 0, .inl 0)), (3, (0, .inr 1, .inl 0)), (4, (0, .inr 2, .inl 0)), (5, (0, .inr 3, .inl 0))], ([(0, 25), (0, 975), (0, 3), (0, 9)], []), [], [], [(4000, []), ((-1000), [1]), (25, []), ((-1), [3])]))) sz_h826_2 = true := by decide +kernel
theorem sz_ok826 (xs : Nat → Value) (L : Nat) : sy_Cok (sz_env xs L) sz_T sz_RU sz_c826 := sy_chk_ok (CT := [sz_c822, sz_c823, sz_c824, sz_c825]) (CU := sz_u826) (M := ri_m_X6_keep) (List.forall_mem_cons.mpr ⟨sz_ok822 xs L, List.forall_mem_cons.mpr ⟨sz_ok823 xs L, List.forall_mem_cons.mpr ⟨sz_ok824 xs L, List.forall_mem_cons.mpr ⟨sz_ok825 xs L, fun _ h => absurd h List.not_mem_nil⟩⟩⟩⟩) rfl rfl ⟨_, _, sz_s826_0⟩ (List.forall_mem_cons.mpr ⟨⟨_, _, sz_s826_1⟩, List.forall_mem_cons.mpr ⟨⟨_, _, sz_s826_2⟩, fun _ h => absurd h List.not_mem_nil⟩⟩)

/-! X6_beginOf [241, 171, 2] -/
set_option maxRecDepth 100000 in
noncomputable def sz_c827 : sy_Ct := (183, 5, 122, [(3, .inr 241, .inl 0), (3, .inr 171, .inl 0), (3, .inr 2, .inl 0)], ([(0, 400)], []), [((241, 1), (0, .inr 0, .inl 0))], [], [(2, 3, 3), (6, 2, 2), (7, 0, 240), (8, 0, 3), (9, 0, 3), (10, 5, 13), (10, 16, 18), (11, 5, 6), (12, 0, 9), (13, 3, 3), (20, 3, 8), (21, 0, 4), (22, 5, 13), (22, 16, 18), (23, 5, 6), (24, 0, 9), (25, 3, 3), (32, 3, 8), (33, 0, 4), (34, 5, 13), (34, 16, 18), (35, 5, 6), (36, 0, 9), (37, 3, 3), (44, 3, 8), (45, 0, 4), (46, 5, 13), (46, 16, 18), (47, 5, 6), (48, 0, 9), (49, 3, 3), (56, 3, 8), (57, 0, 4), (171, 3, 3), (175, 2, 2), (176, 0, 240), (177, 0, 3), (178, 0, 3), (179, 5, 13), (179, 16, 18), (180, 5, 6), (181, 0, 9), (182, 3, 3), (189, 3, 8), (190, 0, 4), (191, 5, 13), (191, 16, 18), (192, 5, 6), (193, 0, 9), (194, 3, 3), (201, 3, 8), (202, 0, 4), (203, 5, 13), (203, 16, 18), (204, 5, 6), (205, 0, 9), (206, 3, 3), (213, 3, 8), (214, 0, 4), (215, 5, 13), (215, 16, 18), (216, 5, 6), (217, 0, 9), (218, 3, 3), (225, 3, 8), (226, 0, 4), (243, 0, 999)], [(.inl (some (0, .inr 1, .inl 0)), 0, 0, ([((-1), 200), (0, 400)], []), [], [])])
set_option maxRecDepth 100000 in
noncomputable def sz_u827 : List sy_Cut := [(2, [(0, (3, .inr 241, .inl 0)), (1, (3, .inr 171, .inl 0)), (2, (3, .inr 2, .inl 0)), (3, (0, .inr 1, .inl 0))], ([(0, 400), (0, 400), (0, 400)], []), [((241, 1), (0, .inr 2, .inl 0))], [], [(400, []), ((-1), [1]), (1000, [])]), (13, [(0, (3, .inr 241, .inl 0)), (1, (3, .inr 171, .inl 0)), (2, (3, .inr 2, .inl 0)), (3, (0, .inr 1, .inl 0))], ([(0, 400), (0, 201), (0, 400)], []), [((241, 1), (0, .inr 2, .inl 0))], [], [(202, []), ((-1), [1])])]
set_option maxRecDepth 100000 in
noncomputable def sz_h827_0 : List sy_Hn := [(0, 30, 0, 0, 0, 0, [([], [(1, [0])]), ([], [])], [], [])]
set_option maxRecDepth 100000 in
theorem sz_s827_0 : sy_seg sz_E sz_T sz_RU [sz_c538, sz_c686, sz_c813, sz_c826] sz_c827 sz_u827 ri_m_X6_beginOf 9 none sz_h827_0 = true := by decide +kernel
set_option maxRecDepth 100000 in
noncomputable def sz_h827_1 : List sy_Hn := [(0, 30, 0, 0, 0, 0, [([], [(1, [0])]), ([1], [(1, [0]), (1, [2])])], [], []),
  (2, 20, 0, 0, 0, 0, [], [], []),
  (0, 30, 0, 0, 0, 0, [([4], [(1, [0]), (1, [2])]), ([], [(1, [0]), (1, [1])])], [], [])]
set_option maxRecDepth 100000 in
theorem sz_s827_1 : sy_seg sz_E sz_T sz_RU [sz_c538, sz_c686, sz_c813, sz_c826] sz_c827 sz_u827 ri_m_X6_beginOf 21 (some ((2, [(0, (3, .inr 241, .inl 0)), (1, (3, .inr 171, .inl 0)), (2, (3, .inr 2, .inl 0)), (3, (0, .inr 1, .inl 0))], ([(0, 400), (0, 400), (0, 400)], []), [((241, 1), (0, .inr 2, .inl 0))], [], [(400, []), ((-1), [1]), (1000, [])]))) sz_h827_1 = true := by decide +kernel
set_option maxRecDepth 100000 in
noncomputable def sz_h827_2 : List sy_Hn := [(0, 31, 0, 0, 0, 0, [], [], []),
  (0, 3, 1, 0, 0, 200, [([1], [(1, [0]), (1, [1])]), ([2, 3], [(1, [0]), (1, [5]), (1, [1]), (1, [4])])], [], []),
  (4, 20, 3, 0, 0, 0, [], [], []),
  (4, 20, 2, 0, 0, 0, [], [], []),
  (3, 20, 0, 0, 0, 0, [], [], []),
  (3, 20, 1, 0, 0, 0, [], [], []),
  (0, 30, 0, 0, 0, 0, [([7], [(1, [0]), (1, [2])]), ([], [(1, [0]), (1, [1])])], [], []),
  (0, 31, 0, 0, 0, 0, [], [], [])]
set_option maxRecDepth 100000 in
theorem sz_s827_2 : sy_seg sz_E sz_T sz_RU [sz_c538, sz_c686, sz_c813, sz_c826] sz_c827 sz_u827 ri_m_X6_beginOf 41 (some ((13, [(0, (3, .inr 241, .inl 0)), (1, (3, .inr 171, .inl 0)), (2, (3, .inr 2, .inl 0)), (3, (0, .inr 1, .inl 0))], ([(0, 400), (0, 201), (0, 400)], []), [((241, 1), (0, .inr 2, .inl 0))], [], [(202, []), ((-1), [1])]))) sz_h827_2 = true := by decide +kernel
theorem sz_ok827 (xs : Nat → Value) (L : Nat) : sy_Cok (sz_env xs L) sz_T sz_RU sz_c827 := sy_chk_ok (CT := [sz_c538, sz_c686, sz_c813, sz_c826]) (CU := sz_u827) (M := ri_m_X6_beginOf) (List.forall_mem_cons.mpr ⟨sz_ok538 xs L, List.forall_mem_cons.mpr ⟨sz_ok686 xs L, List.forall_mem_cons.mpr ⟨sz_ok813 xs L, List.forall_mem_cons.mpr ⟨sz_ok826 xs L, fun _ h => absurd h List.not_mem_nil⟩⟩⟩⟩) rfl rfl ⟨_, _, sz_s827_0⟩ (List.forall_mem_cons.mpr ⟨⟨_, _, sz_s827_1⟩, List.forall_mem_cons.mpr ⟨⟨_, _, sz_s827_2⟩, fun _ h => absurd h List.not_mem_nil⟩⟩)

/-! X6_find [241, 171, 2] -/
set_option maxRecDepth 100000 in
noncomputable def sz_c828 : sy_Ct := (121, 6, 146, [(3, .inr 241, .inl 0), (3, .inr 171, .inl 0), (3, .inr 2, .inl 0)], ([], []), [], [], [(2, 3, 3), (6, 2, 2), (7, 0, 240), (8, 0, 3), (9, 0, 3), (10, 5, 13), (10, 16, 18), (11, 5, 6), (12, 0, 9), (13, 3, 3), (20, 3, 8), (21, 0, 4), (22, 5, 13), (22, 16, 18), (23, 5, 6), (24, 0, 9), (25, 3, 3), (32, 3, 8), (33, 0, 4), (34, 5, 13), (34, 16, 18), (35, 5, 6), (36, 0, 9), (37, 3, 3), (44, 3, 8), (45, 0, 4), (46, 5, 13), (46, 16, 18), (47, 5, 6), (48, 0, 9), (49, 3, 3), (56, 3, 8), (57, 0, 4), (171, 1, 3), (173, 2, 2), (174, 0, 32), (175, 2, 2), (176, 0, 240), (177, 0, 3), (178, 0, 3), (179, 4, 14), (179, 16, 18), (180, 0, 6), (181, 0, 9), (182, 0, 4), (183, 0, 8), (184, 0, 5), (185, 0, 3), (186, 0, 3), (187, 0, 3), (188, 0, 3), (189, 0, 8), (190, 0, 4), (191, 4, 14), (191, 16, 18), (192, 0, 6), (193, 0, 9), (194, 0, 4), (195, 0, 8), (196, 0, 5), (197, 0, 3), (198, 0, 3), (199, 0, 3), (200, 0, 3), (201, 0, 8), (202, 0, 4), (203, 4, 14), (203, 16, 18), (204, 0, 6), (205, 0, 9), (206, 0, 4), (207, 0, 8), (208, 0, 5), (209, 0, 3), (210, 0, 3), (211, 0, 3), (212, 0, 3), (213, 0, 8), (214, 0, 4), (215, 4, 14), (215, 16, 18), (216, 0, 6), (217, 0, 9), (218, 0, 4), (219, 0, 8), (220, 0, 5), (221, 0, 3), (222, 0, 3), (223, 0, 3), (224, 0, 3), (225, 0, 8), (226, 0, 4), (241, 0, 1), (243, 0, 999)], [(.inl none, 0, 0, ([], []), [], [])])
set_option maxRecDepth 100000 in
noncomputable def sz_u828 : List sy_Cut := []
set_option maxRecDepth 100000 in
noncomputable def sz_h828_0 : List sy_Hn := [(7, 20, 0, 0, 0, 0, [], [], []),
  (7, 4, 2, 2, 0, 0, [], [], []),
  (1, 20, 1, 0, 0, 0, [], [], []),
  (5, 20, 2, 0, 0, 0, [], [], []),
  (0, 31, 0, 0, 0, 0, [], [], []),
  (0, 31, 0, 0, 0, 0, [], [], []),
  (0, 31, 0, 0, 0, 0, [], [], [])]
set_option maxRecDepth 100000 in
theorem sz_s828_0 : sy_seg sz_E sz_T sz_RU [sz_c814, sz_c821, sz_c827] sz_c828 sz_u828 ri_m_X6_find 43 none sz_h828_0 = true := by decide +kernel
theorem sz_ok828 (xs : Nat → Value) (L : Nat) : sy_Cok (sz_env xs L) sz_T sz_RU sz_c828 := sy_chk_ok (CT := [sz_c814, sz_c821, sz_c827]) (CU := sz_u828) (M := ri_m_X6_find) (List.forall_mem_cons.mpr ⟨sz_ok814 xs L, List.forall_mem_cons.mpr ⟨sz_ok821 xs L, List.forall_mem_cons.mpr ⟨sz_ok827 xs L, fun _ h => absurd h List.not_mem_nil⟩⟩⟩) rfl rfl ⟨_, _, sz_s828_0⟩ (fun _ h => absurd h List.not_mem_nil)

/-! X6_sweepOf [241, 171, 0] -/
set_option maxRecDepth 100000 in
noncomputable def sz_c829 : sy_Ct := (186, 5, 122, [(3, .inr 241, .inl 0), (3, .inr 171, .inl 0), (0, .inl 0, .inl 0)], ([], []), [], [], [(171, 3, 3), (175, 2, 2), (176, 0, 240), (177, 0, 3), (178, 0, 3), (179, 5, 13), (179, 16, 18), (180, 5, 6), (181, 0, 9), (182, 3, 3), (189, 3, 8), (190, 0, 4), (191, 5, 13), (191, 16, 18), (192, 5, 6), (193, 0, 9), (194, 3, 3), (201, 3, 8), (202, 0, 4), (203, 5, 13), (203, 16, 18), (204, 5, 6), (205, 0, 9), (206, 3, 3), (213, 3, 8), (214, 0, 4), (215, 5, 13), (215, 16, 18), (216, 5, 6), (217, 0, 9), (218, 3, 3), (225, 3, 8), (226, 0, 4)], [(.inl (some (0, .inr 0, .inl 0)), 0, 0, ([((-2147483648), 2147483647)], []), [], [])])
set_option maxRecDepth 100000 in
noncomputable def sz_u829 : List sy_Cut := [(17, [(0, (3, .inr 241, .inl 0)), (1, (3, .inr 171, .inl 0)), (2, (0, .inl 0, .inl 0)), (3, (0, .inr 0, .inl 0)), (4, (0, .inr 1, .inl 0)), (5, (0, .inr 2, .inl 0))], ([(0, 400), ((-2147483648), 2147483647), ((-2147483648), 2147483647)], []), [], [], [(400, []), ((-1), [2])])]
set_option maxRecDepth 100000 in
noncomputable def sz_h829_0 : List sy_Hn := [(0, 30, 0, 0, 0, 0, [([], [(1, [0])]), ([], [])], [], []),
  (0, 31, 0, 0, 0, 0, [], [], [])]
set_option maxRecDepth 100000 in
theorem sz_s829_0 : sy_seg sz_E sz_T sz_RU [sz_c538] sz_c829 sz_u829 ri_m_X6_sweepOf 30 none sz_h829_0 = true := by decide +kernel
set_option maxRecDepth 100000 in
noncomputable def sz_h829_1 : List sy_Hn := [(0, 31, 0, 0, 0, 0, [], [], []),
  (2, 20, 0, 0, 0, 0, [], [], []),
  (0, 30, 0, 0, 0, 0, [([7], [(1, [0]), (1, [2])]), ([], [(1, [0]), (1, [1])])], [], []),
  (0, 30, 0, 0, 0, 0, [([7], [(1, [0]), (1, [2])]), ([], [(1, [0]), (1, [1])])], [], []),
  (0, 30, 0, 0, 0, 0, [([7], [(1, [0]), (1, [2])]), ([], [(1, [0]), (1, [1])])], [], []),
  (0, 30, 0, 0, 0, 0, [([7], [(1, [0]), (1, [2])]), ([], [(1, [0]), (1, [1])])], [], [])]
set_option maxRecDepth 100000 in
theorem sz_s829_1 : sy_seg sz_E sz_T sz_RU [sz_c538] sz_c829 sz_u829 ri_m_X6_sweepOf 85 (some ((17, [(0, (3, .inr 241, .inl 0)), (1, (3, .inr 171, .inl 0)), (2, (0, .inl 0, .inl 0)), (3, (0, .inr 0, .inl 0)), (4, (0, .inr 1, .inl 0)), (5, (0, .inr 2, .inl 0))], ([(0, 400), ((-2147483648), 2147483647), ((-2147483648), 2147483647)], []), [], [], [(400, []), ((-1), [2])]))) sz_h829_1 = true := by decide +kernel
theorem sz_ok829 (xs : Nat → Value) (L : Nat) : sy_Cok (sz_env xs L) sz_T sz_RU sz_c829 := sy_chk_ok (CT := [sz_c538]) (CU := sz_u829) (M := ri_m_X6_sweepOf) (List.forall_mem_cons.mpr ⟨sz_ok538 xs L, fun _ h => absurd h List.not_mem_nil⟩) rfl rfl ⟨_, _, sz_s829_0⟩ (List.forall_mem_cons.mpr ⟨⟨_, _, sz_s829_1⟩, fun _ h => absurd h List.not_mem_nil⟩)

/-! X6_sweepOf [241, 171, 1] -/
set_option maxRecDepth 100000 in
noncomputable def sz_c830 : sy_Ct := (186, 5, 122, [(3, .inr 241, .inl 0), (3, .inr 171, .inl 0), (0, .inl 1, .inl 0)], ([], []), [], [], [(171, 3, 3), (175, 2, 2), (176, 0, 240), (177, 0, 3), (178, 0, 3), (179, 5, 13), (179, 16, 18), (180, 5, 6), (181, 0, 9), (182, 3, 3), (189, 3, 8), (190, 0, 4), (191, 5, 13), (191, 16, 18), (192, 5, 6), (193, 0, 9), (194, 3, 3), (201, 3, 8), (202, 0, 4), (203, 5, 13), (203, 16, 18), (204, 5, 6), (205, 0, 9), (206, 3, 3), (213, 3, 8), (214, 0, 4), (215, 5, 13), (215, 16, 18), (216, 5, 6), (217, 0, 9), (218, 3, 3), (225, 3, 8), (226, 0, 4)], [(.inl (some (0, .inr 0, .inl 0)), 0, 0, ([((-2147483648), 2147483647)], []), [], [])])
set_option maxRecDepth 100000 in
noncomputable def sz_u830 : List sy_Cut := [(17, [(0, (3, .inr 241, .inl 0)), (1, (3, .inr 171, .inl 0)), (2, (0, .inl 1, .inl 0)), (3, (0, .inr 0, .inl 0)), (4, (0, .inr 1, .inl 0)), (5, (0, .inr 2, .inl 0))], ([(0, 400), ((-2147483648), 2147483647), ((-2147483648), 2147483647)], []), [], [], [(400, []), ((-1), [2])])]
set_option maxRecDepth 100000 in
noncomputable def sz_h830_0 : List sy_Hn := [(0, 30, 0, 0, 0, 0, [([], [(1, [0])]), ([], [])], [], []),
  (0, 31, 0, 0, 0, 0, [], [], [])]
set_option maxRecDepth 100000 in
theorem sz_s830_0 : sy_seg sz_E sz_T sz_RU [sz_c538] sz_c830 sz_u830 ri_m_X6_sweepOf 30 none sz_h830_0 = true := by decide +kernel
set_option maxRecDepth 100000 in
noncomputable def sz_h830_1 : List sy_Hn := [(0, 31, 0, 0, 0, 0, [], [], []),
  (2, 20, 0, 0, 0, 0, [], [], []),
  (0, 30, 0, 0, 0, 0, [([7], [(1, [0]), (1, [2])]), ([], [(1, [0]), (1, [1])])], [], []),
  (0, 30, 0, 0, 0, 0, [([7], [(1, [0]), (1, [2])]), ([], [(1, [0]), (1, [1])])], [], []),
  (0, 30, 0, 0, 0, 0, [([7], [(1, [0]), (1, [2])]), ([], [(1, [0]), (1, [1])])], [], []),
  (0, 30, 0, 0, 0, 0, [([7], [(1, [0]), (1, [2])]), ([], [(1, [0]), (1, [1])])], [], [])]
set_option maxRecDepth 100000 in
theorem sz_s830_1 : sy_seg sz_E sz_T sz_RU [sz_c538] sz_c830 sz_u830 ri_m_X6_sweepOf 85 (some ((17, [(0, (3, .inr 241, .inl 0)), (1, (3, .inr 171, .inl 0)), (2, (0, .inl 1, .inl 0)), (3, (0, .inr 0, .inl 0)), (4, (0, .inr 1, .inl 0)), (5, (0, .inr 2, .inl 0))], ([(0, 400), ((-2147483648), 2147483647), ((-2147483648), 2147483647)], []), [], [], [(400, []), ((-1), [2])]))) sz_h830_1 = true := by decide +kernel
theorem sz_ok830 (xs : Nat → Value) (L : Nat) : sy_Cok (sz_env xs L) sz_T sz_RU sz_c830 := sy_chk_ok (CT := [sz_c538]) (CU := sz_u830) (M := ri_m_X6_sweepOf) (List.forall_mem_cons.mpr ⟨sz_ok538 xs L, fun _ h => absurd h List.not_mem_nil⟩) rfl rfl ⟨_, _, sz_s830_0⟩ (List.forall_mem_cons.mpr ⟨⟨_, _, sz_s830_1⟩, fun _ h => absurd h List.not_mem_nil⟩)

/-! X6_sweepOf [241, 171, 2] -/
set_option maxRecDepth 100000 in
noncomputable def sz_c831 : sy_Ct := (186, 5, 122, [(3, .inr 241, .inl 0), (3, .inr 171, .inl 0), (0, .inl 2, .inl 0)], ([], []), [], [], [(171, 3, 3), (175, 2, 2), (176, 0, 240), (177, 0, 3), (178, 0, 3), (179, 5, 13), (179, 16, 18), (180, 5, 6), (181, 0, 9), (182, 3, 3), (189, 3, 8), (190, 0, 4), (191, 5, 13), (191, 16, 18), (192, 5, 6), (193, 0, 9), (194, 3, 3), (201, 3, 8), (202, 0, 4), (203, 5, 13), (203, 16, 18), (204, 5, 6), (205, 0, 9), (206, 3, 3), (213, 3, 8), (214, 0, 4), (215, 5, 13), (215, 16, 18), (216, 5, 6), (217, 0, 9), (218, 3, 3), (225, 3, 8), (226, 0, 4)], [(.inl (some (0, .inr 0, .inl 0)), 0, 0, ([((-2147483648), 2147483647)], []), [], [])])
set_option maxRecDepth 100000 in
noncomputable def sz_u831 : List sy_Cut := [(17, [(0, (3, .inr 241, .inl 0)), (1, (3, .inr 171, .inl 0)), (2, (0, .inl 2, .inl 0)), (3, (0, .inr 0, .inl 0)), (4, (0, .inr 1, .inl 0)), (5, (0, .inr 2, .inl 0))], ([(0, 400), ((-2147483648), 2147483647), ((-2147483648), 2147483647)], []), [], [], [(400, []), ((-1), [2])])]
set_option maxRecDepth 100000 in
noncomputable def sz_h831_0 : List sy_Hn := [(0, 30, 0, 0, 0, 0, [([], [(1, [0])]), ([], [])], [], []),
  (0, 31, 0, 0, 0, 0, [], [], [])]
set_option maxRecDepth 100000 in
theorem sz_s831_0 : sy_seg sz_E sz_T sz_RU [sz_c538] sz_c831 sz_u831 ri_m_X6_sweepOf 30 none sz_h831_0 = true := by decide +kernel
set_option maxRecDepth 100000 in
noncomputable def sz_h831_1 : List sy_Hn := [(0, 31, 0, 0, 0, 0, [], [], []),
  (2, 20, 0, 0, 0, 0, [], [], []),
  (0, 30, 0, 0, 0, 0, [([7], [(1, [0]), (1, [2])]), ([], [(1, [0]), (1, [1])])], [], []),
  (0, 30, 0, 0, 0, 0, [([7], [(1, [0]), (1, [2])]), ([], [(1, [0]), (1, [1])])], [], []),
  (0, 30, 0, 0, 0, 0, [([7], [(1, [0]), (1, [2])]), ([], [(1, [0]), (1, [1])])], [], []),
  (0, 30, 0, 0, 0, 0, [([7], [(1, [0]), (1, [2])]), ([], [(1, [0]), (1, [1])])], [], [])]
set_option maxRecDepth 100000 in
theorem sz_s831_1 : sy_seg sz_E sz_T sz_RU [sz_c538] sz_c831 sz_u831 ri_m_X6_sweepOf 85 (some ((17, [(0, (3, .inr 241, .inl 0)), (1, (3, .inr 171, .inl 0)), (2, (0, .inl 2, .inl 0)), (3, (0, .inr 0, .inl 0)), (4, (0, .inr 1, .inl 0)), (5, (0, .inr 2, .inl 0))], ([(0, 400), ((-2147483648), 2147483647), ((-2147483648), 2147483647)], []), [], [], [(400, []), ((-1), [2])]))) sz_h831_1 = true := by decide +kernel
theorem sz_ok831 (xs : Nat → Value) (L : Nat) : sy_Cok (sz_env xs L) sz_T sz_RU sz_c831 := sy_chk_ok (CT := [sz_c538]) (CU := sz_u831) (M := ri_m_X6_sweepOf) (List.forall_mem_cons.mpr ⟨sz_ok538 xs L, fun _ h => absurd h List.not_mem_nil⟩) rfl rfl ⟨_, _, sz_s831_0⟩ (List.forall_mem_cons.mpr ⟨⟨_, _, sz_s831_1⟩, fun _ h => absurd h List.not_mem_nil⟩)

/-! X6_sweepOf [241, 171, 3] -/
set_option maxRecDepth 100000 in
noncomputable def sz_c832 : sy_Ct := (186, 5, 122, [(3, .inr 241, .inl 0), (3, .inr 171, .inl 0), (0, .inl 3, .inl 0)], ([], []), [], [], [(171, 3, 3), (175, 2, 2), (176, 0, 240), (177, 0, 3), (178, 0, 3), (179, 5, 13), (179, 16, 18), (180, 5, 6), (181, 0, 9), (182, 3, 3), (189, 3, 8), (190, 0, 4), (191, 5, 13), (191, 16, 18), (192, 5, 6), (193, 0, 9), (194, 3, 3), (201, 3, 8), (202, 0, 4), (203, 5, 13), (203, 16, 18), (204, 5, 6), (205, 0, 9), (206, 3, 3), (213, 3, 8), (214, 0, 4), (215, 5, 13), (215, 16, 18), (216, 5, 6), (217, 0, 9), (218, 3, 3), (225, 3, 8), (226, 0, 4)], [(.inl (some (0, .inr 0, .inl 0)), 0, 0, ([((-2147483648), 2147483647)], []), [], [])])
set_option maxRecDepth 100000 in
noncomputable def sz_u832 : List sy_Cut := [(17, [(0, (3, .inr 241, .inl 0)), (1, (3, .inr 171, .inl 0)), (2, (0, .inl 3, .inl 0)), (3, (0, .inr 0, .inl 0)), (4, (0, .inr 1, .inl 0)), (5, (0, .inr 2, .inl 0))], ([(0, 400), ((-2147483648), 2147483647), ((-2147483648), 2147483647)], []), [], [], [(400, []), ((-1), [2])])]
set_option maxRecDepth 100000 in
noncomputable def sz_h832_0 : List sy_Hn := [(0, 30, 0, 0, 0, 0, [([], [(1, [0])]), ([], [])], [], []),
  (0, 31, 0, 0, 0, 0, [], [], [])]
set_option maxRecDepth 100000 in
theorem sz_s832_0 : sy_seg sz_E sz_T sz_RU [sz_c538] sz_c832 sz_u832 ri_m_X6_sweepOf 30 none sz_h832_0 = true := by decide +kernel
set_option maxRecDepth 100000 in
noncomputable def sz_h832_1 : List sy_Hn := [(0, 31, 0, 0, 0, 0, [], [], []),
  (2, 20, 0, 0, 0, 0, [], [], []),
  (0, 30, 0, 0, 0, 0, [([7], [(1, [0]), (1, [2])]), ([], [(1, [0]), (1, [1])])], [], []),
  (0, 30, 0, 0, 0, 0, [([7], [(1, [0]), (1, [2])]), ([], [(1, [0]), (1, [1])])], [], []),
  (0, 30, 0, 0, 0, 0, [([7], [(1, [0]), (1, [2])]), ([], [(1, [0]), (1, [1])])], [], []),
  (0, 30, 0, 0, 0, 0, [([7], [(1, [0]), (1, [2])]), ([], [(1, [0]), (1, [1])])], [], [])]
set_option maxRecDepth 100000 in
theorem sz_s832_1 : sy_seg sz_E sz_T sz_RU [sz_c538] sz_c832 sz_u832 ri_m_X6_sweepOf 85 (some ((17, [(0, (3, .inr 241, .inl 0)), (1, (3, .inr 171, .inl 0)), (2, (0, .inl 3, .inl 0)), (3, (0, .inr 0, .inl 0)), (4, (0, .inr 1, .inl 0)), (5, (0, .inr 2, .inl 0))], ([(0, 400), ((-2147483648), 2147483647), ((-2147483648), 2147483647)], []), [], [], [(400, []), ((-1), [2])]))) sz_h832_1 = true := by decide +kernel
theorem sz_ok832 (xs : Nat → Value) (L : Nat) : sy_Cok (sz_env xs L) sz_T sz_RU sz_c832 := sy_chk_ok (CT := [sz_c538]) (CU := sz_u832) (M := ri_m_X6_sweepOf) (List.forall_mem_cons.mpr ⟨sz_ok538 xs L, fun _ h => absurd h List.not_mem_nil⟩) rfl rfl ⟨_, _, sz_s832_0⟩ (List.forall_mem_cons.mpr ⟨⟨_, _, sz_s832_1⟩, fun _ h => absurd h List.not_mem_nil⟩)

/-! X10_sweep [0, 0] -/
set_option maxRecDepth 100000 in
noncomputable def sz_c833 : sy_Ct := (123, 7, 168, [(3, .inr 0, .inl 0), (0, .inr 0, .inl 0)], ([((-2147483648), 2147483647)], []), [], [], [(2, 1, 3), (4, 2, 2), (5, 0, 32), (6, 2, 2), (7, 0, 240), (8, 0, 3), (9, 0, 3), (10, 4, 14), (10, 16, 18), (11, 0, 6), (12, 0, 9), (13, 0, 4), (14, 0, 8), (15, 0, 5), (16, 0, 3), (17, 0, 3), (18, 0, 3), (19, 0, 3), (20, 0, 8), (21, 0, 4), (22, 4, 14), (22, 16, 18), (23, 0, 6), (24, 0, 9), (25, 0, 4), (26, 0, 8), (27, 0, 5), (28, 0, 3), (29, 0, 3), (30, 0, 3), (31, 0, 3), (32, 0, 8), (33, 0, 4), (34, 4, 14), (34, 16, 18), (35, 0, 6), (36, 0, 9), (37, 0, 4), (38, 0, 8), (39, 0, 5), (40, 0, 3), (41, 0, 3), (42, 0, 3), (43, 0, 3), (44, 0, 8), (45, 0, 4), (46, 4, 14), (46, 16, 18), (47, 0, 6), (48, 0, 9), (49, 0, 4), (50, 0, 8), (51, 0, 5), (52, 0, 3), (53, 0, 3), (54, 0, 3), (55, 0, 3), (56, 0, 8), (57, 0, 4), (171, 1, 3), (173, 2, 2), (174, 0, 32), (175, 2, 2), (176, 0, 240), (177, 0, 3), (178, 0, 3), (179, 4, 14), (179, 16, 18), (180, 0, 6), (181, 0, 9), (182, 0, 4), (183, 0, 8), (184, 0, 5), (185, 0, 3), (186, 0, 3), (187, 0, 3), (188, 0, 3), (189, 0, 8), (190, 0, 4), (191, 4, 14), (191, 16, 18), (192, 0, 6), (193, 0, 9), (194, 0, 4), (195, 0, 8), (196, 0, 5), (197, 0, 3), (198, 0, 3), (199, 0, 3), (200, 0, 3), (201, 0, 8), (202, 0, 4), (203, 4, 14), (203, 16, 18), (204, 0, 6), (205, 0, 9), (206, 0, 4), (207, 0, 8), (208, 0, 5), (209, 0, 3), (210, 0, 3), (211, 0, 3), (212, 0, 3), (213, 0, 8), (214, 0, 4), (215, 4, 14), (215, 16, 18), (216, 0, 6), (217, 0, 9), (218, 0, 4), (219, 0, 8), (220, 0, 5), (221, 0, 3), (222, 0, 3), (223, 0, 3), (224, 0, 3), (225, 0, 8), (226, 0, 4), (241, 0, 1), (243, 0, 999)], [(.inl (some (0, .inr 1, .inl 0)), 0, 0, ([((-2147483648), 2147483647), ((-2147483648), 2147483647)], []), [], []), (.inr 2, 1, 6, ([((-2147483648), 2147483647)], []), [], [])])
set_option maxRecDepth 100000 in
noncomputable def sz_u833 : List sy_Cut := []
set_option maxRecDepth 100000 in
noncomputable def sz_h833_0 : List sy_Hn := [(0, 31, 1, 0, 0, 0, [], [], []),
  (9, 1, 0, 0, 0, 0, [], [], []),
  (7, 20, 0, 0, 0, 0, [], [], []),
  (8, 20, 1, 0, 0, 0, [], [], []),
  (6, 20, 2, 0, 0, 0, [], [], []),
  (0, 31, 0, 0, 0, 0, [], [], []),
  (0, 1, 0, 0, 1, 0, [], [], []),
  (7, 20, 0, 0, 0, 0, [], [], []),
  (8, 20, 1, 0, 0, 0, [], [], []),
  (6, 20, 3, 0, 0, 0, [], [], []),
  (0, 31, 0, 0, 0, 0, [], [], []),
  (0, 1, 0, 0, 2, 0, [], [], []),
  (7, 20, 0, 0, 0, 0, [], [], []),
  (8, 20, 1, 0, 0, 0, [], [], []),
  (6, 20, 4, 0, 0, 0, [], [], []),
  (0, 31, 0, 0, 0, 0, [], [], []),
  (7, 20, 0, 0, 0, 0, [], [], []),
  (8, 20, 1, 0, 0, 0, [], [], []),
  (6, 20, 5, 0, 0, 0, [], [], []),
  (0, 31, 0, 0, 0, 0, [], [], []),
  (0, 31, 1, 0, 0, 0, [], [], [])]
set_option maxRecDepth 100000 in
theorem sz_s833_0 : sy_seg sz_E sz_T sz_RU [sz_c807, sz_c828, sz_c829, sz_c830, sz_c831, sz_c832] sz_c833 sz_u833 ri_m_X10_sweep 133 none sz_h833_0 = true := by decide +kernel
theorem sz_ok833 (xs : Nat → Value) (L : Nat) : sy_Cok (sz_env xs L) sz_T sz_RU sz_c833 := sy_chk_ok (CT := [sz_c807, sz_c828, sz_c829, sz_c830, sz_c831, sz_c832]) (CU := sz_u833) (M := ri_m_X10_sweep) (List.forall_mem_cons.mpr ⟨sz_ok807 xs L, List.forall_mem_cons.mpr ⟨sz_ok828 xs L, List.forall_mem_cons.mpr ⟨sz_ok829 xs L, List.forall_mem_cons.mpr ⟨sz_ok830 xs L, List.forall_mem_cons.mpr ⟨sz_ok831 xs L, List.forall_mem_cons.mpr ⟨sz_ok832 xs L, fun _ h => absurd h List.not_mem_nil⟩⟩⟩⟩⟩⟩) rfl rfl ⟨_, _, sz_s833_0⟩ (fun _ h => absurd h List.not_mem_nil)

/-! X6_wasFound [241, 171] -/
set_option maxRecDepth 100000 in
noncomputable def sz_c834 : sy_Ct := (242, 5, 122, [(3, .inr 241, .inl 0), (3, .inr 171, .inl 0)], ([], []), [], [], [(171, 3, 3), (175, 2, 2), (176, 0, 240), (177, 0, 3), (178, 0, 3), (179, 5, 13), (179, 16, 18), (180, 5, 6), (181, 0, 9), (182, 3, 3), (189, 3, 8), (190, 0, 4), (191, 5, 13), (191, 16, 18), (192, 5, 6), (193, 0, 9), (194, 3, 3), (201, 3, 8), (202, 0, 4), (203, 5, 13), (203, 16, 18), (204, 5, 6), (205, 0, 9), (206, 3, 3), (213, 3, 8), (214, 0, 4), (215, 5, 13), (215, 16, 18), (216, 5, 6), (217, 0, 9), (218, 3, 3), (225, 3, 8), (226, 0, 4)], [(.inl (some (0, .inr 0, .inl 0)), 0, 0, ([(0, 1)], []), [], [])])
set_option maxRecDepth 100000 in
noncomputable def sz_u834 : List sy_Cut := [(2, [(0, (3, .inr 241, .inl 0)), (1, (3, .inr 171, .inl 0)), (2, (0, .inr 0, .inl 0))], ([(0, 400)], []), [], [], [(400000, []), ((-1000), [0]), (500, [])]), (8, [(0, (3, .inr 241, .inl 0)), (1, (3, .inr 171, .inl 0)), (2, (0, .inr 0, .inl 0)), (3, (0, .inr 1, .inl 0))], ([(0, 9), (0, 399)], []), [], [], [(400000, []), ((-1000), [0]), (9, []), ((-1), [1])])]
set_option maxRecDepth 100000 in
noncomputable def sz_h834_0 : List sy_Hn := [(0, 30, 0, 0, 0, 0, [([], [(1, [0])]), ([], [])], [], [])]
set_option maxRecDepth 100000 in
theorem sz_s834_0 : sy_seg sz_E sz_T sz_RU [sz_c538, sz_c813] sz_c834 sz_u834 ri_m_X6_wasFound 9 none sz_h834_0 = true := by decide +kernel
set_option maxRecDepth 100000 in
noncomputable def sz_h834_1 : List sy_Hn := [(0, 31, 0, 0, 0, 0, [], [], []),
  (0, 30, 0, 0, 0, 0, [([0], [(1, [0]), (1000, [2])]), ([], [(1, [0])])], [], [])]
set_option maxRecDepth 100000 in
theorem sz_s834_1 : sy_seg sz_E sz_T sz_RU [sz_c538, sz_c813] sz_c834 sz_u834 ri_m_X6_wasFound 16 (some ((2, [(0, (3, .inr 241, .inl 0)), (1, (3, .inr 171, .inl 0)), (2, (0, .inr 0, .inl 0))], ([(0, 400)], []), [], [], [(400000, []), ((-1000), [0]), (500, [])]))) sz_h834_1 = true := by decide +kernel
set_option maxRecDepth 100000 in
noncomputable def sz_h834_2 : List sy_Hn := [(7, 20, 0, 0, 0, 0, [], [], []),
  (0, 30, 0, 0, 0, 0, [([4], [(1, [0]), (1000, [2])]), ([1], [(1, [0]), (1000, [3]), (1, [2])])], [], []),
  (4, 20, 1, 0, 0, 0, [], [], []),
  (0, 30, 0, 0, 0, 0, [([0, 4], [(1, [0]), (1000, [2]), (1, [4])]), ([], [(1, [0]), (1, [1])])], [], []),
  (0, 31, 0, 0, 0, 0, [], [], [])]
set_option maxRecDepth 100000 in
theorem sz_s834_2 : sy_seg sz_E sz_T sz_RU [sz_c538, sz_c813] sz_c834 sz_u834 ri_m_X6_wasFound 32 (some ((8, [(0, (3, .inr 241, .inl 0)), (1, (3, .inr 171, .inl 0)), (2, (0, .inr 0, .inl 0)), (3, (0, .inr 1, .inl 0))], ([(0, 9), (0, 399)], []), [], [], [(400000, []), ((-1000), [0]), (9, []), ((-1), [1])]))) sz_h834_2 = true := by decide +kernel
theorem sz_ok834 (xs : Nat → Value) (L : Nat) : sy_Cok (sz_env xs L) sz_T sz_RU sz_c834 := sy_chk_ok (CT := [sz_c538, sz_c813]) (CU := sz_u834) (M := ri_m_X6_wasFound) (List.forall_mem_cons.mpr ⟨sz_ok538 xs L, List.forall_mem_cons.mpr ⟨sz_ok813 xs L, fun _ h => absurd h List.not_mem_nil⟩⟩) rfl rfl ⟨_, _, sz_s834_0⟩ (List.forall_mem_cons.mpr ⟨⟨_, _, sz_s834_1⟩, List.forall_mem_cons.mpr ⟨⟨_, _, sz_s834_2⟩, fun _ h => absurd h List.not_mem_nil⟩⟩)

/-! X6_tallyFound [241, 171] -/
set_option maxRecDepth 100000 in
noncomputable def sz_c835 : sy_Ct := (188, 6, 145, [(3, .inr 241, .inl 0), (3, .inr 171, .inl 0)], ([], []), [], [], [(171, 3, 3), (175, 2, 2), (176, 0, 240), (177, 0, 3), (178, 0, 3), (179, 5, 13), (179, 16, 18), (180, 5, 6), (181, 0, 9), (182, 3, 3), (189, 3, 8), (190, 0, 4), (191, 5, 13), (191, 16, 18), (192, 5, 6), (193, 0, 9), (194, 3, 3), (201, 3, 8), (202, 0, 4), (203, 5, 13), (203, 16, 18), (204, 5, 6), (205, 0, 9), (206, 3, 3), (213, 3, 8), (214, 0, 4), (215, 5, 13), (215, 16, 18), (216, 5, 6), (217, 0, 9), (218, 3, 3), (225, 3, 8), (226, 0, 4), (242, 0, 4), (243, 0, 999)], [(.inl none, 0, 0, ([], []), [], [])])
set_option maxRecDepth 100000 in
noncomputable def sz_u835 : List sy_Cut := []
set_option maxRecDepth 100000 in
noncomputable def sz_h835_0 : List sy_Hn := [(35, 20, 1, 0, 0, 0, [], [], []),
  (0, 31, 0, 0, 0, 0, [], [], []),
  (0, 31, 0, 0, 0, 0, [], [], []),
  (7, 20, 0, 0, 0, 0, [], [], []),
  (0, 31, 0, 0, 0, 0, [], [], []),
  (0, 31, 0, 0, 0, 0, [], [], []),
  (19, 20, 1, 0, 0, 0, [], [], []),
  (0, 31, 0, 0, 0, 0, [], [], []),
  (0, 31, 0, 0, 0, 0, [], [], []),
  (7, 20, 0, 0, 0, 0, [], [], []),
  (0, 31, 0, 0, 0, 0, [], [], []),
  (0, 31, 0, 0, 0, 0, [], [], []),
  (0, 31, 0, 0, 0, 0, [], [], [])]
set_option maxRecDepth 100000 in
theorem sz_s835_0 : sy_seg sz_E sz_T sz_RU [sz_c812, sz_c834] sz_c835 sz_u835 ri_m_X6_tallyFound 149 none sz_h835_0 = true := by decide +kernel
theorem sz_ok835 (xs : Nat → Value) (L : Nat) : sy_Cok (sz_env xs L) sz_T sz_RU sz_c835 := sy_chk_ok (CT := [sz_c812, sz_c834]) (CU := sz_u835) (M := ri_m_X6_tallyFound) (List.forall_mem_cons.mpr ⟨sz_ok812 xs L, List.forall_mem_cons.mpr ⟨sz_ok834 xs L, fun _ h => absurd h List.not_mem_nil⟩⟩) rfl rfl ⟨_, _, sz_s835_0⟩ (fun _ h => absurd h List.not_mem_nil)

/-! X10_startAt [0, 0, 1] -/
set_option maxRecDepth 100000 in
noncomputable def sz_c836 : sy_Ct := (120, 4, 82, [(3, .inr 0, .inl 0), (0, .inr 0, .inl 0), (0, .inr 1, .inl 0)], ([((-9999), 2464), (0, 3)], []), [], [], [(2, 1, 3), (4, 2, 2), (5, 0, 32), (6, 2, 2), (7, 0, 240), (10, 4, 14), (10, 16, 18), (11, 0, 6), (12, 0, 9), (13, 0, 4), (14, 0, 8), (15, 0, 5), (16, 0, 3), (17, 0, 3), (18, 0, 3), (19, 0, 3), (20, 0, 8), (21, 0, 4), (22, 4, 14), (22, 16, 18), (23, 0, 6), (24, 0, 9), (25, 0, 4), (26, 0, 8), (27, 0, 5), (28, 0, 3), (29, 0, 3), (30, 0, 3), (31, 0, 3), (32, 0, 8), (33, 0, 4), (34, 4, 14), (34, 16, 18), (35, 0, 6), (36, 0, 9), (37, 0, 4), (38, 0, 8), (39, 0, 5), (40, 0, 3), (41, 0, 3), (42, 0, 3), (43, 0, 3), (44, 0, 8), (45, 0, 4), (46, 4, 14), (46, 16, 18), (47, 0, 6), (48, 0, 9), (49, 0, 4), (50, 0, 8), (51, 0, 5), (52, 0, 3), (53, 0, 3), (54, 0, 3), (55, 0, 3), (56, 0, 8), (57, 0, 4), (171, 1, 3), (173, 2, 2), (174, 0, 32), (175, 2, 2), (176, 0, 240), (179, 4, 14), (179, 16, 18), (180, 0, 6), (181, 0, 9), (182, 0, 4), (183, 0, 8), (184, 0, 5), (185, 0, 3), (186, 0, 3), (187, 0, 3), (188, 0, 3), (189, 0, 8), (190, 0, 4), (191, 4, 14), (191, 16, 18), (192, 0, 6), (193, 0, 9), (194, 0, 4), (195, 0, 8), (196, 0, 5), (197, 0, 3), (198, 0, 3), (199, 0, 3), (200, 0, 3), (201, 0, 8), (202, 0, 4), (203, 4, 14), (203, 16, 18), (204, 0, 6), (205, 0, 9), (206, 0, 4), (207, 0, 8), (208, 0, 5), (209, 0, 3), (210, 0, 3), (211, 0, 3), (212, 0, 3), (213, 0, 8), (214, 0, 4), (215, 4, 14), (215, 16, 18), (216, 0, 6), (217, 0, 9), (218, 0, 4), (219, 0, 8), (220, 0, 5), (221, 0, 3), (222, 0, 3), (223, 0, 3), (224, 0, 3), (225, 0, 8), (226, 0, 4)], [(.inl none, 0, 0, ([((-9999), 2464), (0, 3)], []), [], [])])
set_option maxRecDepth 100000 in
noncomputable def sz_u836 : List sy_Cut := []
set_option maxRecDepth 100000 in
noncomputable def sz_h836_0 : List sy_Hn := [(4, 4, 59, 2, 0, 0, [], [], []),
  (1, 20, 0, 0, 0, 0, [], [], []),
  (4, 1, 0, 0, 0, 0, [], [], []),
  (31, 20, 1, 0, 0, 0, [], [], []),
  (0, 31, 0, 0, 0, 0, [], [], []),
  (11, 20, 1, 0, 0, 0, [], [], []),
  (0, 31, 0, 0, 0, 0, [], [], []),
  (11, 20, 1, 0, 0, 0, [], [], []),
  (0, 31, 0, 0, 0, 0, [], [], []),
  (0, 1, 0, 0, 1, 0, [], [], []),
  (31, 20, 1, 0, 0, 0, [], [], []),
  (0, 31, 0, 0, 0, 0, [], [], []),
  (11, 20, 1, 0, 0, 0, [], [], []),
  (0, 31, 0, 0, 0, 0, [], [], []),
  (11, 20, 1, 0, 0, 0, [], [], []),
  (0, 31, 0, 0, 0, 0, [], [], []),
  (0, 1, 0, 0, 2, 0, [], [], []),
  (31, 20, 1, 0, 0, 0, [], [], []),
  (0, 31, 0, 0, 0, 0, [], [], []),
  (11, 20, 1, 0, 0, 0, [], [], []),
  (0, 31, 0, 0, 0, 0, [], [], []),
  (11, 20, 1, 0, 0, 0, [], [], []),
  (0, 31, 0, 0, 0, 0, [], [], []),
  (31, 20, 1, 0, 0, 0, [], [], []),
  (0, 31, 0, 0, 0, 0, [], [], []),
  (11, 20, 1, 0, 0, 0, [], [], []),
  (0, 31, 0, 0, 0, 0, [], [], []),
  (11, 20, 1, 0, 0, 0, [], [], []),
  (0, 31, 0, 0, 0, 0, [], [], [])]
set_option maxRecDepth 100000 in
theorem sz_s836_0 : sy_seg sz_E sz_T sz_RU [sz_c782, sz_c806] sz_c836 sz_u836 ri_m_X10_startAt 270 none sz_h836_0 = true := by decide +kernel
theorem sz_ok836 (xs : Nat → Value) (L : Nat) : sy_Cok (sz_env xs L) sz_T sz_RU sz_c836 := sy_chk_ok (CT := [sz_c782, sz_c806]) (CU := sz_u836) (M := ri_m_X10_startAt) (List.forall_mem_cons.mpr ⟨sz_ok782 xs L, List.forall_mem_cons.mpr ⟨sz_ok806 xs L, fun _ h => absurd h List.not_mem_nil⟩⟩) rfl rfl ⟨_, _, sz_s836_0⟩ (fun _ h => absurd h List.not_mem_nil)

/-! X10_starts [0, 0, 1] -/
set_option maxRecDepth 100000 in
noncomputable def sz_c837 : sy_Ct := (126, 7, 168, [(3, .inr 0, .inl 0), (0, .inr 0, .inl 0), (0, .inr 1, .inl 0)], ([((-2147483648), 2147483647), ((-2147483648), 2147483647)], []), [], [], [(2, 1, 3), (4, 2, 2), (5, 0, 32), (6, 2, 2), (7, 0, 240), (8, 0, 3), (9, 0, 3), (10, 4, 14), (10, 16, 18), (11, 0, 6), (12, 0, 9), (13, 0, 4), (14, 0, 8), (15, 0, 5), (16, 0, 3), (17, 0, 3), (18, 0, 3), (19, 0, 3), (20, 0, 8), (21, 0, 4), (22, 4, 14), (22, 16, 18), (23, 0, 6), (24, 0, 9), (25, 0, 4), (26, 0, 8), (27, 0, 5), (28, 0, 3), (29, 0, 3), (30, 0, 3), (31, 0, 3), (32, 0, 8), (33, 0, 4), (34, 4, 14), (34, 16, 18), (35, 0, 6), (36, 0, 9), (37, 0, 4), (38, 0, 8), (39, 0, 5), (40, 0, 3), (41, 0, 3), (42, 0, 3), (43, 0, 3), (44, 0, 8), (45, 0, 4), (46, 4, 14), (46, 16, 18), (47, 0, 6), (48, 0, 9), (49, 0, 4), (50, 0, 8), (51, 0, 5), (52, 0, 3), (53, 0, 3), (54, 0, 3), (55, 0, 3), (56, 0, 8), (57, 0, 4), (171, 1, 3), (173, 2, 2), (174, 0, 32), (175, 2, 2), (176, 0, 240), (177, 0, 3), (178, 0, 3), (179, 4, 14), (179, 16, 18), (180, 0, 6), (181, 0, 9), (182, 0, 4), (183, 0, 8), (184, 0, 5), (185, 0, 3), (186, 0, 3), (187, 0, 3), (188, 0, 3), (189, 0, 8), (190, 0, 4), (191, 4, 14), (191, 16, 18), (192, 0, 6), (193, 0, 9), (194, 0, 4), (195, 0, 8), (196, 0, 5), (197, 0, 3), (198, 0, 3), (199, 0, 3), (200, 0, 3), (201, 0, 8), (202, 0, 4), (203, 4, 14), (203, 16, 18), (204, 0, 6), (205, 0, 9), (206, 0, 4), (207, 0, 8), (208, 0, 5), (209, 0, 3), (210, 0, 3), (211, 0, 3), (212, 0, 3), (213, 0, 8), (214, 0, 4), (215, 4, 14), (215, 16, 18), (216, 0, 6), (217, 0, 9), (218, 0, 4), (219, 0, 8), (220, 0, 5), (221, 0, 3), (222, 0, 3), (223, 0, 3), (224, 0, 3), (225, 0, 8), (226, 0, 4), (241, 0, 1), (242, 0, 4), (243, 0, 999)], [(.inl (some (0, .inr 2, .inl 0)), 0, 0, ([((-2147483648), 2147483647), ((-2147483648), 2147483647), ((-2147483648), 2147483647)], []), [], []), (.inr 2, 1, 6, ([((-2147483648), 2147483647), ((-2147483648), 2147483647)], []), [], []), (.inr 3, 1, 6, ([((-2147483648), 2147483647), ((-2147483648), 2147483647)], []), [], [])])
set_option maxRecDepth 100000 in
noncomputable def sz_u837 : List sy_Cut := [(18, [(0, (3, .inr 0, .inl 0)), (1, (0, .inr 0, .inl 0)), (2, (0, .inr 1, .inl 0)), (3, (0, .inr 2, .inl 0))], ([(0, 9), (0, 4), (0, 3)], []), [], [], [(9, []), ((-1), [2])])]
set_option maxRecDepth 100000 in
noncomputable def sz_h837_0 : List sy_Hn := [(0, 31, 1, 0, 0, 0, [], [], []),
  (9, 1, 0, 0, 0, 0, [], [], []),
  (0, 31, 2, 0, 0, 0, [], [], []),
  (0, 30, 0, 0, 0, 0, [([], [(1, [0])]), ([], [])], [], []),
  (0, 31, 2, 0, 0, 0, [], [], []),
  (0, 1, 0, 0, 1, 0, [], [], []),
  (0, 31, 2, 0, 0, 0, [], [], []),
  (0, 30, 0, 0, 0, 0, [([], [(1, [0])]), ([], [])], [], []),
  (0, 31, 2, 0, 0, 0, [], [], []),
  (0, 1, 0, 0, 2, 0, [], [], []),
  (0, 31, 2, 0, 0, 0, [], [], []),
  (0, 30, 0, 0, 0, 0, [([], [(1, [0])]), ([], [])], [], []),
  (0, 31, 2, 0, 0, 0, [], [], []),
  (0, 31, 2, 0, 0, 0, [], [], []),
  (0, 30, 0, 0, 0, 0, [([], [(1, [0])]), ([], [])], [], []),
  (0, 31, 2, 0, 0, 0, [], [], []),
  (0, 31, 1, 0, 0, 0, [], [], [])]
set_option maxRecDepth 100000 in
theorem sz_s837_0 : sy_seg sz_E sz_T sz_RU [sz_c828, sz_c835, sz_c836] sz_c837 sz_u837 ri_m_X10_starts 377 none sz_h837_0 = true := by decide +kernel
set_option maxRecDepth 100000 in
noncomputable def sz_h837_1 : List sy_Hn := [(0, 31, 0, 0, 0, 0, [], [], []),
  (8, 20, 2, 0, 0, 0, [], [], []),
  (8, 20, 0, 0, 0, 0, [], [], []),
  (5, 20, 1, 0, 0, 0, [], [], []),
  (0, 30, 0, 0, 0, 0, [([5], [(1, [0]), (1, [2])]), ([], [(1, [0]), (1, [1])])], [], [])]
set_option maxRecDepth 100000 in
theorem sz_s837_1 : sy_seg sz_E sz_T sz_RU [sz_c828, sz_c835, sz_c836] sz_c837 sz_u837 ri_m_X10_starts 43 (some ((18, [(0, (3, .inr 0, .inl 0)), (1, (0, .inr 0, .inl 0)), (2, (0, .inr 1, .inl 0)), (3, (0, .inr 2, .inl 0))], ([(0, 9), (0, 4), (0, 3)], []), [], [], [(9, []), ((-1), [2])]))) sz_h837_1 = true := by decide +kernel
theorem sz_ok837 (xs : Nat → Value) (L : Nat) : sy_Cok (sz_env xs L) sz_T sz_RU sz_c837 := sy_chk_ok (CT := [sz_c828, sz_c835, sz_c836]) (CU := sz_u837) (M := ri_m_X10_starts) (List.forall_mem_cons.mpr ⟨sz_ok828 xs L, List.forall_mem_cons.mpr ⟨sz_ok835 xs L, List.forall_mem_cons.mpr ⟨sz_ok836 xs L, fun _ h => absurd h List.not_mem_nil⟩⟩⟩) rfl rfl ⟨_, _, sz_s837_0⟩ (List.forall_mem_cons.mpr ⟨⟨_, _, sz_s837_1⟩, fun _ h => absurd h List.not_mem_nil⟩)

/-! X10_hunts [0, 0, 0] -/
set_option maxRecDepth 100000 in
noncomputable def sz_c838 : sy_Ct := (138, 7, 122, [(3, .inr 0, .inl 0), (0, .inl 0, .inl 0), (0, .inr 0, .inl 0)], ([((-2147483648), 2147483647)], []), [], [], [(171, 1, 3), (173, 2, 2), (174, 0, 32), (175, 2, 2), (176, 0, 240), (177, 0, 3), (178, 0, 3), (179, 4, 14), (179, 16, 18), (180, 0, 6), (181, 0, 9), (182, 0, 4), (183, 0, 8), (184, 0, 5), (185, 0, 3), (186, 0, 3), (187, 0, 3), (188, 0, 3), (189, 0, 8), (190, 0, 4), (191, 4, 14), (191, 16, 18), (192, 0, 6), (193, 0, 9), (194, 0, 4), (195, 0, 8), (196, 0, 5), (197, 0, 3), (198, 0, 3), (199, 0, 3), (200, 0, 3), (201, 0, 8), (202, 0, 4), (203, 4, 14), (203, 16, 18), (204, 0, 6), (205, 0, 9), (206, 0, 4), (207, 0, 8), (208, 0, 5), (209, 0, 3), (210, 0, 3), (211, 0, 3), (212, 0, 3), (213, 0, 8), (214, 0, 4), (215, 4, 14), (215, 16, 18), (216, 0, 6), (217, 0, 9), (218, 0, 4), (219, 0, 8), (220, 0, 5), (221, 0, 3), (222, 0, 3), (223, 0, 3), (224, 0, 3), (225, 0, 8), (226, 0, 4)], [(.inl (some (0, .inr 1, .inl 0)), 0, 0, ([((-2147483648), 2147483647), ((-2147483648), 2147483647)], []), [], []), (.inr 0, 1, 6, ([((-2147483648), 2147483647)], []), [], []), (.inr 2, 1, 6, ([((-2147483648), 2147483647)], []), [], [])])
set_option maxRecDepth 100000 in
noncomputable def sz_u838 : List sy_Cut := [(33, [(0, (3, .inr 0, .inl 0)), (1, (0, .inl 0, .inl 0)), (2, (0, .inr 0, .inl 0)), (3, (3, .inr 179, .inl 0)), (4, (0, .inr 1, .inl 0)), (5, (0, .inr 2, .inl 0)), (6, (0, .inr 3, .inl 0))], ([(0, 60), (0, 1), ((-2147483648), 2147483647), (0, 60)], []), [], [], [(60, []), ((-1), [3])])]
set_option maxRecDepth 100000 in
noncomputable def sz_h838_0 : List sy_Hn := [(0, 31, 1, 0, 0, 0, [], [], []),
  (8, 4, 59, 2, 0, 0, [], [], []),
  (1, 20, 1, 0, 0, 0, [], [], []),
  (0, 30, 0, 0, 0, 0, [([], [(1, [0])]), ([], [])], [], []),
  (0, 30, 0, 0, 0, 0, [([], [(1, [0])]), ([], [])], [], []),
  (0, 31, 1, 0, 0, 0, [], [], []),
  (0, 31, 2, 0, 0, 0, [], [], [])]
set_option maxRecDepth 100000 in
theorem sz_s838_0 : sy_seg sz_E sz_T sz_RU [sz_c538, sz_c782] sz_c838 sz_u838 ri_m_X10_hunts 78 none sz_h838_0 = true := by decide +kernel
set_option maxRecDepth 100000 in
noncomputable def sz_h838_1 : List sy_Hn := [(0, 31, 0, 0, 0, 0, [], [], []),
  (3, 20, 0, 0, 0, 0, [], [], []),
  (0, 30, 0, 0, 0, 0, [([8], [(1, [0]), (1, [2])]), ([], [(1, [0]), (1, [1])])], [], []),
  (0, 30, 0, 0, 0, 0, [([9], [(1, [0]), (1, [2])]), ([], [(1, [0]), (1, [1])])], [], []),
  (0, 30, 0, 0, 0, 0, [([8], [(1, [0]), (1, [2])]), ([], [(1, [0]), (1, [1])])], [], []),
  (0, 30, 0, 0, 0, 0, [([9], [(1, [0]), (1, [2])]), ([], [(1, [0]), (1, [1])])], [], [])]
set_option maxRecDepth 100000 in
theorem sz_s838_1 : sy_seg sz_E sz_T sz_RU [sz_c538, sz_c782] sz_c838 sz_u838 ri_m_X10_hunts 64 (some ((33, [(0, (3, .inr 0, .inl 0)), (1, (0, .inl 0, .inl 0)), (2, (0, .inr 0, .inl 0)), (3, (3, .inr 179, .inl 0)), (4, (0, .inr 1, .inl 0)), (5, (0, .inr 2, .inl 0)), (6, (0, .inr 3, .inl 0))], ([(0, 60), (0, 1), ((-2147483648), 2147483647), (0, 60)], []), [], [], [(60, []), ((-1), [3])]))) sz_h838_1 = true := by decide +kernel
theorem sz_ok838 (xs : Nat → Value) (L : Nat) : sy_Cok (sz_env xs L) sz_T sz_RU sz_c838 := sy_chk_ok (CT := [sz_c538, sz_c782]) (CU := sz_u838) (M := ri_m_X10_hunts) (List.forall_mem_cons.mpr ⟨sz_ok538 xs L, List.forall_mem_cons.mpr ⟨sz_ok782 xs L, fun _ h => absurd h List.not_mem_nil⟩⟩) rfl rfl ⟨_, _, sz_s838_0⟩ (List.forall_mem_cons.mpr ⟨⟨_, _, sz_s838_1⟩, fun _ h => absurd h List.not_mem_nil⟩)

/-! X10_hunts [0, 1, 0] -/
set_option maxRecDepth 100000 in
noncomputable def sz_c839 : sy_Ct := (138, 7, 122, [(3, .inr 0, .inl 0), (0, .inl 1, .inl 0), (0, .inr 0, .inl 0)], ([((-2147483648), 2147483647)], []), [], [], [(171, 1, 3), (173, 2, 2), (174, 0, 32), (175, 2, 2), (176, 0, 240), (177, 0, 3), (178, 0, 3), (179, 4, 14), (179, 16, 18), (180, 0, 6), (181, 0, 9), (182, 0, 4), (183, 0, 8), (184, 0, 5), (185, 0, 3), (186, 0, 3), (187, 0, 3), (188, 0, 3), (189, 0, 8), (190, 0, 4), (191, 4, 14), (191, 16, 18), (192, 0, 6), (193, 0, 9), (194, 0, 4), (195, 0, 8), (196, 0, 5), (197, 0, 3), (198, 0, 3), (199, 0, 3), (200, 0, 3), (201, 0, 8), (202, 0, 4), (203, 4, 14), (203, 16, 18), (204, 0, 6), (205, 0, 9), (206, 0, 4), (207, 0, 8), (208, 0, 5), (209, 0, 3), (210, 0, 3), (211, 0, 3), (212, 0, 3), (213, 0, 8), (214, 0, 4), (215, 4, 14), (215, 16, 18), (216, 0, 6), (217, 0, 9), (218, 0, 4), (219, 0, 8), (220, 0, 5), (221, 0, 3), (222, 0, 3), (223, 0, 3), (224, 0, 3), (225, 0, 8), (226, 0, 4)], [(.inl (some (0, .inr 1, .inl 0)), 0, 0, ([((-2147483648), 2147483647), ((-2147483648), 2147483647)], []), [], []), (.inr 0, 1, 6, ([((-2147483648), 2147483647)], []), [], []), (.inr 2, 1, 6, ([((-2147483648), 2147483647)], []), [], [])])
set_option maxRecDepth 100000 in
noncomputable def sz_u839 : List sy_Cut := [(33, [(0, (3, .inr 0, .inl 0)), (1, (0, .inl 1, .inl 0)), (2, (0, .inr 0, .inl 0)), (3, (3, .inr 191, .inl 0)), (4, (0, .inr 1, .inl 0)), (5, (0, .inr 2, .inl 0)), (6, (0, .inr 3, .inl 0))], ([(0, 60), (0, 1), ((-2147483648), 2147483647), (0, 60)], []), [], [], [(60, []), ((-1), [3])])]
set_option maxRecDepth 100000 in
noncomputable def sz_h839_0 : List sy_Hn := [(0, 31, 1, 0, 0, 0, [], [], []),
  (8, 4, 59, 2, 0, 0, [], [], []),
  (1, 20, 1, 0, 0, 0, [], [], []),
  (0, 30, 0, 0, 0, 0, [([], [(1, [0])]), ([], [])], [], []),
  (0, 30, 0, 0, 0, 0, [([], [(1, [0])]), ([], [])], [], []),
  (0, 31, 1, 0, 0, 0, [], [], []),
  (0, 31, 2, 0, 0, 0, [], [], [])]
set_option maxRecDepth 100000 in
theorem sz_s839_0 : sy_seg sz_E sz_T sz_RU [sz_c538, sz_c782] sz_c839 sz_u839 ri_m_X10_hunts 78 none sz_h839_0 = true := by decide +kernel
set_option maxRecDepth 100000 in
noncomputable def sz_h839_1 : List sy_Hn := [(0, 31, 0, 0, 0, 0, [], [], []),
  (3, 20, 0, 0, 0, 0, [], [], []),
  (0, 30, 0, 0, 0, 0, [([8], [(1, [0]), (1, [2])]), ([], [(1, [0]), (1, [1])])], [], []),
  (0, 30, 0, 0, 0, 0, [([9], [(1, [0]), (1, [2])]), ([], [(1, [0]), (1, [1])])], [], []),
  (0, 30, 0, 0, 0, 0, [([8], [(1, [0]), (1, [2])]), ([], [(1, [0]), (1, [1])])], [], []),
  (0, 30, 0, 0, 0, 0, [([9], [(1, [0]), (1, [2])]), ([], [(1, [0]), (1, [1])])], [], [])]
set_option maxRecDepth 100000 in
theorem sz_s839_1 : sy_seg sz_E sz_T sz_RU [sz_c538, sz_c782] sz_c839 sz_u839 ri_m_X10_hunts 64 (some ((33, [(0, (3, .inr 0, .inl 0)), (1, (0, .inl 1, .inl 0)), (2, (0, .inr 0, .inl 0)), (3, (3, .inr 191, .inl 0)), (4, (0, .inr 1, .inl 0)), (5, (0, .inr 2, .inl 0)), (6, (0, .inr 3, .inl 0))], ([(0, 60), (0, 1), ((-2147483648), 2147483647), (0, 60)], []), [], [], [(60, []), ((-1), [3])]))) sz_h839_1 = true := by decide +kernel
theorem sz_ok839 (xs : Nat → Value) (L : Nat) : sy_Cok (sz_env xs L) sz_T sz_RU sz_c839 := sy_chk_ok (CT := [sz_c538, sz_c782]) (CU := sz_u839) (M := ri_m_X10_hunts) (List.forall_mem_cons.mpr ⟨sz_ok538 xs L, List.forall_mem_cons.mpr ⟨sz_ok782 xs L, fun _ h => absurd h List.not_mem_nil⟩⟩) rfl rfl ⟨_, _, sz_s839_0⟩ (List.forall_mem_cons.mpr ⟨⟨_, _, sz_s839_1⟩, fun _ h => absurd h List.not_mem_nil⟩)

/-! X10_hunts [0, 2, 0] -/
set_option maxRecDepth 100000 in
noncomputable def sz_c840 : sy_Ct := (138, 7, 122, [(3, .inr 0, .inl 0), (0, .inl 2, .inl 0), (0, .inr 0, .inl 0)], ([((-2147483648), 2147483647)], []), [], [], [(171, 1, 3), (173, 2, 2), (174, 0, 32), (175, 2, 2), (176, 0, 240), (177, 0, 3), (178, 0, 3), (179, 4, 14), (179, 16, 18), (180, 0, 6), (181, 0, 9), (182, 0, 4), (183, 0, 8), (184, 0, 5), (185, 0, 3), (186, 0, 3), (187, 0, 3), (188, 0, 3), (189, 0, 8), (190, 0, 4), (191, 4, 14), (191, 16, 18), (192, 0, 6), (193, 0, 9), (194, 0, 4), (195, 0, 8), (196, 0, 5), (197, 0, 3), (198, 0, 3), (199, 0, 3), (200, 0, 3), (201, 0, 8), (202, 0, 4), (203, 4, 14), (203, 16, 18), (204, 0, 6), (205, 0, 9), (206, 0, 4), (207, 0, 8), (208, 0, 5), (209, 0, 3), (210, 0, 3), (211, 0, 3), (212, 0, 3), (213, 0, 8), (214, 0, 4), (215, 4, 14), (215, 16, 18), (216, 0, 6), (217, 0, 9), (218, 0, 4), (219, 0, 8), (220, 0, 5), (221, 0, 3), (222, 0, 3), (223, 0, 3), (224, 0, 3), (225, 0, 8), (226, 0, 4)], [(.inl (some (0, .inr 1, .inl 0)), 0, 0, ([((-2147483648), 2147483647), ((-2147483648), 2147483647)], []), [], []), (.inr 0, 1, 6, ([((-2147483648), 2147483647)], []), [], []), (.inr 2, 1, 6, ([((-2147483648), 2147483647)], []), [], [])])
set_option maxRecDepth 100000 in
noncomputable def sz_u840 : List sy_Cut := [(33, [(0, (3, .inr 0, .inl 0)), (1, (0, .inl 2, .inl 0)), (2, (0, .inr 0, .inl 0)), (3, (3, .inr 203, .inl 0)), (4, (0, .inr 1, .inl 0)), (5, (0, .inr 2, .inl 0)), (6, (0, .inr 3, .inl 0))], ([(0, 60), (0, 1), ((-2147483648), 2147483647), (0, 60)], []), [], [], [(60, []), ((-1), [3])])]
set_option maxRecDepth 100000 in
noncomputable def sz_h840_0 : List sy_Hn := [(0, 31, 1, 0, 0, 0, [], [], []),
  (8, 4, 59, 2, 0, 0, [], [], []),
  (1, 20, 1, 0, 0, 0, [], [], []),
  (0, 30, 0, 0, 0, 0, [([], [(1, [0])]), ([], [])], [], []),
  (0, 30, 0, 0, 0, 0, [([], [(1, [0])]), ([], [])], [], []),
  (0, 31, 1, 0, 0, 0, [], [], []),
  (0, 31, 2, 0, 0, 0, [], [], [])]
set_option maxRecDepth 100000 in
theorem sz_s840_0 : sy_seg sz_E sz_T sz_RU [sz_c538, sz_c782] sz_c840 sz_u840 ri_m_X10_hunts 78 none sz_h840_0 = true := by decide +kernel
set_option maxRecDepth 100000 in
noncomputable def sz_h840_1 : List sy_Hn := [(0, 31, 0, 0, 0, 0, [], [], []),
  (3, 20, 0, 0, 0, 0, [], [], []),
  (0, 30, 0, 0, 0, 0, [([8], [(1, [0]), (1, [2])]), ([], [(1, [0]), (1, [1])])], [], []),
  (0, 30, 0, 0, 0, 0, [([9], [(1, [0]), (1, [2])]), ([], [(1, [0]), (1, [1])])], [], []),
  (0, 30, 0, 0, 0, 0, [([8], [(1, [0]), (1, [2])]), ([], [(1, [0]), (1, [1])])], [], []),
  (0, 30, 0, 0, 0, 0, [([9], [(1, [0]), (1, [2])]), ([], [(1, [0]), (1, [1])])], [], [])]
set_option maxRecDepth 100000 in
theorem sz_s840_1 : sy_seg sz_E sz_T sz_RU [sz_c538, sz_c782] sz_c840 sz_u840 ri_m_X10_hunts 64 (some ((33, [(0, (3, .inr 0, .inl 0)), (1, (0, .inl 2, .inl 0)), (2, (0, .inr 0, .inl 0)), (3, (3, .inr 203, .inl 0)), (4, (0, .inr 1, .inl 0)), (5, (0, .inr 2, .inl 0)), (6, (0, .inr 3, .inl 0))], ([(0, 60), (0, 1), ((-2147483648), 2147483647), (0, 60)], []), [], [], [(60, []), ((-1), [3])]))) sz_h840_1 = true := by decide +kernel
theorem sz_ok840 (xs : Nat → Value) (L : Nat) : sy_Cok (sz_env xs L) sz_T sz_RU sz_c840 := sy_chk_ok (CT := [sz_c538, sz_c782]) (CU := sz_u840) (M := ri_m_X10_hunts) (List.forall_mem_cons.mpr ⟨sz_ok538 xs L, List.forall_mem_cons.mpr ⟨sz_ok782 xs L, fun _ h => absurd h List.not_mem_nil⟩⟩) rfl rfl ⟨_, _, sz_s840_0⟩ (List.forall_mem_cons.mpr ⟨⟨_, _, sz_s840_1⟩, fun _ h => absurd h List.not_mem_nil⟩)

/-! X10_hunts [0, 3, 0] -/
set_option maxRecDepth 100000 in
noncomputable def sz_c841 : sy_Ct := (138, 7, 122, [(3, .inr 0, .inl 0), (0, .inl 3, .inl 0), (0, .inr 0, .inl 0)], ([((-2147483648), 2147483647)], []), [], [], [(171, 1, 3), (173, 2, 2), (174, 0, 32), (175, 2, 2), (176, 0, 240), (177, 0, 3), (178, 0, 3), (179, 4, 14), (179, 16, 18), (180, 0, 6), (181, 0, 9), (182, 0, 4), (183, 0, 8), (184, 0, 5), (185, 0, 3), (186, 0, 3), (187, 0, 3), (188, 0, 3), (189, 0, 8), (190, 0, 4), (191, 4, 14), (191, 16, 18), (192, 0, 6), (193, 0, 9), (194, 0, 4), (195, 0, 8), (196, 0, 5), (197, 0, 3), (198, 0, 3), (199, 0, 3), (200, 0, 3), (201, 0, 8), (202, 0, 4), (203, 4, 14), (203, 16, 18), (204, 0, 6), (205, 0, 9), (206, 0, 4), (207, 0, 8), (208, 0, 5), (209, 0, 3), (210, 0, 3), (211, 0, 3), (212, 0, 3), (213, 0, 8), (214, 0, 4), (215, 4, 14), (215, 16, 18), (216, 0, 6), (217, 0, 9), (218, 0, 4), (219, 0, 8), (220, 0, 5), (221, 0, 3), (222, 0, 3), (223, 0, 3), (224, 0, 3), (225, 0, 8), (226, 0, 4)], [(.inl (some (0, .inr 1, .inl 0)), 0, 0, ([((-2147483648), 2147483647), ((-2147483648), 2147483647)], []), [], []), (.inr 0, 1, 6, ([((-2147483648), 2147483647)], []), [], []), (.inr 2, 1, 6, ([((-2147483648), 2147483647)], []), [], [])])
set_option maxRecDepth 100000 in
noncomputable def sz_u841 : List sy_Cut := [(33, [(0, (3, .inr 0, .inl 0)), (1, (0, .inl 3, .inl 0)), (2, (0, .inr 0, .inl 0)), (3, (3, .inr 215, .inl 0)), (4, (0, .inr 1, .inl 0)), (5, (0, .inr 2, .inl 0)), (6, (0, .inr 3, .inl 0))], ([(0, 60), (0, 1), ((-2147483648), 2147483647), (0, 60)], []), [], [], [(60, []), ((-1), [3])])]
set_option maxRecDepth 100000 in
noncomputable def sz_h841_0 : List sy_Hn := [(0, 31, 1, 0, 0, 0, [], [], []),
  (8, 4, 59, 2, 0, 0, [], [], []),
  (1, 20, 1, 0, 0, 0, [], [], []),
  (0, 30, 0, 0, 0, 0, [([], [(1, [0])]), ([], [])], [], []),
  (0, 30, 0, 0, 0, 0, [([], [(1, [0])]), ([], [])], [], []),
  (0, 31, 1, 0, 0, 0, [], [], []),
  (0, 31, 2, 0, 0, 0, [], [], [])]
set_option maxRecDepth 100000 in
theorem sz_s841_0 : sy_seg sz_E sz_T sz_RU [sz_c538, sz_c782] sz_c841 sz_u841 ri_m_X10_hunts 78 none sz_h841_0 = true := by decide +kernel
set_option maxRecDepth 100000 in
noncomputable def sz_h841_1 : List sy_Hn := [(0, 31, 0, 0, 0, 0, [], [], []),
  (3, 20, 0, 0, 0, 0, [], [], []),
  (0, 30, 0, 0, 0, 0, [([8], [(1, [0]), (1, [2])]), ([], [(1, [0]), (1, [1])])], [], []),
  (0, 30, 0, 0, 0, 0, [([9], [(1, [0]), (1, [2])]), ([], [(1, [0]), (1, [1])])], [], []),
  (0, 30, 0, 0, 0, 0, [([8], [(1, [0]), (1, [2])]), ([], [(1, [0]), (1, [1])])], [], []),
  (0, 30, 0, 0, 0, 0, [([9], [(1, [0]), (1, [2])]), ([], [(1, [0]), (1, [1])])], [], [])]
set_option maxRecDepth 100000 in
theorem sz_s841_1 : sy_seg sz_E sz_T sz_RU [sz_c538, sz_c782] sz_c841 sz_u841 ri_m_X10_hunts 64 (some ((33, [(0, (3, .inr 0, .inl 0)), (1, (0, .inl 3, .inl 0)), (2, (0, .inr 0, .inl 0)), (3, (3, .inr 215, .inl 0)), (4, (0, .inr 1, .inl 0)), (5, (0, .inr 2, .inl 0)), (6, (0, .inr 3, .inl 0))], ([(0, 60), (0, 1), ((-2147483648), 2147483647), (0, 60)], []), [], [], [(60, []), ((-1), [3])]))) sz_h841_1 = true := by decide +kernel
theorem sz_ok841 (xs : Nat → Value) (L : Nat) : sy_Cok (sz_env xs L) sz_T sz_RU sz_c841 := sy_chk_ok (CT := [sz_c538, sz_c782]) (CU := sz_u841) (M := ri_m_X10_hunts) (List.forall_mem_cons.mpr ⟨sz_ok538 xs L, List.forall_mem_cons.mpr ⟨sz_ok782 xs L, fun _ h => absurd h List.not_mem_nil⟩⟩) rfl rfl ⟨_, _, sz_s841_0⟩ (List.forall_mem_cons.mpr ⟨⟨_, _, sz_s841_1⟩, fun _ h => absurd h List.not_mem_nil⟩)

/-! X7_copyFrom [4, 61] -/
set_option maxRecDepth 100000 in
noncomputable def sz_c842 : sy_Ct := (202, 1, 18, [(3, .inr 4, .inl 0), (3, .inr 61, .inl 0)], ([], []), [], [], [(4, 2, 2), (5, 0, 32)], [(.inl none, 0, 0, ([], []), [], [])])
set_option maxRecDepth 100000 in
noncomputable def sz_u842 : List sy_Cut := []
set_option maxRecDepth 100000 in
noncomputable def sz_h842_0 : List sy_Hn := [(0, 4, 61, 2, 0, 0, [], [], []),
  (0, 1, 0, 0, 0, 0, [], [], []),
  (0, 31, 0, 0, 0, 0, [], [], []),
  (0, 1, 0, 0, 1, 0, [], [], []),
  (0, 31, 0, 0, 0, 0, [], [], []),
  (0, 1, 0, 0, 2, 0, [], [], []),
  (0, 31, 0, 0, 0, 0, [], [], []),
  (0, 1, 0, 0, 3, 0, [], [], []),
  (0, 31, 0, 0, 0, 0, [], [], []),
  (0, 1, 0, 0, 4, 0, [], [], []),
  (0, 31, 0, 0, 0, 0, [], [], []),
  (0, 1, 0, 0, 5, 0, [], [], []),
  (0, 31, 0, 0, 0, 0, [], [], []),
  (0, 1, 0, 0, 6, 0, [], [], []),
  (0, 31, 0, 0, 0, 0, [], [], []),
  (0, 1, 0, 0, 7, 0, [], [], []),
  (0, 31, 0, 0, 0, 0, [], [], []),
  (0, 31, 0, 0, 0, 0, [], [], [])]
set_option maxRecDepth 100000 in
theorem sz_s842_0 : sy_seg sz_E sz_T sz_RU [] sz_c842 sz_u842 ri_m_X7_copyFrom 168 none sz_h842_0 = true := by decide +kernel
theorem sz_ok842 (xs : Nat → Value) (L : Nat) : sy_Cok (sz_env xs L) sz_T sz_RU sz_c842 := sy_chk_ok (CT := []) (CU := sz_u842) (M := ri_m_X7_copyFrom) (fun _ h => absurd h List.not_mem_nil) rfl rfl ⟨_, _, sz_s842_0⟩ (fun _ h => absurd h List.not_mem_nil)

/-! X7_copyFrom [6, 63] -/
set_option maxRecDepth 100000 in
noncomputable def sz_c843 : sy_Ct := (202, 1, 18, [(3, .inr 6, .inl 0), (3, .inr 63, .inl 0)], ([], []), [], [], [(6, 2, 2), (7, 0, 240)], [(.inl none, 0, 0, ([], []), [], [])])
set_option maxRecDepth 100000 in
noncomputable def sz_u843 : List sy_Cut := []
set_option maxRecDepth 100000 in
noncomputable def sz_h843_0 : List sy_Hn := [(0, 31, 0, 0, 0, 0, [], [], [])]
set_option maxRecDepth 100000 in
theorem sz_s843_0 : sy_seg sz_E sz_T sz_RU [] sz_c843 sz_u843 ri_m_X7_copyFrom 22 none sz_h843_0 = true := by decide +kernel
theorem sz_ok843 (xs : Nat → Value) (L : Nat) : sy_Cok (sz_env xs L) sz_T sz_RU sz_c843 := sy_chk_ok (CT := []) (CU := sz_u843) (M := ri_m_X7_copyFrom) (fun _ h => absurd h List.not_mem_nil) rfl rfl ⟨_, _, sz_s843_0⟩ (fun _ h => absurd h List.not_mem_nil)

/-! X2_copyFrom [10, 67] -/
set_option maxRecDepth 100000 in
noncomputable def sz_c844 : sy_Ct := (201, 2, 39, [(3, .inr 10, .inl 0), (3, .inr 67, .inl 0)], ([(1, 3)], []), [((72, 5), (0, .inr 0, .inl 0))], [489, 490, 491, 492], [(10, 4, 14), (10, 16, 18), (11, 0, 6), (12, 0, 9), (13, 0, 4), (14, 0, 8), (15, 0, 5), (16, 0, 3), (17, 0, 3), (18, 0, 3), (19, 0, 3), (20, 0, 8), (21, 0, 4)], [(.inl none, 0, 0, ([(1, 3), (1, 3)], []), [((15, 5), (0, .inr 1, .inl 0))], [489, 490, 491, 492])])
set_option maxRecDepth 100000 in
noncomputable def sz_u844 : List sy_Cut := []
set_option maxRecDepth 100000 in
noncomputable def sz_h844_0 : List sy_Hn := [(244, 9, 373, 469, 0, 0, [], [], []),
  (0, 9, 374, 470, 0, 0, [], [], []),
  (0, 9, 375, 471, 0, 0, [], [], []),
  (0, 9, 376, 472, 0, 0, [], [], []),
  (0, 9, 377, 473, 0, 0, [], [], []),
  (0, 31, 0, 0, 0, 0, [], [], [])]
set_option maxRecDepth 100000 in
theorem sz_s844_0 : sy_seg sz_E sz_T sz_RU [] sz_c844 sz_u844 ri_m_X2_copyFrom 256 none sz_h844_0 = true := by decide +kernel
theorem sz_ok844 (xs : Nat → Value) (L : Nat) : sy_Cok (sz_env xs L) sz_T sz_RU sz_c844 := sy_chk_ok (CT := []) (CU := sz_u844) (M := ri_m_X2_copyFrom) (fun _ h => absurd h List.not_mem_nil) rfl rfl ⟨_, _, sz_s844_0⟩ (fun _ h => absurd h List.not_mem_nil)

/-! X2_copyFrom [22, 79] -/
set_option maxRecDepth 100000 in
noncomputable def sz_c845 : sy_Ct := (201, 2, 39, [(3, .inr 22, .inl 0), (3, .inr 79, .inl 0)], ([(1, 3)], []), [((84, 5), (0, .inr 0, .inl 0))], [489, 490, 491, 492], [(22, 4, 14), (22, 16, 18), (23, 0, 6), (24, 0, 9), (25, 0, 4), (26, 0, 8), (27, 0, 5), (28, 0, 3), (29, 0, 3), (30, 0, 3), (31, 0, 3), (32, 0, 8), (33, 0, 4)], [(.inl none, 0, 0, ([(1, 3), (1, 3)], []), [((27, 5), (0, .inr 1, .inl 0))], [489, 490, 491, 492])])
set_option maxRecDepth 100000 in
noncomputable def sz_u845 : List sy_Cut := []
set_option maxRecDepth 100000 in
noncomputable def sz_h845_0 : List sy_Hn := [(244, 9, 378, 474, 0, 0, [], [], []),
  (0, 9, 379, 475, 0, 0, [], [], []),
  (0, 9, 380, 476, 0, 0, [], [], []),
  (0, 9, 381, 477, 0, 0, [], [], []),
  (0, 9, 382, 478, 0, 0, [], [], []),
  (0, 31, 0, 0, 0, 0, [], [], [])]
set_option maxRecDepth 100000 in
theorem sz_s845_0 : sy_seg sz_E sz_T sz_RU [] sz_c845 sz_u845 ri_m_X2_copyFrom 256 none sz_h845_0 = true := by decide +kernel
theorem sz_ok845 (xs : Nat → Value) (L : Nat) : sy_Cok (sz_env xs L) sz_T sz_RU sz_c845 := sy_chk_ok (CT := []) (CU := sz_u845) (M := ri_m_X2_copyFrom) (fun _ h => absurd h List.not_mem_nil) rfl rfl ⟨_, _, sz_s845_0⟩ (fun _ h => absurd h List.not_mem_nil)

/-! X2_copyFrom [34, 91] -/
set_option maxRecDepth 100000 in
noncomputable def sz_c846 : sy_Ct := (201, 2, 39, [(3, .inr 34, .inl 0), (3, .inr 91, .inl 0)], ([(1, 3)], []), [((96, 5), (0, .inr 0, .inl 0))], [489, 490, 491, 492], [(34, 4, 14), (34, 16, 18), (35, 0, 6), (36, 0, 9), (37, 0, 4), (38, 0, 8), (39, 0, 5), (40, 0, 3), (41, 0, 3), (42, 0, 3), (43, 0, 3), (44, 0, 8), (45, 0, 4)], [(.inl none, 0, 0, ([(1, 3), (1, 3)], []), [((39, 5), (0, .inr 1, .inl 0))], [489, 490, 491, 492])])
set_option maxRecDepth 100000 in
noncomputable def sz_u846 : List sy_Cut := []
set_option maxRecDepth 100000 in
noncomputable def sz_h846_0 : List sy_Hn := [(244, 9, 383, 479, 0, 0, [], [], []),
  (0, 9, 384, 480, 0, 0, [], [], []),
  (0, 9, 385, 481, 0, 0, [], [], []),
  (0, 9, 386, 482, 0, 0, [], [], []),
  (0, 9, 387, 483, 0, 0, [], [], []),
  (0, 31, 0, 0, 0, 0, [], [], [])]
set_option maxRecDepth 100000 in
theorem sz_s846_0 : sy_seg sz_E sz_T sz_RU [] sz_c846 sz_u846 ri_m_X2_copyFrom 256 none sz_h846_0 = true := by decide +kernel
theorem sz_ok846 (xs : Nat → Value) (L : Nat) : sy_Cok (sz_env xs L) sz_T sz_RU sz_c846 := sy_chk_ok (CT := []) (CU := sz_u846) (M := ri_m_X2_copyFrom) (fun _ h => absurd h List.not_mem_nil) rfl rfl ⟨_, _, sz_s846_0⟩ (fun _ h => absurd h List.not_mem_nil)

/-! X2_copyFrom [46, 103] -/
set_option maxRecDepth 100000 in
noncomputable def sz_c847 : sy_Ct := (201, 2, 39, [(3, .inr 46, .inl 0), (3, .inr 103, .inl 0)], ([(1, 3)], []), [((108, 5), (0, .inr 0, .inl 0))], [489, 490, 491, 492], [(46, 4, 14), (46, 16, 18), (47, 0, 6), (48, 0, 9), (49, 0, 4), (50, 0, 8), (51, 0, 5), (52, 0, 3), (53, 0, 3), (54, 0, 3), (55, 0, 3), (56, 0, 8), (57, 0, 4)], [(.inl none, 0, 0, ([(1, 3), (1, 3)], []), [((51, 5), (0, .inr 1, .inl 0))], [489, 490, 491, 492])])
set_option maxRecDepth 100000 in
noncomputable def sz_u847 : List sy_Cut := []
set_option maxRecDepth 100000 in
noncomputable def sz_h847_0 : List sy_Hn := [(244, 9, 388, 484, 0, 0, [], [], []),
  (0, 9, 389, 485, 0, 0, [], [], []),
  (0, 9, 390, 486, 0, 0, [], [], []),
  (0, 9, 391, 487, 0, 0, [], [], []),
  (0, 9, 392, 488, 0, 0, [], [], []),
  (0, 31, 0, 0, 0, 0, [], [], [])]
set_option maxRecDepth 100000 in
theorem sz_s847_0 : sy_seg sz_E sz_T sz_RU [] sz_c847 sz_u847 ri_m_X2_copyFrom 256 none sz_h847_0 = true := by decide +kernel
theorem sz_ok847 (xs : Nat → Value) (L : Nat) : sy_Cok (sz_env xs L) sz_T sz_RU sz_c847 := sy_chk_ok (CT := []) (CU := sz_u847) (M := ri_m_X2_copyFrom) (fun _ h => absurd h List.not_mem_nil) rfl rfl ⟨_, _, sz_s847_0⟩ (fun _ h => absurd h List.not_mem_nil)

/-! X0_copyFrom [2, 59] -/
set_option maxRecDepth 100000 in
noncomputable def sz_c848 : sy_Ct := (147, 3, 60, [(3, .inr 2, .inl 0), (3, .inr 59, .inl 0)], ([(0, 12)], []), [((59, 2), (0, .inr 0, .inl 0))], [], [(2, 1, 3), (4, 2, 2), (5, 0, 32), (6, 2, 2), (7, 0, 240), (10, 4, 14), (10, 16, 18), (11, 0, 6), (12, 0, 9), (13, 0, 4), (14, 0, 8), (15, 0, 5), (16, 0, 3), (17, 0, 3), (18, 0, 3), (19, 0, 3), (20, 0, 8), (21, 0, 4), (22, 4, 14), (22, 16, 18), (23, 0, 6), (24, 0, 9), (25, 0, 4), (26, 0, 8), (27, 0, 5), (28, 0, 3), (29, 0, 3), (30, 0, 3), (31, 0, 3), (32, 0, 8), (33, 0, 4), (34, 4, 14), (34, 16, 18), (35, 0, 6), (36, 0, 9), (37, 0, 4), (38, 0, 8), (39, 0, 5), (40, 0, 3), (41, 0, 3), (42, 0, 3), (43, 0, 3), (44, 0, 8), (45, 0, 4), (46, 4, 14), (46, 16, 18), (47, 0, 6), (48, 0, 9), (49, 0, 4), (50, 0, 8), (51, 0, 5), (52, 0, 3), (53, 0, 3), (54, 0, 3), (55, 0, 3), (56, 0, 8), (57, 0, 4)], [(.inl none, 0, 0, ([(0, 12), (0, 12)], [[((-1), [1]), (1, [0])], [(1, [1]), ((-1), [0])]]), [((2, 2), (0, .inr 1, .inl 0))], [])])
set_option maxRecDepth 100000 in
noncomputable def sz_u848 : List sy_Cut := []
set_option maxRecDepth 100000 in
noncomputable def sz_h848_0 : List sy_Hn := [(22, 4, 15, 5, 0, 0, [], [], []),
  (0, 6, 489, 0, 0, 0, [([1], [(1, [0]), (1, [2])])], [], [0]),
  (0, 4, 27, 5, 0, 0, [], [], []),
  (0, 6, 490, 0, 0, 0, [([1], [(1, [0]), (1, [2])])], [], [0]),
  (0, 4, 39, 5, 0, 0, [], [], []),
  (0, 6, 491, 0, 0, 0, [([1], [(1, [0]), (1, [2])])], [], [0]),
  (0, 4, 51, 5, 0, 0, [], [], []),
  (0, 6, 492, 0, 0, 0, [([1], [(1, [0]), (1, [2])])], [], [0]),
  (1, 20, 0, 0, 0, 0, [], [], []),
  (5, 20, 1, 0, 0, 0, [], [], []),
  (0, 31, 0, 0, 0, 0, [([], [(1, [0])]), ([], [(1, [0])])], [], []),
  (8, 4, 72, 5, 0, 0, [], [], []),
  (0, 5, 393, 0, 0, 0, [], [], []),
  (0, 7, 0, 0, 0, 0, [([1], [(1, [2]), (1, [0])])], [], []),
  (0, 3, 3, 0, 1, 3, [([], [(1, [0]), (1, [1])]), ([3], [(1, [0]), (1, [2])])], [], []),
  (1, 20, 2, 0, 0, 0, [], [], []),
  (10, 6, 489, 0, 0, 0, [([4], [(1, [0]), (1, [1])])], [], [1]),
  (0, 4, 27, 5, 0, 0, [], [], []),
  (0, 6, 490, 0, 0, 0, [([1], [(1, [0]), (1, [2])])], [], [0]),
  (0, 4, 39, 5, 0, 0, [], [], []),
  (0, 6, 491, 0, 0, 0, [([1], [(1, [0]), (1, [2])])], [], [0]),
  (0, 4, 51, 5, 0, 0, [], [], []),
  (0, 6, 492, 0, 0, 0, [([1], [(1, [0]), (1, [2])])], [], [0]),
  (1, 20, 0, 0, 0, 0, [], [], []),
  (5, 20, 1, 0, 0, 0, [], [], []),
  (0, 31, 0, 0, 0, 0, [([], [(1, [0])]), ([], [(1, [0])])], [], []),
  (8, 4, 84, 5, 0, 0, [], [], []),
  (0, 5, 394, 0, 0, 0, [], [], []),
  (0, 7, 0, 0, 0, 0, [([1], [(1, [2]), (1, [0])])], [], []),
  (0, 3, 5, 0, 1, 3, [([], [(1, [0]), (1, [1])]), ([5], [(1, [0]), (1, [2])])], [], []),
  (1, 20, 3, 0, 0, 0, [], [], []),
  (10, 6, 489, 0, 0, 0, [([4], [(1, [0]), (1, [1])])], [], [1]),
  (0, 6, 490, 0, 0, 0, [([6], [(1, [0]), (1, [1])])], [], [1]),
  (0, 4, 39, 5, 0, 0, [], [], []),
  (0, 6, 491, 0, 0, 0, [([1], [(1, [0]), (1, [2])])], [], [0]),
  (0, 4, 51, 5, 0, 0, [], [], []),
  (0, 6, 492, 0, 0, 0, [([1], [(1, [0]), (1, [2])])], [], [0]),
  (1, 20, 0, 0, 0, 0, [], [], []),
  (5, 20, 1, 0, 0, 0, [], [], []),
  (0, 31, 0, 0, 0, 0, [([], [(1, [0])]), ([], [(1, [0])])], [], []),
  (8, 4, 96, 5, 0, 0, [], [], []),
  (0, 5, 395, 0, 0, 0, [], [], []),
  (0, 7, 0, 0, 0, 0, [([1], [(1, [2]), (1, [0])])], [], []),
  (0, 3, 7, 0, 1, 3, [([], [(1, [0]), (1, [1])]), ([7], [(1, [0]), (1, [2])])], [], []),
  (1, 20, 4, 0, 0, 0, [], [], []),
  (10, 6, 489, 0, 0, 0, [([4], [(1, [0]), (1, [1])])], [], [1]),
  (0, 6, 490, 0, 0, 0, [([6], [(1, [0]), (1, [1])])], [], [1]),
  (0, 6, 491, 0, 0, 0, [([8], [(1, [0]), (1, [1])])], [], [1]),
  (0, 4, 51, 5, 0, 0, [], [], []),
  (0, 6, 492, 0, 0, 0, [([1], [(1, [0]), (1, [2])])], [], [0]),
  (1, 20, 0, 0, 0, 0, [], [], []),
  (5, 20, 1, 0, 0, 0, [], [], []),
  (0, 31, 0, 0, 0, 0, [([], [(1, [0])]), ([], [(1, [0])])], [], []),
  (8, 4, 108, 5, 0, 0, [], [], []),
  (0, 5, 396, 0, 0, 0, [], [], []),
  (0, 7, 0, 0, 0, 0, [([1], [(1, [2]), (1, [0])])], [], []),
  (0, 3, 9, 0, 1, 3, [([], [(1, [0]), (1, [1])]), ([9], [(1, [0]), (1, [2])])], [], []),
  (1, 20, 5, 0, 0, 0, [], [], []),
  (10, 6, 489, 0, 0, 0, [([4], [(1, [0]), (1, [1])])], [], [1]),
  (0, 6, 490, 0, 0, 0, [([6], [(1, [0]), (1, [1])])], [], [1]),
  (0, 6, 491, 0, 0, 0, [([8], [(1, [0]), (1, [1])])], [], [1]),
  (0, 6, 492, 0, 0, 0, [([10], [(1, [0]), (1, [1])])], [], [1]),
  (1, 20, 0, 0, 0, 0, [], [], []),
  (5, 20, 1, 0, 0, 0, [], [], []),
  (0, 31, 0, 0, 0, 0, [([], [(1, [0])]), ([], [(1, [0])])], [], [])]
set_option maxRecDepth 100000 in
theorem sz_s848_0 : sy_seg sz_E sz_T sz_RU [sz_c842, sz_c843, sz_c844, sz_c845, sz_c846, sz_c847] sz_c848 sz_u848 ri_m_X0_copyFrom 211 none sz_h848_0 = true := by decide +kernel
theorem sz_ok848 (xs : Nat → Value) (L : Nat) : sy_Cok (sz_env xs L) sz_T sz_RU sz_c848 := sy_chk_ok (CT := [sz_c842, sz_c843, sz_c844, sz_c845, sz_c846, sz_c847]) (CU := sz_u848) (M := ri_m_X0_copyFrom) (List.forall_mem_cons.mpr ⟨sz_ok842 xs L, List.forall_mem_cons.mpr ⟨sz_ok843 xs L, List.forall_mem_cons.mpr ⟨sz_ok844 xs L, List.forall_mem_cons.mpr ⟨sz_ok845 xs L, List.forall_mem_cons.mpr ⟨sz_ok846 xs L, List.forall_mem_cons.mpr ⟨sz_ok847 xs L, fun _ h => absurd h List.not_mem_nil⟩⟩⟩⟩⟩⟩) rfl rfl ⟨_, _, sz_s848_0⟩ (fun _ h => absurd h List.not_mem_nil)

/-! X4_skipBlanks [1] -/
set_option maxRecDepth 100000 in
noncomputable def sz_c849 : sy_Ct := (207, 0, 0, [(3, .inr 1, .inl 0)], ([], []), [((1, 4), (0, .inl 0, .inl 0))], [], [(1, 4, 4)], [(.inl none, 0, 0, ([(0, 400)], []), [((1, 4), (0, .inr 0, .inl 0))], [])])
set_option maxRecDepth 100000 in
noncomputable def sz_u849 : List sy_Cut := [(0, [(0, (3, .inr 1, .inl 0))], ([(0, 400)], []), [((1, 4), (0, .inr 0, .inl 0))], [], [(400, []), ((-1), [0])])]
set_option maxRecDepth 100000 in
noncomputable def sz_h849_0 : List sy_Hn := [(0, 30, 0, 0, 0, 0, [([], [(1, [0])]), ([], [])], [], [])]
set_option maxRecDepth 100000 in
theorem sz_s849_0 : sy_seg sz_E sz_T sz_RU [] sz_c849 sz_u849 ri_m_X4_skipBlanks 7 none sz_h849_0 = true := by decide +kernel
set_option maxRecDepth 100000 in
noncomputable def sz_h849_1 : List sy_Hn := [(0, 31, 0, 0, 0, 0, [], [], []),
  (0, 31, 0, 0, 0, 0, [], [], []),
  (0, 30, 0, 0, 0, 0, [([3], [(1, [0]), (1, [2])]), ([], [(1, [0]), (1, [1])])], [], [])]
set_option maxRecDepth 100000 in
theorem sz_s849_1 : sy_seg sz_E sz_T sz_RU [] sz_c849 sz_u849 ri_m_X4_skipBlanks 30 (some ((0, [(0, (3, .inr 1, .inl 0))], ([(0, 400)], []), [((1, 4), (0, .inr 0, .inl 0))], [], [(400, []), ((-1), [0])]))) sz_h849_1 = true := by decide +kernel
theorem sz_ok849 (xs : Nat → Value) (L : Nat) : sy_Cok (sz_env xs L) sz_T sz_RU sz_c849 := sy_chk_ok (CT := []) (CU := sz_u849) (M := ri_m_X4_skipBlanks) (fun _ h => absurd h List.not_mem_nil) rfl rfl ⟨_, _, sz_s849_0⟩ (List.forall_mem_cons.mpr ⟨⟨_, _, sz_s849_1⟩, fun _ h => absurd h List.not_mem_nil⟩)

/-! X4_skipBlanks [1] -/
set_option maxRecDepth 100000 in
noncomputable def sz_c850 : sy_Ct := (207, 0, 0, [(3, .inr 1, .inl 0)], ([(0, 400)], []), [((1, 4), (0, .inr 0, .inl 0))], [], [(1, 4, 4)], [(.inl none, 0, 0, ([(0, 400), (0, 400)], []), [((1, 4), (0, .inr 1, .inl 0))], [])])
set_option maxRecDepth 100000 in
noncomputable def sz_u850 : List sy_Cut := [(0, [(0, (3, .inr 1, .inl 0))], ([(0, 400), (0, 400)], []), [((1, 4), (0, .inr 1, .inl 0))], [], [(400, []), ((-1), [1])])]
set_option maxRecDepth 100000 in
noncomputable def sz_h850_0 : List sy_Hn := [(0, 30, 0, 0, 0, 0, [([0], [(1, [0]), (1, [2])]), ([], [])], [], [])]
set_option maxRecDepth 100000 in
theorem sz_s850_0 : sy_seg sz_E sz_T sz_RU [] sz_c850 sz_u850 ri_m_X4_skipBlanks 7 none sz_h850_0 = true := by decide +kernel
set_option maxRecDepth 100000 in
noncomputable def sz_h850_1 : List sy_Hn := [(0, 31, 0, 0, 0, 0, [], [], []),
  (0, 31, 0, 0, 0, 0, [], [], []),
  (0, 30, 0, 0, 0, 0, [([4], [(1, [0]), (1, [2])]), ([], [(1, [0]), (1, [1])])], [], [])]
set_option maxRecDepth 100000 in
theorem sz_s850_1 : sy_seg sz_E sz_T sz_RU [] sz_c850 sz_u850 ri_m_X4_skipBlanks 30 (some ((0, [(0, (3, .inr 1, .inl 0))], ([(0, 400), (0, 400)], []), [((1, 4), (0, .inr 1, .inl 0))], [], [(400, []), ((-1), [1])]))) sz_h850_1 = true := by decide +kernel
theorem sz_ok850 (xs : Nat → Value) (L : Nat) : sy_Cok (sz_env xs L) sz_T sz_RU sz_c850 := sy_chk_ok (CT := []) (CU := sz_u850) (M := ri_m_X4_skipBlanks) (fun _ h => absurd h List.not_mem_nil) rfl rfl ⟨_, _, sz_s850_0⟩ (List.forall_mem_cons.mpr ⟨⟨_, _, sz_s850_1⟩, fun _ h => absurd h List.not_mem_nil⟩)

/-! X4_takes [1, 1000001] -/
set_option maxRecDepth 100000 in
noncomputable def sz_c851 : sy_Ct := (256, 4, 85, [(3, .inr 1, .inl 0), (3, .inr 1000001, .inl 0)], ([(0, 400)], []), [((1, 4), (0, .inr 0, .inl 0))], [], [(1, 4, 5)], [(.inl (some (0, .inr 1, .inl 0)), 0, 0, ([(0, 400), (0, 1), (0, 400)], []), [((1, 4), (0, .inr 2, .inl 0))], [])])
set_option maxRecDepth 100000 in
noncomputable def sz_u851 : List sy_Cut := [(16, [(0, (3, .inr 1, .inl 0)), (1, (3, .inr 1000001, .inl 0)), (2, (0, .inr 1, .inl 0)), (3, (0, .inr 2, .inl 0))], ([(0, 400), (0, 4), (4, 404), (0, 400)], [[(1, [3]), ((-1), [1]), (4, [])], [(1, [1]), ((-1), [3]), ((-4), [])], [(400, []), ((-1), [3]), ((-1), [2])]]), [((1, 4), (0, .inr 3, .inl 0))], [], [(8, []), ((-1), [2])])]
set_option maxRecDepth 100000 in
noncomputable def sz_h851_0 : List sy_Hn := [(6, 20, 0, 0, 0, 0, [], [], []),
  (0, 30, 0, 0, 0, 0, [([], [(1, [0])]), ([], []), ([], [(1, [0]), (1, [2])]), ([], [(1, [0]), (1, [1])]), ([2], [(1, [0]), (1, [2])])], [], []),
  (0, 31, 0, 0, 0, 0, [], [], [])]
set_option maxRecDepth 100000 in
theorem sz_s851_0 : sy_seg sz_E sz_T sz_RU [sz_c850] sz_c851 sz_u851 ri_m_X4_takes 38 none sz_h851_0 = true := by decide +kernel
set_option maxRecDepth 100000 in
noncomputable def sz_h851_1 : List sy_Hn := [(32, 3, 1, 0, 4, 401, [([1], [(1, [0]), (1, [1])]), ([2], [(1, [0]), (1, [4]), (1, [6]), (1, [1])])], [], []),
  (1, 3, 1, 0, 4, 400, [([1], [(1, [0]), (1, [1])]), ([2], [(1, [0]), (1, [4]), (1, [6]), (1, [1])])], [], []),
  (0, 31, 0, 0, 0, 0, [], [], []),
  (0, 31, 0, 0, 0, 0, [], [], []),
  (0, 31, 0, 0, 0, 0, [], [], []),
  (0, 31, 0, 0, 0, 0, [], [], []),
  (0, 31, 0, 0, 0, 0, [], [], []),
  (0, 31, 0, 0, 0, 0, [], [], []),
  (0, 31, 0, 0, 0, 0, [], [], []),
  (10, 3, 8, 0, 0, 399, [([8], [(1, [0]), (1, [1])]), ([4], [(1, [0]), (1, [4]), (1, [6]), (1, [2])])], [], []),
  (0, 30, 0, 0, 0, 0, [([13], [(1, [0]), (1, [2])]), ([], [(1, [0]), (1, [1])]), ([], [(1, [0]), (1, [10])]), ([], [(1, [0]), (1, [11])]), ([8], [(1, [0]), (1, [7]), (1, [4]), (1, [2])])], [], []),
  (0, 31, 0, 0, 0, 0, [], [], [])]
set_option maxRecDepth 100000 in
theorem sz_s851_1 : sy_seg sz_E sz_T sz_RU [sz_c850] sz_c851 sz_u851 ri_m_X4_takes 192 (some ((16, [(0, (3, .inr 1, .inl 0)), (1, (3, .inr 1000001, .inl 0)), (2, (0, .inr 1, .inl 0)), (3, (0, .inr 2, .inl 0))], ([(0, 400), (0, 4), (4, 404), (0, 400)], [[(1, [3]), ((-1), [1]), (4, [])], [(1, [1]), ((-1), [3]), ((-4), [])], [(400, []), ((-1), [3]), ((-1), [2])]]), [((1, 4), (0, .inr 3, .inl 0))], [], [(8, []), ((-1), [2])]))) sz_h851_1 = true := by decide +kernel
theorem sz_ok851 (xs : Nat → Value) (L : Nat) : sy_Cok (sz_env xs L) sz_T sz_RU sz_c851 := sy_chk_ok (CT := [sz_c850]) (CU := sz_u851) (M := ri_m_X4_takes) (List.forall_mem_cons.mpr ⟨sz_ok850 xs L, fun _ h => absurd h List.not_mem_nil⟩) rfl rfl ⟨_, _, sz_s851_0⟩ (List.forall_mem_cons.mpr ⟨⟨_, _, sz_s851_1⟩, fun _ h => absurd h List.not_mem_nil⟩)

/-! X4_takes [1, 1000011] -/
set_option maxRecDepth 100000 in
noncomputable def sz_c852 : sy_Ct := (256, 4, 85, [(3, .inr 1, .inl 0), (3, .inr 1000011, .inl 0)], ([(0, 400)], []), [((1, 4), (0, .inr 0, .inl 0))], [], [(1, 4, 5)], [(.inl (some (0, .inr 1, .inl 0)), 0, 0, ([(0, 400), (0, 1), (0, 400)], []), [((1, 4), (0, .inr 2, .inl 0))], [])])
set_option maxRecDepth 100000 in
noncomputable def sz_u852 : List sy_Cut := [(16, [(0, (3, .inr 1, .inl 0)), (1, (3, .inr 1000011, .inl 0)), (2, (0, .inr 1, .inl 0)), (3, (0, .inr 2, .inl 0))], ([(0, 400), (0, 3), (3, 403), (0, 400)], [[(1, [3]), ((-1), [1]), (3, [])], [(1, [1]), ((-1), [3]), ((-3), [])], [(400, []), ((-1), [3]), ((-1), [2])]]), [((1, 4), (0, .inr 3, .inl 0))], [], [(8, []), ((-1), [2])])]
set_option maxRecDepth 100000 in
noncomputable def sz_h852_0 : List sy_Hn := [(6, 20, 0, 0, 0, 0, [], [], []),
  (0, 30, 0, 0, 0, 0, [([], [(1, [0])]), ([], []), ([], [(1, [0]), (1, [2])]), ([], [(1, [0]), (1, [1])]), ([2], [(1, [0]), (1, [2])])], [], []),
  (0, 31, 0, 0, 0, 0, [], [], [])]
set_option maxRecDepth 100000 in
theorem sz_s852_0 : sy_seg sz_E sz_T sz_RU [sz_c850] sz_c852 sz_u852 ri_m_X4_takes 38 none sz_h852_0 = true := by decide +kernel
set_option maxRecDepth 100000 in
noncomputable def sz_h852_1 : List sy_Hn := [(32, 3, 1, 0, 3, 401, [([1], [(1, [0]), (1, [1])]), ([2], [(1, [0]), (1, [4]), (1, [6]), (1, [1])])], [], []),
  (1, 3, 1, 0, 3, 400, [([1], [(1, [0]), (1, [1])]), ([2], [(1, [0]), (1, [4]), (1, [6]), (1, [1])])], [], []),
  (0, 31, 0, 0, 0, 0, [], [], []),
  (0, 31, 0, 0, 0, 0, [], [], []),
  (0, 31, 0, 0, 0, 0, [], [], []),
  (0, 31, 0, 0, 0, 0, [], [], []),
  (0, 31, 0, 0, 0, 0, [], [], []),
  (0, 31, 0, 0, 0, 0, [], [], []),
  (0, 31, 0, 0, 0, 0, [], [], []),
  (10, 3, 8, 0, 0, 399, [([8], [(1, [0]), (1, [1])]), ([4], [(1, [0]), (1, [4]), (1, [6]), (1, [2])])], [], []),
  (0, 30, 0, 0, 0, 0, [([13], [(1, [0]), (1, [2])]), ([], [(1, [0]), (1, [1])]), ([], [(1, [0]), (1, [10])]), ([], [(1, [0]), (1, [11])]), ([8], [(1, [0]), (1, [7]), (1, [4]), (1, [2])])], [], []),
  (0, 31, 0, 0, 0, 0, [], [], [])]
set_option maxRecDepth 100000 in
theorem sz_s852_1 : sy_seg sz_E sz_T sz_RU [sz_c850] sz_c852 sz_u852 ri_m_X4_takes 192 (some ((16, [(0, (3, .inr 1, .inl 0)), (1, (3, .inr 1000011, .inl 0)), (2, (0, .inr 1, .inl 0)), (3, (0, .inr 2, .inl 0))], ([(0, 400), (0, 3), (3, 403), (0, 400)], [[(1, [3]), ((-1), [1]), (3, [])], [(1, [1]), ((-1), [3]), ((-3), [])], [(400, []), ((-1), [3]), ((-1), [2])]]), [((1, 4), (0, .inr 3, .inl 0))], [], [(8, []), ((-1), [2])]))) sz_h852_1 = true := by decide +kernel
theorem sz_ok852 (xs : Nat → Value) (L : Nat) : sy_Cok (sz_env xs L) sz_T sz_RU sz_c852 := sy_chk_ok (CT := [sz_c850]) (CU := sz_u852) (M := ri_m_X4_takes) (List.forall_mem_cons.mpr ⟨sz_ok850 xs L, fun _ h => absurd h List.not_mem_nil⟩) rfl rfl ⟨_, _, sz_s852_0⟩ (List.forall_mem_cons.mpr ⟨⟨_, _, sz_s852_1⟩, fun _ h => absurd h List.not_mem_nil⟩)

/-! X4_takes [1, 1000018] -/
set_option maxRecDepth 100000 in
noncomputable def sz_c853 : sy_Ct := (256, 4, 85, [(3, .inr 1, .inl 0), (3, .inr 1000018, .inl 0)], ([(0, 400)], []), [((1, 4), (0, .inr 0, .inl 0))], [], [(1, 4, 5)], [(.inl (some (0, .inr 1, .inl 0)), 0, 0, ([(0, 400), (0, 1), (0, 400)], []), [((1, 4), (0, .inr 2, .inl 0))], [])])
set_option maxRecDepth 100000 in
noncomputable def sz_u853 : List sy_Cut := [(16, [(0, (3, .inr 1, .inl 0)), (1, (3, .inr 1000018, .inl 0)), (2, (0, .inr 1, .inl 0)), (3, (0, .inr 2, .inl 0))], ([(0, 400), (0, 5), (5, 405), (0, 400)], [[(1, [3]), ((-1), [1]), (5, [])], [(1, [1]), ((-1), [3]), ((-5), [])], [(400, []), ((-1), [3]), ((-1), [2])]]), [((1, 4), (0, .inr 3, .inl 0))], [], [(8, []), ((-1), [2])])]
set_option maxRecDepth 100000 in
noncomputable def sz_h853_0 : List sy_Hn := [(6, 20, 0, 0, 0, 0, [], [], []),
  (0, 30, 0, 0, 0, 0, [([], [(1, [0])]), ([], []), ([], [(1, [0]), (1, [2])]), ([], [(1, [0]), (1, [1])]), ([2], [(1, [0]), (1, [2])])], [], []),
  (0, 31, 0, 0, 0, 0, [], [], [])]
set_option maxRecDepth 100000 in
theorem sz_s853_0 : sy_seg sz_E sz_T sz_RU [sz_c850] sz_c853 sz_u853 ri_m_X4_takes 38 none sz_h853_0 = true := by decide +kernel
set_option maxRecDepth 100000 in
noncomputable def sz_h853_1 : List sy_Hn := [(32, 3, 1, 0, 5, 401, [([1], [(1, [0]), (1, [1])]), ([2], [(1, [0]), (1, [4]), (1, [6]), (1, [1])])], [], []),
  (1, 3, 1, 0, 5, 400, [([1], [(1, [0]), (1, [1])]), ([2], [(1, [0]), (1, [4]), (1, [6]), (1, [1])])], [], []),
  (0, 31, 0, 0, 0, 0, [], [], []),
  (0, 31, 0, 0, 0, 0, [], [], []),
  (0, 31, 0, 0, 0, 0, [], [], []),
  (0, 31, 0, 0, 0, 0, [], [], []),
  (0, 31, 0, 0, 0, 0, [], [], []),
  (0, 31, 0, 0, 0, 0, [], [], []),
  (0, 31, 0, 0, 0, 0, [], [], []),
  (10, 3, 8, 0, 0, 399, [([8], [(1, [0]), (1, [1])]), ([4], [(1, [0]), (1, [4]), (1, [6]), (1, [2])])], [], []),
  (0, 30, 0, 0, 0, 0, [([13], [(1, [0]), (1, [2])]), ([], [(1, [0]), (1, [1])]), ([], [(1, [0]), (1, [10])]), ([], [(1, [0]), (1, [11])]), ([8], [(1, [0]), (1, [7]), (1, [4]), (1, [2])])], [], []),
  (0, 31, 0, 0, 0, 0, [], [], [])]
set_option maxRecDepth 100000 in
theorem sz_s853_1 : sy_seg sz_E sz_T sz_RU [sz_c850] sz_c853 sz_u853 ri_m_X4_takes 192 (some ((16, [(0, (3, .inr 1, .inl 0)), (1, (3, .inr 1000018, .inl 0)), (2, (0, .inr 1, .inl 0)), (3, (0, .inr 2, .inl 0))], ([(0, 400), (0, 5), (5, 405), (0, 400)], [[(1, [3]), ((-1), [1]), (5, [])], [(1, [1]), ((-1), [3]), ((-5), [])], [(400, []), ((-1), [3]), ((-1), [2])]]), [((1, 4), (0, .inr 3, .inl 0))], [], [(8, []), ((-1), [2])]))) sz_h853_1 = true := by decide +kernel
theorem sz_ok853 (xs : Nat → Value) (L : Nat) : sy_Cok (sz_env xs L) sz_T sz_RU sz_c853 := sy_chk_ok (CT := [sz_c850]) (CU := sz_u853) (M := ri_m_X4_takes) (List.forall_mem_cons.mpr ⟨sz_ok850 xs L, fun _ h => absurd h List.not_mem_nil⟩) rfl rfl ⟨_, _, sz_s853_0⟩ (List.forall_mem_cons.mpr ⟨⟨_, _, sz_s853_1⟩, fun _ h => absurd h List.not_mem_nil⟩)

/-! X4_takes [1, 1000023] -/
set_option maxRecDepth 100000 in
noncomputable def sz_c854 : sy_Ct := (256, 4, 85, [(3, .inr 1, .inl 0), (3, .inr 1000023, .inl 0)], ([(0, 400)], []), [((1, 4), (0, .inr 0, .inl 0))], [], [(1, 4, 5)], [(.inl (some (0, .inr 1, .inl 0)), 0, 0, ([(0, 400), (0, 1), (0, 400)], []), [((1, 4), (0, .inr 2, .inl 0))], [])])
set_option maxRecDepth 100000 in
noncomputable def sz_u854 : List sy_Cut := [(16, [(0, (3, .inr 1, .inl 0)), (1, (3, .inr 1000023, .inl 0)), (2, (0, .inr 1, .inl 0)), (3, (0, .inr 2, .inl 0))], ([(0, 400), (0, 5), (5, 405), (0, 400)], [[(1, [3]), ((-1), [1]), (5, [])], [(1, [1]), ((-1), [3]), ((-5), [])], [(400, []), ((-1), [3]), ((-1), [2])]]), [((1, 4), (0, .inr 3, .inl 0))], [], [(8, []), ((-1), [2])])]
set_option maxRecDepth 100000 in
noncomputable def sz_h854_0 : List sy_Hn := [(6, 20, 0, 0, 0, 0, [], [], []),
  (0, 30, 0, 0, 0, 0, [([], [(1, [0])]), ([], []), ([], [(1, [0]), (1, [2])]), ([], [(1, [0]), (1, [1])]), ([2], [(1, [0]), (1, [2])])], [], []),
  (0, 31, 0, 0, 0, 0, [], [], [])]
set_option maxRecDepth 100000 in
theorem sz_s854_0 : sy_seg sz_E sz_T sz_RU [sz_c850] sz_c854 sz_u854 ri_m_X4_takes 38 none sz_h854_0 = true := by decide +kernel
set_option maxRecDepth 100000 in
noncomputable def sz_h854_1 : List sy_Hn := [(32, 3, 1, 0, 5, 401, [([1], [(1, [0]), (1, [1])]), ([2], [(1, [0]), (1, [4]), (1, [6]), (1, [1])])], [], []),
  (1, 3, 1, 0, 5, 400, [([1], [(1, [0]), (1, [1])]), ([2], [(1, [0]), (1, [4]), (1, [6]), (1, [1])])], [], []),
  (0, 31, 0, 0, 0, 0, [], [], []),
  (0, 31, 0, 0, 0, 0, [], [], []),
  (0, 31, 0, 0, 0, 0, [], [], []),
  (0, 31, 0, 0, 0, 0, [], [], []),
  (0, 31, 0, 0, 0, 0, [], [], []),
  (0, 31, 0, 0, 0, 0, [], [], []),
  (0, 31, 0, 0, 0, 0, [], [], []),
  (10, 3, 8, 0, 0, 399, [([8], [(1, [0]), (1, [1])]), ([4], [(1, [0]), (1, [4]), (1, [6]), (1, [2])])], [], []),
  (0, 30, 0, 0, 0, 0, [([13], [(1, [0]), (1, [2])]), ([], [(1, [0]), (1, [1])]), ([], [(1, [0]), (1, [10])]), ([], [(1, [0]), (1, [11])]), ([8], [(1, [0]), (1, [7]), (1, [4]), (1, [2])])], [], []),
  (0, 31, 0, 0, 0, 0, [], [], [])]
set_option maxRecDepth 100000 in
theorem sz_s854_1 : sy_seg sz_E sz_T sz_RU [sz_c850] sz_c854 sz_u854 ri_m_X4_takes 192 (some ((16, [(0, (3, .inr 1, .inl 0)), (1, (3, .inr 1000023, .inl 0)), (2, (0, .inr 1, .inl 0)), (3, (0, .inr 2, .inl 0))], ([(0, 400), (0, 5), (5, 405), (0, 400)], [[(1, [3]), ((-1), [1]), (5, [])], [(1, [1]), ((-1), [3]), ((-5), [])], [(400, []), ((-1), [3]), ((-1), [2])]]), [((1, 4), (0, .inr 3, .inl 0))], [], [(8, []), ((-1), [2])]))) sz_h854_1 = true := by decide +kernel
theorem sz_ok854 (xs : Nat → Value) (L : Nat) : sy_Cok (sz_env xs L) sz_T sz_RU sz_c854 := sy_chk_ok (CT := [sz_c850]) (CU := sz_u854) (M := ri_m_X4_takes) (List.forall_mem_cons.mpr ⟨sz_ok850 xs L, fun _ h => absurd h List.not_mem_nil⟩) rfl rfl ⟨_, _, sz_s854_0⟩ (List.forall_mem_cons.mpr ⟨⟨_, _, sz_s854_1⟩, fun _ h => absurd h List.not_mem_nil⟩)

/-! X4_takes [1, 1000024] -/
set_option maxRecDepth 100000 in
noncomputable def sz_c855 : sy_Ct := (256, 4, 85, [(3, .inr 1, .inl 0), (3, .inr 1000024, .inl 0)], ([(0, 400)], []), [((1, 4), (0, .inr 0, .inl 0))], [], [(1, 4, 5)], [(.inl (some (0, .inr 1, .inl 0)), 0, 0, ([(0, 400), (0, 1), (0, 400)], []), [((1, 4), (0, .inr 2, .inl 0))], [])])
set_option maxRecDepth 100000 in
noncomputable def sz_u855 : List sy_Cut := [(16, [(0, (3, .inr 1, .inl 0)), (1, (3, .inr 1000024, .inl 0)), (2, (0, .inr 1, .inl 0)), (3, (0, .inr 2, .inl 0))], ([(0, 400), (0, 2), (2, 402), (0, 400)], [[(1, [3]), ((-1), [1]), (2, [])], [(1, [1]), ((-1), [3]), ((-2), [])], [(400, []), ((-1), [3]), ((-1), [2])]]), [((1, 4), (0, .inr 3, .inl 0))], [], [(8, []), ((-1), [2])])]
set_option maxRecDepth 100000 in
noncomputable def sz_h855_0 : List sy_Hn := [(6, 20, 0, 0, 0, 0, [], [], []),
  (0, 30, 0, 0, 0, 0, [([], [(1, [0])]), ([], []), ([], [(1, [0]), (1, [2])]), ([], [(1, [0]), (1, [1])]), ([2], [(1, [0]), (1, [2])])], [], []),
  (0, 31, 0, 0, 0, 0, [], [], [])]
set_option maxRecDepth 100000 in
theorem sz_s855_0 : sy_seg sz_E sz_T sz_RU [sz_c850] sz_c855 sz_u855 ri_m_X4_takes 38 none sz_h855_0 = true := by decide +kernel
set_option maxRecDepth 100000 in
noncomputable def sz_h855_1 : List sy_Hn := [(32, 3, 1, 0, 2, 401, [([1], [(1, [0]), (1, [1])]), ([2], [(1, [0]), (1, [4]), (1, [6]), (1, [1])])], [], []),
  (1, 3, 1, 0, 2, 400, [([1], [(1, [0]), (1, [1])]), ([2], [(1, [0]), (1, [4]), (1, [6]), (1, [1])])], [], []),
  (0, 31, 0, 0, 0, 0, [], [], []),
  (0, 31, 0, 0, 0, 0, [], [], []),
  (0, 31, 0, 0, 0, 0, [], [], []),
  (0, 31, 0, 0, 0, 0, [], [], []),
  (0, 31, 0, 0, 0, 0, [], [], []),
  (0, 31, 0, 0, 0, 0, [], [], []),
  (0, 31, 0, 0, 0, 0, [], [], []),
  (10, 3, 8, 0, 0, 399, [([8], [(1, [0]), (1, [1])]), ([4], [(1, [0]), (1, [4]), (1, [6]), (1, [2])])], [], []),
  (0, 30, 0, 0, 0, 0, [([13], [(1, [0]), (1, [2])]), ([], [(1, [0]), (1, [1])]), ([], [(1, [0]), (1, [10])]), ([], [(1, [0]), (1, [11])]), ([8], [(1, [0]), (1, [7]), (1, [4]), (1, [2])])], [], []),
  (0, 31, 0, 0, 0, 0, [], [], [])]
set_option maxRecDepth 100000 in
theorem sz_s855_1 : sy_seg sz_E sz_T sz_RU [sz_c850] sz_c855 sz_u855 ri_m_X4_takes 192 (some ((16, [(0, (3, .inr 1, .inl 0)), (1, (3, .inr 1000024, .inl 0)), (2, (0, .inr 1, .inl 0)), (3, (0, .inr 2, .inl 0))], ([(0, 400), (0, 2), (2, 402), (0, 400)], [[(1, [3]), ((-1), [1]), (2, [])], [(1, [1]), ((-1), [3]), ((-2), [])], [(400, []), ((-1), [3]), ((-1), [2])]]), [((1, 4), (0, .inr 3, .inl 0))], [], [(8, []), ((-1), [2])]))) sz_h855_1 = true := by decide +kernel
theorem sz_ok855 (xs : Nat → Value) (L : Nat) : sy_Cok (sz_env xs L) sz_T sz_RU sz_c855 := sy_chk_ok (CT := [sz_c850]) (CU := sz_u855) (M := ri_m_X4_takes) (List.forall_mem_cons.mpr ⟨sz_ok850 xs L, fun _ h => absurd h List.not_mem_nil⟩) rfl rfl ⟨_, _, sz_s855_0⟩ (List.forall_mem_cons.mpr ⟨⟨_, _, sz_s855_1⟩, fun _ h => absurd h List.not_mem_nil⟩)

/-! X4_digits [1] -/
set_option maxRecDepth 100000 in
noncomputable def sz_c856 : sy_Ct := (312, 1, 21, [(3, .inr 1, .inl 0)], ([(0, 400)], []), [((1, 4), (0, .inr 0, .inl 0))], [], [(1, 4, 4), (1, 6, 6)], [(.inl (some (0, .inr 1, .inl 0)), 0, 0, ([(0, 400), ((-2147483648), 2147483647), (0, 400)], []), [((1, 4), (0, .inr 2, .inl 0))], [])])
set_option maxRecDepth 100000 in
noncomputable def sz_u856 : List sy_Cut := [(14, [(0, (3, .inr 1, .inl 0)), (1, (0, .inr 0, .inl 0)), (2, (0, .inr 1, .inl 0))], ([(0, 400), ((-2147483648), 2147483647), (0, 400)], []), [((1, 4), (0, .inr 2, .inl 0))], [], [(400, []), ((-1), [2])])]
set_option maxRecDepth 100000 in
noncomputable def sz_h856_0 : List sy_Hn := [(0, 30, 0, 0, 0, 0, [([0], [(1, [0]), (1, [2])]), ([], [])], [], []),
  (0, 30, 0, 0, 0, 0, [([0], [(1, [0]), (1, [2])]), ([], [])], [], []),
  (0, 30, 0, 0, 0, 0, [([0], [(1, [0]), (1, [2])]), ([], [])], [], []),
  (0, 30, 0, 0, 0, 0, [([0], [(1, [0]), (1, [2])]), ([], [])], [], []),
  (0, 30, 0, 0, 0, 0, [([0], [(1, [0]), (1, [2])]), ([], [])], [], []),
  (0, 30, 0, 0, 0, 0, [([0], [(1, [0]), (1, [2])]), ([], [])], [], []),
  (0, 30, 0, 0, 0, 0, [([0], [(1, [0]), (1, [2])]), ([], [])], [], [])]
set_option maxRecDepth 100000 in
theorem sz_s856_0 : sy_seg sz_E sz_T sz_RU [] sz_c856 sz_u856 ri_m_X4_digits 126 none sz_h856_0 = true := by decide +kernel
set_option maxRecDepth 100000 in
noncomputable def sz_h856_1 : List sy_Hn := [(0, 31, 0, 0, 0, 0, [], [], []),
  (0, 31, 0, 0, 0, 0, [], [], []),
  (0, 31, 0, 0, 0, 0, [], [], []),
  (0, 31, 0, 0, 0, 0, [], [], []),
  (0, 31, 0, 0, 0, 0, [], [], []),
  (0, 31, 0, 0, 0, 0, [], [], []),
  (0, 31, 0, 0, 0, 0, [], [], []),
  (0, 31, 0, 0, 0, 0, [], [], []),
  (0, 31, 0, 0, 0, 0, [], [], []),
  (0, 31, 0, 0, 0, 0, [], [], []),
  (0, 31, 0, 0, 0, 0, [], [], []),
  (0, 31, 0, 0, 0, 0, [], [], []),
  (0, 30, 0, 0, 0, 0, [([7], [(1, [0]), (1, [2])]), ([], [(1, [0]), (1, [1])])], [], []),
  (0, 30, 0, 0, 0, 0, [([11], [(1, [0]), (1, [2])]), ([], [(1, [0]), (1, [1])])], [], [])]
set_option maxRecDepth 100000 in
theorem sz_s856_1 : sy_seg sz_E sz_T sz_RU [] sz_c856 sz_u856 ri_m_X4_digits 194 (some ((14, [(0, (3, .inr 1, .inl 0)), (1, (0, .inr 0, .inl 0)), (2, (0, .inr 1, .inl 0))], ([(0, 400), ((-2147483648), 2147483647), (0, 400)], []), [((1, 4), (0, .inr 2, .inl 0))], [], [(400, []), ((-1), [2])]))) sz_h856_1 = true := by decide +kernel
theorem sz_ok856 (xs : Nat → Value) (L : Nat) : sy_Cok (sz_env xs L) sz_T sz_RU sz_c856 := sy_chk_ok (CT := []) (CU := sz_u856) (M := ri_m_X4_digits) (fun _ h => absurd h List.not_mem_nil) rfl rfl ⟨_, _, sz_s856_0⟩ (List.forall_mem_cons.mpr ⟨⟨_, _, sz_s856_1⟩, fun _ h => absurd h List.not_mem_nil⟩)

/-! X4_number [1, 0, 9999] -/
set_option maxRecDepth 100000 in
noncomputable def sz_c857 : sy_Ct := (294, 2, 44, [(3, .inr 1, .inl 0), (0, .inr 0, .inl 0), (0, .inl 9999, .inl 0)], ([(0, 400), ((-2147483648), 2147483647)], []), [((1, 4), (0, .inr 1, .inl 0))], [], [(1, 4, 6)], [(.inl (some (0, .inr 2, .inl 0)), 0, 0, ([(0, 400), ((-2147483648), 9999), (0, 400), ((-2147483648), 2147483647)], []), [((1, 4), (0, .inr 3, .inl 0))], [])])
set_option maxRecDepth 100000 in
noncomputable def sz_u857 : List sy_Cut := []
set_option maxRecDepth 100000 in
noncomputable def sz_h857_0 : List sy_Hn := [(6, 20, 0, 0, 0, 0, [], [], []),
  (7, 20, 1, 0, 0, 0, [], [], []),
  (0, 31, 0, 0, 0, 0, [], [], []),
  (0, 31, 0, 0, 0, 0, [], [], []),
  (0, 31, 0, 0, 0, 0, [], [], []),
  (0, 31, 0, 0, 0, 0, [], [], []),
  (0, 31, 0, 0, 0, 0, [], [], []),
  (0, 31, 0, 0, 0, 0, [], [], []),
  (0, 31, 0, 0, 0, 0, [], [], [])]
set_option maxRecDepth 100000 in
theorem sz_s857_0 : sy_seg sz_E sz_T sz_RU [sz_c850, sz_c856] sz_c857 sz_u857 ri_m_X4_number 103 none sz_h857_0 = true := by decide +kernel
theorem sz_ok857 (xs : Nat → Value) (L : Nat) : sy_Cok (sz_env xs L) sz_T sz_RU sz_c857 := sy_chk_ok (CT := [sz_c850, sz_c856]) (CU := sz_u857) (M := ri_m_X4_number) (List.forall_mem_cons.mpr ⟨sz_ok850 xs L, List.forall_mem_cons.mpr ⟨sz_ok856 xs L, fun _ h => absurd h List.not_mem_nil⟩⟩) rfl rfl ⟨_, _, sz_s857_0⟩ (fun _ h => absurd h List.not_mem_nil)

/-! X4_takes [1, 1000025] -/
set_option maxRecDepth 100000 in
noncomputable def sz_c858 : sy_Ct := (256, 4, 85, [(3, .inr 1, .inl 0), (3, .inr 1000025, .inl 0)], ([(0, 400)], []), [((1, 4), (0, .inr 0, .inl 0))], [], [(1, 4, 5)], [(.inl (some (0, .inr 1, .inl 0)), 0, 0, ([(0, 400), (0, 1), (0, 400)], []), [((1, 4), (0, .inr 2, .inl 0))], [])])
set_option maxRecDepth 100000 in
noncomputable def sz_u858 : List sy_Cut := [(16, [(0, (3, .inr 1, .inl 0)), (1, (3, .inr 1000025, .inl 0)), (2, (0, .inr 1, .inl 0)), (3, (0, .inr 2, .inl 0))], ([(0, 400), (0, 3), (3, 403), (0, 400)], [[(1, [3]), ((-1), [1]), (3, [])], [(1, [1]), ((-1), [3]), ((-3), [])], [(400, []), ((-1), [3]), ((-1), [2])]]), [((1, 4), (0, .inr 3, .inl 0))], [], [(8, []), ((-1), [2])])]
set_option maxRecDepth 100000 in
noncomputable def sz_h858_0 : List sy_Hn := [(6, 20, 0, 0, 0, 0, [], [], []),
  (0, 30, 0, 0, 0, 0, [([], [(1, [0])]), ([], []), ([], [(1, [0]), (1, [2])]), ([], [(1, [0]), (1, [1])]), ([2], [(1, [0]), (1, [2])])], [], []),
  (0, 31, 0, 0, 0, 0, [], [], [])]
set_option maxRecDepth 100000 in
theorem sz_s858_0 : sy_seg sz_E sz_T sz_RU [sz_c850] sz_c858 sz_u858 ri_m_X4_takes 38 none sz_h858_0 = true := by decide +kernel
set_option maxRecDepth 100000 in
noncomputable def sz_h858_1 : List sy_Hn := [(32, 3, 1, 0, 3, 401, [([1], [(1, [0]), (1, [1])]), ([2], [(1, [0]), (1, [4]), (1, [6]), (1, [1])])], [], []),
  (1, 3, 1, 0, 3, 400, [([1], [(1, [0]), (1, [1])]), ([2], [(1, [0]), (1, [4]), (1, [6]), (1, [1])])], [], []),
  (0, 31, 0, 0, 0, 0, [], [], []),
  (0, 31, 0, 0, 0, 0, [], [], []),
  (0, 31, 0, 0, 0, 0, [], [], []),
  (0, 31, 0, 0, 0, 0, [], [], []),
  (0, 31, 0, 0, 0, 0, [], [], []),
  (0, 31, 0, 0, 0, 0, [], [], []),
  (0, 31, 0, 0, 0, 0, [], [], []),
  (10, 3, 8, 0, 0, 399, [([8], [(1, [0]), (1, [1])]), ([4], [(1, [0]), (1, [4]), (1, [6]), (1, [2])])], [], []),
  (0, 30, 0, 0, 0, 0, [([13], [(1, [0]), (1, [2])]), ([], [(1, [0]), (1, [1])]), ([], [(1, [0]), (1, [10])]), ([], [(1, [0]), (1, [11])]), ([8], [(1, [0]), (1, [7]), (1, [4]), (1, [2])])], [], []),
  (0, 31, 0, 0, 0, 0, [], [], [])]
set_option maxRecDepth 100000 in
theorem sz_s858_1 : sy_seg sz_E sz_T sz_RU [sz_c850] sz_c858 sz_u858 ri_m_X4_takes 192 (some ((16, [(0, (3, .inr 1, .inl 0)), (1, (3, .inr 1000025, .inl 0)), (2, (0, .inr 1, .inl 0)), (3, (0, .inr 2, .inl 0))], ([(0, 400), (0, 3), (3, 403), (0, 400)], [[(1, [3]), ((-1), [1]), (3, [])], [(1, [1]), ((-1), [3]), ((-3), [])], [(400, []), ((-1), [3]), ((-1), [2])]]), [((1, 4), (0, .inr 3, .inl 0))], [], [(8, []), ((-1), [2])]))) sz_h858_1 = true := by decide +kernel
theorem sz_ok858 (xs : Nat → Value) (L : Nat) : sy_Cok (sz_env xs L) sz_T sz_RU sz_c858 := sy_chk_ok (CT := [sz_c850]) (CU := sz_u858) (M := ri_m_X4_takes) (List.forall_mem_cons.mpr ⟨sz_ok850 xs L, fun _ h => absurd h List.not_mem_nil⟩) rfl rfl ⟨_, _, sz_s858_0⟩ (List.forall_mem_cons.mpr ⟨⟨_, _, sz_s858_1⟩, fun _ h => absurd h List.not_mem_nil⟩)

/-! X4_takes [1, 1000026] -/
set_option maxRecDepth 100000 in
noncomputable def sz_c859 : sy_Ct := (256, 4, 85, [(3, .inr 1, .inl 0), (3, .inr 1000026, .inl 0)], ([(0, 400)], []), [((1, 4), (0, .inr 0, .inl 0))], [], [(1, 4, 5)], [(.inl (some (0, .inr 1, .inl 0)), 0, 0, ([(0, 400), (0, 1), (0, 400)], []), [((1, 4), (0, .inr 2, .inl 0))], [])])
set_option maxRecDepth 100000 in
noncomputable def sz_u859 : List sy_Cut := [(16, [(0, (3, .inr 1, .inl 0)), (1, (3, .inr 1000026, .inl 0)), (2, (0, .inr 1, .inl 0)), (3, (0, .inr 2, .inl 0))], ([(0, 400), (0, 4), (4, 404), (0, 400)], [[(1, [3]), ((-1), [1]), (4, [])], [(1, [1]), ((-1), [3]), ((-4), [])], [(400, []), ((-1), [3]), ((-1), [2])]]), [((1, 4), (0, .inr 3, .inl 0))], [], [(8, []), ((-1), [2])])]
set_option maxRecDepth 100000 in
noncomputable def sz_h859_0 : List sy_Hn := [(6, 20, 0, 0, 0, 0, [], [], []),
  (0, 30, 0, 0, 0, 0, [([], [(1, [0])]), ([], []), ([], [(1, [0]), (1, [2])]), ([], [(1, [0]), (1, [1])]), ([2], [(1, [0]), (1, [2])])], [], []),
  (0, 31, 0, 0, 0, 0, [], [], [])]
set_option maxRecDepth 100000 in
theorem sz_s859_0 : sy_seg sz_E sz_T sz_RU [sz_c850] sz_c859 sz_u859 ri_m_X4_takes 38 none sz_h859_0 = true := by decide +kernel
set_option maxRecDepth 100000 in
noncomputable def sz_h859_1 : List sy_Hn := [(32, 3, 1, 0, 4, 401, [([1], [(1, [0]), (1, [1])]), ([2], [(1, [0]), (1, [4]), (1, [6]), (1, [1])])], [], []),
  (1, 3, 1, 0, 4, 400, [([1], [(1, [0]), (1, [1])]), ([2], [(1, [0]), (1, [4]), (1, [6]), (1, [1])])], [], []),
  (0, 31, 0, 0, 0, 0, [], [], []),
  (0, 31, 0, 0, 0, 0, [], [], []),
  (0, 31, 0, 0, 0, 0, [], [], []),
  (0, 31, 0, 0, 0, 0, [], [], []),
  (0, 31, 0, 0, 0, 0, [], [], []),
  (0, 31, 0, 0, 0, 0, [], [], []),
  (0, 31, 0, 0, 0, 0, [], [], []),
  (10, 3, 8, 0, 0, 399, [([8], [(1, [0]), (1, [1])]), ([4], [(1, [0]), (1, [4]), (1, [6]), (1, [2])])], [], []),
  (0, 30, 0, 0, 0, 0, [([13], [(1, [0]), (1, [2])]), ([], [(1, [0]), (1, [1])]), ([], [(1, [0]), (1, [10])]), ([], [(1, [0]), (1, [11])]), ([8], [(1, [0]), (1, [7]), (1, [4]), (1, [2])])], [], []),
  (0, 31, 0, 0, 0, 0, [], [], [])]
set_option maxRecDepth 100000 in
theorem sz_s859_1 : sy_seg sz_E sz_T sz_RU [sz_c850] sz_c859 sz_u859 ri_m_X4_takes 192 (some ((16, [(0, (3, .inr 1, .inl 0)), (1, (3, .inr 1000026, .inl 0)), (2, (0, .inr 1, .inl 0)), (3, (0, .inr 2, .inl 0))], ([(0, 400), (0, 4), (4, 404), (0, 400)], [[(1, [3]), ((-1), [1]), (4, [])], [(1, [1]), ((-1), [3]), ((-4), [])], [(400, []), ((-1), [3]), ((-1), [2])]]), [((1, 4), (0, .inr 3, .inl 0))], [], [(8, []), ((-1), [2])]))) sz_h859_1 = true := by decide +kernel
theorem sz_ok859 (xs : Nat → Value) (L : Nat) : sy_Cok (sz_env xs L) sz_T sz_RU sz_c859 := sy_chk_ok (CT := [sz_c850]) (CU := sz_u859) (M := ri_m_X4_takes) (List.forall_mem_cons.mpr ⟨sz_ok850 xs L, fun _ h => absurd h List.not_mem_nil⟩) rfl rfl ⟨_, _, sz_s859_0⟩ (List.forall_mem_cons.mpr ⟨⟨_, _, sz_s859_1⟩, fun _ h => absurd h List.not_mem_nil⟩)

/-! X4_takes [1, 1000027] -/
set_option maxRecDepth 100000 in
noncomputable def sz_c860 : sy_Ct := (256, 4, 85, [(3, .inr 1, .inl 0), (3, .inr 1000027, .inl 0)], ([(0, 400)], []), [((1, 4), (0, .inr 0, .inl 0))], [], [(1, 4, 5)], [(.inl (some (0, .inr 1, .inl 0)), 0, 0, ([(0, 400), (0, 1), (0, 400)], []), [((1, 4), (0, .inr 2, .inl 0))], [])])
set_option maxRecDepth 100000 in
noncomputable def sz_u860 : List sy_Cut := [(16, [(0, (3, .inr 1, .inl 0)), (1, (3, .inr 1000027, .inl 0)), (2, (0, .inr 1, .inl 0)), (3, (0, .inr 2, .inl 0))], ([(0, 400), (0, 4), (4, 404), (0, 400)], [[(1, [3]), ((-1), [1]), (4, [])], [(1, [1]), ((-1), [3]), ((-4), [])], [(400, []), ((-1), [3]), ((-1), [2])]]), [((1, 4), (0, .inr 3, .inl 0))], [], [(8, []), ((-1), [2])])]
set_option maxRecDepth 100000 in
noncomputable def sz_h860_0 : List sy_Hn := [(6, 20, 0, 0, 0, 0, [], [], []),
  (0, 30, 0, 0, 0, 0, [([], [(1, [0])]), ([], []), ([], [(1, [0]), (1, [2])]), ([], [(1, [0]), (1, [1])]), ([2], [(1, [0]), (1, [2])])], [], []),
  (0, 31, 0, 0, 0, 0, [], [], [])]
set_option maxRecDepth 100000 in
theorem sz_s860_0 : sy_seg sz_E sz_T sz_RU [sz_c850] sz_c860 sz_u860 ri_m_X4_takes 38 none sz_h860_0 = true := by decide +kernel
set_option maxRecDepth 100000 in
noncomputable def sz_h860_1 : List sy_Hn := [(32, 3, 1, 0, 4, 401, [([1], [(1, [0]), (1, [1])]), ([2], [(1, [0]), (1, [4]), (1, [6]), (1, [1])])], [], []),
  (1, 3, 1, 0, 4, 400, [([1], [(1, [0]), (1, [1])]), ([2], [(1, [0]), (1, [4]), (1, [6]), (1, [1])])], [], []),
  (0, 31, 0, 0, 0, 0, [], [], []),
  (0, 31, 0, 0, 0, 0, [], [], []),
  (0, 31, 0, 0, 0, 0, [], [], []),
  (0, 31, 0, 0, 0, 0, [], [], []),
  (0, 31, 0, 0, 0, 0, [], [], []),
  (0, 31, 0, 0, 0, 0, [], [], []),
  (0, 31, 0, 0, 0, 0, [], [], []),
  (10, 3, 8, 0, 0, 399, [([8], [(1, [0]), (1, [1])]), ([4], [(1, [0]), (1, [4]), (1, [6]), (1, [2])])], [], []),
  (0, 30, 0, 0, 0, 0, [([13], [(1, [0]), (1, [2])]), ([], [(1, [0]), (1, [1])]), ([], [(1, [0]), (1, [10])]), ([], [(1, [0]), (1, [11])]), ([8], [(1, [0]), (1, [7]), (1, [4]), (1, [2])])], [], []),
  (0, 31, 0, 0, 0, 0, [], [], [])]
set_option maxRecDepth 100000 in
theorem sz_s860_1 : sy_seg sz_E sz_T sz_RU [sz_c850] sz_c860 sz_u860 ri_m_X4_takes 192 (some ((16, [(0, (3, .inr 1, .inl 0)), (1, (3, .inr 1000027, .inl 0)), (2, (0, .inr 1, .inl 0)), (3, (0, .inr 2, .inl 0))], ([(0, 400), (0, 4), (4, 404), (0, 400)], [[(1, [3]), ((-1), [1]), (4, [])], [(1, [1]), ((-1), [3]), ((-4), [])], [(400, []), ((-1), [3]), ((-1), [2])]]), [((1, 4), (0, .inr 3, .inl 0))], [], [(8, []), ((-1), [2])]))) sz_h860_1 = true := by decide +kernel
theorem sz_ok860 (xs : Nat → Value) (L : Nat) : sy_Cok (sz_env xs L) sz_T sz_RU sz_c860 := sy_chk_ok (CT := [sz_c850]) (CU := sz_u860) (M := ri_m_X4_takes) (List.forall_mem_cons.mpr ⟨sz_ok850 xs L, fun _ h => absurd h List.not_mem_nil⟩) rfl rfl ⟨_, _, sz_s860_0⟩ (List.forall_mem_cons.mpr ⟨⟨_, _, sz_s860_1⟩, fun _ h => absurd h List.not_mem_nil⟩)

/-! X4_takes [1, 1000028] -/
set_option maxRecDepth 100000 in
noncomputable def sz_c861 : sy_Ct := (256, 4, 85, [(3, .inr 1, .inl 0), (3, .inr 1000028, .inl 0)], ([(0, 400)], []), [((1, 4), (0, .inr 0, .inl 0))], [], [(1, 4, 5)], [(.inl (some (0, .inr 1, .inl 0)), 0, 0, ([(0, 400), (0, 1), (0, 400)], []), [((1, 4), (0, .inr 2, .inl 0))], [])])
set_option maxRecDepth 100000 in
noncomputable def sz_u861 : List sy_Cut := [(16, [(0, (3, .inr 1, .inl 0)), (1, (3, .inr 1000028, .inl 0)), (2, (0, .inr 1, .inl 0)), (3, (0, .inr 2, .inl 0))], ([(0, 400), (0, 5), (5, 405), (0, 400)], [[(1, [3]), ((-1), [1]), (5, [])], [(1, [1]), ((-1), [3]), ((-5), [])], [(400, []), ((-1), [3]), ((-1), [2])]]), [((1, 4), (0, .inr 3, .inl 0))], [], [(8, []), ((-1), [2])])]
set_option maxRecDepth 100000 in
noncomputable def sz_h861_0 : List sy_Hn := [(6, 20, 0, 0, 0, 0, [], [], []),
  (0, 30, 0, 0, 0, 0, [([], [(1, [0])]), ([], []), ([], [(1, [0]), (1, [2])]), ([], [(1, [0]), (1, [1])]), ([2], [(1, [0]), (1, [2])])], [], []),
  (0, 31, 0, 0, 0, 0, [], [], [])]
set_option maxRecDepth 100000 in
theorem sz_s861_0 : sy_seg sz_E sz_T sz_RU [sz_c850] sz_c861 sz_u861 ri_m_X4_takes 38 none sz_h861_0 = true := by decide +kernel
set_option maxRecDepth 100000 in
noncomputable def sz_h861_1 : List sy_Hn := [(32, 3, 1, 0, 5, 401, [([1], [(1, [0]), (1, [1])]), ([2], [(1, [0]), (1, [4]), (1, [6]), (1, [1])])], [], []),
  (1, 3, 1, 0, 5, 400, [([1], [(1, [0]), (1, [1])]), ([2], [(1, [0]), (1, [4]), (1, [6]), (1, [1])])], [], []),
  (0, 31, 0, 0, 0, 0, [], [], []),
  (0, 31, 0, 0, 0, 0, [], [], []),
  (0, 31, 0, 0, 0, 0, [], [], []),
  (0, 31, 0, 0, 0, 0, [], [], []),
  (0, 31, 0, 0, 0, 0, [], [], []),
  (0, 31, 0, 0, 0, 0, [], [], []),
  (0, 31, 0, 0, 0, 0, [], [], []),
  (10, 3, 8, 0, 0, 399, [([8], [(1, [0]), (1, [1])]), ([4], [(1, [0]), (1, [4]), (1, [6]), (1, [2])])], [], []),
  (0, 30, 0, 0, 0, 0, [([13], [(1, [0]), (1, [2])]), ([], [(1, [0]), (1, [1])]), ([], [(1, [0]), (1, [10])]), ([], [(1, [0]), (1, [11])]), ([8], [(1, [0]), (1, [7]), (1, [4]), (1, [2])])], [], []),
  (0, 31, 0, 0, 0, 0, [], [], [])]
set_option maxRecDepth 100000 in
theorem sz_s861_1 : sy_seg sz_E sz_T sz_RU [sz_c850] sz_c861 sz_u861 ri_m_X4_takes 192 (some ((16, [(0, (3, .inr 1, .inl 0)), (1, (3, .inr 1000028, .inl 0)), (2, (0, .inr 1, .inl 0)), (3, (0, .inr 2, .inl 0))], ([(0, 400), (0, 5), (5, 405), (0, 400)], [[(1, [3]), ((-1), [1]), (5, [])], [(1, [1]), ((-1), [3]), ((-5), [])], [(400, []), ((-1), [3]), ((-1), [2])]]), [((1, 4), (0, .inr 3, .inl 0))], [], [(8, []), ((-1), [2])]))) sz_h861_1 = true := by decide +kernel
theorem sz_ok861 (xs : Nat → Value) (L : Nat) : sy_Cok (sz_env xs L) sz_T sz_RU sz_c861 := sy_chk_ok (CT := [sz_c850]) (CU := sz_u861) (M := ri_m_X4_takes) (List.forall_mem_cons.mpr ⟨sz_ok850 xs L, fun _ h => absurd h List.not_mem_nil⟩) rfl rfl ⟨_, _, sz_s861_0⟩ (List.forall_mem_cons.mpr ⟨⟨_, _, sz_s861_1⟩, fun _ h => absurd h List.not_mem_nil⟩)

/-! X4_takes [1, 1000029] -/
set_option maxRecDepth 100000 in
noncomputable def sz_c862 : sy_Ct := (256, 4, 85, [(3, .inr 1, .inl 0), (3, .inr 1000029, .inl 0)], ([(0, 400)], []), [((1, 4), (0, .inr 0, .inl 0))], [], [(1, 4, 5)], [(.inl (some (0, .inr 1, .inl 0)), 0, 0, ([(0, 400), (0, 1), (0, 400)], []), [((1, 4), (0, .inr 2, .inl 0))], [])])
set_option maxRecDepth 100000 in
noncomputable def sz_u862 : List sy_Cut := [(16, [(0, (3, .inr 1, .inl 0)), (1, (3, .inr 1000029, .inl 0)), (2, (0, .inr 1, .inl 0)), (3, (0, .inr 2, .inl 0))], ([(0, 400), (0, 4), (4, 404), (0, 400)], [[(1, [3]), ((-1), [1]), (4, [])], [(1, [1]), ((-1), [3]), ((-4), [])], [(400, []), ((-1), [3]), ((-1), [2])]]), [((1, 4), (0, .inr 3, .inl 0))], [], [(8, []), ((-1), [2])])]
set_option maxRecDepth 100000 in
noncomputable def sz_h862_0 : List sy_Hn := [(6, 20, 0, 0, 0, 0, [], [], []),
  (0, 30, 0, 0, 0, 0, [([], [(1, [0])]), ([], []), ([], [(1, [0]), (1, [2])]), ([], [(1, [0]), (1, [1])]), ([2], [(1, [0]), (1, [2])])], [], []),
  (0, 31, 0, 0, 0, 0, [], [], [])]
set_option maxRecDepth 100000 in
theorem sz_s862_0 : sy_seg sz_E sz_T sz_RU [sz_c850] sz_c862 sz_u862 ri_m_X4_takes 38 none sz_h862_0 = true := by decide +kernel
set_option maxRecDepth 100000 in
noncomputable def sz_h862_1 : List sy_Hn := [(32, 3, 1, 0, 4, 401, [([1], [(1, [0]), (1, [1])]), ([2], [(1, [0]), (1, [4]), (1, [6]), (1, [1])])], [], []),
  (1, 3, 1, 0, 4, 400, [([1], [(1, [0]), (1, [1])]), ([2], [(1, [0]), (1, [4]), (1, [6]), (1, [1])])], [], []),
  (0, 31, 0, 0, 0, 0, [], [], []),
  (0, 31, 0, 0, 0, 0, [], [], []),
  (0, 31, 0, 0, 0, 0, [], [], []),
  (0, 31, 0, 0, 0, 0, [], [], []),
  (0, 31, 0, 0, 0, 0, [], [], []),
  (0, 31, 0, 0, 0, 0, [], [], []),
  (0, 31, 0, 0, 0, 0, [], [], []),
  (10, 3, 8, 0, 0, 399, [([8], [(1, [0]), (1, [1])]), ([4], [(1, [0]), (1, [4]), (1, [6]), (1, [2])])], [], []),
  (0, 30, 0, 0, 0, 0, [([13], [(1, [0]), (1, [2])]), ([], [(1, [0]), (1, [1])]), ([], [(1, [0]), (1, [10])]), ([], [(1, [0]), (1, [11])]), ([8], [(1, [0]), (1, [7]), (1, [4]), (1, [2])])], [], []),
  (0, 31, 0, 0, 0, 0, [], [], [])]
set_option maxRecDepth 100000 in
theorem sz_s862_1 : sy_seg sz_E sz_T sz_RU [sz_c850] sz_c862 sz_u862 ri_m_X4_takes 192 (some ((16, [(0, (3, .inr 1, .inl 0)), (1, (3, .inr 1000029, .inl 0)), (2, (0, .inr 1, .inl 0)), (3, (0, .inr 2, .inl 0))], ([(0, 400), (0, 4), (4, 404), (0, 400)], [[(1, [3]), ((-1), [1]), (4, [])], [(1, [1]), ((-1), [3]), ((-4), [])], [(400, []), ((-1), [3]), ((-1), [2])]]), [((1, 4), (0, .inr 3, .inl 0))], [], [(8, []), ((-1), [2])]))) sz_h862_1 = true := by decide +kernel
theorem sz_ok862 (xs : Nat → Value) (L : Nat) : sy_Cok (sz_env xs L) sz_T sz_RU sz_c862 := sy_chk_ok (CT := [sz_c850]) (CU := sz_u862) (M := ri_m_X4_takes) (List.forall_mem_cons.mpr ⟨sz_ok850 xs L, fun _ h => absurd h List.not_mem_nil⟩) rfl rfl ⟨_, _, sz_s862_0⟩ (List.forall_mem_cons.mpr ⟨⟨_, _, sz_s862_1⟩, fun _ h => absurd h List.not_mem_nil⟩)

/-! X4_need [1, 1000029] -/
set_option maxRecDepth 100000 in
noncomputable def sz_c863 : sy_Ct := (291, 5, 108, [(3, .inr 1, .inl 0), (3, .inr 1000029, .inl 0)], ([(0, 400)], []), [((1, 4), (0, .inr 0, .inl 0))], [], [(1, 4, 6)], [(.inl none, 0, 0, ([(0, 400), (0, 400)], []), [((1, 4), (0, .inr 1, .inl 0))], [])])
set_option maxRecDepth 100000 in
noncomputable def sz_u863 : List sy_Cut := []
set_option maxRecDepth 100000 in
noncomputable def sz_h863_0 : List sy_Hn := [(3, 20, 0, 0, 0, 0, [], [], []),
  (0, 31, 0, 0, 0, 0, [], [], []),
  (0, 31, 0, 0, 0, 0, [], [], []),
  (0, 31, 0, 0, 0, 0, [], [], [])]
set_option maxRecDepth 100000 in
theorem sz_s863_0 : sy_seg sz_E sz_T sz_RU [sz_c862] sz_c863 sz_u863 ri_m_X4_need 29 none sz_h863_0 = true := by decide +kernel
theorem sz_ok863 (xs : Nat → Value) (L : Nat) : sy_Cok (sz_env xs L) sz_T sz_RU sz_c863 := sy_chk_ok (CT := [sz_c862]) (CU := sz_u863) (M := ri_m_X4_need) (List.forall_mem_cons.mpr ⟨sz_ok862 xs L, fun _ h => absurd h List.not_mem_nil⟩) rfl rfl ⟨_, _, sz_s863_0⟩ (fun _ h => absurd h List.not_mem_nil)

/-! X4_readWhat [1] -/
set_option maxRecDepth 100000 in
noncomputable def sz_c864 : sy_Ct := (297, 6, 129, [(3, .inr 1, .inl 0)], ([(0, 400)], []), [((1, 4), (0, .inr 0, .inl 0))], [], [(1, 4, 6)], [(.inl (some (0, .inr 1, .inl 0)), 0, 0, ([(0, 400), (0, 4), (0, 400)], []), [((1, 4), (0, .inr 2, .inl 0))], [])])
set_option maxRecDepth 100000 in
noncomputable def sz_u864 : List sy_Cut := []
set_option maxRecDepth 100000 in
noncomputable def sz_h864_0 : List sy_Hn := [(3, 20, 0, 0, 0, 0, [], [], []),
  (4, 20, 1, 0, 0, 0, [], [], []),
  (4, 20, 2, 0, 0, 0, [], [], []),
  (4, 20, 3, 0, 0, 0, [], [], []),
  (4, 20, 4, 0, 0, 0, [], [], []),
  (0, 31, 0, 0, 0, 0, [], [], []),
  (0, 31, 0, 0, 0, 0, [], [], []),
  (0, 31, 0, 0, 0, 0, [], [], []),
  (0, 31, 0, 0, 0, 0, [], [], []),
  (0, 31, 0, 0, 0, 0, [], [], [])]
set_option maxRecDepth 100000 in
theorem sz_s864_0 : sy_seg sz_E sz_T sz_RU [sz_c858, sz_c859, sz_c860, sz_c861, sz_c863] sz_c864 sz_u864 ri_m_X4_readWhat 44 none sz_h864_0 = true := by decide +kernel
theorem sz_ok864 (xs : Nat → Value) (L : Nat) : sy_Cok (sz_env xs L) sz_T sz_RU sz_c864 := sy_chk_ok (CT := [sz_c858, sz_c859, sz_c860, sz_c861, sz_c863]) (CU := sz_u864) (M := ri_m_X4_readWhat) (List.forall_mem_cons.mpr ⟨sz_ok858 xs L, List.forall_mem_cons.mpr ⟨sz_ok859 xs L, List.forall_mem_cons.mpr ⟨sz_ok860 xs L, List.forall_mem_cons.mpr ⟨sz_ok861 xs L, List.forall_mem_cons.mpr ⟨sz_ok863 xs L, fun _ h => absurd h List.not_mem_nil⟩⟩⟩⟩⟩) rfl rfl ⟨_, _, sz_s864_0⟩ (fun _ h => absurd h List.not_mem_nil)

/-! X4_number [1, 0, 0] -/
set_option maxRecDepth 100000 in
noncomputable def sz_c865 : sy_Ct := (294, 2, 44, [(3, .inr 1, .inl 0), (0, .inl 0, .inl 0), (0, .inr 0, .inl 0)], ([(0, 400), ((-1), 3)], []), [((1, 4), (0, .inr 1, .inl 0))], [], [(1, 4, 6)], [(.inl (some (0, .inl 0, .inl 0)), 0, 0, ([(0, 400), (0, 400), (0, 400), ((-1), 3)], []), [((1, 4), (0, .inr 2, .inl 0)), ((1, 6), (0, .inr 3, .inl 0))], []), (.inl (some (0, .inr 2, .inl 0)), 0, 0, ([(0, 400), (0, 3), (0, 400), (0, 3)], [[(1, [0]), ((-1), [2])], [(1, [2]), (0, [])]]), [((1, 4), (0, .inr 3, .inl 0)), ((1, 6), (0, .inl (-1), .inl 0))], [])])
set_option maxRecDepth 100000 in
noncomputable def sz_u865 : List sy_Cut := []
set_option maxRecDepth 100000 in
noncomputable def sz_h865_0 : List sy_Hn := [(6, 20, 0, 0, 0, 0, [], [], []),
  (7, 20, 1, 0, 0, 0, [], [], []),
  (0, 31, 0, 0, 0, 0, [], [], []),
  (0, 31, 0, 0, 0, 0, [], [], []),
  (0, 31, 0, 0, 0, 0, [], [], []),
  (0, 31, 1, 0, 0, 0, [([], [(1, [0]), (1, [1])]), ([4], [(1, [0]), (1, [1])])], [], []),
  (0, 31, 0, 0, 0, 0, [], [], []),
  (0, 31, 0, 0, 0, 0, [], [], []),
  (0, 31, 0, 0, 0, 0, [], [], [])]
set_option maxRecDepth 100000 in
theorem sz_s865_0 : sy_seg sz_E sz_T sz_RU [sz_c850, sz_c856] sz_c865 sz_u865 ri_m_X4_number 103 none sz_h865_0 = true := by decide +kernel
theorem sz_ok865 (xs : Nat → Value) (L : Nat) : sy_Cok (sz_env xs L) sz_T sz_RU sz_c865 := sy_chk_ok (CT := [sz_c850, sz_c856]) (CU := sz_u865) (M := ri_m_X4_number) (List.forall_mem_cons.mpr ⟨sz_ok850 xs L, List.forall_mem_cons.mpr ⟨sz_ok856 xs L, fun _ h => absurd h List.not_mem_nil⟩⟩) rfl rfl ⟨_, _, sz_s865_0⟩ (fun _ h => absurd h List.not_mem_nil)

/-! X4_signed [1, -999, 999] -/
set_option maxRecDepth 100000 in
noncomputable def sz_c866 : sy_Ct := (292, 2, 44, [(3, .inr 1, .inl 0), (0, .inl (-999), .inl 0), (0, .inl 999, .inl 0)], ([(0, 400)], []), [((1, 4), (0, .inr 0, .inl 0))], [], [(1, 4, 6)], [(.inl (some (0, .inr 1, .inl 0)), 0, 0, ([(0, 400), ((-9999), 999), (0, 400)], []), [((1, 4), (0, .inr 2, .inl 0))], [])])
set_option maxRecDepth 100000 in
noncomputable def sz_u866 : List sy_Cut := []
set_option maxRecDepth 100000 in
noncomputable def sz_h866_0 : List sy_Hn := [(6, 20, 0, 0, 0, 0, [], [], []),
  (12, 20, 1, 0, 0, 0, [], [], []),
  (0, 31, 0, 0, 0, 0, [], [], []),
  (0, 31, 0, 0, 0, 0, [], [], []),
  (0, 31, 0, 0, 0, 0, [], [], []),
  (0, 31, 0, 0, 0, 0, [], [], []),
  (0, 31, 0, 0, 0, 0, [], [], []),
  (0, 31, 0, 0, 0, 0, [], [], []),
  (10, 20, 1, 0, 0, 0, [], [], []),
  (0, 31, 0, 0, 0, 0, [], [], []),
  (0, 31, 0, 0, 0, 0, [], [], []),
  (0, 31, 0, 0, 0, 0, [], [], []),
  (0, 31, 0, 0, 0, 0, [], [], []),
  (0, 31, 0, 0, 0, 0, [], [], []),
  (0, 31, 0, 0, 0, 0, [], [], []),
  (9, 20, 1, 0, 0, 0, [], [], []),
  (0, 31, 0, 0, 0, 0, [], [], []),
  (0, 31, 0, 0, 0, 0, [], [], []),
  (0, 31, 0, 0, 0, 0, [], [], []),
  (0, 31, 0, 0, 0, 0, [], [], []),
  (0, 31, 0, 0, 0, 0, [], [], []),
  (0, 31, 0, 0, 0, 0, [], [], []),
  (0, 31, 0, 0, 0, 0, [], [], [])]
set_option maxRecDepth 100000 in
theorem sz_s866_0 : sy_seg sz_E sz_T sz_RU [sz_c850, sz_c856] sz_c866 sz_u866 ri_m_X4_signed 290 none sz_h866_0 = true := by decide +kernel
theorem sz_ok866 (xs : Nat → Value) (L : Nat) : sy_Cok (sz_env xs L) sz_T sz_RU sz_c866 := sy_chk_ok (CT := [sz_c850, sz_c856]) (CU := sz_u866) (M := ri_m_X4_signed) (List.forall_mem_cons.mpr ⟨sz_ok850 xs L, List.forall_mem_cons.mpr ⟨sz_ok856 xs L, fun _ h => absurd h List.not_mem_nil⟩⟩) rfl rfl ⟨_, _, sz_s866_0⟩ (fun _ h => absurd h List.not_mem_nil)

/-! X4_signed [1, -9999, 9999] -/
set_option maxRecDepth 100000 in
noncomputable def sz_c867 : sy_Ct := (292, 2, 44, [(3, .inr 1, .inl 0), (0, .inl (-9999), .inl 0), (0, .inl 9999, .inl 0)], ([(0, 400)], []), [((1, 4), (0, .inr 0, .inl 0))], [], [(1, 4, 6)], [(.inl (some (0, .inr 1, .inl 0)), 0, 0, ([(0, 400), ((-9999), 9999), (0, 400)], []), [((1, 4), (0, .inr 2, .inl 0))], [])])
set_option maxRecDepth 100000 in
noncomputable def sz_u867 : List sy_Cut := []
set_option maxRecDepth 100000 in
noncomputable def sz_h867_0 : List sy_Hn := [(6, 20, 0, 0, 0, 0, [], [], []),
  (12, 20, 1, 0, 0, 0, [], [], []),
  (0, 31, 0, 0, 0, 0, [], [], []),
  (0, 31, 0, 0, 0, 0, [], [], []),
  (0, 31, 0, 0, 0, 0, [], [], []),
  (0, 31, 0, 0, 0, 0, [], [], []),
  (0, 31, 0, 0, 0, 0, [], [], []),
  (0, 31, 0, 0, 0, 0, [], [], []),
  (10, 20, 1, 0, 0, 0, [], [], []),
  (0, 31, 0, 0, 0, 0, [], [], []),
  (0, 31, 0, 0, 0, 0, [], [], []),
  (0, 31, 0, 0, 0, 0, [], [], []),
  (0, 31, 0, 0, 0, 0, [], [], []),
  (0, 31, 0, 0, 0, 0, [], [], []),
  (0, 31, 0, 0, 0, 0, [], [], []),
  (9, 20, 1, 0, 0, 0, [], [], []),
  (0, 31, 0, 0, 0, 0, [], [], []),
  (0, 31, 0, 0, 0, 0, [], [], []),
  (0, 31, 0, 0, 0, 0, [], [], []),
  (0, 31, 0, 0, 0, 0, [], [], []),
  (0, 31, 0, 0, 0, 0, [], [], []),
  (0, 31, 0, 0, 0, 0, [], [], []),
  (0, 31, 0, 0, 0, 0, [], [], [])]
set_option maxRecDepth 100000 in
theorem sz_s867_0 : sy_seg sz_E sz_T sz_RU [sz_c850, sz_c856] sz_c867 sz_u867 ri_m_X4_signed 290 none sz_h867_0 = true := by decide +kernel
theorem sz_ok867 (xs : Nat → Value) (L : Nat) : sy_Cok (sz_env xs L) sz_T sz_RU sz_c867 := sy_chk_ok (CT := [sz_c850, sz_c856]) (CU := sz_u867) (M := ri_m_X4_signed) (List.forall_mem_cons.mpr ⟨sz_ok850 xs L, List.forall_mem_cons.mpr ⟨sz_ok856 xs L, fun _ h => absurd h List.not_mem_nil⟩⟩) rfl rfl ⟨_, _, sz_s867_0⟩ (fun _ h => absurd h List.not_mem_nil)

/-! X4_takes [1, 1000030] -/
set_option maxRecDepth 100000 in
noncomputable def sz_c868 : sy_Ct := (256, 4, 85, [(3, .inr 1, .inl 0), (3, .inr 1000030, .inl 0)], ([(0, 400)], []), [((1, 4), (0, .inr 0, .inl 0))], [], [(1, 4, 5)], [(.inl (some (0, .inr 1, .inl 0)), 0, 0, ([(0, 400), (0, 1), (0, 400)], []), [((1, 4), (0, .inr 2, .inl 0))], [])])
set_option maxRecDepth 100000 in
noncomputable def sz_u868 : List sy_Cut := [(16, [(0, (3, .inr 1, .inl 0)), (1, (3, .inr 1000030, .inl 0)), (2, (0, .inr 1, .inl 0)), (3, (0, .inr 2, .inl 0))], ([(0, 400), (0, 7), (6, 406), (0, 400)], [[(1, [3]), ((-1), [1]), (6, [])], [(1, [1]), ((-1), [3]), ((-6), [])], [(400, []), ((-1), [3]), ((-1), [2])]]), [((1, 4), (0, .inr 3, .inl 0))], [], [(8, []), ((-1), [2])])]
set_option maxRecDepth 100000 in
noncomputable def sz_h868_0 : List sy_Hn := [(6, 20, 0, 0, 0, 0, [], [], []),
  (0, 30, 0, 0, 0, 0, [([], [(1, [0])]), ([], []), ([], [(1, [0]), (1, [2])]), ([], [(1, [0]), (1, [1])]), ([2], [(1, [0]), (1, [2])])], [], []),
  (0, 31, 0, 0, 0, 0, [], [], [])]
set_option maxRecDepth 100000 in
theorem sz_s868_0 : sy_seg sz_E sz_T sz_RU [sz_c850] sz_c868 sz_u868 ri_m_X4_takes 38 none sz_h868_0 = true := by decide +kernel
set_option maxRecDepth 100000 in
noncomputable def sz_h868_1 : List sy_Hn := [(32, 3, 1, 0, 6, 401, [([1], [(1, [0]), (1, [1])]), ([2], [(1, [0]), (1, [4]), (1, [6]), (1, [1])])], [], []),
  (1, 3, 1, 0, 6, 400, [([1], [(1, [0]), (1, [1])]), ([2], [(1, [0]), (1, [4]), (1, [6]), (1, [1])])], [], []),
  (0, 31, 0, 0, 0, 0, [], [], []),
  (0, 31, 0, 0, 0, 0, [], [], []),
  (0, 31, 0, 0, 0, 0, [], [], []),
  (0, 31, 0, 0, 0, 0, [], [], []),
  (0, 31, 0, 0, 0, 0, [], [], []),
  (0, 31, 0, 0, 0, 0, [], [], []),
  (0, 31, 0, 0, 0, 0, [], [], []),
  (10, 3, 8, 0, 0, 399, [([8], [(1, [0]), (1, [1])]), ([4], [(1, [0]), (1, [4]), (1, [6]), (1, [2])])], [], []),
  (0, 30, 0, 0, 0, 0, [([13], [(1, [0]), (1, [2])]), ([], [(1, [0]), (1, [1])]), ([], [(1, [0]), (1, [10])]), ([], [(1, [0]), (1, [11])]), ([8], [(1, [0]), (1, [7]), (1, [4]), (1, [2])])], [], []),
  (0, 31, 0, 0, 0, 0, [], [], [])]
set_option maxRecDepth 100000 in
theorem sz_s868_1 : sy_seg sz_E sz_T sz_RU [sz_c850] sz_c868 sz_u868 ri_m_X4_takes 192 (some ((16, [(0, (3, .inr 1, .inl 0)), (1, (3, .inr 1000030, .inl 0)), (2, (0, .inr 1, .inl 0)), (3, (0, .inr 2, .inl 0))], ([(0, 400), (0, 7), (6, 406), (0, 400)], [[(1, [3]), ((-1), [1]), (6, [])], [(1, [1]), ((-1), [3]), ((-6), [])], [(400, []), ((-1), [3]), ((-1), [2])]]), [((1, 4), (0, .inr 3, .inl 0))], [], [(8, []), ((-1), [2])]))) sz_h868_1 = true := by decide +kernel
theorem sz_ok868 (xs : Nat → Value) (L : Nat) : sy_Cok (sz_env xs L) sz_T sz_RU sz_c868 := sy_chk_ok (CT := [sz_c850]) (CU := sz_u868) (M := ri_m_X4_takes) (List.forall_mem_cons.mpr ⟨sz_ok850 xs L, fun _ h => absurd h List.not_mem_nil⟩) rfl rfl ⟨_, _, sz_s868_0⟩ (List.forall_mem_cons.mpr ⟨⟨_, _, sz_s868_1⟩, fun _ h => absurd h List.not_mem_nil⟩)

/-! X4_takes [1, 1000031] -/
set_option maxRecDepth 100000 in
noncomputable def sz_c869 : sy_Ct := (256, 4, 85, [(3, .inr 1, .inl 0), (3, .inr 1000031, .inl 0)], ([(0, 400)], []), [((1, 4), (0, .inr 0, .inl 0))], [], [(1, 4, 5)], [(.inl (some (0, .inr 1, .inl 0)), 0, 0, ([(0, 400), (0, 1), (0, 400)], []), [((1, 4), (0, .inr 2, .inl 0))], [])])
set_option maxRecDepth 100000 in
noncomputable def sz_u869 : List sy_Cut := [(16, [(0, (3, .inr 1, .inl 0)), (1, (3, .inr 1000031, .inl 0)), (2, (0, .inr 1, .inl 0)), (3, (0, .inr 2, .inl 0))], ([(0, 400), (0, 4), (4, 404), (0, 400)], [[(1, [3]), ((-1), [1]), (4, [])], [(1, [1]), ((-1), [3]), ((-4), [])], [(400, []), ((-1), [3]), ((-1), [2])]]), [((1, 4), (0, .inr 3, .inl 0))], [], [(8, []), ((-1), [2])])]
set_option maxRecDepth 100000 in
noncomputable def sz_h869_0 : List sy_Hn := [(6, 20, 0, 0, 0, 0, [], [], []),
  (0, 30, 0, 0, 0, 0, [([], [(1, [0])]), ([], []), ([], [(1, [0]), (1, [2])]), ([], [(1, [0]), (1, [1])]), ([2], [(1, [0]), (1, [2])])], [], []),
  (0, 31, 0, 0, 0, 0, [], [], [])]
set_option maxRecDepth 100000 in
theorem sz_s869_0 : sy_seg sz_E sz_T sz_RU [sz_c850] sz_c869 sz_u869 ri_m_X4_takes 38 none sz_h869_0 = true := by decide +kernel
set_option maxRecDepth 100000 in
noncomputable def sz_h869_1 : List sy_Hn := [(32, 3, 1, 0, 4, 401, [([1], [(1, [0]), (1, [1])]), ([2], [(1, [0]), (1, [4]), (1, [6]), (1, [1])])], [], []),
  (1, 3, 1, 0, 4, 400, [([1], [(1, [0]), (1, [1])]), ([2], [(1, [0]), (1, [4]), (1, [6]), (1, [1])])], [], []),
  (0, 31, 0, 0, 0, 0, [], [], []),
  (0, 31, 0, 0, 0, 0, [], [], []),
  (0, 31, 0, 0, 0, 0, [], [], []),
  (0, 31, 0, 0, 0, 0, [], [], []),
  (0, 31, 0, 0, 0, 0, [], [], []),
  (0, 31, 0, 0, 0, 0, [], [], []),
  (0, 31, 0, 0, 0, 0, [], [], []),
  (10, 3, 8, 0, 0, 399, [([8], [(1, [0]), (1, [1])]), ([4], [(1, [0]), (1, [4]), (1, [6]), (1, [2])])], [], []),
  (0, 30, 0, 0, 0, 0, [([13], [(1, [0]), (1, [2])]), ([], [(1, [0]), (1, [1])]), ([], [(1, [0]), (1, [10])]), ([], [(1, [0]), (1, [11])]), ([8], [(1, [0]), (1, [7]), (1, [4]), (1, [2])])], [], []),
  (0, 31, 0, 0, 0, 0, [], [], [])]
set_option maxRecDepth 100000 in
theorem sz_s869_1 : sy_seg sz_E sz_T sz_RU [sz_c850] sz_c869 sz_u869 ri_m_X4_takes 192 (some ((16, [(0, (3, .inr 1, .inl 0)), (1, (3, .inr 1000031, .inl 0)), (2, (0, .inr 1, .inl 0)), (3, (0, .inr 2, .inl 0))], ([(0, 400), (0, 4), (4, 404), (0, 400)], [[(1, [3]), ((-1), [1]), (4, [])], [(1, [1]), ((-1), [3]), ((-4), [])], [(400, []), ((-1), [3]), ((-1), [2])]]), [((1, 4), (0, .inr 3, .inl 0))], [], [(8, []), ((-1), [2])]))) sz_h869_1 = true := by decide +kernel
theorem sz_ok869 (xs : Nat → Value) (L : Nat) : sy_Cok (sz_env xs L) sz_T sz_RU sz_c869 := sy_chk_ok (CT := [sz_c850]) (CU := sz_u869) (M := ri_m_X4_takes) (List.forall_mem_cons.mpr ⟨sz_ok850 xs L, fun _ h => absurd h List.not_mem_nil⟩) rfl rfl ⟨_, _, sz_s869_0⟩ (List.forall_mem_cons.mpr ⟨⟨_, _, sz_s869_1⟩, fun _ h => absurd h List.not_mem_nil⟩)

/-! X4_takes [1, 1000032] -/
set_option maxRecDepth 100000 in
noncomputable def sz_c870 : sy_Ct := (256, 4, 85, [(3, .inr 1, .inl 0), (3, .inr 1000032, .inl 0)], ([(0, 400)], []), [((1, 4), (0, .inr 0, .inl 0))], [], [(1, 4, 5)], [(.inl (some (0, .inr 1, .inl 0)), 0, 0, ([(0, 400), (0, 1), (0, 400)], []), [((1, 4), (0, .inr 2, .inl 0))], [])])
set_option maxRecDepth 100000 in
noncomputable def sz_u870 : List sy_Cut := [(16, [(0, (3, .inr 1, .inl 0)), (1, (3, .inr 1000032, .inl 0)), (2, (0, .inr 1, .inl 0)), (3, (0, .inr 2, .inl 0))], ([(0, 400), (0, 7), (7, 407), (0, 400)], [[(1, [3]), ((-1), [1]), (7, [])], [(1, [1]), ((-1), [3]), ((-7), [])], [(400, []), ((-1), [3]), ((-1), [2])]]), [((1, 4), (0, .inr 3, .inl 0))], [], [(8, []), ((-1), [2])])]
set_option maxRecDepth 100000 in
noncomputable def sz_h870_0 : List sy_Hn := [(6, 20, 0, 0, 0, 0, [], [], []),
  (0, 30, 0, 0, 0, 0, [([], [(1, [0])]), ([], []), ([], [(1, [0]), (1, [2])]), ([], [(1, [0]), (1, [1])]), ([2], [(1, [0]), (1, [2])])], [], []),
  (0, 31, 0, 0, 0, 0, [], [], [])]
set_option maxRecDepth 100000 in
theorem sz_s870_0 : sy_seg sz_E sz_T sz_RU [sz_c850] sz_c870 sz_u870 ri_m_X4_takes 38 none sz_h870_0 = true := by decide +kernel
set_option maxRecDepth 100000 in
noncomputable def sz_h870_1 : List sy_Hn := [(32, 3, 1, 0, 7, 401, [([1], [(1, [0]), (1, [1])]), ([2], [(1, [0]), (1, [4]), (1, [6]), (1, [1])])], [], []),
  (1, 3, 1, 0, 7, 400, [([1], [(1, [0]), (1, [1])]), ([2], [(1, [0]), (1, [4]), (1, [6]), (1, [1])])], [], []),
  (0, 31, 0, 0, 0, 0, [], [], []),
  (0, 31, 0, 0, 0, 0, [], [], []),
  (0, 31, 0, 0, 0, 0, [], [], []),
  (0, 31, 0, 0, 0, 0, [], [], []),
  (0, 31, 0, 0, 0, 0, [], [], []),
  (0, 31, 0, 0, 0, 0, [], [], []),
  (0, 31, 0, 0, 0, 0, [], [], []),
  (10, 3, 8, 0, 0, 399, [([8], [(1, [0]), (1, [1])]), ([4], [(1, [0]), (1, [4]), (1, [6]), (1, [2])])], [], []),
  (0, 30, 0, 0, 0, 0, [([13], [(1, [0]), (1, [2])]), ([], [(1, [0]), (1, [1])]), ([], [(1, [0]), (1, [10])]), ([], [(1, [0]), (1, [11])]), ([8], [(1, [0]), (1, [7]), (1, [4]), (1, [2])])], [], []),
  (0, 31, 0, 0, 0, 0, [], [], [])]
set_option maxRecDepth 100000 in
theorem sz_s870_1 : sy_seg sz_E sz_T sz_RU [sz_c850] sz_c870 sz_u870 ri_m_X4_takes 192 (some ((16, [(0, (3, .inr 1, .inl 0)), (1, (3, .inr 1000032, .inl 0)), (2, (0, .inr 1, .inl 0)), (3, (0, .inr 2, .inl 0))], ([(0, 400), (0, 7), (7, 407), (0, 400)], [[(1, [3]), ((-1), [1]), (7, [])], [(1, [1]), ((-1), [3]), ((-7), [])], [(400, []), ((-1), [3]), ((-1), [2])]]), [((1, 4), (0, .inr 3, .inl 0))], [], [(8, []), ((-1), [2])]))) sz_h870_1 = true := by decide +kernel
theorem sz_ok870 (xs : Nat → Value) (L : Nat) : sy_Cok (sz_env xs L) sz_T sz_RU sz_c870 := sy_chk_ok (CT := [sz_c850]) (CU := sz_u870) (M := ri_m_X4_takes) (List.forall_mem_cons.mpr ⟨sz_ok850 xs L, fun _ h => absurd h List.not_mem_nil⟩) rfl rfl ⟨_, _, sz_s870_0⟩ (List.forall_mem_cons.mpr ⟨⟨_, _, sz_s870_1⟩, fun _ h => absurd h List.not_mem_nil⟩)

/-! X4_need [1, 1000032] -/
set_option maxRecDepth 100000 in
noncomputable def sz_c871 : sy_Ct := (291, 5, 108, [(3, .inr 1, .inl 0), (3, .inr 1000032, .inl 0)], ([(0, 400)], []), [((1, 4), (0, .inr 0, .inl 0))], [], [(1, 4, 6)], [(.inl none, 0, 0, ([(0, 400), (0, 400)], []), [((1, 4), (0, .inr 1, .inl 0))], [])])
set_option maxRecDepth 100000 in
noncomputable def sz_u871 : List sy_Cut := []
set_option maxRecDepth 100000 in
noncomputable def sz_h871_0 : List sy_Hn := [(3, 20, 0, 0, 0, 0, [], [], []),
  (0, 31, 0, 0, 0, 0, [], [], []),
  (0, 31, 0, 0, 0, 0, [], [], []),
  (0, 31, 0, 0, 0, 0, [], [], [])]
set_option maxRecDepth 100000 in
theorem sz_s871_0 : sy_seg sz_E sz_T sz_RU [sz_c870] sz_c871 sz_u871 ri_m_X4_need 29 none sz_h871_0 = true := by decide +kernel
theorem sz_ok871 (xs : Nat → Value) (L : Nat) : sy_Cok (sz_env xs L) sz_T sz_RU sz_c871 := sy_chk_ok (CT := [sz_c870]) (CU := sz_u871) (M := ri_m_X4_need) (List.forall_mem_cons.mpr ⟨sz_ok870 xs L, fun _ h => absurd h List.not_mem_nil⟩) rfl rfl ⟨_, _, sz_s871_0⟩ (fun _ h => absurd h List.not_mem_nil)

/-! X4_readMode [1, 10] -/
set_option maxRecDepth 100000 in
noncomputable def sz_c872 : sy_Ct := (298, 6, 129, [(3, .inr 1, .inl 0), (3, .inr 10, .inl 0)], ([(0, 400)], []), [((1, 4), (0, .inr 0, .inl 0))], [], [(1, 4, 6)], [(.inl (some (0, .inr 1, .inl 0)), 0, 0, ([(0, 400), (0, 2), (0, 400)], []), [((1, 4), (0, .inr 2, .inl 0))], [])])
set_option maxRecDepth 100000 in
noncomputable def sz_u872 : List sy_Cut := []
set_option maxRecDepth 100000 in
noncomputable def sz_h872_0 : List sy_Hn := [(3, 20, 0, 0, 0, 0, [], [], []),
  (4, 20, 1, 0, 0, 0, [], [], []),
  (4, 20, 2, 0, 0, 0, [], [], []),
  (0, 31, 0, 0, 0, 0, [], [], []),
  (0, 31, 0, 0, 0, 0, [], [], []),
  (0, 31, 0, 0, 0, 0, [], [], []),
  (0, 31, 0, 0, 0, 0, [], [], []),
  (0, 31, 0, 0, 0, 0, [], [], [])]
set_option maxRecDepth 100000 in
theorem sz_s872_0 : sy_seg sz_E sz_T sz_RU [sz_c868, sz_c869, sz_c871] sz_c872 sz_u872 ri_m_X4_readMode 51 none sz_h872_0 = true := by decide +kernel
theorem sz_ok872 (xs : Nat → Value) (L : Nat) : sy_Cok (sz_env xs L) sz_T sz_RU sz_c872 := sy_chk_ok (CT := [sz_c868, sz_c869, sz_c871]) (CU := sz_u872) (M := ri_m_X4_readMode) (List.forall_mem_cons.mpr ⟨sz_ok868 xs L, List.forall_mem_cons.mpr ⟨sz_ok869 xs L, List.forall_mem_cons.mpr ⟨sz_ok871 xs L, fun _ h => absurd h List.not_mem_nil⟩⟩⟩) rfl rfl ⟨_, _, sz_s872_0⟩ (fun _ h => absurd h List.not_mem_nil)

/-! X4_readMode [1, 22] -/
set_option maxRecDepth 100000 in
noncomputable def sz_c873 : sy_Ct := (298, 6, 129, [(3, .inr 1, .inl 0), (3, .inr 22, .inl 0)], ([(0, 400)], []), [((1, 4), (0, .inr 0, .inl 0))], [], [(1, 4, 6)], [(.inl (some (0, .inr 1, .inl 0)), 0, 0, ([(0, 400), (0, 2), (0, 400)], []), [((1, 4), (0, .inr 2, .inl 0))], [])])
set_option maxRecDepth 100000 in
noncomputable def sz_u873 : List sy_Cut := []
set_option maxRecDepth 100000 in
noncomputable def sz_h873_0 : List sy_Hn := [(3, 20, 0, 0, 0, 0, [], [], []),
  (4, 20, 1, 0, 0, 0, [], [], []),
  (4, 20, 2, 0, 0, 0, [], [], []),
  (0, 31, 0, 0, 0, 0, [], [], []),
  (0, 31, 0, 0, 0, 0, [], [], []),
  (0, 31, 0, 0, 0, 0, [], [], []),
  (0, 31, 0, 0, 0, 0, [], [], []),
  (0, 31, 0, 0, 0, 0, [], [], [])]
set_option maxRecDepth 100000 in
theorem sz_s873_0 : sy_seg sz_E sz_T sz_RU [sz_c868, sz_c869, sz_c871] sz_c873 sz_u873 ri_m_X4_readMode 51 none sz_h873_0 = true := by decide +kernel
theorem sz_ok873 (xs : Nat → Value) (L : Nat) : sy_Cok (sz_env xs L) sz_T sz_RU sz_c873 := sy_chk_ok (CT := [sz_c868, sz_c869, sz_c871]) (CU := sz_u873) (M := ri_m_X4_readMode) (List.forall_mem_cons.mpr ⟨sz_ok868 xs L, List.forall_mem_cons.mpr ⟨sz_ok869 xs L, List.forall_mem_cons.mpr ⟨sz_ok871 xs L, fun _ h => absurd h List.not_mem_nil⟩⟩⟩) rfl rfl ⟨_, _, sz_s873_0⟩ (fun _ h => absurd h List.not_mem_nil)

/-! X4_readMode [1, 34] -/
set_option maxRecDepth 100000 in
noncomputable def sz_c874 : sy_Ct := (298, 6, 129, [(3, .inr 1, .inl 0), (3, .inr 34, .inl 0)], ([(0, 400)], []), [((1, 4), (0, .inr 0, .inl 0))], [], [(1, 4, 6)], [(.inl (some (0, .inr 1, .inl 0)), 0, 0, ([(0, 400), (0, 2), (0, 400)], []), [((1, 4), (0, .inr 2, .inl 0))], [])])
set_option maxRecDepth 100000 in
noncomputable def sz_u874 : List sy_Cut := []
set_option maxRecDepth 100000 in
noncomputable def sz_h874_0 : List sy_Hn := [(3, 20, 0, 0, 0, 0, [], [], []),
  (4, 20, 1, 0, 0, 0, [], [], []),
  (4, 20, 2, 0, 0, 0, [], [], []),
  (0, 31, 0, 0, 0, 0, [], [], []),
  (0, 31, 0, 0, 0, 0, [], [], []),
  (0, 31, 0, 0, 0, 0, [], [], []),
  (0, 31, 0, 0, 0, 0, [], [], []),
  (0, 31, 0, 0, 0, 0, [], [], [])]
set_option maxRecDepth 100000 in
theorem sz_s874_0 : sy_seg sz_E sz_T sz_RU [sz_c868, sz_c869, sz_c871] sz_c874 sz_u874 ri_m_X4_readMode 51 none sz_h874_0 = true := by decide +kernel
theorem sz_ok874 (xs : Nat → Value) (L : Nat) : sy_Cok (sz_env xs L) sz_T sz_RU sz_c874 := sy_chk_ok (CT := [sz_c868, sz_c869, sz_c871]) (CU := sz_u874) (M := ri_m_X4_readMode) (List.forall_mem_cons.mpr ⟨sz_ok868 xs L, List.forall_mem_cons.mpr ⟨sz_ok869 xs L, List.forall_mem_cons.mpr ⟨sz_ok871 xs L, fun _ h => absurd h List.not_mem_nil⟩⟩⟩) rfl rfl ⟨_, _, sz_s874_0⟩ (fun _ h => absurd h List.not_mem_nil)

/-! X4_readMode [1, 46] -/
set_option maxRecDepth 100000 in
noncomputable def sz_c875 : sy_Ct := (298, 6, 129, [(3, .inr 1, .inl 0), (3, .inr 46, .inl 0)], ([(0, 400)], []), [((1, 4), (0, .inr 0, .inl 0))], [], [(1, 4, 6)], [(.inl (some (0, .inr 1, .inl 0)), 0, 0, ([(0, 400), (0, 2), (0, 400)], []), [((1, 4), (0, .inr 2, .inl 0))], [])])
set_option maxRecDepth 100000 in
noncomputable def sz_u875 : List sy_Cut := []
set_option maxRecDepth 100000 in
noncomputable def sz_h875_0 : List sy_Hn := [(3, 20, 0, 0, 0, 0, [], [], []),
  (4, 20, 1, 0, 0, 0, [], [], []),
  (4, 20, 2, 0, 0, 0, [], [], []),
  (0, 31, 0, 0, 0, 0, [], [], []),
  (0, 31, 0, 0, 0, 0, [], [], []),
  (0, 31, 0, 0, 0, 0, [], [], []),
  (0, 31, 0, 0, 0, 0, [], [], []),
  (0, 31, 0, 0, 0, 0, [], [], [])]
set_option maxRecDepth 100000 in
theorem sz_s875_0 : sy_seg sz_E sz_T sz_RU [sz_c868, sz_c869, sz_c871] sz_c875 sz_u875 ri_m_X4_readMode 51 none sz_h875_0 = true := by decide +kernel
theorem sz_ok875 (xs : Nat → Value) (L : Nat) : sy_Cok (sz_env xs L) sz_T sz_RU sz_c875 := sy_chk_ok (CT := [sz_c868, sz_c869, sz_c871]) (CU := sz_u875) (M := ri_m_X4_readMode) (List.forall_mem_cons.mpr ⟨sz_ok868 xs L, List.forall_mem_cons.mpr ⟨sz_ok869 xs L, List.forall_mem_cons.mpr ⟨sz_ok871 xs L, fun _ h => absurd h List.not_mem_nil⟩⟩⟩) rfl rfl ⟨_, _, sz_s875_0⟩ (fun _ h => absurd h List.not_mem_nil)

/-! X4_readEvent [1] -/
set_option maxRecDepth 100000 in
noncomputable def sz_c876 : sy_Ct := (261, 7, 150, [(3, .inr 1, .inl 0)], ([(0, 400)], []), [((1, 4), (0, .inr 0, .inl 0))], [], [(1, 4, 6), (4, 2, 2), (5, 0, 31)], [(.inl none, 0, 0, ([(0, 400), (0, 400)], []), [((1, 4), (0, .inr 1, .inl 0))], [])])
set_option maxRecDepth 100000 in
noncomputable def sz_u876 : List sy_Cut := []
set_option maxRecDepth 100000 in
noncomputable def sz_h876_0_0 : List sy_Hn := [(12, 20, 0, 0, 0, 0, [], [], []),
  (3, 20, 1, 0, 0, 0, [], [], []),
  (9, 20, 2, 0, 0, 0, [], [], []),
  (19, 1, 1, 0, 0, 0, [], [], []),
  (21, 4, 5, 1, 0, 0, [], [], []),
  (0, 4, 5, 2, 0, 0, [], [], []),
  (0, 4, 5, 3, 0, 0, [], [], []),
  (0, 5, 493, 0, 0, 0, [], [], []),
  (0, 3, 12, 0, 0, 2147483647, [([], [(1, [0]), (1, [1])]), ([12], [(1, [0]), (1, [2])])], [], []),
  (0, 5, 493, 1, 0, 0, [], [], []),
  (0, 3, 12, 0, 0, 3, [([12], [(1, [0]), (1, [1])]), ([], [(1, [0]), (1, [1])])], [], []),
  (22, 6, 493, 0, 0, 0, [([], [(1, [0])]), ([], [(1, [0])]), ([5], [(1, [0]), (1, [2])]), ([5], [(1, [0]), (1, [2])])], [], [0, 0, 0, 0]),
  (0, 31, 0, 0, 0, 0, [], [], []),
  (0, 1, 1, 0, 1, 0, [], [], []),
  (21, 4, 5, 5, 0, 0, [], [], []),
  (0, 4, 5, 6, 0, 0, [], [], []),
  (0, 4, 5, 7, 0, 0, [], [], []),
  (0, 5, 494, 0, 0, 0, [], [], []),
  (0, 3, 12, 0, 0, 2147483647, [([], [(1, [0]), (1, [1])]), ([12], [(1, [0]), (1, [2])])], [], []),
  (0, 5, 494, 1, 0, 0, [], [], []),
  (0, 3, 12, 0, 0, 3, [([12], [(1, [0]), (1, [1])]), ([], [(1, [0]), (1, [1])])], [], []),
  (22, 6, 494, 0, 0, 0, [([], [(1, [0])]), ([], [(1, [0])]), ([5], [(1, [0]), (1, [2])]), ([5], [(1, [0]), (1, [2])])], [], [0, 0, 0, 0]),
  (0, 31, 0, 0, 0, 0, [], [], []),
  (0, 1, 1, 0, 2, 0, [], [], []),
  (21, 4, 5, 9, 0, 0, [], [], []),
  (0, 4, 5, 10, 0, 0, [], [], []),
  (0, 4, 5, 11, 0, 0, [], [], []),
  (0, 5, 495, 0, 0, 0, [], [], []),
  (0, 3, 12, 0, 0, 2147483647, [([], [(1, [0]), (1, [1])]), ([12], [(1, [0]), (1, [2])])], [], []),
  (0, 5, 495, 1, 0, 0, [], [], []),
  (0, 3, 12, 0, 0, 3, [([12], [(1, [0]), (1, [1])]), ([], [(1, [0]), (1, [1])])], [], []),
  (22, 6, 495, 0, 0, 0, [([], [(1, [0])]), ([], [(1, [0])]), ([5], [(1, [0]), (1, [2])]), ([5], [(1, [0]), (1, [2])])], [], [0, 0, 0, 0]),
  (0, 31, 0, 0, 0, 0, [], [], []),
  (0, 1, 1, 0, 3, 0, [], [], []),
  (21, 4, 5, 13, 0, 0, [], [], []),
  (0, 4, 5, 14, 0, 0, [], [], []),
  (0, 4, 5, 15, 0, 0, [], [], []),
  (0, 5, 496, 0, 0, 0, [], [], []),
  (0, 3, 12, 0, 0, 2147483647, [([], [(1, [0]), (1, [1])]), ([12], [(1, [0]), (1, [2])])], [], []),
  (0, 5, 496, 1, 0, 0, [], [], []),
  (0, 3, 12, 0, 0, 3, [([12], [(1, [0]), (1, [1])]), ([], [(1, [0]), (1, [1])])], [], []),
  (22, 6, 496, 0, 0, 0, [([], [(1, [0])]), ([], [(1, [0])]), ([5], [(1, [0]), (1, [2])]), ([5], [(1, [0]), (1, [2])])], [], [0, 0, 0, 0]),
  (0, 31, 0, 0, 0, 0, [], [], []),
  (0, 1, 1, 0, 4, 0, [], [], []),
  (21, 4, 5, 17, 0, 0, [], [], []),
  (0, 4, 5, 18, 0, 0, [], [], []),
  (0, 4, 5, 19, 0, 0, [], [], []),
  (0, 5, 497, 0, 0, 0, [], [], []),
  (0, 3, 12, 0, 0, 2147483647, [([], [(1, [0]), (1, [1])]), ([12], [(1, [0]), (1, [2])])], [], []),
  (0, 5, 497, 1, 0, 0, [], [], []),
  (0, 3, 12, 0, 0, 3, [([12], [(1, [0]), (1, [1])]), ([], [(1, [0]), (1, [1])])], [], []),
  (22, 6, 497, 0, 0, 0, [([], [(1, [0])]), ([], [(1, [0])]), ([5], [(1, [0]), (1, [2])]), ([5], [(1, [0]), (1, [2])])], [], [0, 0, 0, 0]),
  (0, 31, 0, 0, 0, 0, [], [], []),
  (0, 1, 1, 0, 5, 0, [], [], []),
  (21, 4, 5, 21, 0, 0, [], [], []),
  (0, 4, 5, 22, 0, 0, [], [], []),
  (0, 4, 5, 23, 0, 0, [], [], []),
  (0, 5, 498, 0, 0, 0, [], [], []),
  (0, 3, 12, 0, 0, 2147483647, [([], [(1, [0]), (1, [1])]), ([12], [(1, [0]), (1, [2])])], [], []),
  (0, 5, 498, 1, 0, 0, [], [], []),
  (0, 3, 12, 0, 0, 3, [([12], [(1, [0]), (1, [1])]), ([], [(1, [0]), (1, [1])])], [], []),
  (22, 6, 498, 0, 0, 0, [([], [(1, [0])]), ([], [(1, [0])]), ([5], [(1, [0]), (1, [2])]), ([5], [(1, [0]), (1, [2])])], [], [0, 0, 0, 0]),
  (0, 31, 0, 0, 0, 0, [], [], []),
  (0, 1, 1, 0, 6, 0, [], [], []),
  (21, 4, 5, 25, 0, 0, [], [], []),
  (0, 4, 5, 26, 0, 0, [], [], []),
  (0, 4, 5, 27, 0, 0, [], [], []),
  (0, 5, 499, 0, 0, 0, [], [], []),
  (0, 3, 12, 0, 0, 2147483647, [([], [(1, [0]), (1, [1])]), ([12], [(1, [0]), (1, [2])])], [], []),
  (0, 5, 499, 1, 0, 0, [], [], []),
  (0, 3, 12, 0, 0, 3, [([12], [(1, [0]), (1, [1])]), ([], [(1, [0]), (1, [1])])], [], []),
  (22, 6, 499, 0, 0, 0, [([], [(1, [0])]), ([], [(1, [0])]), ([5], [(1, [0]), (1, [2])]), ([5], [(1, [0]), (1, [2])])], [], [0, 0, 0, 0]),
  (0, 31, 0, 0, 0, 0, [], [], []),
  (21, 4, 5, 29, 0, 0, [], [], []),
  (0, 4, 5, 30, 0, 0, [], [], []),
  (0, 4, 5, 31, 0, 0, [], [], []),
  (0, 5, 500, 0, 0, 0, [], [], []),
  (0, 3, 12, 0, 0, 2147483647, [([], [(1, [0]), (1, [1])]), ([12], [(1, [0]), (1, [2])])], [], []),
  (0, 5, 500, 1, 0, 0, [], [], []),
  (0, 3, 12, 0, 0, 3, [([12], [(1, [0]), (1, [1])]), ([], [(1, [0]), (1, [1])])], [], []),
  (22, 6, 500, 0, 0, 0, [([], [(1, [0])]), ([], [(1, [0])]), ([5], [(1, [0]), (1, [2])]), ([5], [(1, [0]), (1, [2])])], [], [0, 0, 0, 0]),
  (0, 31, 0, 0, 0, 0, [], [], []),
  (12, 1, 1, 0, 0, 0, [], [], []),
  (21, 4, 5, 1, 0, 0, [], [], []),
  (0, 4, 5, 2, 0, 0, [], [], []),
  (0, 4, 5, 3, 0, 0, [], [], []),
  (0, 5, 493, 0, 0, 0, [], [], []),
  (0, 3, 12, 0, 0, 2147483647, [([], [(1, [0]), (1, [1])]), ([12], [(1, [0]), (1, [2])])], [], []),
  (0, 5, 493, 1, 0, 0, [], [], []),
  (0, 3, 12, 0, 0, 3, [([12], [(1, [0]), (1, [1])]), ([], [(1, [0]), (1, [1])])], [], []),
  (22, 6, 493, 0, 0, 0, [([], [(1, [0])]), ([], [(1, [0])]), ([], [(1, [0])]), ([], [(1, [0])])], [], [0, 0, 2, 2]),
  (0, 31, 0, 0, 0, 0, [], [], []),
  (0, 1, 1, 0, 1, 0, [], [], []),
  (21, 4, 5, 5, 0, 0, [], [], []),
  (0, 4, 5, 6, 0, 0, [], [], []),
  (0, 4, 5, 7, 0, 0, [], [], []),
  (0, 5, 494, 0, 0, 0, [], [], []),
  (0, 3, 12, 0, 0, 2147483647, [([], [(1, [0]), (1, [1])]), ([12], [(1, [0]), (1, [2])])], [], []),
  (0, 5, 494, 1, 0, 0, [], [], []),
  (0, 3, 12, 0, 0, 3, [([12], [(1, [0]), (1, [1])]), ([], [(1, [0]), (1, [1])])], [], []),
  (22, 6, 494, 0, 0, 0, [([], [(1, [0])]), ([], [(1, [0])]), ([], [(1, [0])]), ([], [(1, [0])])], [], [0, 0, 2, 2]),
  (0, 31, 0, 0, 0, 0, [], [], []),
  (0, 1, 1, 0, 2, 0, [], [], []),
  (21, 4, 5, 9, 0, 0, [], [], []),
  (0, 4, 5, 10, 0, 0, [], [], []),
  (0, 4, 5, 11, 0, 0, [], [], []),
  (0, 5, 495, 0, 0, 0, [], [], []),
  (0, 3, 12, 0, 0, 2147483647, [([], [(1, [0]), (1, [1])]), ([12], [(1, [0]), (1, [2])])], [], []),
  (0, 5, 495, 1, 0, 0, [], [], []),
  (0, 3, 12, 0, 0, 3, [([12], [(1, [0]), (1, [1])]), ([], [(1, [0]), (1, [1])])], [], []),
  (22, 6, 495, 0, 0, 0, [([], [(1, [0])]), ([], [(1, [0])]), ([], [(1, [0])]), ([], [(1, [0])])], [], [0, 0, 2, 2]),
  (0, 31, 0, 0, 0, 0, [], [], []),
  (0, 1, 1, 0, 3, 0, [], [], []),
  (21, 4, 5, 13, 0, 0, [], [], []),
  (0, 4, 5, 14, 0, 0, [], [], []),
  (0, 4, 5, 15, 0, 0, [], [], []),
  (0, 5, 496, 0, 0, 0, [], [], []),
  (0, 3, 12, 0, 0, 2147483647, [([], [(1, [0]), (1, [1])]), ([12], [(1, [0]), (1, [2])])], [], []),
  (0, 5, 496, 1, 0, 0, [], [], []),
  (0, 3, 12, 0, 0, 3, [([12], [(1, [0]), (1, [1])]), ([], [(1, [0]), (1, [1])])], [], []),
  (22, 6, 496, 0, 0, 0, [([], [(1, [0])]), ([], [(1, [0])]), ([], [(1, [0])]), ([], [(1, [0])])], [], [0, 0, 2, 2]),
  (0, 31, 0, 0, 0, 0, [], [], []),
  (0, 1, 1, 0, 4, 0, [], [], []),
  (21, 4, 5, 17, 0, 0, [], [], []),
  (0, 4, 5, 18, 0, 0, [], [], []),
  (0, 4, 5, 19, 0, 0, [], [], []),
  (0, 5, 497, 0, 0, 0, [], [], []),
  (0, 3, 12, 0, 0, 2147483647, [([], [(1, [0]), (1, [1])]), ([12], [(1, [0]), (1, [2])])], [], []),
  (0, 5, 497, 1, 0, 0, [], [], []),
  (0, 3, 12, 0, 0, 3, [([12], [(1, [0]), (1, [1])]), ([], [(1, [0]), (1, [1])])], [], []),
  (22, 6, 497, 0, 0, 0, [([], [(1, [0])]), ([], [(1, [0])]), ([], [(1, [0])]), ([], [(1, [0])])], [], [0, 0, 2, 2]),
  (0, 31, 0, 0, 0, 0, [], [], []),
  (0, 1, 1, 0, 5, 0, [], [], []),
  (21, 4, 5, 21, 0, 0, [], [], []),
  (0, 4, 5, 22, 0, 0, [], [], []),
  (0, 4, 5, 23, 0, 0, [], [], []),
  (0, 5, 498, 0, 0, 0, [], [], []),
  (0, 3, 12, 0, 0, 2147483647, [([], [(1, [0]), (1, [1])]), ([12], [(1, [0]), (1, [2])])], [], []),
  (0, 5, 498, 1, 0, 0, [], [], []),
  (0, 3, 12, 0, 0, 3, [([12], [(1, [0]), (1, [1])]), ([], [(1, [0]), (1, [1])])], [], []),
  (22, 6, 498, 0, 0, 0, [([], [(1, [0])]), ([], [(1, [0])]), ([], [(1, [0])]), ([], [(1, [0])])], [], [0, 0, 2, 2]),
  (0, 31, 0, 0, 0, 0, [], [], []),
  (0, 1, 1, 0, 6, 0, [], [], []),
  (21, 4, 5, 25, 0, 0, [], [], []),
  (0, 4, 5, 26, 0, 0, [], [], []),
  (0, 4, 5, 27, 0, 0, [], [], []),
  (0, 5, 499, 0, 0, 0, [], [], []),
  (0, 3, 12, 0, 0, 2147483647, [([], [(1, [0]), (1, [1])]), ([12], [(1, [0]), (1, [2])])], [], []),
  (0, 5, 499, 1, 0, 0, [], [], []),
  (0, 3, 12, 0, 0, 3, [([12], [(1, [0]), (1, [1])]), ([], [(1, [0]), (1, [1])])], [], []),
  (22, 6, 499, 0, 0, 0, [([], [(1, [0])]), ([], [(1, [0])]), ([], [(1, [0])]), ([], [(1, [0])])], [], [0, 0, 2, 2]),
  (0, 31, 0, 0, 0, 0, [], [], []),
  (21, 4, 5, 29, 0, 0, [], [], []),
  (0, 4, 5, 30, 0, 0, [], [], []),
  (0, 4, 5, 31, 0, 0, [], [], []),
  (0, 5, 500, 0, 0, 0, [], [], []),
  (0, 3, 12, 0, 0, 2147483647, [([], [(1, [0]), (1, [1])]), ([12], [(1, [0]), (1, [2])])], [], []),
  (0, 5, 500, 1, 0, 0, [], [], []),
  (0, 3, 12, 0, 0, 3, [([12], [(1, [0]), (1, [1])]), ([], [(1, [0]), (1, [1])])], [], []),
  (22, 6, 500, 0, 0, 0, [([], [(1, [0])]), ([], [(1, [0])]), ([], [(1, [0])]), ([], [(1, [0])])], [], [0, 0, 2, 2]),
  (0, 31, 0, 0, 0, 0, [], [], []),
  (4, 20, 3, 0, 0, 0, [], [], []),
  (10, 1, 1, 0, 0, 0, [], [], []),
  (21, 4, 5, 1, 0, 0, [], [], []),
  (0, 4, 5, 2, 0, 0, [], [], []),
  (0, 4, 5, 3, 0, 0, [], [], []),
  (0, 5, 493, 0, 0, 0, [], [], []),
  (0, 3, 14, 0, 0, 2147483647, [([], [(1, [0]), (1, [1])]), ([14], [(1, [0]), (1, [2])])], [], []),
  (0, 5, 493, 1, 0, 0, [], [], []),
  (0, 3, 14, 0, 0, 3, [([14], [(1, [0]), (1, [1])]), ([], [(1, [0]), (1, [1])])], [], []),
  (22, 6, 493, 0, 0, 0, [([], [(1, [0])]), ([], [(1, [0])]), ([5], [(1, [0]), (1, [2])]), ([5], [(1, [0]), (1, [2])])], [], [0, 0, 0, 0]),
  (0, 31, 0, 0, 0, 0, [], [], []),
  (0, 1, 1, 0, 1, 0, [], [], []),
  (21, 4, 5, 5, 0, 0, [], [], []),
  (0, 4, 5, 6, 0, 0, [], [], []),
  (0, 4, 5, 7, 0, 0, [], [], []),
  (0, 5, 494, 0, 0, 0, [], [], []),
  (0, 3, 14, 0, 0, 2147483647, [([], [(1, [0]), (1, [1])]), ([14], [(1, [0]), (1, [2])])], [], []),
  (0, 5, 494, 1, 0, 0, [], [], []),
  (0, 3, 14, 0, 0, 3, [([14], [(1, [0]), (1, [1])]), ([], [(1, [0]), (1, [1])])], [], []),
  (22, 6, 494, 0, 0, 0, [([], [(1, [0])]), ([], [(1, [0])]), ([5], [(1, [0]), (1, [2])]), ([5], [(1, [0]), (1, [2])])], [], [0, 0, 0, 0]),
  (0, 31, 0, 0, 0, 0, [], [], []),
  (0, 1, 1, 0, 2, 0, [], [], []),
  (21, 4, 5, 9, 0, 0, [], [], []),
  (0, 4, 5, 10, 0, 0, [], [], []),
  (0, 4, 5, 11, 0, 0, [], [], []),
  (0, 5, 495, 0, 0, 0, [], [], []),
  (0, 3, 14, 0, 0, 2147483647, [([], [(1, [0]), (1, [1])]), ([14], [(1, [0]), (1, [2])])], [], []),
  (0, 5, 495, 1, 0, 0, [], [], []),
  (0, 3, 14, 0, 0, 3, [([14], [(1, [0]), (1, [1])]), ([], [(1, [0]), (1, [1])])], [], []),
  (22, 6, 495, 0, 0, 0, [([], [(1, [0])]), ([], [(1, [0])]), ([5], [(1, [0]), (1, [2])]), ([5], [(1, [0]), (1, [2])])], [], [0, 0, 0, 0]),
  (0, 31, 0, 0, 0, 0, [], [], []),
  (0, 1, 1, 0, 3, 0, [], [], []),
  (21, 4, 5, 13, 0, 0, [], [], []),
  (0, 4, 5, 14, 0, 0, [], [], []),
  (0, 4, 5, 15, 0, 0, [], [], []),
  (0, 5, 496, 0, 0, 0, [], [], []),
  (0, 3, 14, 0, 0, 2147483647, [([], [(1, [0]), (1, [1])]), ([14], [(1, [0]), (1, [2])])], [], []),
  (0, 5, 496, 1, 0, 0, [], [], []),
  (0, 3, 14, 0, 0, 3, [([14], [(1, [0]), (1, [1])]), ([], [(1, [0]), (1, [1])])], [], [])]
set_option maxRecDepth 100000 in
noncomputable def sz_h876_0_1 : List sy_Hn := [(22, 6, 496, 0, 0, 0, [([], [(1, [0])]), ([], [(1, [0])]), ([5], [(1, [0]), (1, [2])]), ([5], [(1, [0]), (1, [2])])], [], [0, 0, 0, 0]),
  (0, 31, 0, 0, 0, 0, [], [], []),
  (0, 1, 1, 0, 4, 0, [], [], []),
  (21, 4, 5, 17, 0, 0, [], [], []),
  (0, 4, 5, 18, 0, 0, [], [], []),
  (0, 4, 5, 19, 0, 0, [], [], []),
  (0, 5, 497, 0, 0, 0, [], [], []),
  (0, 3, 14, 0, 0, 2147483647, [([], [(1, [0]), (1, [1])]), ([14], [(1, [0]), (1, [2])])], [], []),
  (0, 5, 497, 1, 0, 0, [], [], []),
  (0, 3, 14, 0, 0, 3, [([14], [(1, [0]), (1, [1])]), ([], [(1, [0]), (1, [1])])], [], []),
  (22, 6, 497, 0, 0, 0, [([], [(1, [0])]), ([], [(1, [0])]), ([5], [(1, [0]), (1, [2])]), ([5], [(1, [0]), (1, [2])])], [], [0, 0, 0, 0]),
  (0, 31, 0, 0, 0, 0, [], [], []),
  (0, 1, 1, 0, 5, 0, [], [], []),
  (21, 4, 5, 21, 0, 0, [], [], []),
  (0, 4, 5, 22, 0, 0, [], [], []),
  (0, 4, 5, 23, 0, 0, [], [], []),
  (0, 5, 498, 0, 0, 0, [], [], []),
  (0, 3, 14, 0, 0, 2147483647, [([], [(1, [0]), (1, [1])]), ([14], [(1, [0]), (1, [2])])], [], []),
  (0, 5, 498, 1, 0, 0, [], [], []),
  (0, 3, 14, 0, 0, 3, [([14], [(1, [0]), (1, [1])]), ([], [(1, [0]), (1, [1])])], [], []),
  (22, 6, 498, 0, 0, 0, [([], [(1, [0])]), ([], [(1, [0])]), ([5], [(1, [0]), (1, [2])]), ([5], [(1, [0]), (1, [2])])], [], [0, 0, 0, 0]),
  (0, 31, 0, 0, 0, 0, [], [], []),
  (0, 1, 1, 0, 6, 0, [], [], []),
  (21, 4, 5, 25, 0, 0, [], [], []),
  (0, 4, 5, 26, 0, 0, [], [], []),
  (0, 4, 5, 27, 0, 0, [], [], []),
  (0, 5, 499, 0, 0, 0, [], [], []),
  (0, 3, 14, 0, 0, 2147483647, [([], [(1, [0]), (1, [1])]), ([14], [(1, [0]), (1, [2])])], [], []),
  (0, 5, 499, 1, 0, 0, [], [], []),
  (0, 3, 14, 0, 0, 3, [([14], [(1, [0]), (1, [1])]), ([], [(1, [0]), (1, [1])])], [], []),
  (22, 6, 499, 0, 0, 0, [([], [(1, [0])]), ([], [(1, [0])]), ([5], [(1, [0]), (1, [2])]), ([5], [(1, [0]), (1, [2])])], [], [0, 0, 0, 0]),
  (0, 31, 0, 0, 0, 0, [], [], []),
  (21, 4, 5, 29, 0, 0, [], [], []),
  (0, 4, 5, 30, 0, 0, [], [], []),
  (0, 4, 5, 31, 0, 0, [], [], []),
  (0, 5, 500, 0, 0, 0, [], [], []),
  (0, 3, 14, 0, 0, 2147483647, [([], [(1, [0]), (1, [1])]), ([14], [(1, [0]), (1, [2])])], [], []),
  (0, 5, 500, 1, 0, 0, [], [], []),
  (0, 3, 14, 0, 0, 3, [([14], [(1, [0]), (1, [1])]), ([], [(1, [0]), (1, [1])])], [], []),
  (22, 6, 500, 0, 0, 0, [([], [(1, [0])]), ([], [(1, [0])]), ([5], [(1, [0]), (1, [2])]), ([5], [(1, [0]), (1, [2])])], [], [0, 0, 0, 0]),
  (0, 31, 0, 0, 0, 0, [], [], []),
  (4, 20, 4, 0, 0, 0, [], [], []),
  (10, 1, 1, 0, 0, 0, [], [], []),
  (21, 4, 5, 1, 0, 0, [], [], []),
  (0, 4, 5, 2, 0, 0, [], [], []),
  (0, 4, 5, 3, 0, 0, [], [], []),
  (0, 5, 493, 0, 0, 0, [], [], []),
  (0, 3, 14, 0, 0, 2147483647, [([], [(1, [0]), (1, [1])]), ([14], [(1, [0]), (1, [2])])], [], []),
  (0, 5, 493, 1, 0, 0, [], [], []),
  (0, 3, 14, 0, 0, 3, [([14], [(1, [0]), (1, [1])]), ([], [(1, [0]), (1, [1])])], [], []),
  (22, 6, 493, 0, 0, 0, [([], [(1, [0])]), ([], [(1, [0])]), ([5], [(1, [0]), (1, [2])]), ([5], [(1, [0]), (1, [2])])], [], [0, 0, 0, 0]),
  (0, 31, 0, 0, 0, 0, [], [], []),
  (0, 1, 1, 0, 1, 0, [], [], []),
  (21, 4, 5, 5, 0, 0, [], [], []),
  (0, 4, 5, 6, 0, 0, [], [], []),
  (0, 4, 5, 7, 0, 0, [], [], []),
  (0, 5, 494, 0, 0, 0, [], [], []),
  (0, 3, 14, 0, 0, 2147483647, [([], [(1, [0]), (1, [1])]), ([14], [(1, [0]), (1, [2])])], [], []),
  (0, 5, 494, 1, 0, 0, [], [], []),
  (0, 3, 14, 0, 0, 3, [([14], [(1, [0]), (1, [1])]), ([], [(1, [0]), (1, [1])])], [], []),
  (22, 6, 494, 0, 0, 0, [([], [(1, [0])]), ([], [(1, [0])]), ([5], [(1, [0]), (1, [2])]), ([5], [(1, [0]), (1, [2])])], [], [0, 0, 0, 0]),
  (0, 31, 0, 0, 0, 0, [], [], []),
  (0, 1, 1, 0, 2, 0, [], [], []),
  (21, 4, 5, 9, 0, 0, [], [], []),
  (0, 4, 5, 10, 0, 0, [], [], []),
  (0, 4, 5, 11, 0, 0, [], [], []),
  (0, 5, 495, 0, 0, 0, [], [], []),
  (0, 3, 14, 0, 0, 2147483647, [([], [(1, [0]), (1, [1])]), ([14], [(1, [0]), (1, [2])])], [], []),
  (0, 5, 495, 1, 0, 0, [], [], []),
  (0, 3, 14, 0, 0, 3, [([14], [(1, [0]), (1, [1])]), ([], [(1, [0]), (1, [1])])], [], []),
  (22, 6, 495, 0, 0, 0, [([], [(1, [0])]), ([], [(1, [0])]), ([5], [(1, [0]), (1, [2])]), ([5], [(1, [0]), (1, [2])])], [], [0, 0, 0, 0]),
  (0, 31, 0, 0, 0, 0, [], [], []),
  (0, 1, 1, 0, 3, 0, [], [], []),
  (21, 4, 5, 13, 0, 0, [], [], []),
  (0, 4, 5, 14, 0, 0, [], [], []),
  (0, 4, 5, 15, 0, 0, [], [], []),
  (0, 5, 496, 0, 0, 0, [], [], []),
  (0, 3, 14, 0, 0, 2147483647, [([], [(1, [0]), (1, [1])]), ([14], [(1, [0]), (1, [2])])], [], []),
  (0, 5, 496, 1, 0, 0, [], [], []),
  (0, 3, 14, 0, 0, 3, [([14], [(1, [0]), (1, [1])]), ([], [(1, [0]), (1, [1])])], [], []),
  (22, 6, 496, 0, 0, 0, [([], [(1, [0])]), ([], [(1, [0])]), ([5], [(1, [0]), (1, [2])]), ([5], [(1, [0]), (1, [2])])], [], [0, 0, 0, 0]),
  (0, 31, 0, 0, 0, 0, [], [], []),
  (0, 1, 1, 0, 4, 0, [], [], []),
  (21, 4, 5, 17, 0, 0, [], [], []),
  (0, 4, 5, 18, 0, 0, [], [], []),
  (0, 4, 5, 19, 0, 0, [], [], []),
  (0, 5, 497, 0, 0, 0, [], [], []),
  (0, 3, 14, 0, 0, 2147483647, [([], [(1, [0]), (1, [1])]), ([14], [(1, [0]), (1, [2])])], [], []),
  (0, 5, 497, 1, 0, 0, [], [], []),
  (0, 3, 14, 0, 0, 3, [([14], [(1, [0]), (1, [1])]), ([], [(1, [0]), (1, [1])])], [], []),
  (22, 6, 497, 0, 0, 0, [([], [(1, [0])]), ([], [(1, [0])]), ([5], [(1, [0]), (1, [2])]), ([5], [(1, [0]), (1, [2])])], [], [0, 0, 0, 0]),
  (0, 31, 0, 0, 0, 0, [], [], []),
  (0, 1, 1, 0, 5, 0, [], [], []),
  (21, 4, 5, 21, 0, 0, [], [], []),
  (0, 4, 5, 22, 0, 0, [], [], []),
  (0, 4, 5, 23, 0, 0, [], [], []),
  (0, 5, 498, 0, 0, 0, [], [], []),
  (0, 3, 14, 0, 0, 2147483647, [([], [(1, [0]), (1, [1])]), ([14], [(1, [0]), (1, [2])])], [], []),
  (0, 5, 498, 1, 0, 0, [], [], []),
  (0, 3, 14, 0, 0, 3, [([14], [(1, [0]), (1, [1])]), ([], [(1, [0]), (1, [1])])], [], []),
  (22, 6, 498, 0, 0, 0, [([], [(1, [0])]), ([], [(1, [0])]), ([5], [(1, [0]), (1, [2])]), ([5], [(1, [0]), (1, [2])])], [], [0, 0, 0, 0]),
  (0, 31, 0, 0, 0, 0, [], [], []),
  (0, 1, 1, 0, 6, 0, [], [], []),
  (21, 4, 5, 25, 0, 0, [], [], []),
  (0, 4, 5, 26, 0, 0, [], [], []),
  (0, 4, 5, 27, 0, 0, [], [], []),
  (0, 5, 499, 0, 0, 0, [], [], []),
  (0, 3, 14, 0, 0, 2147483647, [([], [(1, [0]), (1, [1])]), ([14], [(1, [0]), (1, [2])])], [], []),
  (0, 5, 499, 1, 0, 0, [], [], []),
  (0, 3, 14, 0, 0, 3, [([14], [(1, [0]), (1, [1])]), ([], [(1, [0]), (1, [1])])], [], []),
  (22, 6, 499, 0, 0, 0, [([], [(1, [0])]), ([], [(1, [0])]), ([5], [(1, [0]), (1, [2])]), ([5], [(1, [0]), (1, [2])])], [], [0, 0, 0, 0]),
  (0, 31, 0, 0, 0, 0, [], [], []),
  (21, 4, 5, 29, 0, 0, [], [], []),
  (0, 4, 5, 30, 0, 0, [], [], []),
  (0, 4, 5, 31, 0, 0, [], [], []),
  (0, 5, 500, 0, 0, 0, [], [], []),
  (0, 3, 14, 0, 0, 2147483647, [([], [(1, [0]), (1, [1])]), ([14], [(1, [0]), (1, [2])])], [], []),
  (0, 5, 500, 1, 0, 0, [], [], []),
  (0, 3, 14, 0, 0, 3, [([14], [(1, [0]), (1, [1])]), ([], [(1, [0]), (1, [1])])], [], []),
  (22, 6, 500, 0, 0, 0, [([], [(1, [0])]), ([], [(1, [0])]), ([5], [(1, [0]), (1, [2])]), ([5], [(1, [0]), (1, [2])])], [], [0, 0, 0, 0]),
  (0, 31, 0, 0, 0, 0, [], [], []),
  (19, 1, 1, 0, 0, 0, [], [], []),
  (21, 4, 5, 1, 0, 0, [], [], []),
  (0, 4, 5, 2, 0, 0, [], [], []),
  (0, 4, 5, 3, 0, 0, [], [], []),
  (0, 5, 493, 0, 0, 0, [], [], []),
  (0, 3, 12, 0, 0, 2147483647, [([], [(1, [0]), (1, [1])]), ([12], [(1, [0]), (1, [2])])], [], []),
  (0, 5, 493, 1, 0, 0, [], [], []),
  (0, 3, 12, 0, 0, 3, [([12], [(1, [0]), (1, [1])]), ([], [(1, [0]), (1, [1])])], [], []),
  (22, 6, 493, 0, 0, 0, [([9], [(1, [0]), (1, [1])]), ([9], [(1, [0]), (1, [2])]), ([5], [(1, [0]), (1, [2])]), ([5], [(1, [0]), (1, [2])])], [], [0, 0, 0, 0]),
  (0, 31, 0, 0, 0, 0, [], [], []),
  (0, 1, 1, 0, 1, 0, [], [], []),
  (21, 4, 5, 5, 0, 0, [], [], []),
  (0, 4, 5, 6, 0, 0, [], [], []),
  (0, 4, 5, 7, 0, 0, [], [], []),
  (0, 5, 494, 0, 0, 0, [], [], []),
  (0, 3, 12, 0, 0, 2147483647, [([], [(1, [0]), (1, [1])]), ([12], [(1, [0]), (1, [2])])], [], []),
  (0, 5, 494, 1, 0, 0, [], [], []),
  (0, 3, 12, 0, 0, 3, [([12], [(1, [0]), (1, [1])]), ([], [(1, [0]), (1, [1])])], [], []),
  (22, 6, 494, 0, 0, 0, [([9], [(1, [0]), (1, [1])]), ([9], [(1, [0]), (1, [2])]), ([5], [(1, [0]), (1, [2])]), ([5], [(1, [0]), (1, [2])])], [], [0, 0, 0, 0]),
  (0, 31, 0, 0, 0, 0, [], [], []),
  (0, 1, 1, 0, 2, 0, [], [], []),
  (21, 4, 5, 9, 0, 0, [], [], []),
  (0, 4, 5, 10, 0, 0, [], [], []),
  (0, 4, 5, 11, 0, 0, [], [], []),
  (0, 5, 495, 0, 0, 0, [], [], []),
  (0, 3, 12, 0, 0, 2147483647, [([], [(1, [0]), (1, [1])]), ([12], [(1, [0]), (1, [2])])], [], []),
  (0, 5, 495, 1, 0, 0, [], [], []),
  (0, 3, 12, 0, 0, 3, [([12], [(1, [0]), (1, [1])]), ([], [(1, [0]), (1, [1])])], [], []),
  (22, 6, 495, 0, 0, 0, [([9], [(1, [0]), (1, [1])]), ([9], [(1, [0]), (1, [2])]), ([5], [(1, [0]), (1, [2])]), ([5], [(1, [0]), (1, [2])])], [], [0, 0, 0, 0]),
  (0, 31, 0, 0, 0, 0, [], [], []),
  (0, 1, 1, 0, 3, 0, [], [], []),
  (21, 4, 5, 13, 0, 0, [], [], []),
  (0, 4, 5, 14, 0, 0, [], [], []),
  (0, 4, 5, 15, 0, 0, [], [], []),
  (0, 5, 496, 0, 0, 0, [], [], []),
  (0, 3, 12, 0, 0, 2147483647, [([], [(1, [0]), (1, [1])]), ([12], [(1, [0]), (1, [2])])], [], []),
  (0, 5, 496, 1, 0, 0, [], [], []),
  (0, 3, 12, 0, 0, 3, [([12], [(1, [0]), (1, [1])]), ([], [(1, [0]), (1, [1])])], [], []),
  (22, 6, 496, 0, 0, 0, [([9], [(1, [0]), (1, [1])]), ([9], [(1, [0]), (1, [2])]), ([5], [(1, [0]), (1, [2])]), ([5], [(1, [0]), (1, [2])])], [], [0, 0, 0, 0]),
  (0, 31, 0, 0, 0, 0, [], [], []),
  (0, 1, 1, 0, 4, 0, [], [], []),
  (21, 4, 5, 17, 0, 0, [], [], []),
  (0, 4, 5, 18, 0, 0, [], [], []),
  (0, 4, 5, 19, 0, 0, [], [], []),
  (0, 5, 497, 0, 0, 0, [], [], []),
  (0, 3, 12, 0, 0, 2147483647, [([], [(1, [0]), (1, [1])]), ([12], [(1, [0]), (1, [2])])], [], []),
  (0, 5, 497, 1, 0, 0, [], [], []),
  (0, 3, 12, 0, 0, 3, [([12], [(1, [0]), (1, [1])]), ([], [(1, [0]), (1, [1])])], [], []),
  (22, 6, 497, 0, 0, 0, [([9], [(1, [0]), (1, [1])]), ([9], [(1, [0]), (1, [2])]), ([5], [(1, [0]), (1, [2])]), ([5], [(1, [0]), (1, [2])])], [], [0, 0, 0, 0]),
  (0, 31, 0, 0, 0, 0, [], [], []),
  (0, 1, 1, 0, 5, 0, [], [], []),
  (21, 4, 5, 21, 0, 0, [], [], []),
  (0, 4, 5, 22, 0, 0, [], [], []),
  (0, 4, 5, 23, 0, 0, [], [], []),
  (0, 5, 498, 0, 0, 0, [], [], []),
  (0, 3, 12, 0, 0, 2147483647, [([], [(1, [0]), (1, [1])]), ([12], [(1, [0]), (1, [2])])], [], []),
  (0, 5, 498, 1, 0, 0, [], [], []),
  (0, 3, 12, 0, 0, 3, [([12], [(1, [0]), (1, [1])]), ([], [(1, [0]), (1, [1])])], [], []),
  (22, 6, 498, 0, 0, 0, [([9], [(1, [0]), (1, [1])]), ([9], [(1, [0]), (1, [2])]), ([5], [(1, [0]), (1, [2])]), ([5], [(1, [0]), (1, [2])])], [], [0, 0, 0, 0]),
  (0, 31, 0, 0, 0, 0, [], [], []),
  (0, 1, 1, 0, 6, 0, [], [], []),
  (21, 4, 5, 25, 0, 0, [], [], []),
  (0, 4, 5, 26, 0, 0, [], [], []),
  (0, 4, 5, 27, 0, 0, [], [], []),
  (0, 5, 499, 0, 0, 0, [], [], []),
  (0, 3, 12, 0, 0, 2147483647, [([], [(1, [0]), (1, [1])]), ([12], [(1, [0]), (1, [2])])], [], []),
  (0, 5, 499, 1, 0, 0, [], [], []),
  (0, 3, 12, 0, 0, 3, [([12], [(1, [0]), (1, [1])]), ([], [(1, [0]), (1, [1])])], [], []),
  (22, 6, 499, 0, 0, 0, [([9], [(1, [0]), (1, [1])]), ([9], [(1, [0]), (1, [2])]), ([5], [(1, [0]), (1, [2])]), ([5], [(1, [0]), (1, [2])])], [], [0, 0, 0, 0]),
  (0, 31, 0, 0, 0, 0, [], [], []),
  (21, 4, 5, 29, 0, 0, [], [], []),
  (0, 4, 5, 30, 0, 0, [], [], []),
  (0, 4, 5, 31, 0, 0, [], [], []),
  (0, 5, 500, 0, 0, 0, [], [], []),
  (0, 3, 12, 0, 0, 2147483647, [([], [(1, [0]), (1, [1])]), ([12], [(1, [0]), (1, [2])])], [], []),
  (0, 5, 500, 1, 0, 0, [], [], []),
  (0, 3, 12, 0, 0, 3, [([12], [(1, [0]), (1, [1])]), ([], [(1, [0]), (1, [1])])], [], []),
  (22, 6, 500, 0, 0, 0, [([9], [(1, [0]), (1, [1])]), ([9], [(1, [0]), (1, [2])]), ([5], [(1, [0]), (1, [2])]), ([5], [(1, [0]), (1, [2])])], [], [0, 0, 0, 0]),
  (0, 31, 0, 0, 0, 0, [], [], [])]
set_option maxRecDepth 100000 in
noncomputable def sz_h876_0_2 : List sy_Hn := [(9, 1, 9, 0, 0, 0, [], [], []),
  (2, 20, 5, 0, 0, 0, [], [], []),
  (9, 1, 1, 0, 0, 0, [], [], []),
  (21, 4, 5, 1, 0, 0, [], [], []),
  (0, 4, 5, 2, 0, 0, [], [], []),
  (0, 4, 5, 3, 0, 0, [], [], []),
  (0, 5, 493, 0, 0, 0, [], [], []),
  (0, 3, 14, 0, 0, 2147483647, [([], [(1, [0]), (1, [1])]), ([14], [(1, [0]), (1, [2])])], [], []),
  (0, 5, 493, 1, 0, 0, [], [], []),
  (0, 3, 14, 0, 0, 3, [([14], [(1, [0]), (1, [1])]), ([], [(1, [0]), (1, [1])])], [], []),
  (22, 6, 493, 0, 0, 0, [([9], [(1, [0]), (1, [1])]), ([9], [(1, [0]), (1, [2])]), ([11], [(1, [0]), (1, [1])]), ([11], [(1, [0]), (1, [2])])], [], [0, 0, 2, 2]),
  (0, 31, 0, 0, 0, 0, [], [], []),
  (0, 1, 1, 0, 1, 0, [], [], []),
  (21, 4, 5, 5, 0, 0, [], [], []),
  (0, 4, 5, 6, 0, 0, [], [], []),
  (0, 4, 5, 7, 0, 0, [], [], []),
  (0, 5, 494, 0, 0, 0, [], [], []),
  (0, 3, 14, 0, 0, 2147483647, [([], [(1, [0]), (1, [1])]), ([14], [(1, [0]), (1, [2])])], [], []),
  (0, 5, 494, 1, 0, 0, [], [], []),
  (0, 3, 14, 0, 0, 3, [([14], [(1, [0]), (1, [1])]), ([], [(1, [0]), (1, [1])])], [], []),
  (22, 6, 494, 0, 0, 0, [([9], [(1, [0]), (1, [1])]), ([9], [(1, [0]), (1, [2])]), ([11], [(1, [0]), (1, [1])]), ([11], [(1, [0]), (1, [2])])], [], [0, 0, 2, 2]),
  (0, 31, 0, 0, 0, 0, [], [], []),
  (0, 1, 1, 0, 2, 0, [], [], []),
  (21, 4, 5, 9, 0, 0, [], [], []),
  (0, 4, 5, 10, 0, 0, [], [], []),
  (0, 4, 5, 11, 0, 0, [], [], []),
  (0, 5, 495, 0, 0, 0, [], [], []),
  (0, 3, 14, 0, 0, 2147483647, [([], [(1, [0]), (1, [1])]), ([14], [(1, [0]), (1, [2])])], [], []),
  (0, 5, 495, 1, 0, 0, [], [], []),
  (0, 3, 14, 0, 0, 3, [([14], [(1, [0]), (1, [1])]), ([], [(1, [0]), (1, [1])])], [], []),
  (22, 6, 495, 0, 0, 0, [([9], [(1, [0]), (1, [1])]), ([9], [(1, [0]), (1, [2])]), ([11], [(1, [0]), (1, [1])]), ([11], [(1, [0]), (1, [2])])], [], [0, 0, 2, 2]),
  (0, 31, 0, 0, 0, 0, [], [], []),
  (0, 1, 1, 0, 3, 0, [], [], []),
  (21, 4, 5, 13, 0, 0, [], [], []),
  (0, 4, 5, 14, 0, 0, [], [], []),
  (0, 4, 5, 15, 0, 0, [], [], []),
  (0, 5, 496, 0, 0, 0, [], [], []),
  (0, 3, 14, 0, 0, 2147483647, [([], [(1, [0]), (1, [1])]), ([14], [(1, [0]), (1, [2])])], [], []),
  (0, 5, 496, 1, 0, 0, [], [], []),
  (0, 3, 14, 0, 0, 3, [([14], [(1, [0]), (1, [1])]), ([], [(1, [0]), (1, [1])])], [], []),
  (22, 6, 496, 0, 0, 0, [([9], [(1, [0]), (1, [1])]), ([9], [(1, [0]), (1, [2])]), ([11], [(1, [0]), (1, [1])]), ([11], [(1, [0]), (1, [2])])], [], [0, 0, 2, 2]),
  (0, 31, 0, 0, 0, 0, [], [], []),
  (0, 1, 1, 0, 4, 0, [], [], []),
  (21, 4, 5, 17, 0, 0, [], [], []),
  (0, 4, 5, 18, 0, 0, [], [], []),
  (0, 4, 5, 19, 0, 0, [], [], []),
  (0, 5, 497, 0, 0, 0, [], [], []),
  (0, 3, 14, 0, 0, 2147483647, [([], [(1, [0]), (1, [1])]), ([14], [(1, [0]), (1, [2])])], [], []),
  (0, 5, 497, 1, 0, 0, [], [], []),
  (0, 3, 14, 0, 0, 3, [([14], [(1, [0]), (1, [1])]), ([], [(1, [0]), (1, [1])])], [], []),
  (22, 6, 497, 0, 0, 0, [([9], [(1, [0]), (1, [1])]), ([9], [(1, [0]), (1, [2])]), ([11], [(1, [0]), (1, [1])]), ([11], [(1, [0]), (1, [2])])], [], [0, 0, 2, 2]),
  (0, 31, 0, 0, 0, 0, [], [], []),
  (0, 1, 1, 0, 5, 0, [], [], []),
  (21, 4, 5, 21, 0, 0, [], [], []),
  (0, 4, 5, 22, 0, 0, [], [], []),
  (0, 4, 5, 23, 0, 0, [], [], []),
  (0, 5, 498, 0, 0, 0, [], [], []),
  (0, 3, 14, 0, 0, 2147483647, [([], [(1, [0]), (1, [1])]), ([14], [(1, [0]), (1, [2])])], [], []),
  (0, 5, 498, 1, 0, 0, [], [], []),
  (0, 3, 14, 0, 0, 3, [([14], [(1, [0]), (1, [1])]), ([], [(1, [0]), (1, [1])])], [], []),
  (22, 6, 498, 0, 0, 0, [([9], [(1, [0]), (1, [1])]), ([9], [(1, [0]), (1, [2])]), ([11], [(1, [0]), (1, [1])]), ([11], [(1, [0]), (1, [2])])], [], [0, 0, 2, 2]),
  (0, 31, 0, 0, 0, 0, [], [], []),
  (0, 1, 1, 0, 6, 0, [], [], []),
  (21, 4, 5, 25, 0, 0, [], [], []),
  (0, 4, 5, 26, 0, 0, [], [], []),
  (0, 4, 5, 27, 0, 0, [], [], []),
  (0, 5, 499, 0, 0, 0, [], [], []),
  (0, 3, 14, 0, 0, 2147483647, [([], [(1, [0]), (1, [1])]), ([14], [(1, [0]), (1, [2])])], [], []),
  (0, 5, 499, 1, 0, 0, [], [], []),
  (0, 3, 14, 0, 0, 3, [([14], [(1, [0]), (1, [1])]), ([], [(1, [0]), (1, [1])])], [], []),
  (22, 6, 499, 0, 0, 0, [([9], [(1, [0]), (1, [1])]), ([9], [(1, [0]), (1, [2])]), ([11], [(1, [0]), (1, [1])]), ([11], [(1, [0]), (1, [2])])], [], [0, 0, 2, 2]),
  (0, 31, 0, 0, 0, 0, [], [], []),
  (21, 4, 5, 29, 0, 0, [], [], []),
  (0, 4, 5, 30, 0, 0, [], [], []),
  (0, 4, 5, 31, 0, 0, [], [], []),
  (0, 5, 500, 0, 0, 0, [], [], []),
  (0, 3, 14, 0, 0, 2147483647, [([], [(1, [0]), (1, [1])]), ([14], [(1, [0]), (1, [2])])], [], []),
  (0, 5, 500, 1, 0, 0, [], [], []),
  (0, 3, 14, 0, 0, 3, [([14], [(1, [0]), (1, [1])]), ([], [(1, [0]), (1, [1])])], [], []),
  (22, 6, 500, 0, 0, 0, [([9], [(1, [0]), (1, [1])]), ([9], [(1, [0]), (1, [2])]), ([11], [(1, [0]), (1, [1])]), ([11], [(1, [0]), (1, [2])])], [], [0, 0, 2, 2]),
  (0, 31, 0, 0, 0, 0, [], [], []),
  (0, 1, 9, 0, 1, 0, [], [], []),
  (2, 20, 6, 0, 0, 0, [], [], []),
  (9, 1, 1, 0, 0, 0, [], [], []),
  (21, 4, 5, 1, 0, 0, [], [], []),
  (0, 4, 5, 2, 0, 0, [], [], []),
  (0, 4, 5, 3, 0, 0, [], [], []),
  (0, 5, 493, 0, 0, 0, [], [], []),
  (0, 3, 14, 0, 0, 2147483647, [([], [(1, [0]), (1, [1])]), ([14], [(1, [0]), (1, [2])])], [], []),
  (0, 5, 493, 1, 0, 0, [], [], []),
  (0, 3, 14, 0, 0, 3, [([14], [(1, [0]), (1, [1])]), ([], [(1, [0]), (1, [1])])], [], []),
  (22, 6, 493, 0, 0, 0, [([9], [(1, [0]), (1, [1])]), ([9], [(1, [0]), (1, [2])]), ([11], [(1, [0]), (1, [1])]), ([11], [(1, [0]), (1, [2])])], [], [0, 0, 2, 2]),
  (0, 31, 0, 0, 0, 0, [], [], []),
  (0, 1, 1, 0, 1, 0, [], [], []),
  (21, 4, 5, 5, 0, 0, [], [], []),
  (0, 4, 5, 6, 0, 0, [], [], []),
  (0, 4, 5, 7, 0, 0, [], [], []),
  (0, 5, 494, 0, 0, 0, [], [], []),
  (0, 3, 14, 0, 0, 2147483647, [([], [(1, [0]), (1, [1])]), ([14], [(1, [0]), (1, [2])])], [], []),
  (0, 5, 494, 1, 0, 0, [], [], []),
  (0, 3, 14, 0, 0, 3, [([14], [(1, [0]), (1, [1])]), ([], [(1, [0]), (1, [1])])], [], []),
  (22, 6, 494, 0, 0, 0, [([9], [(1, [0]), (1, [1])]), ([9], [(1, [0]), (1, [2])]), ([11], [(1, [0]), (1, [1])]), ([11], [(1, [0]), (1, [2])])], [], [0, 0, 2, 2]),
  (0, 31, 0, 0, 0, 0, [], [], []),
  (0, 1, 1, 0, 2, 0, [], [], []),
  (21, 4, 5, 9, 0, 0, [], [], []),
  (0, 4, 5, 10, 0, 0, [], [], []),
  (0, 4, 5, 11, 0, 0, [], [], []),
  (0, 5, 495, 0, 0, 0, [], [], []),
  (0, 3, 14, 0, 0, 2147483647, [([], [(1, [0]), (1, [1])]), ([14], [(1, [0]), (1, [2])])], [], []),
  (0, 5, 495, 1, 0, 0, [], [], []),
  (0, 3, 14, 0, 0, 3, [([14], [(1, [0]), (1, [1])]), ([], [(1, [0]), (1, [1])])], [], []),
  (22, 6, 495, 0, 0, 0, [([9], [(1, [0]), (1, [1])]), ([9], [(1, [0]), (1, [2])]), ([11], [(1, [0]), (1, [1])]), ([11], [(1, [0]), (1, [2])])], [], [0, 0, 2, 2]),
  (0, 31, 0, 0, 0, 0, [], [], []),
  (0, 1, 1, 0, 3, 0, [], [], []),
  (21, 4, 5, 13, 0, 0, [], [], []),
  (0, 4, 5, 14, 0, 0, [], [], []),
  (0, 4, 5, 15, 0, 0, [], [], []),
  (0, 5, 496, 0, 0, 0, [], [], []),
  (0, 3, 14, 0, 0, 2147483647, [([], [(1, [0]), (1, [1])]), ([14], [(1, [0]), (1, [2])])], [], []),
  (0, 5, 496, 1, 0, 0, [], [], []),
  (0, 3, 14, 0, 0, 3, [([14], [(1, [0]), (1, [1])]), ([], [(1, [0]), (1, [1])])], [], []),
  (22, 6, 496, 0, 0, 0, [([9], [(1, [0]), (1, [1])]), ([9], [(1, [0]), (1, [2])]), ([11], [(1, [0]), (1, [1])]), ([11], [(1, [0]), (1, [2])])], [], [0, 0, 2, 2]),
  (0, 31, 0, 0, 0, 0, [], [], []),
  (0, 1, 1, 0, 4, 0, [], [], []),
  (21, 4, 5, 17, 0, 0, [], [], []),
  (0, 4, 5, 18, 0, 0, [], [], []),
  (0, 4, 5, 19, 0, 0, [], [], []),
  (0, 5, 497, 0, 0, 0, [], [], []),
  (0, 3, 14, 0, 0, 2147483647, [([], [(1, [0]), (1, [1])]), ([14], [(1, [0]), (1, [2])])], [], []),
  (0, 5, 497, 1, 0, 0, [], [], []),
  (0, 3, 14, 0, 0, 3, [([14], [(1, [0]), (1, [1])]), ([], [(1, [0]), (1, [1])])], [], []),
  (22, 6, 497, 0, 0, 0, [([9], [(1, [0]), (1, [1])]), ([9], [(1, [0]), (1, [2])]), ([11], [(1, [0]), (1, [1])]), ([11], [(1, [0]), (1, [2])])], [], [0, 0, 2, 2]),
  (0, 31, 0, 0, 0, 0, [], [], []),
  (0, 1, 1, 0, 5, 0, [], [], []),
  (21, 4, 5, 21, 0, 0, [], [], []),
  (0, 4, 5, 22, 0, 0, [], [], []),
  (0, 4, 5, 23, 0, 0, [], [], []),
  (0, 5, 498, 0, 0, 0, [], [], []),
  (0, 3, 14, 0, 0, 2147483647, [([], [(1, [0]), (1, [1])]), ([14], [(1, [0]), (1, [2])])], [], []),
  (0, 5, 498, 1, 0, 0, [], [], []),
  (0, 3, 14, 0, 0, 3, [([14], [(1, [0]), (1, [1])]), ([], [(1, [0]), (1, [1])])], [], []),
  (22, 6, 498, 0, 0, 0, [([9], [(1, [0]), (1, [1])]), ([9], [(1, [0]), (1, [2])]), ([11], [(1, [0]), (1, [1])]), ([11], [(1, [0]), (1, [2])])], [], [0, 0, 2, 2]),
  (0, 31, 0, 0, 0, 0, [], [], []),
  (0, 1, 1, 0, 6, 0, [], [], []),
  (21, 4, 5, 25, 0, 0, [], [], []),
  (0, 4, 5, 26, 0, 0, [], [], []),
  (0, 4, 5, 27, 0, 0, [], [], []),
  (0, 5, 499, 0, 0, 0, [], [], []),
  (0, 3, 14, 0, 0, 2147483647, [([], [(1, [0]), (1, [1])]), ([14], [(1, [0]), (1, [2])])], [], []),
  (0, 5, 499, 1, 0, 0, [], [], []),
  (0, 3, 14, 0, 0, 3, [([14], [(1, [0]), (1, [1])]), ([], [(1, [0]), (1, [1])])], [], []),
  (22, 6, 499, 0, 0, 0, [([9], [(1, [0]), (1, [1])]), ([9], [(1, [0]), (1, [2])]), ([11], [(1, [0]), (1, [1])]), ([11], [(1, [0]), (1, [2])])], [], [0, 0, 2, 2]),
  (0, 31, 0, 0, 0, 0, [], [], []),
  (21, 4, 5, 29, 0, 0, [], [], []),
  (0, 4, 5, 30, 0, 0, [], [], []),
  (0, 4, 5, 31, 0, 0, [], [], []),
  (0, 5, 500, 0, 0, 0, [], [], []),
  (0, 3, 14, 0, 0, 2147483647, [([], [(1, [0]), (1, [1])]), ([14], [(1, [0]), (1, [2])])], [], []),
  (0, 5, 500, 1, 0, 0, [], [], []),
  (0, 3, 14, 0, 0, 3, [([14], [(1, [0]), (1, [1])]), ([], [(1, [0]), (1, [1])])], [], []),
  (22, 6, 500, 0, 0, 0, [([9], [(1, [0]), (1, [1])]), ([9], [(1, [0]), (1, [2])]), ([11], [(1, [0]), (1, [1])]), ([11], [(1, [0]), (1, [2])])], [], [0, 0, 2, 2]),
  (0, 31, 0, 0, 0, 0, [], [], []),
  (0, 1, 9, 0, 2, 0, [], [], []),
  (2, 20, 7, 0, 0, 0, [], [], []),
  (9, 1, 1, 0, 0, 0, [], [], []),
  (21, 4, 5, 1, 0, 0, [], [], []),
  (0, 4, 5, 2, 0, 0, [], [], []),
  (0, 4, 5, 3, 0, 0, [], [], []),
  (0, 5, 493, 0, 0, 0, [], [], []),
  (0, 3, 14, 0, 0, 2147483647, [([], [(1, [0]), (1, [1])]), ([14], [(1, [0]), (1, [2])])], [], []),
  (0, 5, 493, 1, 0, 0, [], [], []),
  (0, 3, 14, 0, 0, 3, [([14], [(1, [0]), (1, [1])]), ([], [(1, [0]), (1, [1])])], [], []),
  (22, 6, 493, 0, 0, 0, [([9], [(1, [0]), (1, [1])]), ([9], [(1, [0]), (1, [2])]), ([11], [(1, [0]), (1, [1])]), ([11], [(1, [0]), (1, [2])])], [], [0, 0, 2, 2]),
  (0, 31, 0, 0, 0, 0, [], [], []),
  (0, 1, 1, 0, 1, 0, [], [], []),
  (21, 4, 5, 5, 0, 0, [], [], []),
  (0, 4, 5, 6, 0, 0, [], [], []),
  (0, 4, 5, 7, 0, 0, [], [], []),
  (0, 5, 494, 0, 0, 0, [], [], []),
  (0, 3, 14, 0, 0, 2147483647, [([], [(1, [0]), (1, [1])]), ([14], [(1, [0]), (1, [2])])], [], []),
  (0, 5, 494, 1, 0, 0, [], [], []),
  (0, 3, 14, 0, 0, 3, [([14], [(1, [0]), (1, [1])]), ([], [(1, [0]), (1, [1])])], [], []),
  (22, 6, 494, 0, 0, 0, [([9], [(1, [0]), (1, [1])]), ([9], [(1, [0]), (1, [2])]), ([11], [(1, [0]), (1, [1])]), ([11], [(1, [0]), (1, [2])])], [], [0, 0, 2, 2]),
  (0, 31, 0, 0, 0, 0, [], [], []),
  (0, 1, 1, 0, 2, 0, [], [], []),
  (21, 4, 5, 9, 0, 0, [], [], []),
  (0, 4, 5, 10, 0, 0, [], [], []),
  (0, 4, 5, 11, 0, 0, [], [], []),
  (0, 5, 495, 0, 0, 0, [], [], []),
  (0, 3, 14, 0, 0, 2147483647, [([], [(1, [0]), (1, [1])]), ([14], [(1, [0]), (1, [2])])], [], []),
  (0, 5, 495, 1, 0, 0, [], [], []),
  (0, 3, 14, 0, 0, 3, [([14], [(1, [0]), (1, [1])]), ([], [(1, [0]), (1, [1])])], [], []),
  (22, 6, 495, 0, 0, 0, [([9], [(1, [0]), (1, [1])]), ([9], [(1, [0]), (1, [2])]), ([11], [(1, [0]), (1, [1])]), ([11], [(1, [0]), (1, [2])])], [], [0, 0, 2, 2]),
  (0, 31, 0, 0, 0, 0, [], [], []),
  (0, 1, 1, 0, 3, 0, [], [], []),
  (21, 4, 5, 13, 0, 0, [], [], []),
  (0, 4, 5, 14, 0, 0, [], [], []),
  (0, 4, 5, 15, 0, 0, [], [], []),
  (0, 5, 496, 0, 0, 0, [], [], []),
  (0, 3, 14, 0, 0, 2147483647, [([], [(1, [0]), (1, [1])]), ([14], [(1, [0]), (1, [2])])], [], [])]
set_option maxRecDepth 100000 in
noncomputable def sz_h876_0_3 : List sy_Hn := [(0, 5, 496, 1, 0, 0, [], [], []),
  (0, 3, 14, 0, 0, 3, [([14], [(1, [0]), (1, [1])]), ([], [(1, [0]), (1, [1])])], [], []),
  (22, 6, 496, 0, 0, 0, [([9], [(1, [0]), (1, [1])]), ([9], [(1, [0]), (1, [2])]), ([11], [(1, [0]), (1, [1])]), ([11], [(1, [0]), (1, [2])])], [], [0, 0, 2, 2]),
  (0, 31, 0, 0, 0, 0, [], [], []),
  (0, 1, 1, 0, 4, 0, [], [], []),
  (21, 4, 5, 17, 0, 0, [], [], []),
  (0, 4, 5, 18, 0, 0, [], [], []),
  (0, 4, 5, 19, 0, 0, [], [], []),
  (0, 5, 497, 0, 0, 0, [], [], []),
  (0, 3, 14, 0, 0, 2147483647, [([], [(1, [0]), (1, [1])]), ([14], [(1, [0]), (1, [2])])], [], []),
  (0, 5, 497, 1, 0, 0, [], [], []),
  (0, 3, 14, 0, 0, 3, [([14], [(1, [0]), (1, [1])]), ([], [(1, [0]), (1, [1])])], [], []),
  (22, 6, 497, 0, 0, 0, [([9], [(1, [0]), (1, [1])]), ([9], [(1, [0]), (1, [2])]), ([11], [(1, [0]), (1, [1])]), ([11], [(1, [0]), (1, [2])])], [], [0, 0, 2, 2]),
  (0, 31, 0, 0, 0, 0, [], [], []),
  (0, 1, 1, 0, 5, 0, [], [], []),
  (21, 4, 5, 21, 0, 0, [], [], []),
  (0, 4, 5, 22, 0, 0, [], [], []),
  (0, 4, 5, 23, 0, 0, [], [], []),
  (0, 5, 498, 0, 0, 0, [], [], []),
  (0, 3, 14, 0, 0, 2147483647, [([], [(1, [0]), (1, [1])]), ([14], [(1, [0]), (1, [2])])], [], []),
  (0, 5, 498, 1, 0, 0, [], [], []),
  (0, 3, 14, 0, 0, 3, [([14], [(1, [0]), (1, [1])]), ([], [(1, [0]), (1, [1])])], [], []),
  (22, 6, 498, 0, 0, 0, [([9], [(1, [0]), (1, [1])]), ([9], [(1, [0]), (1, [2])]), ([11], [(1, [0]), (1, [1])]), ([11], [(1, [0]), (1, [2])])], [], [0, 0, 2, 2]),
  (0, 31, 0, 0, 0, 0, [], [], []),
  (0, 1, 1, 0, 6, 0, [], [], []),
  (21, 4, 5, 25, 0, 0, [], [], []),
  (0, 4, 5, 26, 0, 0, [], [], []),
  (0, 4, 5, 27, 0, 0, [], [], []),
  (0, 5, 499, 0, 0, 0, [], [], []),
  (0, 3, 14, 0, 0, 2147483647, [([], [(1, [0]), (1, [1])]), ([14], [(1, [0]), (1, [2])])], [], []),
  (0, 5, 499, 1, 0, 0, [], [], []),
  (0, 3, 14, 0, 0, 3, [([14], [(1, [0]), (1, [1])]), ([], [(1, [0]), (1, [1])])], [], []),
  (22, 6, 499, 0, 0, 0, [([9], [(1, [0]), (1, [1])]), ([9], [(1, [0]), (1, [2])]), ([11], [(1, [0]), (1, [1])]), ([11], [(1, [0]), (1, [2])])], [], [0, 0, 2, 2]),
  (0, 31, 0, 0, 0, 0, [], [], []),
  (21, 4, 5, 29, 0, 0, [], [], []),
  (0, 4, 5, 30, 0, 0, [], [], []),
  (0, 4, 5, 31, 0, 0, [], [], []),
  (0, 5, 500, 0, 0, 0, [], [], []),
  (0, 3, 14, 0, 0, 2147483647, [([], [(1, [0]), (1, [1])]), ([14], [(1, [0]), (1, [2])])], [], []),
  (0, 5, 500, 1, 0, 0, [], [], []),
  (0, 3, 14, 0, 0, 3, [([14], [(1, [0]), (1, [1])]), ([], [(1, [0]), (1, [1])])], [], []),
  (22, 6, 500, 0, 0, 0, [([9], [(1, [0]), (1, [1])]), ([9], [(1, [0]), (1, [2])]), ([11], [(1, [0]), (1, [1])]), ([11], [(1, [0]), (1, [2])])], [], [0, 0, 2, 2]),
  (0, 31, 0, 0, 0, 0, [], [], []),
  (2, 20, 8, 0, 0, 0, [], [], []),
  (9, 1, 1, 0, 0, 0, [], [], []),
  (21, 4, 5, 1, 0, 0, [], [], []),
  (0, 4, 5, 2, 0, 0, [], [], []),
  (0, 4, 5, 3, 0, 0, [], [], []),
  (0, 5, 493, 0, 0, 0, [], [], []),
  (0, 3, 14, 0, 0, 2147483647, [([], [(1, [0]), (1, [1])]), ([14], [(1, [0]), (1, [2])])], [], []),
  (0, 5, 493, 1, 0, 0, [], [], []),
  (0, 3, 14, 0, 0, 3, [([14], [(1, [0]), (1, [1])]), ([], [(1, [0]), (1, [1])])], [], []),
  (22, 6, 493, 0, 0, 0, [([9], [(1, [0]), (1, [1])]), ([9], [(1, [0]), (1, [2])]), ([11], [(1, [0]), (1, [1])]), ([11], [(1, [0]), (1, [2])])], [], [0, 0, 2, 2]),
  (0, 31, 0, 0, 0, 0, [], [], []),
  (0, 1, 1, 0, 1, 0, [], [], []),
  (21, 4, 5, 5, 0, 0, [], [], []),
  (0, 4, 5, 6, 0, 0, [], [], []),
  (0, 4, 5, 7, 0, 0, [], [], []),
  (0, 5, 494, 0, 0, 0, [], [], []),
  (0, 3, 14, 0, 0, 2147483647, [([], [(1, [0]), (1, [1])]), ([14], [(1, [0]), (1, [2])])], [], []),
  (0, 5, 494, 1, 0, 0, [], [], []),
  (0, 3, 14, 0, 0, 3, [([14], [(1, [0]), (1, [1])]), ([], [(1, [0]), (1, [1])])], [], []),
  (22, 6, 494, 0, 0, 0, [([9], [(1, [0]), (1, [1])]), ([9], [(1, [0]), (1, [2])]), ([11], [(1, [0]), (1, [1])]), ([11], [(1, [0]), (1, [2])])], [], [0, 0, 2, 2]),
  (0, 31, 0, 0, 0, 0, [], [], []),
  (0, 1, 1, 0, 2, 0, [], [], []),
  (21, 4, 5, 9, 0, 0, [], [], []),
  (0, 4, 5, 10, 0, 0, [], [], []),
  (0, 4, 5, 11, 0, 0, [], [], []),
  (0, 5, 495, 0, 0, 0, [], [], []),
  (0, 3, 14, 0, 0, 2147483647, [([], [(1, [0]), (1, [1])]), ([14], [(1, [0]), (1, [2])])], [], []),
  (0, 5, 495, 1, 0, 0, [], [], []),
  (0, 3, 14, 0, 0, 3, [([14], [(1, [0]), (1, [1])]), ([], [(1, [0]), (1, [1])])], [], []),
  (22, 6, 495, 0, 0, 0, [([9], [(1, [0]), (1, [1])]), ([9], [(1, [0]), (1, [2])]), ([11], [(1, [0]), (1, [1])]), ([11], [(1, [0]), (1, [2])])], [], [0, 0, 2, 2]),
  (0, 31, 0, 0, 0, 0, [], [], []),
  (0, 1, 1, 0, 3, 0, [], [], []),
  (21, 4, 5, 13, 0, 0, [], [], []),
  (0, 4, 5, 14, 0, 0, [], [], []),
  (0, 4, 5, 15, 0, 0, [], [], []),
  (0, 5, 496, 0, 0, 0, [], [], []),
  (0, 3, 14, 0, 0, 2147483647, [([], [(1, [0]), (1, [1])]), ([14], [(1, [0]), (1, [2])])], [], []),
  (0, 5, 496, 1, 0, 0, [], [], []),
  (0, 3, 14, 0, 0, 3, [([14], [(1, [0]), (1, [1])]), ([], [(1, [0]), (1, [1])])], [], []),
  (22, 6, 496, 0, 0, 0, [([9], [(1, [0]), (1, [1])]), ([9], [(1, [0]), (1, [2])]), ([11], [(1, [0]), (1, [1])]), ([11], [(1, [0]), (1, [2])])], [], [0, 0, 2, 2]),
  (0, 31, 0, 0, 0, 0, [], [], []),
  (0, 1, 1, 0, 4, 0, [], [], []),
  (21, 4, 5, 17, 0, 0, [], [], []),
  (0, 4, 5, 18, 0, 0, [], [], []),
  (0, 4, 5, 19, 0, 0, [], [], []),
  (0, 5, 497, 0, 0, 0, [], [], []),
  (0, 3, 14, 0, 0, 2147483647, [([], [(1, [0]), (1, [1])]), ([14], [(1, [0]), (1, [2])])], [], []),
  (0, 5, 497, 1, 0, 0, [], [], []),
  (0, 3, 14, 0, 0, 3, [([14], [(1, [0]), (1, [1])]), ([], [(1, [0]), (1, [1])])], [], []),
  (22, 6, 497, 0, 0, 0, [([9], [(1, [0]), (1, [1])]), ([9], [(1, [0]), (1, [2])]), ([11], [(1, [0]), (1, [1])]), ([11], [(1, [0]), (1, [2])])], [], [0, 0, 2, 2]),
  (0, 31, 0, 0, 0, 0, [], [], []),
  (0, 1, 1, 0, 5, 0, [], [], []),
  (21, 4, 5, 21, 0, 0, [], [], []),
  (0, 4, 5, 22, 0, 0, [], [], []),
  (0, 4, 5, 23, 0, 0, [], [], []),
  (0, 5, 498, 0, 0, 0, [], [], []),
  (0, 3, 14, 0, 0, 2147483647, [([], [(1, [0]), (1, [1])]), ([14], [(1, [0]), (1, [2])])], [], []),
  (0, 5, 498, 1, 0, 0, [], [], []),
  (0, 3, 14, 0, 0, 3, [([14], [(1, [0]), (1, [1])]), ([], [(1, [0]), (1, [1])])], [], []),
  (22, 6, 498, 0, 0, 0, [([9], [(1, [0]), (1, [1])]), ([9], [(1, [0]), (1, [2])]), ([11], [(1, [0]), (1, [1])]), ([11], [(1, [0]), (1, [2])])], [], [0, 0, 2, 2]),
  (0, 31, 0, 0, 0, 0, [], [], []),
  (0, 1, 1, 0, 6, 0, [], [], []),
  (21, 4, 5, 25, 0, 0, [], [], []),
  (0, 4, 5, 26, 0, 0, [], [], []),
  (0, 4, 5, 27, 0, 0, [], [], []),
  (0, 5, 499, 0, 0, 0, [], [], []),
  (0, 3, 14, 0, 0, 2147483647, [([], [(1, [0]), (1, [1])]), ([14], [(1, [0]), (1, [2])])], [], []),
  (0, 5, 499, 1, 0, 0, [], [], []),
  (0, 3, 14, 0, 0, 3, [([14], [(1, [0]), (1, [1])]), ([], [(1, [0]), (1, [1])])], [], []),
  (22, 6, 499, 0, 0, 0, [([9], [(1, [0]), (1, [1])]), ([9], [(1, [0]), (1, [2])]), ([11], [(1, [0]), (1, [1])]), ([11], [(1, [0]), (1, [2])])], [], [0, 0, 2, 2]),
  (0, 31, 0, 0, 0, 0, [], [], []),
  (21, 4, 5, 29, 0, 0, [], [], []),
  (0, 4, 5, 30, 0, 0, [], [], []),
  (0, 4, 5, 31, 0, 0, [], [], []),
  (0, 5, 500, 0, 0, 0, [], [], []),
  (0, 3, 14, 0, 0, 2147483647, [([], [(1, [0]), (1, [1])]), ([14], [(1, [0]), (1, [2])])], [], []),
  (0, 5, 500, 1, 0, 0, [], [], []),
  (0, 3, 14, 0, 0, 3, [([14], [(1, [0]), (1, [1])]), ([], [(1, [0]), (1, [1])])], [], []),
  (22, 6, 500, 0, 0, 0, [([9], [(1, [0]), (1, [1])]), ([9], [(1, [0]), (1, [2])]), ([11], [(1, [0]), (1, [1])]), ([11], [(1, [0]), (1, [2])])], [], [0, 0, 2, 2]),
  (0, 31, 0, 0, 0, 0, [], [], []),
  (4, 20, 3, 0, 0, 0, [], [], []),
  (10, 1, 1, 0, 0, 0, [], [], []),
  (21, 4, 5, 1, 0, 0, [], [], []),
  (0, 4, 5, 2, 0, 0, [], [], []),
  (0, 4, 5, 3, 0, 0, [], [], []),
  (0, 5, 493, 0, 0, 0, [], [], []),
  (0, 3, 14, 0, 0, 2147483647, [([], [(1, [0]), (1, [1])]), ([14], [(1, [0]), (1, [2])])], [], []),
  (0, 5, 493, 1, 0, 0, [], [], []),
  (0, 3, 14, 0, 0, 3, [([14], [(1, [0]), (1, [1])]), ([], [(1, [0]), (1, [1])])], [], []),
  (22, 6, 493, 0, 0, 0, [([9], [(1, [0]), (1, [1])]), ([9], [(1, [0]), (1, [2])]), ([5], [(1, [0]), (1, [2])]), ([5], [(1, [0]), (1, [2])])], [], [0, 0, 0, 0]),
  (0, 31, 0, 0, 0, 0, [], [], []),
  (0, 1, 1, 0, 1, 0, [], [], []),
  (21, 4, 5, 5, 0, 0, [], [], []),
  (0, 4, 5, 6, 0, 0, [], [], []),
  (0, 4, 5, 7, 0, 0, [], [], []),
  (0, 5, 494, 0, 0, 0, [], [], []),
  (0, 3, 14, 0, 0, 2147483647, [([], [(1, [0]), (1, [1])]), ([14], [(1, [0]), (1, [2])])], [], []),
  (0, 5, 494, 1, 0, 0, [], [], []),
  (0, 3, 14, 0, 0, 3, [([14], [(1, [0]), (1, [1])]), ([], [(1, [0]), (1, [1])])], [], []),
  (22, 6, 494, 0, 0, 0, [([9], [(1, [0]), (1, [1])]), ([9], [(1, [0]), (1, [2])]), ([5], [(1, [0]), (1, [2])]), ([5], [(1, [0]), (1, [2])])], [], [0, 0, 0, 0]),
  (0, 31, 0, 0, 0, 0, [], [], []),
  (0, 1, 1, 0, 2, 0, [], [], []),
  (21, 4, 5, 9, 0, 0, [], [], []),
  (0, 4, 5, 10, 0, 0, [], [], []),
  (0, 4, 5, 11, 0, 0, [], [], []),
  (0, 5, 495, 0, 0, 0, [], [], []),
  (0, 3, 14, 0, 0, 2147483647, [([], [(1, [0]), (1, [1])]), ([14], [(1, [0]), (1, [2])])], [], []),
  (0, 5, 495, 1, 0, 0, [], [], []),
  (0, 3, 14, 0, 0, 3, [([14], [(1, [0]), (1, [1])]), ([], [(1, [0]), (1, [1])])], [], []),
  (22, 6, 495, 0, 0, 0, [([9], [(1, [0]), (1, [1])]), ([9], [(1, [0]), (1, [2])]), ([5], [(1, [0]), (1, [2])]), ([5], [(1, [0]), (1, [2])])], [], [0, 0, 0, 0]),
  (0, 31, 0, 0, 0, 0, [], [], []),
  (0, 1, 1, 0, 3, 0, [], [], []),
  (21, 4, 5, 13, 0, 0, [], [], []),
  (0, 4, 5, 14, 0, 0, [], [], []),
  (0, 4, 5, 15, 0, 0, [], [], []),
  (0, 5, 496, 0, 0, 0, [], [], []),
  (0, 3, 14, 0, 0, 2147483647, [([], [(1, [0]), (1, [1])]), ([14], [(1, [0]), (1, [2])])], [], []),
  (0, 5, 496, 1, 0, 0, [], [], []),
  (0, 3, 14, 0, 0, 3, [([14], [(1, [0]), (1, [1])]), ([], [(1, [0]), (1, [1])])], [], []),
  (22, 6, 496, 0, 0, 0, [([9], [(1, [0]), (1, [1])]), ([9], [(1, [0]), (1, [2])]), ([5], [(1, [0]), (1, [2])]), ([5], [(1, [0]), (1, [2])])], [], [0, 0, 0, 0]),
  (0, 31, 0, 0, 0, 0, [], [], []),
  (0, 1, 1, 0, 4, 0, [], [], []),
  (21, 4, 5, 17, 0, 0, [], [], []),
  (0, 4, 5, 18, 0, 0, [], [], []),
  (0, 4, 5, 19, 0, 0, [], [], []),
  (0, 5, 497, 0, 0, 0, [], [], []),
  (0, 3, 14, 0, 0, 2147483647, [([], [(1, [0]), (1, [1])]), ([14], [(1, [0]), (1, [2])])], [], []),
  (0, 5, 497, 1, 0, 0, [], [], []),
  (0, 3, 14, 0, 0, 3, [([14], [(1, [0]), (1, [1])]), ([], [(1, [0]), (1, [1])])], [], []),
  (22, 6, 497, 0, 0, 0, [([9], [(1, [0]), (1, [1])]), ([9], [(1, [0]), (1, [2])]), ([5], [(1, [0]), (1, [2])]), ([5], [(1, [0]), (1, [2])])], [], [0, 0, 0, 0]),
  (0, 31, 0, 0, 0, 0, [], [], []),
  (0, 1, 1, 0, 5, 0, [], [], []),
  (21, 4, 5, 21, 0, 0, [], [], []),
  (0, 4, 5, 22, 0, 0, [], [], []),
  (0, 4, 5, 23, 0, 0, [], [], []),
  (0, 5, 498, 0, 0, 0, [], [], []),
  (0, 3, 14, 0, 0, 2147483647, [([], [(1, [0]), (1, [1])]), ([14], [(1, [0]), (1, [2])])], [], []),
  (0, 5, 498, 1, 0, 0, [], [], []),
  (0, 3, 14, 0, 0, 3, [([14], [(1, [0]), (1, [1])]), ([], [(1, [0]), (1, [1])])], [], []),
  (22, 6, 498, 0, 0, 0, [([9], [(1, [0]), (1, [1])]), ([9], [(1, [0]), (1, [2])]), ([5], [(1, [0]), (1, [2])]), ([5], [(1, [0]), (1, [2])])], [], [0, 0, 0, 0]),
  (0, 31, 0, 0, 0, 0, [], [], []),
  (0, 1, 1, 0, 6, 0, [], [], []),
  (21, 4, 5, 25, 0, 0, [], [], []),
  (0, 4, 5, 26, 0, 0, [], [], []),
  (0, 4, 5, 27, 0, 0, [], [], []),
  (0, 5, 499, 0, 0, 0, [], [], []),
  (0, 3, 14, 0, 0, 2147483647, [([], [(1, [0]), (1, [1])]), ([14], [(1, [0]), (1, [2])])], [], []),
  (0, 5, 499, 1, 0, 0, [], [], []),
  (0, 3, 14, 0, 0, 3, [([14], [(1, [0]), (1, [1])]), ([], [(1, [0]), (1, [1])])], [], []),
  (22, 6, 499, 0, 0, 0, [([9], [(1, [0]), (1, [1])]), ([9], [(1, [0]), (1, [2])]), ([5], [(1, [0]), (1, [2])]), ([5], [(1, [0]), (1, [2])])], [], [0, 0, 0, 0]),
  (0, 31, 0, 0, 0, 0, [], [], []),
  (21, 4, 5, 29, 0, 0, [], [], []),
  (0, 4, 5, 30, 0, 0, [], [], []),
  (0, 4, 5, 31, 0, 0, [], [], []),
  (0, 5, 500, 0, 0, 0, [], [], []),
  (0, 3, 14, 0, 0, 2147483647, [([], [(1, [0]), (1, [1])]), ([14], [(1, [0]), (1, [2])])], [], []),
  (0, 5, 500, 1, 0, 0, [], [], [])]
set_option maxRecDepth 100000 in
noncomputable def sz_h876_0_4 : List sy_Hn := [(0, 3, 14, 0, 0, 3, [([14], [(1, [0]), (1, [1])]), ([], [(1, [0]), (1, [1])])], [], []),
  (22, 6, 500, 0, 0, 0, [([9], [(1, [0]), (1, [1])]), ([9], [(1, [0]), (1, [2])]), ([5], [(1, [0]), (1, [2])]), ([5], [(1, [0]), (1, [2])])], [], [0, 0, 0, 0]),
  (0, 31, 0, 0, 0, 0, [], [], []),
  (4, 20, 4, 0, 0, 0, [], [], []),
  (10, 1, 1, 0, 0, 0, [], [], []),
  (21, 4, 5, 1, 0, 0, [], [], []),
  (0, 4, 5, 2, 0, 0, [], [], []),
  (0, 4, 5, 3, 0, 0, [], [], []),
  (0, 5, 493, 0, 0, 0, [], [], []),
  (0, 3, 14, 0, 0, 2147483647, [([], [(1, [0]), (1, [1])]), ([14], [(1, [0]), (1, [2])])], [], []),
  (0, 5, 493, 1, 0, 0, [], [], []),
  (0, 3, 14, 0, 0, 3, [([14], [(1, [0]), (1, [1])]), ([], [(1, [0]), (1, [1])])], [], []),
  (22, 6, 493, 0, 0, 0, [([9], [(1, [0]), (1, [1])]), ([9], [(1, [0]), (1, [2])]), ([5], [(1, [0]), (1, [2])]), ([5], [(1, [0]), (1, [2])])], [], [0, 0, 0, 0]),
  (0, 31, 0, 0, 0, 0, [], [], []),
  (0, 1, 1, 0, 1, 0, [], [], []),
  (21, 4, 5, 5, 0, 0, [], [], []),
  (0, 4, 5, 6, 0, 0, [], [], []),
  (0, 4, 5, 7, 0, 0, [], [], []),
  (0, 5, 494, 0, 0, 0, [], [], []),
  (0, 3, 14, 0, 0, 2147483647, [([], [(1, [0]), (1, [1])]), ([14], [(1, [0]), (1, [2])])], [], []),
  (0, 5, 494, 1, 0, 0, [], [], []),
  (0, 3, 14, 0, 0, 3, [([14], [(1, [0]), (1, [1])]), ([], [(1, [0]), (1, [1])])], [], []),
  (22, 6, 494, 0, 0, 0, [([9], [(1, [0]), (1, [1])]), ([9], [(1, [0]), (1, [2])]), ([5], [(1, [0]), (1, [2])]), ([5], [(1, [0]), (1, [2])])], [], [0, 0, 0, 0]),
  (0, 31, 0, 0, 0, 0, [], [], []),
  (0, 1, 1, 0, 2, 0, [], [], []),
  (21, 4, 5, 9, 0, 0, [], [], []),
  (0, 4, 5, 10, 0, 0, [], [], []),
  (0, 4, 5, 11, 0, 0, [], [], []),
  (0, 5, 495, 0, 0, 0, [], [], []),
  (0, 3, 14, 0, 0, 2147483647, [([], [(1, [0]), (1, [1])]), ([14], [(1, [0]), (1, [2])])], [], []),
  (0, 5, 495, 1, 0, 0, [], [], []),
  (0, 3, 14, 0, 0, 3, [([14], [(1, [0]), (1, [1])]), ([], [(1, [0]), (1, [1])])], [], []),
  (22, 6, 495, 0, 0, 0, [([9], [(1, [0]), (1, [1])]), ([9], [(1, [0]), (1, [2])]), ([5], [(1, [0]), (1, [2])]), ([5], [(1, [0]), (1, [2])])], [], [0, 0, 0, 0]),
  (0, 31, 0, 0, 0, 0, [], [], []),
  (0, 1, 1, 0, 3, 0, [], [], []),
  (21, 4, 5, 13, 0, 0, [], [], []),
  (0, 4, 5, 14, 0, 0, [], [], []),
  (0, 4, 5, 15, 0, 0, [], [], []),
  (0, 5, 496, 0, 0, 0, [], [], []),
  (0, 3, 14, 0, 0, 2147483647, [([], [(1, [0]), (1, [1])]), ([14], [(1, [0]), (1, [2])])], [], []),
  (0, 5, 496, 1, 0, 0, [], [], []),
  (0, 3, 14, 0, 0, 3, [([14], [(1, [0]), (1, [1])]), ([], [(1, [0]), (1, [1])])], [], []),
  (22, 6, 496, 0, 0, 0, [([9], [(1, [0]), (1, [1])]), ([9], [(1, [0]), (1, [2])]), ([5], [(1, [0]), (1, [2])]), ([5], [(1, [0]), (1, [2])])], [], [0, 0, 0, 0]),
  (0, 31, 0, 0, 0, 0, [], [], []),
  (0, 1, 1, 0, 4, 0, [], [], []),
  (21, 4, 5, 17, 0, 0, [], [], []),
  (0, 4, 5, 18, 0, 0, [], [], []),
  (0, 4, 5, 19, 0, 0, [], [], []),
  (0, 5, 497, 0, 0, 0, [], [], []),
  (0, 3, 14, 0, 0, 2147483647, [([], [(1, [0]), (1, [1])]), ([14], [(1, [0]), (1, [2])])], [], []),
  (0, 5, 497, 1, 0, 0, [], [], []),
  (0, 3, 14, 0, 0, 3, [([14], [(1, [0]), (1, [1])]), ([], [(1, [0]), (1, [1])])], [], []),
  (22, 6, 497, 0, 0, 0, [([9], [(1, [0]), (1, [1])]), ([9], [(1, [0]), (1, [2])]), ([5], [(1, [0]), (1, [2])]), ([5], [(1, [0]), (1, [2])])], [], [0, 0, 0, 0]),
  (0, 31, 0, 0, 0, 0, [], [], []),
  (0, 1, 1, 0, 5, 0, [], [], []),
  (21, 4, 5, 21, 0, 0, [], [], []),
  (0, 4, 5, 22, 0, 0, [], [], []),
  (0, 4, 5, 23, 0, 0, [], [], []),
  (0, 5, 498, 0, 0, 0, [], [], []),
  (0, 3, 14, 0, 0, 2147483647, [([], [(1, [0]), (1, [1])]), ([14], [(1, [0]), (1, [2])])], [], []),
  (0, 5, 498, 1, 0, 0, [], [], []),
  (0, 3, 14, 0, 0, 3, [([14], [(1, [0]), (1, [1])]), ([], [(1, [0]), (1, [1])])], [], []),
  (22, 6, 498, 0, 0, 0, [([9], [(1, [0]), (1, [1])]), ([9], [(1, [0]), (1, [2])]), ([5], [(1, [0]), (1, [2])]), ([5], [(1, [0]), (1, [2])])], [], [0, 0, 0, 0]),
  (0, 31, 0, 0, 0, 0, [], [], []),
  (0, 1, 1, 0, 6, 0, [], [], []),
  (21, 4, 5, 25, 0, 0, [], [], []),
  (0, 4, 5, 26, 0, 0, [], [], []),
  (0, 4, 5, 27, 0, 0, [], [], []),
  (0, 5, 499, 0, 0, 0, [], [], []),
  (0, 3, 14, 0, 0, 2147483647, [([], [(1, [0]), (1, [1])]), ([14], [(1, [0]), (1, [2])])], [], []),
  (0, 5, 499, 1, 0, 0, [], [], []),
  (0, 3, 14, 0, 0, 3, [([14], [(1, [0]), (1, [1])]), ([], [(1, [0]), (1, [1])])], [], []),
  (22, 6, 499, 0, 0, 0, [([9], [(1, [0]), (1, [1])]), ([9], [(1, [0]), (1, [2])]), ([5], [(1, [0]), (1, [2])]), ([5], [(1, [0]), (1, [2])])], [], [0, 0, 0, 0]),
  (0, 31, 0, 0, 0, 0, [], [], []),
  (21, 4, 5, 29, 0, 0, [], [], []),
  (0, 4, 5, 30, 0, 0, [], [], []),
  (0, 4, 5, 31, 0, 0, [], [], []),
  (0, 5, 500, 0, 0, 0, [], [], []),
  (0, 3, 14, 0, 0, 2147483647, [([], [(1, [0]), (1, [1])]), ([14], [(1, [0]), (1, [2])])], [], []),
  (0, 5, 500, 1, 0, 0, [], [], []),
  (0, 3, 14, 0, 0, 3, [([14], [(1, [0]), (1, [1])]), ([], [(1, [0]), (1, [1])])], [], []),
  (22, 6, 500, 0, 0, 0, [([9], [(1, [0]), (1, [1])]), ([9], [(1, [0]), (1, [2])]), ([5], [(1, [0]), (1, [2])]), ([5], [(1, [0]), (1, [2])])], [], [0, 0, 0, 0]),
  (0, 31, 0, 0, 0, 0, [], [], []),
  (0, 31, 0, 0, 0, 0, [], [], []),
  (0, 31, 0, 0, 0, 0, [], [], [])]
noncomputable def sz_h876_0 : List sy_Hn := sz_h876_0_0 ++ (sz_h876_0_1 ++ (sz_h876_0_2 ++ (sz_h876_0_3 ++ (sz_h876_0_4))))
set_option maxRecDepth 100000 in
theorem sz_s876_0 : sy_seg sz_E sz_T sz_RU [sz_c857, sz_c864, sz_c865, sz_c866, sz_c867, sz_c872, sz_c873, sz_c874, sz_c875] sz_c876 sz_u876 ri_m_X4_readEvent 5150 none sz_h876_0 = true := by decide +kernel
theorem sz_ok876 (xs : Nat → Value) (L : Nat) : sy_Cok (sz_env xs L) sz_T sz_RU sz_c876 := sy_chk_ok (CT := [sz_c857, sz_c864, sz_c865, sz_c866, sz_c867, sz_c872, sz_c873, sz_c874, sz_c875]) (CU := sz_u876) (M := ri_m_X4_readEvent) (List.forall_mem_cons.mpr ⟨sz_ok857 xs L, List.forall_mem_cons.mpr ⟨sz_ok864 xs L, List.forall_mem_cons.mpr ⟨sz_ok865 xs L, List.forall_mem_cons.mpr ⟨sz_ok866 xs L, List.forall_mem_cons.mpr ⟨sz_ok867 xs L, List.forall_mem_cons.mpr ⟨sz_ok872 xs L, List.forall_mem_cons.mpr ⟨sz_ok873 xs L, List.forall_mem_cons.mpr ⟨sz_ok874 xs L, List.forall_mem_cons.mpr ⟨sz_ok875 xs L, fun _ h => absurd h List.not_mem_nil⟩⟩⟩⟩⟩⟩⟩⟩⟩) rfl rfl ⟨_, _, sz_s876_0⟩ (fun _ h => absurd h List.not_mem_nil)

/-! X4_readKnownLoop [1] -/
set_option maxRecDepth 100000 in
noncomputable def sz_c877 : sy_Ct := (295, 3, 66, [(3, .inr 1, .inl 0)], ([(0, 400)], []), [((1, 4), (0, .inr 0, .inl 0))], [], [(1, 4, 6)], [(.inl (some (3, .inr 10, .inl 0)), 0, 0, ([(1, 4), (0, 400), (0, 400)], []), [((1, 4), (0, .inr 1, .inl 0)), ((2, 1), (0, .inr 2, .inl 0))], []), (.inl (some (3, .inr 22, .inl 0)), 0, 0, ([(2, 4), (0, 400), (0, 400)], []), [((1, 4), (0, .inr 1, .inl 0)), ((2, 1), (0, .inr 2, .inl 0))], []), (.inl (some (3, .inr 34, .inl 0)), 0, 0, ([(3, 4), (0, 400), (0, 400)], []), [((1, 4), (0, .inr 1, .inl 0)), ((2, 1), (0, .inr 2, .inl 0))], []), (.inl (some (3, .inr 46, .inl 0)), 0, 0, ([(0, 400), (0, 400)], []), [((1, 4), (0, .inr 1, .inl 0)), ((2, 1), (0, .inl 4, .inl 0))], []), (.inl (some (4, .inl 0, .inl 0)), 0, 0, ([(0, 400), (0, 400)], []), [((1, 4), (0, .inr 1, .inl 0))], [])])
set_option maxRecDepth 100000 in
noncomputable def sz_u877 : List sy_Cut := []
set_option maxRecDepth 100000 in
noncomputable def sz_h877_0 : List sy_Hn := [(8, 20, 0, 0, 0, 0, [], [], []),
  (0, 31, 4, 0, 0, 0, [], [], []),
  (9, 1, 3, 0, 0, 0, [], [], []),
  (2, 3, 1, 0, 1, 4, [([2], [(1, [0]), (1, [6]), (1, [1])]), ([1], [(1, [0]), (1, [2])])], [], []),
  (0, 31, 0, 0, 0, 0, [], [], []),
  (0, 1, 3, 0, 1, 0, [], [], []),
  (2, 3, 1, 0, 2, 4, [([3], [(1, [0]), (1, [6]), (1, [3]), (1, [1])]), ([1], [(1, [0]), (1, [2])])], [], []),
  (0, 31, 1, 0, 0, 0, [], [], []),
  (0, 1, 3, 0, 2, 0, [], [], []),
  (2, 3, 1, 0, 3, 4, [([3], [(1, [0]), (1, [6]), (1, [3]), (1, [1])]), ([1], [(1, [0]), (1, [2])])], [], []),
  (0, 31, 2, 0, 0, 0, [], [], []),
  (2, 3, 1, 0, 4, 4, [([3], [(1, [0]), (1, [6]), (1, [3]), (1, [1])]), ([1], [(1, [0]), (1, [2])])], [], []),
  (0, 31, 3, 0, 0, 0, [], [], [])]
set_option maxRecDepth 100000 in
theorem sz_s877_0 : sy_seg sz_E sz_T sz_RU [sz_c865] sz_c877 sz_u877 ri_m_X4_readKnownLoop 57 none sz_h877_0 = true := by decide +kernel
theorem sz_ok877 (xs : Nat → Value) (L : Nat) : sy_Cok (sz_env xs L) sz_T sz_RU sz_c877 := sy_chk_ok (CT := [sz_c865]) (CU := sz_u877) (M := ri_m_X4_readKnownLoop) (List.forall_mem_cons.mpr ⟨sz_ok865 xs L, fun _ h => absurd h List.not_mem_nil⟩) rfl rfl ⟨_, _, sz_s877_0⟩ (fun _ h => absurd h List.not_mem_nil)

/-! X4_number [1, 0, 999] -/
set_option maxRecDepth 100000 in
noncomputable def sz_c878 : sy_Ct := (294, 2, 44, [(3, .inr 1, .inl 0), (0, .inl 0, .inl 0), (0, .inl 999, .inl 0)], ([(0, 400)], []), [((1, 4), (0, .inr 0, .inl 0))], [], [(1, 4, 6)], [(.inl (some (0, .inr 1, .inl 0)), 0, 0, ([(0, 400), (0, 999), (0, 400)], []), [((1, 4), (0, .inr 2, .inl 0))], [])])
set_option maxRecDepth 100000 in
noncomputable def sz_u878 : List sy_Cut := []
set_option maxRecDepth 100000 in
noncomputable def sz_h878_0 : List sy_Hn := [(6, 20, 0, 0, 0, 0, [], [], []),
  (7, 20, 1, 0, 0, 0, [], [], []),
  (0, 31, 0, 0, 0, 0, [], [], []),
  (0, 31, 0, 0, 0, 0, [], [], []),
  (0, 31, 0, 0, 0, 0, [], [], []),
  (0, 31, 0, 0, 0, 0, [], [], []),
  (0, 31, 0, 0, 0, 0, [], [], []),
  (0, 31, 0, 0, 0, 0, [], [], []),
  (0, 31, 0, 0, 0, 0, [], [], [])]
set_option maxRecDepth 100000 in
theorem sz_s878_0 : sy_seg sz_E sz_T sz_RU [sz_c850, sz_c856] sz_c878 sz_u878 ri_m_X4_number 103 none sz_h878_0 = true := by decide +kernel
theorem sz_ok878 (xs : Nat → Value) (L : Nat) : sy_Cok (sz_env xs L) sz_T sz_RU sz_c878 := sy_chk_ok (CT := [sz_c850, sz_c856]) (CU := sz_u878) (M := ri_m_X4_number) (List.forall_mem_cons.mpr ⟨sz_ok850 xs L, List.forall_mem_cons.mpr ⟨sz_ok856 xs L, fun _ h => absurd h List.not_mem_nil⟩⟩) rfl rfl ⟨_, _, sz_s878_0⟩ (fun _ h => absurd h List.not_mem_nil)

/-! X4_readCurve [1] -/
set_option maxRecDepth 100000 in
noncomputable def sz_c879 : sy_Ct := (260, 4, 87, [(3, .inr 1, .inl 0)], ([(0, 400)], []), [((1, 4), (0, .inr 0, .inl 0))], [], [(1, 4, 6), (13, 4, 4), (14, 0, 7), (25, 4, 4), (26, 0, 7), (37, 4, 4), (38, 0, 7), (49, 4, 4), (50, 0, 7)], [(.inl none, 0, 0, ([(0, 400), (0, 400)], []), [((1, 4), (0, .inr 1, .inl 0))], [])])
set_option maxRecDepth 100000 in
noncomputable def sz_u879 : List sy_Cut := []
set_option maxRecDepth 100000 in
noncomputable def sz_h879_0 : List sy_Hn := [(2, 20, 1, 0, 0, 0, [], [], []),
  (11, 20, 2, 0, 0, 0, [], [], []),
  (9, 20, 2, 0, 0, 0, [], [], []),
  (5, 20, 0, 0, 0, 0, [], [], []),
  (0, 31, 0, 0, 0, 0, [], [], []),
  (0, 31, 0, 0, 0, 0, [], [], []),
  (0, 31, 0, 0, 0, 0, [], [], []),
  (0, 31, 0, 0, 0, 0, [], [], []),
  (12, 20, 2, 0, 0, 0, [], [], []),
  (4, 20, 0, 0, 0, 0, [], [], []),
  (0, 31, 0, 0, 0, 0, [], [], []),
  (0, 31, 0, 0, 0, 0, [], [], []),
  (0, 31, 0, 0, 0, 0, [], [], []),
  (0, 31, 0, 0, 0, 0, [], [], []),
  (12, 20, 2, 0, 0, 0, [], [], []),
  (4, 20, 0, 0, 0, 0, [], [], []),
  (0, 31, 0, 0, 0, 0, [], [], []),
  (0, 31, 0, 0, 0, 0, [], [], []),
  (0, 31, 0, 0, 0, 0, [], [], []),
  (0, 31, 0, 0, 0, 0, [], [], []),
  (12, 20, 2, 0, 0, 0, [], [], []),
  (4, 20, 0, 0, 0, 0, [], [], []),
  (0, 31, 0, 0, 0, 0, [], [], []),
  (0, 31, 0, 0, 0, 0, [], [], []),
  (0, 31, 0, 0, 0, 0, [], [], []),
  (0, 31, 0, 0, 0, 0, [], [], []),
  (12, 20, 2, 0, 0, 0, [], [], []),
  (4, 20, 0, 0, 0, 0, [], [], []),
  (0, 31, 0, 0, 0, 0, [], [], []),
  (0, 31, 0, 0, 0, 0, [], [], []),
  (0, 31, 0, 0, 0, 0, [], [], []),
  (0, 31, 0, 0, 0, 0, [], [], []),
  (12, 20, 2, 0, 0, 0, [], [], []),
  (4, 20, 0, 0, 0, 0, [], [], []),
  (0, 31, 0, 0, 0, 0, [], [], []),
  (0, 31, 0, 0, 0, 0, [], [], []),
  (0, 31, 0, 0, 0, 0, [], [], []),
  (0, 31, 0, 0, 0, 0, [], [], []),
  (12, 20, 2, 0, 0, 0, [], [], []),
  (4, 20, 0, 0, 0, 0, [], [], []),
  (0, 31, 0, 0, 0, 0, [], [], []),
  (11, 20, 2, 0, 0, 0, [], [], []),
  (9, 20, 2, 0, 0, 0, [], [], []),
  (5, 20, 0, 0, 0, 0, [], [], []),
  (0, 31, 0, 0, 0, 0, [], [], []),
  (0, 31, 0, 0, 0, 0, [], [], []),
  (0, 31, 0, 0, 0, 0, [], [], []),
  (0, 31, 0, 0, 0, 0, [], [], []),
  (12, 20, 2, 0, 0, 0, [], [], []),
  (4, 20, 0, 0, 0, 0, [], [], []),
  (0, 31, 0, 0, 0, 0, [], [], []),
  (0, 31, 0, 0, 0, 0, [], [], []),
  (0, 31, 0, 0, 0, 0, [], [], []),
  (0, 31, 0, 0, 0, 0, [], [], []),
  (12, 20, 2, 0, 0, 0, [], [], []),
  (4, 20, 0, 0, 0, 0, [], [], []),
  (0, 31, 0, 0, 0, 0, [], [], []),
  (0, 31, 0, 0, 0, 0, [], [], []),
  (0, 31, 0, 0, 0, 0, [], [], []),
  (0, 31, 0, 0, 0, 0, [], [], []),
  (12, 20, 2, 0, 0, 0, [], [], []),
  (4, 20, 0, 0, 0, 0, [], [], []),
  (0, 31, 0, 0, 0, 0, [], [], []),
  (0, 31, 0, 0, 0, 0, [], [], []),
  (0, 31, 0, 0, 0, 0, [], [], []),
  (0, 31, 0, 0, 0, 0, [], [], []),
  (12, 20, 2, 0, 0, 0, [], [], []),
  (4, 20, 0, 0, 0, 0, [], [], []),
  (0, 31, 0, 0, 0, 0, [], [], []),
  (0, 31, 0, 0, 0, 0, [], [], []),
  (0, 31, 0, 0, 0, 0, [], [], []),
  (0, 31, 0, 0, 0, 0, [], [], []),
  (12, 20, 2, 0, 0, 0, [], [], []),
  (4, 20, 0, 0, 0, 0, [], [], []),
  (0, 31, 0, 0, 0, 0, [], [], []),
  (0, 31, 0, 0, 0, 0, [], [], []),
  (0, 31, 0, 0, 0, 0, [], [], []),
  (0, 31, 0, 0, 0, 0, [], [], []),
  (12, 20, 2, 0, 0, 0, [], [], []),
  (4, 20, 0, 0, 0, 0, [], [], []),
  (0, 31, 0, 0, 0, 0, [], [], []),
  (11, 20, 2, 0, 0, 0, [], [], []),
  (9, 20, 2, 0, 0, 0, [], [], []),
  (5, 20, 0, 0, 0, 0, [], [], []),
  (0, 31, 0, 0, 0, 0, [], [], []),
  (0, 31, 0, 0, 0, 0, [], [], []),
  (0, 31, 0, 0, 0, 0, [], [], []),
  (0, 31, 0, 0, 0, 0, [], [], []),
  (12, 20, 2, 0, 0, 0, [], [], []),
  (4, 20, 0, 0, 0, 0, [], [], []),
  (0, 31, 0, 0, 0, 0, [], [], []),
  (0, 31, 0, 0, 0, 0, [], [], []),
  (0, 31, 0, 0, 0, 0, [], [], []),
  (0, 31, 0, 0, 0, 0, [], [], []),
  (12, 20, 2, 0, 0, 0, [], [], []),
  (4, 20, 0, 0, 0, 0, [], [], []),
  (0, 31, 0, 0, 0, 0, [], [], []),
  (0, 31, 0, 0, 0, 0, [], [], []),
  (0, 31, 0, 0, 0, 0, [], [], []),
  (0, 31, 0, 0, 0, 0, [], [], []),
  (12, 20, 2, 0, 0, 0, [], [], []),
  (4, 20, 0, 0, 0, 0, [], [], []),
  (0, 31, 0, 0, 0, 0, [], [], []),
  (0, 31, 0, 0, 0, 0, [], [], []),
  (0, 31, 0, 0, 0, 0, [], [], []),
  (0, 31, 0, 0, 0, 0, [], [], []),
  (12, 20, 2, 0, 0, 0, [], [], []),
  (4, 20, 0, 0, 0, 0, [], [], []),
  (0, 31, 0, 0, 0, 0, [], [], []),
  (0, 31, 0, 0, 0, 0, [], [], []),
  (0, 31, 0, 0, 0, 0, [], [], []),
  (0, 31, 0, 0, 0, 0, [], [], []),
  (12, 20, 2, 0, 0, 0, [], [], []),
  (4, 20, 0, 0, 0, 0, [], [], []),
  (0, 31, 0, 0, 0, 0, [], [], []),
  (0, 31, 0, 0, 0, 0, [], [], []),
  (0, 31, 0, 0, 0, 0, [], [], []),
  (0, 31, 0, 0, 0, 0, [], [], []),
  (12, 20, 2, 0, 0, 0, [], [], []),
  (4, 20, 0, 0, 0, 0, [], [], []),
  (0, 31, 0, 0, 0, 0, [], [], []),
  (11, 20, 2, 0, 0, 0, [], [], []),
  (9, 20, 2, 0, 0, 0, [], [], []),
  (5, 20, 0, 0, 0, 0, [], [], []),
  (0, 31, 0, 0, 0, 0, [], [], []),
  (0, 31, 0, 0, 0, 0, [], [], []),
  (0, 31, 0, 0, 0, 0, [], [], []),
  (0, 31, 0, 0, 0, 0, [], [], []),
  (12, 20, 2, 0, 0, 0, [], [], []),
  (4, 20, 0, 0, 0, 0, [], [], []),
  (0, 31, 0, 0, 0, 0, [], [], []),
  (0, 31, 0, 0, 0, 0, [], [], []),
  (0, 31, 0, 0, 0, 0, [], [], []),
  (0, 31, 0, 0, 0, 0, [], [], []),
  (12, 20, 2, 0, 0, 0, [], [], []),
  (4, 20, 0, 0, 0, 0, [], [], []),
  (0, 31, 0, 0, 0, 0, [], [], []),
  (0, 31, 0, 0, 0, 0, [], [], []),
  (0, 31, 0, 0, 0, 0, [], [], []),
  (0, 31, 0, 0, 0, 0, [], [], []),
  (12, 20, 2, 0, 0, 0, [], [], []),
  (4, 20, 0, 0, 0, 0, [], [], []),
  (0, 31, 0, 0, 0, 0, [], [], []),
  (0, 31, 0, 0, 0, 0, [], [], []),
  (0, 31, 0, 0, 0, 0, [], [], []),
  (0, 31, 0, 0, 0, 0, [], [], []),
  (12, 20, 2, 0, 0, 0, [], [], []),
  (4, 20, 0, 0, 0, 0, [], [], []),
  (0, 31, 0, 0, 0, 0, [], [], []),
  (0, 31, 0, 0, 0, 0, [], [], []),
  (0, 31, 0, 0, 0, 0, [], [], []),
  (0, 31, 0, 0, 0, 0, [], [], []),
  (12, 20, 2, 0, 0, 0, [], [], []),
  (4, 20, 0, 0, 0, 0, [], [], []),
  (0, 31, 0, 0, 0, 0, [], [], []),
  (0, 31, 0, 0, 0, 0, [], [], []),
  (0, 31, 0, 0, 0, 0, [], [], []),
  (0, 31, 0, 0, 0, 0, [], [], []),
  (12, 20, 2, 0, 0, 0, [], [], []),
  (4, 20, 0, 0, 0, 0, [], [], []),
  (0, 31, 0, 0, 0, 0, [], [], []),
  (0, 31, 0, 0, 0, 0, [], [], [])]
set_option maxRecDepth 100000 in
theorem sz_s879_0 : sy_seg sz_E sz_T sz_RU [sz_c850, sz_c877, sz_c878] sz_c879 sz_u879 ri_m_X4_readCurve 2057 none sz_h879_0 = true := by decide +kernel
theorem sz_ok879 (xs : Nat → Value) (L : Nat) : sy_Cok (sz_env xs L) sz_T sz_RU sz_c879 := sy_chk_ok (CT := [sz_c850, sz_c877, sz_c878]) (CU := sz_u879) (M := ri_m_X4_readCurve) (List.forall_mem_cons.mpr ⟨sz_ok850 xs L, List.forall_mem_cons.mpr ⟨sz_ok877 xs L, List.forall_mem_cons.mpr ⟨sz_ok878 xs L, fun _ h => absurd h List.not_mem_nil⟩⟩⟩) rfl rfl ⟨_, _, sz_s879_0⟩ (fun _ h => absurd h List.not_mem_nil)

/-! X4_takes [1, 1000019] -/
set_option maxRecDepth 100000 in
noncomputable def sz_c880 : sy_Ct := (256, 4, 85, [(3, .inr 1, .inl 0), (3, .inr 1000019, .inl 0)], ([(0, 400)], []), [((1, 4), (0, .inr 0, .inl 0))], [], [(1, 4, 5)], [(.inl (some (0, .inr 1, .inl 0)), 0, 0, ([(0, 400), (0, 1), (0, 400)], []), [((1, 4), (0, .inr 2, .inl 0))], [])])
set_option maxRecDepth 100000 in
noncomputable def sz_u880 : List sy_Cut := [(16, [(0, (3, .inr 1, .inl 0)), (1, (3, .inr 1000019, .inl 0)), (2, (0, .inr 1, .inl 0)), (3, (0, .inr 2, .inl 0))], ([(0, 400), (0, 4), (4, 404), (0, 400)], [[(1, [3]), ((-1), [1]), (4, [])], [(1, [1]), ((-1), [3]), ((-4), [])], [(400, []), ((-1), [3]), ((-1), [2])]]), [((1, 4), (0, .inr 3, .inl 0))], [], [(8, []), ((-1), [2])])]
set_option maxRecDepth 100000 in
noncomputable def sz_h880_0 : List sy_Hn := [(6, 20, 0, 0, 0, 0, [], [], []),
  (0, 30, 0, 0, 0, 0, [([], [(1, [0])]), ([], []), ([], [(1, [0]), (1, [2])]), ([], [(1, [0]), (1, [1])]), ([2], [(1, [0]), (1, [2])])], [], []),
  (0, 31, 0, 0, 0, 0, [], [], [])]
set_option maxRecDepth 100000 in
theorem sz_s880_0 : sy_seg sz_E sz_T sz_RU [sz_c850] sz_c880 sz_u880 ri_m_X4_takes 38 none sz_h880_0 = true := by decide +kernel
set_option maxRecDepth 100000 in
noncomputable def sz_h880_1 : List sy_Hn := [(32, 3, 1, 0, 4, 401, [([1], [(1, [0]), (1, [1])]), ([2], [(1, [0]), (1, [4]), (1, [6]), (1, [1])])], [], []),
  (1, 3, 1, 0, 4, 400, [([1], [(1, [0]), (1, [1])]), ([2], [(1, [0]), (1, [4]), (1, [6]), (1, [1])])], [], []),
  (0, 31, 0, 0, 0, 0, [], [], []),
  (0, 31, 0, 0, 0, 0, [], [], []),
  (0, 31, 0, 0, 0, 0, [], [], []),
  (0, 31, 0, 0, 0, 0, [], [], []),
  (0, 31, 0, 0, 0, 0, [], [], []),
  (0, 31, 0, 0, 0, 0, [], [], []),
  (0, 31, 0, 0, 0, 0, [], [], []),
  (10, 3, 8, 0, 0, 399, [([8], [(1, [0]), (1, [1])]), ([4], [(1, [0]), (1, [4]), (1, [6]), (1, [2])])], [], []),
  (0, 30, 0, 0, 0, 0, [([13], [(1, [0]), (1, [2])]), ([], [(1, [0]), (1, [1])]), ([], [(1, [0]), (1, [10])]), ([], [(1, [0]), (1, [11])]), ([8], [(1, [0]), (1, [7]), (1, [4]), (1, [2])])], [], []),
  (0, 31, 0, 0, 0, 0, [], [], [])]
set_option maxRecDepth 100000 in
theorem sz_s880_1 : sy_seg sz_E sz_T sz_RU [sz_c850] sz_c880 sz_u880 ri_m_X4_takes 192 (some ((16, [(0, (3, .inr 1, .inl 0)), (1, (3, .inr 1000019, .inl 0)), (2, (0, .inr 1, .inl 0)), (3, (0, .inr 2, .inl 0))], ([(0, 400), (0, 4), (4, 404), (0, 400)], [[(1, [3]), ((-1), [1]), (4, [])], [(1, [1]), ((-1), [3]), ((-4), [])], [(400, []), ((-1), [3]), ((-1), [2])]]), [((1, 4), (0, .inr 3, .inl 0))], [], [(8, []), ((-1), [2])]))) sz_h880_1 = true := by decide +kernel
theorem sz_ok880 (xs : Nat → Value) (L : Nat) : sy_Cok (sz_env xs L) sz_T sz_RU sz_c880 := sy_chk_ok (CT := [sz_c850]) (CU := sz_u880) (M := ri_m_X4_takes) (List.forall_mem_cons.mpr ⟨sz_ok850 xs L, fun _ h => absurd h List.not_mem_nil⟩) rfl rfl ⟨_, _, sz_s880_0⟩ (List.forall_mem_cons.mpr ⟨⟨_, _, sz_s880_1⟩, fun _ h => absurd h List.not_mem_nil⟩)

/-! X4_takes [1, 1000020] -/
set_option maxRecDepth 100000 in
noncomputable def sz_c881 : sy_Ct := (256, 4, 85, [(3, .inr 1, .inl 0), (3, .inr 1000020, .inl 0)], ([(0, 400)], []), [((1, 4), (0, .inr 0, .inl 0))], [], [(1, 4, 5)], [(.inl (some (0, .inr 1, .inl 0)), 0, 0, ([(0, 400), (0, 1), (0, 400)], []), [((1, 4), (0, .inr 2, .inl 0))], [])])
set_option maxRecDepth 100000 in
noncomputable def sz_u881 : List sy_Cut := [(16, [(0, (3, .inr 1, .inl 0)), (1, (3, .inr 1000020, .inl 0)), (2, (0, .inr 1, .inl 0)), (3, (0, .inr 2, .inl 0))], ([(0, 400), (0, 2), (2, 402), (0, 400)], [[(1, [3]), ((-1), [1]), (2, [])], [(1, [1]), ((-1), [3]), ((-2), [])], [(400, []), ((-1), [3]), ((-1), [2])]]), [((1, 4), (0, .inr 3, .inl 0))], [], [(8, []), ((-1), [2])])]
set_option maxRecDepth 100000 in
noncomputable def sz_h881_0 : List sy_Hn := [(6, 20, 0, 0, 0, 0, [], [], []),
  (0, 30, 0, 0, 0, 0, [([], [(1, [0])]), ([], []), ([], [(1, [0]), (1, [2])]), ([], [(1, [0]), (1, [1])]), ([2], [(1, [0]), (1, [2])])], [], []),
  (0, 31, 0, 0, 0, 0, [], [], [])]
set_option maxRecDepth 100000 in
theorem sz_s881_0 : sy_seg sz_E sz_T sz_RU [sz_c850] sz_c881 sz_u881 ri_m_X4_takes 38 none sz_h881_0 = true := by decide +kernel
set_option maxRecDepth 100000 in
noncomputable def sz_h881_1 : List sy_Hn := [(32, 3, 1, 0, 2, 401, [([1], [(1, [0]), (1, [1])]), ([2], [(1, [0]), (1, [4]), (1, [6]), (1, [1])])], [], []),
  (1, 3, 1, 0, 2, 400, [([1], [(1, [0]), (1, [1])]), ([2], [(1, [0]), (1, [4]), (1, [6]), (1, [1])])], [], []),
  (0, 31, 0, 0, 0, 0, [], [], []),
  (0, 31, 0, 0, 0, 0, [], [], []),
  (0, 31, 0, 0, 0, 0, [], [], []),
  (0, 31, 0, 0, 0, 0, [], [], []),
  (0, 31, 0, 0, 0, 0, [], [], []),
  (0, 31, 0, 0, 0, 0, [], [], []),
  (0, 31, 0, 0, 0, 0, [], [], []),
  (10, 3, 8, 0, 0, 399, [([8], [(1, [0]), (1, [1])]), ([4], [(1, [0]), (1, [4]), (1, [6]), (1, [2])])], [], []),
  (0, 30, 0, 0, 0, 0, [([13], [(1, [0]), (1, [2])]), ([], [(1, [0]), (1, [1])]), ([], [(1, [0]), (1, [10])]), ([], [(1, [0]), (1, [11])]), ([8], [(1, [0]), (1, [7]), (1, [4]), (1, [2])])], [], []),
  (0, 31, 0, 0, 0, 0, [], [], [])]
set_option maxRecDepth 100000 in
theorem sz_s881_1 : sy_seg sz_E sz_T sz_RU [sz_c850] sz_c881 sz_u881 ri_m_X4_takes 192 (some ((16, [(0, (3, .inr 1, .inl 0)), (1, (3, .inr 1000020, .inl 0)), (2, (0, .inr 1, .inl 0)), (3, (0, .inr 2, .inl 0))], ([(0, 400), (0, 2), (2, 402), (0, 400)], [[(1, [3]), ((-1), [1]), (2, [])], [(1, [1]), ((-1), [3]), ((-2), [])], [(400, []), ((-1), [3]), ((-1), [2])]]), [((1, 4), (0, .inr 3, .inl 0))], [], [(8, []), ((-1), [2])]))) sz_h881_1 = true := by decide +kernel
theorem sz_ok881 (xs : Nat → Value) (L : Nat) : sy_Cok (sz_env xs L) sz_T sz_RU sz_c881 := sy_chk_ok (CT := [sz_c850]) (CU := sz_u881) (M := ri_m_X4_takes) (List.forall_mem_cons.mpr ⟨sz_ok850 xs L, fun _ h => absurd h List.not_mem_nil⟩) rfl rfl ⟨_, _, sz_s881_0⟩ (List.forall_mem_cons.mpr ⟨⟨_, _, sz_s881_1⟩, fun _ h => absurd h List.not_mem_nil⟩)

/-! X4_need [1, 1000020] -/
set_option maxRecDepth 100000 in
noncomputable def sz_c882 : sy_Ct := (291, 5, 108, [(3, .inr 1, .inl 0), (3, .inr 1000020, .inl 0)], ([(0, 400)], []), [((1, 4), (0, .inr 0, .inl 0))], [], [(1, 4, 6)], [(.inl none, 0, 0, ([(0, 400), (0, 400)], []), [((1, 4), (0, .inr 1, .inl 0))], [])])
set_option maxRecDepth 100000 in
noncomputable def sz_u882 : List sy_Cut := []
set_option maxRecDepth 100000 in
noncomputable def sz_h882_0 : List sy_Hn := [(3, 20, 0, 0, 0, 0, [], [], []),
  (0, 31, 0, 0, 0, 0, [], [], []),
  (0, 31, 0, 0, 0, 0, [], [], []),
  (0, 31, 0, 0, 0, 0, [], [], [])]
set_option maxRecDepth 100000 in
theorem sz_s882_0 : sy_seg sz_E sz_T sz_RU [sz_c881] sz_c882 sz_u882 ri_m_X4_need 29 none sz_h882_0 = true := by decide +kernel
theorem sz_ok882 (xs : Nat → Value) (L : Nat) : sy_Cok (sz_env xs L) sz_T sz_RU sz_c882 := sy_chk_ok (CT := [sz_c881]) (CU := sz_u882) (M := ri_m_X4_need) (List.forall_mem_cons.mpr ⟨sz_ok881 xs L, fun _ h => absurd h List.not_mem_nil⟩) rfl rfl ⟨_, _, sz_s882_0⟩ (fun _ h => absurd h List.not_mem_nil)

/-! X4_number [1, 0, 9999] -/
set_option maxRecDepth 100000 in
noncomputable def sz_c883 : sy_Ct := (294, 2, 44, [(3, .inr 1, .inl 0), (0, .inl 0, .inl 0), (0, .inl 9999, .inl 0)], ([(0, 400)], []), [((1, 4), (0, .inr 0, .inl 0))], [], [(1, 4, 6)], [(.inl (some (0, .inr 1, .inl 0)), 0, 0, ([(0, 400), (0, 9999), (0, 400)], []), [((1, 4), (0, .inr 2, .inl 0))], [])])
set_option maxRecDepth 100000 in
noncomputable def sz_u883 : List sy_Cut := []
set_option maxRecDepth 100000 in
noncomputable def sz_h883_0 : List sy_Hn := [(6, 20, 0, 0, 0, 0, [], [], []),
  (7, 20, 1, 0, 0, 0, [], [], []),
  (0, 31, 0, 0, 0, 0, [], [], []),
  (0, 31, 0, 0, 0, 0, [], [], []),
  (0, 31, 0, 0, 0, 0, [], [], []),
  (0, 31, 0, 0, 0, 0, [], [], []),
  (0, 31, 0, 0, 0, 0, [], [], []),
  (0, 31, 0, 0, 0, 0, [], [], []),
  (0, 31, 0, 0, 0, 0, [], [], [])]
set_option maxRecDepth 100000 in
theorem sz_s883_0 : sy_seg sz_E sz_T sz_RU [sz_c850, sz_c856] sz_c883 sz_u883 ri_m_X4_number 103 none sz_h883_0 = true := by decide +kernel
theorem sz_ok883 (xs : Nat → Value) (L : Nat) : sy_Cok (sz_env xs L) sz_T sz_RU sz_c883 := sy_chk_ok (CT := [sz_c850, sz_c856]) (CU := sz_u883) (M := ri_m_X4_number) (List.forall_mem_cons.mpr ⟨sz_ok850 xs L, List.forall_mem_cons.mpr ⟨sz_ok856 xs L, fun _ h => absurd h List.not_mem_nil⟩⟩) rfl rfl ⟨_, _, sz_s883_0⟩ (fun _ h => absurd h List.not_mem_nil)

/-! X4_numberBehind [1, 1000020, 9999] -/
set_option maxRecDepth 100000 in
noncomputable def sz_c884 : sy_Ct := (290, 6, 129, [(3, .inr 1, .inl 0), (3, .inr 1000020, .inl 0), (0, .inl 9999, .inl 0)], ([(0, 400)], []), [((1, 4), (0, .inr 0, .inl 0))], [], [(1, 4, 6)], [(.inl (some (0, .inr 1, .inl 0)), 0, 0, ([(0, 400), (0, 9999), (0, 400)], []), [((1, 4), (0, .inr 2, .inl 0))], [])])
set_option maxRecDepth 100000 in
noncomputable def sz_u884 : List sy_Cut := []
set_option maxRecDepth 100000 in
noncomputable def sz_h884_0 : List sy_Hn := [(3, 20, 0, 0, 0, 0, [], [], []),
  (4, 20, 1, 0, 0, 0, [], [], []),
  (0, 31, 0, 0, 0, 0, [], [], [])]
set_option maxRecDepth 100000 in
theorem sz_s884_0 : sy_seg sz_E sz_T sz_RU [sz_c882, sz_c883] sz_c884 sz_u884 ri_m_X4_numberBehind 16 none sz_h884_0 = true := by decide +kernel
theorem sz_ok884 (xs : Nat → Value) (L : Nat) : sy_Cok (sz_env xs L) sz_T sz_RU sz_c884 := sy_chk_ok (CT := [sz_c882, sz_c883]) (CU := sz_u884) (M := ri_m_X4_numberBehind) (List.forall_mem_cons.mpr ⟨sz_ok882 xs L, List.forall_mem_cons.mpr ⟨sz_ok883 xs L, fun _ h => absurd h List.not_mem_nil⟩⟩) rfl rfl ⟨_, _, sz_s884_0⟩ (fun _ h => absurd h List.not_mem_nil)

/-! X4_takes [1, 1000021] -/
set_option maxRecDepth 100000 in
noncomputable def sz_c885 : sy_Ct := (256, 4, 85, [(3, .inr 1, .inl 0), (3, .inr 1000021, .inl 0)], ([(0, 400)], []), [((1, 4), (0, .inr 0, .inl 0))], [], [(1, 4, 5)], [(.inl (some (0, .inr 1, .inl 0)), 0, 0, ([(0, 400), (0, 1), (0, 400)], []), [((1, 4), (0, .inr 2, .inl 0))], [])])
set_option maxRecDepth 100000 in
noncomputable def sz_u885 : List sy_Cut := [(16, [(0, (3, .inr 1, .inl 0)), (1, (3, .inr 1000021, .inl 0)), (2, (0, .inr 1, .inl 0)), (3, (0, .inr 2, .inl 0))], ([(0, 400), (0, 2), (2, 402), (0, 400)], [[(1, [3]), ((-1), [1]), (2, [])], [(1, [1]), ((-1), [3]), ((-2), [])], [(400, []), ((-1), [3]), ((-1), [2])]]), [((1, 4), (0, .inr 3, .inl 0))], [], [(8, []), ((-1), [2])])]
set_option maxRecDepth 100000 in
noncomputable def sz_h885_0 : List sy_Hn := [(6, 20, 0, 0, 0, 0, [], [], []),
  (0, 30, 0, 0, 0, 0, [([], [(1, [0])]), ([], []), ([], [(1, [0]), (1, [2])]), ([], [(1, [0]), (1, [1])]), ([2], [(1, [0]), (1, [2])])], [], []),
  (0, 31, 0, 0, 0, 0, [], [], [])]
set_option maxRecDepth 100000 in
theorem sz_s885_0 : sy_seg sz_E sz_T sz_RU [sz_c850] sz_c885 sz_u885 ri_m_X4_takes 38 none sz_h885_0 = true := by decide +kernel
set_option maxRecDepth 100000 in
noncomputable def sz_h885_1 : List sy_Hn := [(32, 3, 1, 0, 2, 401, [([1], [(1, [0]), (1, [1])]), ([2], [(1, [0]), (1, [4]), (1, [6]), (1, [1])])], [], []),
  (1, 3, 1, 0, 2, 400, [([1], [(1, [0]), (1, [1])]), ([2], [(1, [0]), (1, [4]), (1, [6]), (1, [1])])], [], []),
  (0, 31, 0, 0, 0, 0, [], [], []),
  (0, 31, 0, 0, 0, 0, [], [], []),
  (0, 31, 0, 0, 0, 0, [], [], []),
  (0, 31, 0, 0, 0, 0, [], [], []),
  (0, 31, 0, 0, 0, 0, [], [], []),
  (0, 31, 0, 0, 0, 0, [], [], []),
  (0, 31, 0, 0, 0, 0, [], [], []),
  (10, 3, 8, 0, 0, 399, [([8], [(1, [0]), (1, [1])]), ([4], [(1, [0]), (1, [4]), (1, [6]), (1, [2])])], [], []),
  (0, 30, 0, 0, 0, 0, [([13], [(1, [0]), (1, [2])]), ([], [(1, [0]), (1, [1])]), ([], [(1, [0]), (1, [10])]), ([], [(1, [0]), (1, [11])]), ([8], [(1, [0]), (1, [7]), (1, [4]), (1, [2])])], [], []),
  (0, 31, 0, 0, 0, 0, [], [], [])]
set_option maxRecDepth 100000 in
theorem sz_s885_1 : sy_seg sz_E sz_T sz_RU [sz_c850] sz_c885 sz_u885 ri_m_X4_takes 192 (some ((16, [(0, (3, .inr 1, .inl 0)), (1, (3, .inr 1000021, .inl 0)), (2, (0, .inr 1, .inl 0)), (3, (0, .inr 2, .inl 0))], ([(0, 400), (0, 2), (2, 402), (0, 400)], [[(1, [3]), ((-1), [1]), (2, [])], [(1, [1]), ((-1), [3]), ((-2), [])], [(400, []), ((-1), [3]), ((-1), [2])]]), [((1, 4), (0, .inr 3, .inl 0))], [], [(8, []), ((-1), [2])]))) sz_h885_1 = true := by decide +kernel
theorem sz_ok885 (xs : Nat → Value) (L : Nat) : sy_Cok (sz_env xs L) sz_T sz_RU sz_c885 := sy_chk_ok (CT := [sz_c850]) (CU := sz_u885) (M := ri_m_X4_takes) (List.forall_mem_cons.mpr ⟨sz_ok850 xs L, fun _ h => absurd h List.not_mem_nil⟩) rfl rfl ⟨_, _, sz_s885_0⟩ (List.forall_mem_cons.mpr ⟨⟨_, _, sz_s885_1⟩, fun _ h => absurd h List.not_mem_nil⟩)

/-! X4_need [1, 1000021] -/
set_option maxRecDepth 100000 in
noncomputable def sz_c886 : sy_Ct := (291, 5, 108, [(3, .inr 1, .inl 0), (3, .inr 1000021, .inl 0)], ([(0, 400)], []), [((1, 4), (0, .inr 0, .inl 0))], [], [(1, 4, 6)], [(.inl none, 0, 0, ([(0, 400), (0, 400)], []), [((1, 4), (0, .inr 1, .inl 0))], [])])
set_option maxRecDepth 100000 in
noncomputable def sz_u886 : List sy_Cut := []
set_option maxRecDepth 100000 in
noncomputable def sz_h886_0 : List sy_Hn := [(3, 20, 0, 0, 0, 0, [], [], []),
  (0, 31, 0, 0, 0, 0, [], [], []),
  (0, 31, 0, 0, 0, 0, [], [], []),
  (0, 31, 0, 0, 0, 0, [], [], [])]
set_option maxRecDepth 100000 in
theorem sz_s886_0 : sy_seg sz_E sz_T sz_RU [sz_c885] sz_c886 sz_u886 ri_m_X4_need 29 none sz_h886_0 = true := by decide +kernel
theorem sz_ok886 (xs : Nat → Value) (L : Nat) : sy_Cok (sz_env xs L) sz_T sz_RU sz_c886 := sy_chk_ok (CT := [sz_c885]) (CU := sz_u886) (M := ri_m_X4_need) (List.forall_mem_cons.mpr ⟨sz_ok885 xs L, fun _ h => absurd h List.not_mem_nil⟩) rfl rfl ⟨_, _, sz_s886_0⟩ (fun _ h => absurd h List.not_mem_nil)

/-! X4_numberBehind [1, 1000021, 9999] -/
set_option maxRecDepth 100000 in
noncomputable def sz_c887 : sy_Ct := (290, 6, 129, [(3, .inr 1, .inl 0), (3, .inr 1000021, .inl 0), (0, .inl 9999, .inl 0)], ([(0, 400)], []), [((1, 4), (0, .inr 0, .inl 0))], [], [(1, 4, 6)], [(.inl (some (0, .inr 1, .inl 0)), 0, 0, ([(0, 400), (0, 9999), (0, 400)], []), [((1, 4), (0, .inr 2, .inl 0))], [])])
set_option maxRecDepth 100000 in
noncomputable def sz_u887 : List sy_Cut := []
set_option maxRecDepth 100000 in
noncomputable def sz_h887_0 : List sy_Hn := [(3, 20, 1, 0, 0, 0, [], [], []),
  (4, 20, 0, 0, 0, 0, [], [], []),
  (0, 31, 0, 0, 0, 0, [], [], [])]
set_option maxRecDepth 100000 in
theorem sz_s887_0 : sy_seg sz_E sz_T sz_RU [sz_c883, sz_c886] sz_c887 sz_u887 ri_m_X4_numberBehind 16 none sz_h887_0 = true := by decide +kernel
theorem sz_ok887 (xs : Nat → Value) (L : Nat) : sy_Cok (sz_env xs L) sz_T sz_RU sz_c887 := sy_chk_ok (CT := [sz_c883, sz_c886]) (CU := sz_u887) (M := ri_m_X4_numberBehind) (List.forall_mem_cons.mpr ⟨sz_ok883 xs L, List.forall_mem_cons.mpr ⟨sz_ok886 xs L, fun _ h => absurd h List.not_mem_nil⟩⟩) rfl rfl ⟨_, _, sz_s887_0⟩ (fun _ h => absurd h List.not_mem_nil)

/-! X4_takes [1, 1000022] -/
set_option maxRecDepth 100000 in
noncomputable def sz_c888 : sy_Ct := (256, 4, 85, [(3, .inr 1, .inl 0), (3, .inr 1000022, .inl 0)], ([(0, 400)], []), [((1, 4), (0, .inr 0, .inl 0))], [], [(1, 4, 5)], [(.inl (some (0, .inr 1, .inl 0)), 0, 0, ([(0, 400), (0, 1), (0, 400)], []), [((1, 4), (0, .inr 2, .inl 0))], [])])
set_option maxRecDepth 100000 in
noncomputable def sz_u888 : List sy_Cut := [(16, [(0, (3, .inr 1, .inl 0)), (1, (3, .inr 1000022, .inl 0)), (2, (0, .inr 1, .inl 0)), (3, (0, .inr 2, .inl 0))], ([(0, 400), (0, 2), (2, 402), (0, 400)], [[(1, [3]), ((-1), [1]), (2, [])], [(1, [1]), ((-1), [3]), ((-2), [])], [(400, []), ((-1), [3]), ((-1), [2])]]), [((1, 4), (0, .inr 3, .inl 0))], [], [(8, []), ((-1), [2])])]
set_option maxRecDepth 100000 in
noncomputable def sz_h888_0 : List sy_Hn := [(6, 20, 0, 0, 0, 0, [], [], []),
  (0, 30, 0, 0, 0, 0, [([], [(1, [0])]), ([], []), ([], [(1, [0]), (1, [2])]), ([], [(1, [0]), (1, [1])]), ([2], [(1, [0]), (1, [2])])], [], []),
  (0, 31, 0, 0, 0, 0, [], [], [])]
set_option maxRecDepth 100000 in
theorem sz_s888_0 : sy_seg sz_E sz_T sz_RU [sz_c850] sz_c888 sz_u888 ri_m_X4_takes 38 none sz_h888_0 = true := by decide +kernel
set_option maxRecDepth 100000 in
noncomputable def sz_h888_1 : List sy_Hn := [(32, 3, 1, 0, 2, 401, [([1], [(1, [0]), (1, [1])]), ([2], [(1, [0]), (1, [4]), (1, [6]), (1, [1])])], [], []),
  (1, 3, 1, 0, 2, 400, [([1], [(1, [0]), (1, [1])]), ([2], [(1, [0]), (1, [4]), (1, [6]), (1, [1])])], [], []),
  (0, 31, 0, 0, 0, 0, [], [], []),
  (0, 31, 0, 0, 0, 0, [], [], []),
  (0, 31, 0, 0, 0, 0, [], [], []),
  (0, 31, 0, 0, 0, 0, [], [], []),
  (0, 31, 0, 0, 0, 0, [], [], []),
  (0, 31, 0, 0, 0, 0, [], [], []),
  (0, 31, 0, 0, 0, 0, [], [], []),
  (10, 3, 8, 0, 0, 399, [([8], [(1, [0]), (1, [1])]), ([4], [(1, [0]), (1, [4]), (1, [6]), (1, [2])])], [], []),
  (0, 30, 0, 0, 0, 0, [([13], [(1, [0]), (1, [2])]), ([], [(1, [0]), (1, [1])]), ([], [(1, [0]), (1, [10])]), ([], [(1, [0]), (1, [11])]), ([8], [(1, [0]), (1, [7]), (1, [4]), (1, [2])])], [], []),
  (0, 31, 0, 0, 0, 0, [], [], [])]
set_option maxRecDepth 100000 in
theorem sz_s888_1 : sy_seg sz_E sz_T sz_RU [sz_c850] sz_c888 sz_u888 ri_m_X4_takes 192 (some ((16, [(0, (3, .inr 1, .inl 0)), (1, (3, .inr 1000022, .inl 0)), (2, (0, .inr 1, .inl 0)), (3, (0, .inr 2, .inl 0))], ([(0, 400), (0, 2), (2, 402), (0, 400)], [[(1, [3]), ((-1), [1]), (2, [])], [(1, [1]), ((-1), [3]), ((-2), [])], [(400, []), ((-1), [3]), ((-1), [2])]]), [((1, 4), (0, .inr 3, .inl 0))], [], [(8, []), ((-1), [2])]))) sz_h888_1 = true := by decide +kernel
theorem sz_ok888 (xs : Nat → Value) (L : Nat) : sy_Cok (sz_env xs L) sz_T sz_RU sz_c888 := sy_chk_ok (CT := [sz_c850]) (CU := sz_u888) (M := ri_m_X4_takes) (List.forall_mem_cons.mpr ⟨sz_ok850 xs L, fun _ h => absurd h List.not_mem_nil⟩) rfl rfl ⟨_, _, sz_s888_0⟩ (List.forall_mem_cons.mpr ⟨⟨_, _, sz_s888_1⟩, fun _ h => absurd h List.not_mem_nil⟩)

/-! X4_need [1, 1000022] -/
set_option maxRecDepth 100000 in
noncomputable def sz_c889 : sy_Ct := (291, 5, 108, [(3, .inr 1, .inl 0), (3, .inr 1000022, .inl 0)], ([(0, 400)], []), [((1, 4), (0, .inr 0, .inl 0))], [], [(1, 4, 6)], [(.inl none, 0, 0, ([(0, 400), (0, 400)], []), [((1, 4), (0, .inr 1, .inl 0))], [])])
set_option maxRecDepth 100000 in
noncomputable def sz_u889 : List sy_Cut := []
set_option maxRecDepth 100000 in
noncomputable def sz_h889_0 : List sy_Hn := [(3, 20, 0, 0, 0, 0, [], [], []),
  (0, 31, 0, 0, 0, 0, [], [], []),
  (0, 31, 0, 0, 0, 0, [], [], []),
  (0, 31, 0, 0, 0, 0, [], [], [])]
set_option maxRecDepth 100000 in
theorem sz_s889_0 : sy_seg sz_E sz_T sz_RU [sz_c888] sz_c889 sz_u889 ri_m_X4_need 29 none sz_h889_0 = true := by decide +kernel
theorem sz_ok889 (xs : Nat → Value) (L : Nat) : sy_Cok (sz_env xs L) sz_T sz_RU sz_c889 := sy_chk_ok (CT := [sz_c888]) (CU := sz_u889) (M := ri_m_X4_need) (List.forall_mem_cons.mpr ⟨sz_ok888 xs L, fun _ h => absurd h List.not_mem_nil⟩) rfl rfl ⟨_, _, sz_s889_0⟩ (fun _ h => absurd h List.not_mem_nil)

/-! X4_numberBehind [1, 1000022, 9999] -/
set_option maxRecDepth 100000 in
noncomputable def sz_c890 : sy_Ct := (290, 6, 129, [(3, .inr 1, .inl 0), (3, .inr 1000022, .inl 0), (0, .inl 9999, .inl 0)], ([(0, 400)], []), [((1, 4), (0, .inr 0, .inl 0))], [], [(1, 4, 6)], [(.inl (some (0, .inr 1, .inl 0)), 0, 0, ([(0, 400), (0, 9999), (0, 400)], []), [((1, 4), (0, .inr 2, .inl 0))], [])])
set_option maxRecDepth 100000 in
noncomputable def sz_u890 : List sy_Cut := []
set_option maxRecDepth 100000 in
noncomputable def sz_h890_0 : List sy_Hn := [(3, 20, 1, 0, 0, 0, [], [], []),
  (4, 20, 0, 0, 0, 0, [], [], []),
  (0, 31, 0, 0, 0, 0, [], [], [])]
set_option maxRecDepth 100000 in
theorem sz_s890_0 : sy_seg sz_E sz_T sz_RU [sz_c883, sz_c889] sz_c890 sz_u890 ri_m_X4_numberBehind 16 none sz_h890_0 = true := by decide +kernel
theorem sz_ok890 (xs : Nat → Value) (L : Nat) : sy_Cok (sz_env xs L) sz_T sz_RU sz_c890 := sy_chk_ok (CT := [sz_c883, sz_c889]) (CU := sz_u890) (M := ri_m_X4_numberBehind) (List.forall_mem_cons.mpr ⟨sz_ok883 xs L, List.forall_mem_cons.mpr ⟨sz_ok889 xs L, fun _ h => absurd h List.not_mem_nil⟩⟩) rfl rfl ⟨_, _, sz_s890_0⟩ (fun _ h => absurd h List.not_mem_nil)

/-! X4_signed [1, 0, 9999] -/
set_option maxRecDepth 100000 in
noncomputable def sz_c891 : sy_Ct := (292, 2, 44, [(3, .inr 1, .inl 0), (0, .inr 0, .inl 0), (0, .inl 9999, .inl 0)], ([(0, 400), ((-2147483648), 2147483647)], []), [((1, 4), (0, .inr 1, .inl 0))], [], [(1, 4, 6)], [(.inl (some (0, .inr 2, .inl 0)), 0, 0, ([(0, 400), ((-2147483648), 9999), (0, 400), ((-2147483648), 2147483647)], []), [((1, 4), (0, .inr 3, .inl 0))], [])])
set_option maxRecDepth 100000 in
noncomputable def sz_u891 : List sy_Cut := []
set_option maxRecDepth 100000 in
noncomputable def sz_h891_0 : List sy_Hn := [(6, 20, 0, 0, 0, 0, [], [], []),
  (12, 20, 1, 0, 0, 0, [], [], []),
  (0, 31, 0, 0, 0, 0, [], [], []),
  (0, 31, 0, 0, 0, 0, [], [], []),
  (0, 31, 0, 0, 0, 0, [], [], []),
  (0, 31, 0, 0, 0, 0, [], [], []),
  (0, 31, 0, 0, 0, 0, [], [], []),
  (0, 31, 0, 0, 0, 0, [], [], []),
  (10, 20, 1, 0, 0, 0, [], [], []),
  (0, 31, 0, 0, 0, 0, [], [], []),
  (0, 31, 0, 0, 0, 0, [], [], []),
  (0, 31, 0, 0, 0, 0, [], [], []),
  (0, 31, 0, 0, 0, 0, [], [], []),
  (0, 31, 0, 0, 0, 0, [], [], []),
  (0, 31, 0, 0, 0, 0, [], [], []),
  (9, 20, 1, 0, 0, 0, [], [], []),
  (0, 31, 0, 0, 0, 0, [], [], []),
  (0, 31, 0, 0, 0, 0, [], [], []),
  (0, 31, 0, 0, 0, 0, [], [], []),
  (0, 31, 0, 0, 0, 0, [], [], []),
  (0, 31, 0, 0, 0, 0, [], [], []),
  (0, 31, 0, 0, 0, 0, [], [], []),
  (0, 31, 0, 0, 0, 0, [], [], [])]
set_option maxRecDepth 100000 in
theorem sz_s891_0 : sy_seg sz_E sz_T sz_RU [sz_c850, sz_c856] sz_c891 sz_u891 ri_m_X4_signed 290 none sz_h891_0 = true := by decide +kernel
theorem sz_ok891 (xs : Nat → Value) (L : Nat) : sy_Cok (sz_env xs L) sz_T sz_RU sz_c891 := sy_chk_ok (CT := [sz_c850, sz_c856]) (CU := sz_u891) (M := ri_m_X4_signed) (List.forall_mem_cons.mpr ⟨sz_ok850 xs L, List.forall_mem_cons.mpr ⟨sz_ok856 xs L, fun _ h => absurd h List.not_mem_nil⟩⟩) rfl rfl ⟨_, _, sz_s891_0⟩ (fun _ h => absurd h List.not_mem_nil)

/-! X4_readGains [1] -/
set_option maxRecDepth 100000 in
noncomputable def sz_c892 : sy_Ct := (259, 7, 151, [(3, .inr 1, .inl 0)], ([(0, 400)], []), [((1, 4), (0, .inr 0, .inl 0))], [], [(1, 4, 6), (15, 5, 5), (16, 0, 2), (17, 0, 2), (18, 0, 2), (19, 0, 2), (27, 5, 5), (28, 0, 2), (29, 0, 2), (30, 0, 2), (31, 0, 2), (39, 5, 5), (40, 0, 2), (41, 0, 2), (42, 0, 2), (43, 0, 2), (51, 5, 5), (52, 0, 2), (53, 0, 2), (54, 0, 2), (55, 0, 2)], [(.inl none, 0, 0, ([(0, 400), (0, 400)], []), [((1, 4), (0, .inr 1, .inl 0))], [])])
set_option maxRecDepth 100000 in
noncomputable def sz_u892 : List sy_Cut := []
set_option maxRecDepth 100000 in
noncomputable def sz_h892_0 : List sy_Hn := [(5, 20, 0, 0, 0, 0, [], [], []),
  (8, 20, 1, 0, 0, 0, [], [], []),
  (5, 20, 2, 0, 0, 0, [], [], []),
  (5, 20, 3, 0, 0, 0, [], [], []),
  (5, 20, 4, 0, 0, 0, [], [], []),
  (0, 31, 0, 0, 0, 0, [], [], []),
  (18, 5, 489, 0, 0, 0, [], [], []),
  (0, 7, 0, 0, 0, 0, [([3], [(1, [2]), (1, [0])])], [], []),
  (0, 3, 7, 0, 0, 1, [([], [(1, [0]), (1, [2]), (1, [1])]), ([7], [(1, [0]), (1, [2])])], [], []),
  (5, 20, 5, 0, 0, 0, [], [], []),
  (11, 6, 489, 0, 0, 0, [([12], [(1, [0]), (1, [1])])], [], [1]),
  (1, 20, 2, 0, 0, 0, [], [], []),
  (5, 20, 3, 0, 0, 0, [], [], []),
  (5, 20, 4, 0, 0, 0, [], [], []),
  (0, 31, 0, 0, 0, 0, [], [], []),
  (0, 31, 0, 0, 0, 0, [], [], []),
  (0, 31, 0, 0, 0, 0, [], [], []),
  (8, 20, 1, 0, 0, 0, [], [], []),
  (5, 20, 2, 0, 0, 0, [], [], []),
  (5, 20, 3, 0, 0, 0, [], [], []),
  (5, 20, 4, 0, 0, 0, [], [], []),
  (0, 31, 0, 0, 0, 0, [], [], []),
  (18, 5, 490, 0, 0, 0, [], [], []),
  (0, 7, 0, 0, 0, 0, [([3], [(1, [2]), (1, [0])])], [], []),
  (0, 3, 7, 0, 0, 1, [([], [(1, [0]), (1, [2]), (1, [1])]), ([7], [(1, [0]), (1, [2])])], [], []),
  (5, 20, 5, 0, 0, 0, [], [], []),
  (11, 6, 490, 0, 0, 0, [([12], [(1, [0]), (1, [1])])], [], [1]),
  (1, 20, 2, 0, 0, 0, [], [], []),
  (5, 20, 3, 0, 0, 0, [], [], []),
  (5, 20, 4, 0, 0, 0, [], [], []),
  (0, 31, 0, 0, 0, 0, [], [], []),
  (0, 31, 0, 0, 0, 0, [], [], []),
  (0, 31, 0, 0, 0, 0, [], [], []),
  (8, 20, 1, 0, 0, 0, [], [], []),
  (5, 20, 2, 0, 0, 0, [], [], []),
  (5, 20, 3, 0, 0, 0, [], [], []),
  (5, 20, 4, 0, 0, 0, [], [], []),
  (0, 31, 0, 0, 0, 0, [], [], []),
  (18, 5, 491, 0, 0, 0, [], [], []),
  (0, 7, 0, 0, 0, 0, [([3], [(1, [2]), (1, [0])])], [], []),
  (0, 3, 7, 0, 0, 1, [([], [(1, [0]), (1, [2]), (1, [1])]), ([7], [(1, [0]), (1, [2])])], [], []),
  (5, 20, 5, 0, 0, 0, [], [], []),
  (11, 6, 491, 0, 0, 0, [([12], [(1, [0]), (1, [1])])], [], [1]),
  (1, 20, 2, 0, 0, 0, [], [], []),
  (5, 20, 3, 0, 0, 0, [], [], []),
  (5, 20, 4, 0, 0, 0, [], [], []),
  (0, 31, 0, 0, 0, 0, [], [], []),
  (0, 31, 0, 0, 0, 0, [], [], []),
  (0, 31, 0, 0, 0, 0, [], [], []),
  (8, 20, 1, 0, 0, 0, [], [], []),
  (5, 20, 2, 0, 0, 0, [], [], []),
  (5, 20, 3, 0, 0, 0, [], [], []),
  (5, 20, 4, 0, 0, 0, [], [], []),
  (0, 31, 0, 0, 0, 0, [], [], []),
  (18, 5, 492, 0, 0, 0, [], [], []),
  (0, 7, 0, 0, 0, 0, [([], [(1, [0])])], [], []),
  (0, 3, 6, 0, 0, 1, [([], [(1, [0]), (1, [2]), (1, [1])]), ([6], [(1, [0]), (1, [2])])], [], []),
  (5, 20, 5, 0, 0, 0, [], [], []),
  (11, 6, 492, 0, 0, 0, [([11], [(1, [0]), (1, [1])])], [], [1]),
  (1, 20, 2, 0, 0, 0, [], [], []),
  (5, 20, 3, 0, 0, 0, [], [], []),
  (5, 20, 4, 0, 0, 0, [], [], []),
  (0, 31, 0, 0, 0, 0, [], [], []),
  (0, 31, 0, 0, 0, 0, [], [], []),
  (0, 31, 0, 0, 0, 0, [], [], []),
  (0, 31, 0, 0, 0, 0, [], [], [])]
set_option maxRecDepth 100000 in
theorem sz_s892_0 : sy_seg sz_E sz_T sz_RU [sz_c877, sz_c880, sz_c884, sz_c887, sz_c890, sz_c891] sz_c892 sz_u892 ri_m_X4_readGains 616 none sz_h892_0 = true := by decide +kernel
theorem sz_ok892 (xs : Nat → Value) (L : Nat) : sy_Cok (sz_env xs L) sz_T sz_RU sz_c892 := sy_chk_ok (CT := [sz_c877, sz_c880, sz_c884, sz_c887, sz_c890, sz_c891]) (CU := sz_u892) (M := ri_m_X4_readGains) (List.forall_mem_cons.mpr ⟨sz_ok877 xs L, List.forall_mem_cons.mpr ⟨sz_ok880 xs L, List.forall_mem_cons.mpr ⟨sz_ok884 xs L, List.forall_mem_cons.mpr ⟨sz_ok887 xs L, List.forall_mem_cons.mpr ⟨sz_ok890 xs L, List.forall_mem_cons.mpr ⟨sz_ok891 xs L, fun _ h => absurd h List.not_mem_nil⟩⟩⟩⟩⟩⟩) rfl rfl ⟨_, _, sz_s892_0⟩ (fun _ h => absurd h List.not_mem_nil)

/-! X4_takes [1, 1000012] -/
set_option maxRecDepth 100000 in
noncomputable def sz_c893 : sy_Ct := (256, 4, 85, [(3, .inr 1, .inl 0), (3, .inr 1000012, .inl 0)], ([(0, 400)], []), [((1, 4), (0, .inr 0, .inl 0))], [], [(1, 4, 5)], [(.inl (some (0, .inr 1, .inl 0)), 0, 0, ([(0, 400), (0, 1), (0, 400)], []), [((1, 4), (0, .inr 2, .inl 0))], [])])
set_option maxRecDepth 100000 in
noncomputable def sz_u893 : List sy_Cut := [(16, [(0, (3, .inr 1, .inl 0)), (1, (3, .inr 1000012, .inl 0)), (2, (0, .inr 1, .inl 0)), (3, (0, .inr 2, .inl 0))], ([(0, 400), (0, 1), (1, 401), (0, 400)], [[(1, [3]), ((-1), [1]), (1, [])], [(1, [1]), ((-1), [3]), ((-1), [])], [(400, []), ((-1), [3]), ((-1), [2])]]), [((1, 4), (0, .inr 3, .inl 0))], [], [(8, []), ((-1), [2])])]
set_option maxRecDepth 100000 in
noncomputable def sz_h893_0 : List sy_Hn := [(6, 20, 0, 0, 0, 0, [], [], []),
  (0, 30, 0, 0, 0, 0, [([], [(1, [0])]), ([], []), ([], [(1, [0]), (1, [2])]), ([], [(1, [0]), (1, [1])]), ([2], [(1, [0]), (1, [2])])], [], []),
  (0, 31, 0, 0, 0, 0, [], [], [])]
set_option maxRecDepth 100000 in
theorem sz_s893_0 : sy_seg sz_E sz_T sz_RU [sz_c850] sz_c893 sz_u893 ri_m_X4_takes 38 none sz_h893_0 = true := by decide +kernel
set_option maxRecDepth 100000 in
noncomputable def sz_h893_1 : List sy_Hn := [(33, 3, 1, 0, 1, 400, [([1], [(1, [0]), (1, [1])]), ([2], [(1, [0]), (1, [4]), (1, [6]), (1, [1])])], [], []),
  (0, 31, 0, 0, 0, 0, [], [], []),
  (0, 31, 0, 0, 0, 0, [], [], []),
  (0, 31, 0, 0, 0, 0, [], [], []),
  (0, 31, 0, 0, 0, 0, [], [], []),
  (0, 31, 0, 0, 0, 0, [], [], []),
  (0, 31, 0, 0, 0, 0, [], [], []),
  (0, 31, 0, 0, 0, 0, [], [], []),
  (10, 3, 8, 0, 0, 399, [([8], [(1, [0]), (1, [1])]), ([4], [(1, [0]), (1, [4]), (1, [6]), (1, [2])])], [], []),
  (0, 30, 0, 0, 0, 0, [([], [(1, [0])]), ([2], [(1, [0]), (1, [2])]), ([], [(1, [0]), (1, [8])]), ([], [(1, [0]), (1, [9])]), ([2, 8], [(1, [0]), (1, [7]), (1, [1]), (1, [4])])], [], []),
  (0, 31, 0, 0, 0, 0, [], [], [])]
set_option maxRecDepth 100000 in
theorem sz_s893_1 : sy_seg sz_E sz_T sz_RU [sz_c850] sz_c893 sz_u893 ri_m_X4_takes 191 (some ((16, [(0, (3, .inr 1, .inl 0)), (1, (3, .inr 1000012, .inl 0)), (2, (0, .inr 1, .inl 0)), (3, (0, .inr 2, .inl 0))], ([(0, 400), (0, 1), (1, 401), (0, 400)], [[(1, [3]), ((-1), [1]), (1, [])], [(1, [1]), ((-1), [3]), ((-1), [])], [(400, []), ((-1), [3]), ((-1), [2])]]), [((1, 4), (0, .inr 3, .inl 0))], [], [(8, []), ((-1), [2])]))) sz_h893_1 = true := by decide +kernel
theorem sz_ok893 (xs : Nat → Value) (L : Nat) : sy_Cok (sz_env xs L) sz_T sz_RU sz_c893 := sy_chk_ok (CT := [sz_c850]) (CU := sz_u893) (M := ri_m_X4_takes) (List.forall_mem_cons.mpr ⟨sz_ok850 xs L, fun _ h => absurd h List.not_mem_nil⟩) rfl rfl ⟨_, _, sz_s893_0⟩ (List.forall_mem_cons.mpr ⟨⟨_, _, sz_s893_1⟩, fun _ h => absurd h List.not_mem_nil⟩)

/-! X4_takes [1, 1000013] -/
set_option maxRecDepth 100000 in
noncomputable def sz_c894 : sy_Ct := (256, 4, 85, [(3, .inr 1, .inl 0), (3, .inr 1000013, .inl 0)], ([(0, 400)], []), [((1, 4), (0, .inr 0, .inl 0))], [], [(1, 4, 5)], [(.inl (some (0, .inr 1, .inl 0)), 0, 0, ([(0, 400), (0, 1), (0, 400)], []), [((1, 4), (0, .inr 2, .inl 0))], [])])
set_option maxRecDepth 100000 in
noncomputable def sz_u894 : List sy_Cut := [(16, [(0, (3, .inr 1, .inl 0)), (1, (3, .inr 1000013, .inl 0)), (2, (0, .inr 1, .inl 0)), (3, (0, .inr 2, .inl 0))], ([(0, 400), (0, 1), (1, 401), (0, 400)], [[(1, [3]), ((-1), [1]), (1, [])], [(1, [1]), ((-1), [3]), ((-1), [])], [(400, []), ((-1), [3]), ((-1), [2])]]), [((1, 4), (0, .inr 3, .inl 0))], [], [(8, []), ((-1), [2])])]
set_option maxRecDepth 100000 in
noncomputable def sz_h894_0 : List sy_Hn := [(6, 20, 0, 0, 0, 0, [], [], []),
  (0, 30, 0, 0, 0, 0, [([], [(1, [0])]), ([], []), ([], [(1, [0]), (1, [2])]), ([], [(1, [0]), (1, [1])]), ([2], [(1, [0]), (1, [2])])], [], []),
  (0, 31, 0, 0, 0, 0, [], [], [])]
set_option maxRecDepth 100000 in
theorem sz_s894_0 : sy_seg sz_E sz_T sz_RU [sz_c850] sz_c894 sz_u894 ri_m_X4_takes 38 none sz_h894_0 = true := by decide +kernel
set_option maxRecDepth 100000 in
noncomputable def sz_h894_1 : List sy_Hn := [(33, 3, 1, 0, 1, 400, [([1], [(1, [0]), (1, [1])]), ([2], [(1, [0]), (1, [4]), (1, [6]), (1, [1])])], [], []),
  (0, 31, 0, 0, 0, 0, [], [], []),
  (0, 31, 0, 0, 0, 0, [], [], []),
  (0, 31, 0, 0, 0, 0, [], [], []),
  (0, 31, 0, 0, 0, 0, [], [], []),
  (0, 31, 0, 0, 0, 0, [], [], []),
  (0, 31, 0, 0, 0, 0, [], [], []),
  (0, 31, 0, 0, 0, 0, [], [], []),
  (10, 3, 8, 0, 0, 399, [([8], [(1, [0]), (1, [1])]), ([4], [(1, [0]), (1, [4]), (1, [6]), (1, [2])])], [], []),
  (0, 30, 0, 0, 0, 0, [([], [(1, [0])]), ([2], [(1, [0]), (1, [2])]), ([], [(1, [0]), (1, [8])]), ([], [(1, [0]), (1, [9])]), ([2, 8], [(1, [0]), (1, [7]), (1, [1]), (1, [4])])], [], []),
  (0, 31, 0, 0, 0, 0, [], [], [])]
set_option maxRecDepth 100000 in
theorem sz_s894_1 : sy_seg sz_E sz_T sz_RU [sz_c850] sz_c894 sz_u894 ri_m_X4_takes 191 (some ((16, [(0, (3, .inr 1, .inl 0)), (1, (3, .inr 1000013, .inl 0)), (2, (0, .inr 1, .inl 0)), (3, (0, .inr 2, .inl 0))], ([(0, 400), (0, 1), (1, 401), (0, 400)], [[(1, [3]), ((-1), [1]), (1, [])], [(1, [1]), ((-1), [3]), ((-1), [])], [(400, []), ((-1), [3]), ((-1), [2])]]), [((1, 4), (0, .inr 3, .inl 0))], [], [(8, []), ((-1), [2])]))) sz_h894_1 = true := by decide +kernel
theorem sz_ok894 (xs : Nat → Value) (L : Nat) : sy_Cok (sz_env xs L) sz_T sz_RU sz_c894 := sy_chk_ok (CT := [sz_c850]) (CU := sz_u894) (M := ri_m_X4_takes) (List.forall_mem_cons.mpr ⟨sz_ok850 xs L, fun _ h => absurd h List.not_mem_nil⟩) rfl rfl ⟨_, _, sz_s894_0⟩ (List.forall_mem_cons.mpr ⟨⟨_, _, sz_s894_1⟩, fun _ h => absurd h List.not_mem_nil⟩)

/-! X4_takes [1, 1000014] -/
set_option maxRecDepth 100000 in
noncomputable def sz_c895 : sy_Ct := (256, 4, 85, [(3, .inr 1, .inl 0), (3, .inr 1000014, .inl 0)], ([(0, 400)], []), [((1, 4), (0, .inr 0, .inl 0))], [], [(1, 4, 5)], [(.inl (some (0, .inr 1, .inl 0)), 0, 0, ([(0, 400), (0, 1), (0, 400)], []), [((1, 4), (0, .inr 2, .inl 0))], [])])
set_option maxRecDepth 100000 in
noncomputable def sz_u895 : List sy_Cut := [(16, [(0, (3, .inr 1, .inl 0)), (1, (3, .inr 1000014, .inl 0)), (2, (0, .inr 1, .inl 0)), (3, (0, .inr 2, .inl 0))], ([(0, 400), (0, 7), (6, 406), (0, 400)], [[(1, [3]), ((-1), [1]), (6, [])], [(1, [1]), ((-1), [3]), ((-6), [])], [(400, []), ((-1), [3]), ((-1), [2])]]), [((1, 4), (0, .inr 3, .inl 0))], [], [(8, []), ((-1), [2])])]
set_option maxRecDepth 100000 in
noncomputable def sz_h895_0 : List sy_Hn := [(6, 20, 0, 0, 0, 0, [], [], []),
  (0, 30, 0, 0, 0, 0, [([], [(1, [0])]), ([], []), ([], [(1, [0]), (1, [2])]), ([], [(1, [0]), (1, [1])]), ([2], [(1, [0]), (1, [2])])], [], []),
  (0, 31, 0, 0, 0, 0, [], [], [])]
set_option maxRecDepth 100000 in
theorem sz_s895_0 : sy_seg sz_E sz_T sz_RU [sz_c850] sz_c895 sz_u895 ri_m_X4_takes 38 none sz_h895_0 = true := by decide +kernel
set_option maxRecDepth 100000 in
noncomputable def sz_h895_1 : List sy_Hn := [(32, 3, 1, 0, 6, 401, [([1], [(1, [0]), (1, [1])]), ([2], [(1, [0]), (1, [4]), (1, [6]), (1, [1])])], [], []),
  (1, 3, 1, 0, 6, 400, [([1], [(1, [0]), (1, [1])]), ([2], [(1, [0]), (1, [4]), (1, [6]), (1, [1])])], [], []),
  (0, 31, 0, 0, 0, 0, [], [], []),
  (0, 31, 0, 0, 0, 0, [], [], []),
  (0, 31, 0, 0, 0, 0, [], [], []),
  (0, 31, 0, 0, 0, 0, [], [], []),
  (0, 31, 0, 0, 0, 0, [], [], []),
  (0, 31, 0, 0, 0, 0, [], [], []),
  (0, 31, 0, 0, 0, 0, [], [], []),
  (10, 3, 8, 0, 0, 399, [([8], [(1, [0]), (1, [1])]), ([4], [(1, [0]), (1, [4]), (1, [6]), (1, [2])])], [], []),
  (0, 30, 0, 0, 0, 0, [([13], [(1, [0]), (1, [2])]), ([], [(1, [0]), (1, [1])]), ([], [(1, [0]), (1, [10])]), ([], [(1, [0]), (1, [11])]), ([8], [(1, [0]), (1, [7]), (1, [4]), (1, [2])])], [], []),
  (0, 31, 0, 0, 0, 0, [], [], [])]
set_option maxRecDepth 100000 in
theorem sz_s895_1 : sy_seg sz_E sz_T sz_RU [sz_c850] sz_c895 sz_u895 ri_m_X4_takes 192 (some ((16, [(0, (3, .inr 1, .inl 0)), (1, (3, .inr 1000014, .inl 0)), (2, (0, .inr 1, .inl 0)), (3, (0, .inr 2, .inl 0))], ([(0, 400), (0, 7), (6, 406), (0, 400)], [[(1, [3]), ((-1), [1]), (6, [])], [(1, [1]), ((-1), [3]), ((-6), [])], [(400, []), ((-1), [3]), ((-1), [2])]]), [((1, 4), (0, .inr 3, .inl 0))], [], [(8, []), ((-1), [2])]))) sz_h895_1 = true := by decide +kernel
theorem sz_ok895 (xs : Nat → Value) (L : Nat) : sy_Cok (sz_env xs L) sz_T sz_RU sz_c895 := sy_chk_ok (CT := [sz_c850]) (CU := sz_u895) (M := ri_m_X4_takes) (List.forall_mem_cons.mpr ⟨sz_ok850 xs L, fun _ h => absurd h List.not_mem_nil⟩) rfl rfl ⟨_, _, sz_s895_0⟩ (List.forall_mem_cons.mpr ⟨⟨_, _, sz_s895_1⟩, fun _ h => absurd h List.not_mem_nil⟩)

/-! X4_takes [1, 1000015] -/
set_option maxRecDepth 100000 in
noncomputable def sz_c896 : sy_Ct := (256, 4, 85, [(3, .inr 1, .inl 0), (3, .inr 1000015, .inl 0)], ([(0, 400)], []), [((1, 4), (0, .inr 0, .inl 0))], [], [(1, 4, 5)], [(.inl (some (0, .inr 1, .inl 0)), 0, 0, ([(0, 400), (0, 1), (0, 400)], []), [((1, 4), (0, .inr 2, .inl 0))], [])])
set_option maxRecDepth 100000 in
noncomputable def sz_u896 : List sy_Cut := [(16, [(0, (3, .inr 1, .inl 0)), (1, (3, .inr 1000015, .inl 0)), (2, (0, .inr 1, .inl 0)), (3, (0, .inr 2, .inl 0))], ([(0, 400), (0, 4), (4, 404), (0, 400)], [[(1, [3]), ((-1), [1]), (4, [])], [(1, [1]), ((-1), [3]), ((-4), [])], [(400, []), ((-1), [3]), ((-1), [2])]]), [((1, 4), (0, .inr 3, .inl 0))], [], [(8, []), ((-1), [2])])]
set_option maxRecDepth 100000 in
noncomputable def sz_h896_0 : List sy_Hn := [(6, 20, 0, 0, 0, 0, [], [], []),
  (0, 30, 0, 0, 0, 0, [([], [(1, [0])]), ([], []), ([], [(1, [0]), (1, [2])]), ([], [(1, [0]), (1, [1])]), ([2], [(1, [0]), (1, [2])])], [], []),
  (0, 31, 0, 0, 0, 0, [], [], [])]
set_option maxRecDepth 100000 in
theorem sz_s896_0 : sy_seg sz_E sz_T sz_RU [sz_c850] sz_c896 sz_u896 ri_m_X4_takes 38 none sz_h896_0 = true := by decide +kernel
set_option maxRecDepth 100000 in
noncomputable def sz_h896_1 : List sy_Hn := [(32, 3, 1, 0, 4, 401, [([1], [(1, [0]), (1, [1])]), ([2], [(1, [0]), (1, [4]), (1, [6]), (1, [1])])], [], []),
  (1, 3, 1, 0, 4, 400, [([1], [(1, [0]), (1, [1])]), ([2], [(1, [0]), (1, [4]), (1, [6]), (1, [1])])], [], []),
  (0, 31, 0, 0, 0, 0, [], [], []),
  (0, 31, 0, 0, 0, 0, [], [], []),
  (0, 31, 0, 0, 0, 0, [], [], []),
  (0, 31, 0, 0, 0, 0, [], [], []),
  (0, 31, 0, 0, 0, 0, [], [], []),
  (0, 31, 0, 0, 0, 0, [], [], []),
  (0, 31, 0, 0, 0, 0, [], [], []),
  (10, 3, 8, 0, 0, 399, [([8], [(1, [0]), (1, [1])]), ([4], [(1, [0]), (1, [4]), (1, [6]), (1, [2])])], [], []),
  (0, 30, 0, 0, 0, 0, [([13], [(1, [0]), (1, [2])]), ([], [(1, [0]), (1, [1])]), ([], [(1, [0]), (1, [10])]), ([], [(1, [0]), (1, [11])]), ([8], [(1, [0]), (1, [7]), (1, [4]), (1, [2])])], [], []),
  (0, 31, 0, 0, 0, 0, [], [], [])]
set_option maxRecDepth 100000 in
theorem sz_s896_1 : sy_seg sz_E sz_T sz_RU [sz_c850] sz_c896 sz_u896 ri_m_X4_takes 192 (some ((16, [(0, (3, .inr 1, .inl 0)), (1, (3, .inr 1000015, .inl 0)), (2, (0, .inr 1, .inl 0)), (3, (0, .inr 2, .inl 0))], ([(0, 400), (0, 4), (4, 404), (0, 400)], [[(1, [3]), ((-1), [1]), (4, [])], [(1, [1]), ((-1), [3]), ((-4), [])], [(400, []), ((-1), [3]), ((-1), [2])]]), [((1, 4), (0, .inr 3, .inl 0))], [], [(8, []), ((-1), [2])]))) sz_h896_1 = true := by decide +kernel
theorem sz_ok896 (xs : Nat → Value) (L : Nat) : sy_Cok (sz_env xs L) sz_T sz_RU sz_c896 := sy_chk_ok (CT := [sz_c850]) (CU := sz_u896) (M := ri_m_X4_takes) (List.forall_mem_cons.mpr ⟨sz_ok850 xs L, fun _ h => absurd h List.not_mem_nil⟩) rfl rfl ⟨_, _, sz_s896_0⟩ (List.forall_mem_cons.mpr ⟨⟨_, _, sz_s896_1⟩, fun _ h => absurd h List.not_mem_nil⟩)

/-! X4_takes [1, 1000016] -/
set_option maxRecDepth 100000 in
noncomputable def sz_c897 : sy_Ct := (256, 4, 85, [(3, .inr 1, .inl 0), (3, .inr 1000016, .inl 0)], ([(0, 400)], []), [((1, 4), (0, .inr 0, .inl 0))], [], [(1, 4, 5)], [(.inl (some (0, .inr 1, .inl 0)), 0, 0, ([(0, 400), (0, 1), (0, 400)], []), [((1, 4), (0, .inr 2, .inl 0))], [])])
set_option maxRecDepth 100000 in
noncomputable def sz_u897 : List sy_Cut := [(16, [(0, (3, .inr 1, .inl 0)), (1, (3, .inr 1000016, .inl 0)), (2, (0, .inr 1, .inl 0)), (3, (0, .inr 2, .inl 0))], ([(0, 400), (0, 5), (5, 405), (0, 400)], [[(1, [3]), ((-1), [1]), (5, [])], [(1, [1]), ((-1), [3]), ((-5), [])], [(400, []), ((-1), [3]), ((-1), [2])]]), [((1, 4), (0, .inr 3, .inl 0))], [], [(8, []), ((-1), [2])])]
set_option maxRecDepth 100000 in
noncomputable def sz_h897_0 : List sy_Hn := [(6, 20, 0, 0, 0, 0, [], [], []),
  (0, 30, 0, 0, 0, 0, [([], [(1, [0])]), ([], []), ([], [(1, [0]), (1, [2])]), ([], [(1, [0]), (1, [1])]), ([2], [(1, [0]), (1, [2])])], [], []),
  (0, 31, 0, 0, 0, 0, [], [], [])]
set_option maxRecDepth 100000 in
theorem sz_s897_0 : sy_seg sz_E sz_T sz_RU [sz_c850] sz_c897 sz_u897 ri_m_X4_takes 38 none sz_h897_0 = true := by decide +kernel
set_option maxRecDepth 100000 in
noncomputable def sz_h897_1 : List sy_Hn := [(32, 3, 1, 0, 5, 401, [([1], [(1, [0]), (1, [1])]), ([2], [(1, [0]), (1, [4]), (1, [6]), (1, [1])])], [], []),
  (1, 3, 1, 0, 5, 400, [([1], [(1, [0]), (1, [1])]), ([2], [(1, [0]), (1, [4]), (1, [6]), (1, [1])])], [], []),
  (0, 31, 0, 0, 0, 0, [], [], []),
  (0, 31, 0, 0, 0, 0, [], [], []),
  (0, 31, 0, 0, 0, 0, [], [], []),
  (0, 31, 0, 0, 0, 0, [], [], []),
  (0, 31, 0, 0, 0, 0, [], [], []),
  (0, 31, 0, 0, 0, 0, [], [], []),
  (0, 31, 0, 0, 0, 0, [], [], []),
  (10, 3, 8, 0, 0, 399, [([8], [(1, [0]), (1, [1])]), ([4], [(1, [0]), (1, [4]), (1, [6]), (1, [2])])], [], []),
  (0, 30, 0, 0, 0, 0, [([13], [(1, [0]), (1, [2])]), ([], [(1, [0]), (1, [1])]), ([], [(1, [0]), (1, [10])]), ([], [(1, [0]), (1, [11])]), ([8], [(1, [0]), (1, [7]), (1, [4]), (1, [2])])], [], []),
  (0, 31, 0, 0, 0, 0, [], [], [])]
set_option maxRecDepth 100000 in
theorem sz_s897_1 : sy_seg sz_E sz_T sz_RU [sz_c850] sz_c897 sz_u897 ri_m_X4_takes 192 (some ((16, [(0, (3, .inr 1, .inl 0)), (1, (3, .inr 1000016, .inl 0)), (2, (0, .inr 1, .inl 0)), (3, (0, .inr 2, .inl 0))], ([(0, 400), (0, 5), (5, 405), (0, 400)], [[(1, [3]), ((-1), [1]), (5, [])], [(1, [1]), ((-1), [3]), ((-5), [])], [(400, []), ((-1), [3]), ((-1), [2])]]), [((1, 4), (0, .inr 3, .inl 0))], [], [(8, []), ((-1), [2])]))) sz_h897_1 = true := by decide +kernel
theorem sz_ok897 (xs : Nat → Value) (L : Nat) : sy_Cok (sz_env xs L) sz_T sz_RU sz_c897 := sy_chk_ok (CT := [sz_c850]) (CU := sz_u897) (M := ri_m_X4_takes) (List.forall_mem_cons.mpr ⟨sz_ok850 xs L, fun _ h => absurd h List.not_mem_nil⟩) rfl rfl ⟨_, _, sz_s897_0⟩ (List.forall_mem_cons.mpr ⟨⟨_, _, sz_s897_1⟩, fun _ h => absurd h List.not_mem_nil⟩)

/-! X4_takes [1, 1000017] -/
set_option maxRecDepth 100000 in
noncomputable def sz_c898 : sy_Ct := (256, 4, 85, [(3, .inr 1, .inl 0), (3, .inr 1000017, .inl 0)], ([(0, 400)], []), [((1, 4), (0, .inr 0, .inl 0))], [], [(1, 4, 5)], [(.inl (some (0, .inr 1, .inl 0)), 0, 0, ([(0, 400), (0, 1), (0, 400)], []), [((1, 4), (0, .inr 2, .inl 0))], [])])
set_option maxRecDepth 100000 in
noncomputable def sz_u898 : List sy_Cut := [(16, [(0, (3, .inr 1, .inl 0)), (1, (3, .inr 1000017, .inl 0)), (2, (0, .inr 1, .inl 0)), (3, (0, .inr 2, .inl 0))], ([(0, 400), (0, 4), (4, 404), (0, 400)], [[(1, [3]), ((-1), [1]), (4, [])], [(1, [1]), ((-1), [3]), ((-4), [])], [(400, []), ((-1), [3]), ((-1), [2])]]), [((1, 4), (0, .inr 3, .inl 0))], [], [(8, []), ((-1), [2])])]
set_option maxRecDepth 100000 in
noncomputable def sz_h898_0 : List sy_Hn := [(6, 20, 0, 0, 0, 0, [], [], []),
  (0, 30, 0, 0, 0, 0, [([], [(1, [0])]), ([], []), ([], [(1, [0]), (1, [2])]), ([], [(1, [0]), (1, [1])]), ([2], [(1, [0]), (1, [2])])], [], []),
  (0, 31, 0, 0, 0, 0, [], [], [])]
set_option maxRecDepth 100000 in
theorem sz_s898_0 : sy_seg sz_E sz_T sz_RU [sz_c850] sz_c898 sz_u898 ri_m_X4_takes 38 none sz_h898_0 = true := by decide +kernel
set_option maxRecDepth 100000 in
noncomputable def sz_h898_1 : List sy_Hn := [(32, 3, 1, 0, 4, 401, [([1], [(1, [0]), (1, [1])]), ([2], [(1, [0]), (1, [4]), (1, [6]), (1, [1])])], [], []),
  (1, 3, 1, 0, 4, 400, [([1], [(1, [0]), (1, [1])]), ([2], [(1, [0]), (1, [4]), (1, [6]), (1, [1])])], [], []),
  (0, 31, 0, 0, 0, 0, [], [], []),
  (0, 31, 0, 0, 0, 0, [], [], []),
  (0, 31, 0, 0, 0, 0, [], [], []),
  (0, 31, 0, 0, 0, 0, [], [], []),
  (0, 31, 0, 0, 0, 0, [], [], []),
  (0, 31, 0, 0, 0, 0, [], [], []),
  (0, 31, 0, 0, 0, 0, [], [], []),
  (10, 3, 8, 0, 0, 399, [([8], [(1, [0]), (1, [1])]), ([4], [(1, [0]), (1, [4]), (1, [6]), (1, [2])])], [], []),
  (0, 30, 0, 0, 0, 0, [([13], [(1, [0]), (1, [2])]), ([], [(1, [0]), (1, [1])]), ([], [(1, [0]), (1, [10])]), ([], [(1, [0]), (1, [11])]), ([8], [(1, [0]), (1, [7]), (1, [4]), (1, [2])])], [], []),
  (0, 31, 0, 0, 0, 0, [], [], [])]
set_option maxRecDepth 100000 in
theorem sz_s898_1 : sy_seg sz_E sz_T sz_RU [sz_c850] sz_c898 sz_u898 ri_m_X4_takes 192 (some ((16, [(0, (3, .inr 1, .inl 0)), (1, (3, .inr 1000017, .inl 0)), (2, (0, .inr 1, .inl 0)), (3, (0, .inr 2, .inl 0))], ([(0, 400), (0, 4), (4, 404), (0, 400)], [[(1, [3]), ((-1), [1]), (4, [])], [(1, [1]), ((-1), [3]), ((-4), [])], [(400, []), ((-1), [3]), ((-1), [2])]]), [((1, 4), (0, .inr 3, .inl 0))], [], [(8, []), ((-1), [2])]))) sz_h898_1 = true := by decide +kernel
theorem sz_ok898 (xs : Nat → Value) (L : Nat) : sy_Cok (sz_env xs L) sz_T sz_RU sz_c898 := sy_chk_ok (CT := [sz_c850]) (CU := sz_u898) (M := ri_m_X4_takes) (List.forall_mem_cons.mpr ⟨sz_ok850 xs L, fun _ h => absurd h List.not_mem_nil⟩) rfl rfl ⟨_, _, sz_s898_0⟩ (List.forall_mem_cons.mpr ⟨⟨_, _, sz_s898_1⟩, fun _ h => absurd h List.not_mem_nil⟩)

/-! X4_number [1, 0, 99] -/
set_option maxRecDepth 100000 in
noncomputable def sz_c899 : sy_Ct := (294, 2, 44, [(3, .inr 1, .inl 0), (0, .inl 0, .inl 0), (0, .inl 99, .inl 0)], ([(0, 400)], []), [((1, 4), (0, .inr 0, .inl 0))], [], [(1, 4, 6)], [(.inl (some (0, .inr 1, .inl 0)), 0, 0, ([(0, 400), (0, 100), (0, 400)], []), [((1, 4), (0, .inr 2, .inl 0))], [])])
set_option maxRecDepth 100000 in
noncomputable def sz_u899 : List sy_Cut := []
set_option maxRecDepth 100000 in
noncomputable def sz_h899_0 : List sy_Hn := [(6, 20, 0, 0, 0, 0, [], [], []),
  (7, 20, 1, 0, 0, 0, [], [], []),
  (0, 31, 0, 0, 0, 0, [], [], []),
  (0, 31, 0, 0, 0, 0, [], [], []),
  (0, 31, 0, 0, 0, 0, [], [], []),
  (0, 31, 0, 0, 0, 0, [], [], []),
  (0, 31, 0, 0, 0, 0, [], [], []),
  (0, 31, 0, 0, 0, 0, [], [], []),
  (0, 31, 0, 0, 0, 0, [], [], [])]
set_option maxRecDepth 100000 in
theorem sz_s899_0 : sy_seg sz_E sz_T sz_RU [sz_c850, sz_c856] sz_c899 sz_u899 ri_m_X4_number 103 none sz_h899_0 = true := by decide +kernel
theorem sz_ok899 (xs : Nat → Value) (L : Nat) : sy_Cok (sz_env xs L) sz_T sz_RU sz_c899 := sy_chk_ok (CT := [sz_c850, sz_c856]) (CU := sz_u899) (M := ri_m_X4_number) (List.forall_mem_cons.mpr ⟨sz_ok850 xs L, List.forall_mem_cons.mpr ⟨sz_ok856 xs L, fun _ h => absurd h List.not_mem_nil⟩⟩) rfl rfl ⟨_, _, sz_s899_0⟩ (fun _ h => absurd h List.not_mem_nil)

/-! X4_number [1, 0, 256] -/
set_option maxRecDepth 100000 in
noncomputable def sz_c900 : sy_Ct := (294, 2, 44, [(3, .inr 1, .inl 0), (0, .inl 0, .inl 0), (0, .inl 256, .inl 0)], ([(0, 400)], []), [((1, 4), (0, .inr 0, .inl 0))], [], [(1, 4, 6)], [(.inl (some (0, .inr 1, .inl 0)), 0, 0, ([(0, 400), (0, 256), (0, 400)], []), [((1, 4), (0, .inr 2, .inl 0))], [])])
set_option maxRecDepth 100000 in
noncomputable def sz_u900 : List sy_Cut := []
set_option maxRecDepth 100000 in
noncomputable def sz_h900_0 : List sy_Hn := [(6, 20, 0, 0, 0, 0, [], [], []),
  (7, 20, 1, 0, 0, 0, [], [], []),
  (0, 31, 0, 0, 0, 0, [], [], []),
  (0, 31, 0, 0, 0, 0, [], [], []),
  (0, 31, 0, 0, 0, 0, [], [], []),
  (0, 31, 0, 0, 0, 0, [], [], []),
  (0, 31, 0, 0, 0, 0, [], [], []),
  (0, 31, 0, 0, 0, 0, [], [], []),
  (0, 31, 0, 0, 0, 0, [], [], [])]
set_option maxRecDepth 100000 in
theorem sz_s900_0 : sy_seg sz_E sz_T sz_RU [sz_c850, sz_c856] sz_c900 sz_u900 ri_m_X4_number 103 none sz_h900_0 = true := by decide +kernel
theorem sz_ok900 (xs : Nat → Value) (L : Nat) : sy_Cok (sz_env xs L) sz_T sz_RU sz_c900 := sy_chk_ok (CT := [sz_c850, sz_c856]) (CU := sz_u900) (M := ri_m_X4_number) (List.forall_mem_cons.mpr ⟨sz_ok850 xs L, List.forall_mem_cons.mpr ⟨sz_ok856 xs L, fun _ h => absurd h List.not_mem_nil⟩⟩) rfl rfl ⟨_, _, sz_s900_0⟩ (fun _ h => absurd h List.not_mem_nil)

/-! X4_number [1, 0, 8] -/
set_option maxRecDepth 100000 in
noncomputable def sz_c901 : sy_Ct := (294, 2, 44, [(3, .inr 1, .inl 0), (0, .inl 0, .inl 0), (0, .inl 8, .inl 0)], ([(0, 400)], []), [((1, 4), (0, .inr 0, .inl 0))], [], [(1, 4, 6)], [(.inl (some (0, .inr 1, .inl 0)), 0, 0, ([(0, 400), (0, 8), (0, 400)], []), [((1, 4), (0, .inr 2, .inl 0))], [])])
set_option maxRecDepth 100000 in
noncomputable def sz_u901 : List sy_Cut := []
set_option maxRecDepth 100000 in
noncomputable def sz_h901_0 : List sy_Hn := [(6, 20, 0, 0, 0, 0, [], [], []),
  (7, 20, 1, 0, 0, 0, [], [], []),
  (0, 31, 0, 0, 0, 0, [], [], []),
  (0, 31, 0, 0, 0, 0, [], [], []),
  (0, 31, 0, 0, 0, 0, [], [], []),
  (0, 31, 0, 0, 0, 0, [], [], []),
  (0, 31, 0, 0, 0, 0, [], [], []),
  (0, 31, 0, 0, 0, 0, [], [], []),
  (0, 31, 0, 0, 0, 0, [], [], [])]
set_option maxRecDepth 100000 in
theorem sz_s901_0 : sy_seg sz_E sz_T sz_RU [sz_c850, sz_c856] sz_c901 sz_u901 ri_m_X4_number 103 none sz_h901_0 = true := by decide +kernel
theorem sz_ok901 (xs : Nat → Value) (L : Nat) : sy_Cok (sz_env xs L) sz_T sz_RU sz_c901 := sy_chk_ok (CT := [sz_c850, sz_c856]) (CU := sz_u901) (M := ri_m_X4_number) (List.forall_mem_cons.mpr ⟨sz_ok850 xs L, List.forall_mem_cons.mpr ⟨sz_ok856 xs L, fun _ h => absurd h List.not_mem_nil⟩⟩) rfl rfl ⟨_, _, sz_s901_0⟩ (fun _ h => absurd h List.not_mem_nil)

/-! X4_readLaw [1] -/
set_option maxRecDepth 100000 in
noncomputable def sz_c902 : sy_Ct := (258, 5, 108, [(3, .inr 1, .inl 0)], ([(0, 400)], []), [((1, 4), (0, .inr 0, .inl 0))], [], [(1, 4, 6), (13, 2, 2), (15, 0, 4), (25, 2, 2), (27, 0, 4), (37, 2, 2), (39, 0, 4), (49, 2, 2), (51, 0, 4)], [(.inl none, 0, 0, ([(0, 400), (0, 400)], []), [((1, 4), (0, .inr 1, .inl 0))], [])])
set_option maxRecDepth 100000 in
noncomputable def sz_u902 : List sy_Cut := []
set_option maxRecDepth 100000 in
noncomputable def sz_h902_0_0 : List sy_Hn := [(2, 20, 0, 0, 0, 0, [], [], []),
  (8, 20, 1, 0, 0, 0, [], [], []),
  (10, 20, 2, 0, 0, 0, [], [], []),
  (10, 20, 3, 0, 0, 0, [], [], []),
  (10, 20, 4, 0, 0, 0, [], [], []),
  (10, 20, 5, 0, 0, 0, [], [], []),
  (10, 20, 6, 0, 0, 0, [], [], []),
  (0, 31, 0, 0, 0, 0, [], [], []),
  (4, 20, 7, 0, 0, 0, [], [], []),
  (0, 31, 0, 0, 0, 0, [], [], []),
  (4, 20, 7, 0, 0, 0, [], [], []),
  (7, 20, 6, 0, 0, 0, [], [], []),
  (0, 31, 0, 0, 0, 0, [], [], []),
  (4, 20, 7, 0, 0, 0, [], [], []),
  (0, 31, 0, 0, 0, 0, [], [], []),
  (4, 20, 8, 0, 0, 0, [], [], []),
  (7, 20, 5, 0, 0, 0, [], [], []),
  (10, 20, 6, 0, 0, 0, [], [], []),
  (0, 31, 0, 0, 0, 0, [], [], []),
  (4, 20, 7, 0, 0, 0, [], [], []),
  (0, 31, 0, 0, 0, 0, [], [], []),
  (4, 20, 7, 0, 0, 0, [], [], []),
  (7, 20, 6, 0, 0, 0, [], [], []),
  (0, 31, 0, 0, 0, 0, [], [], []),
  (4, 20, 7, 0, 0, 0, [], [], []),
  (0, 31, 0, 0, 0, 0, [], [], []),
  (4, 20, 9, 0, 0, 0, [], [], []),
  (7, 20, 4, 0, 0, 0, [], [], []),
  (10, 20, 5, 0, 0, 0, [], [], []),
  (10, 20, 6, 0, 0, 0, [], [], []),
  (0, 31, 0, 0, 0, 0, [], [], []),
  (4, 20, 7, 0, 0, 0, [], [], []),
  (0, 31, 0, 0, 0, 0, [], [], []),
  (4, 20, 7, 0, 0, 0, [], [], []),
  (7, 20, 6, 0, 0, 0, [], [], []),
  (0, 31, 0, 0, 0, 0, [], [], []),
  (4, 20, 7, 0, 0, 0, [], [], []),
  (0, 31, 0, 0, 0, 0, [], [], []),
  (4, 20, 8, 0, 0, 0, [], [], []),
  (7, 20, 5, 0, 0, 0, [], [], []),
  (10, 20, 6, 0, 0, 0, [], [], []),
  (0, 31, 0, 0, 0, 0, [], [], []),
  (4, 20, 7, 0, 0, 0, [], [], []),
  (0, 31, 0, 0, 0, 0, [], [], []),
  (4, 20, 7, 0, 0, 0, [], [], []),
  (7, 20, 6, 0, 0, 0, [], [], []),
  (0, 31, 0, 0, 0, 0, [], [], []),
  (4, 20, 7, 0, 0, 0, [], [], []),
  (0, 31, 0, 0, 0, 0, [], [], []),
  (4, 20, 8, 0, 0, 0, [], [], []),
  (7, 20, 3, 0, 0, 0, [], [], []),
  (10, 20, 4, 0, 0, 0, [], [], []),
  (10, 20, 5, 0, 0, 0, [], [], []),
  (10, 20, 6, 0, 0, 0, [], [], []),
  (0, 31, 0, 0, 0, 0, [], [], []),
  (4, 20, 7, 0, 0, 0, [], [], []),
  (0, 31, 0, 0, 0, 0, [], [], []),
  (4, 20, 7, 0, 0, 0, [], [], []),
  (7, 20, 6, 0, 0, 0, [], [], []),
  (0, 31, 0, 0, 0, 0, [], [], []),
  (4, 20, 7, 0, 0, 0, [], [], []),
  (0, 31, 0, 0, 0, 0, [], [], []),
  (4, 20, 8, 0, 0, 0, [], [], []),
  (7, 20, 5, 0, 0, 0, [], [], []),
  (10, 20, 6, 0, 0, 0, [], [], []),
  (0, 31, 0, 0, 0, 0, [], [], []),
  (4, 20, 7, 0, 0, 0, [], [], []),
  (0, 31, 0, 0, 0, 0, [], [], []),
  (4, 20, 7, 0, 0, 0, [], [], []),
  (7, 20, 6, 0, 0, 0, [], [], []),
  (0, 31, 0, 0, 0, 0, [], [], []),
  (4, 20, 7, 0, 0, 0, [], [], []),
  (0, 31, 0, 0, 0, 0, [], [], []),
  (4, 20, 9, 0, 0, 0, [], [], []),
  (7, 20, 4, 0, 0, 0, [], [], []),
  (10, 20, 5, 0, 0, 0, [], [], []),
  (10, 20, 6, 0, 0, 0, [], [], []),
  (0, 31, 0, 0, 0, 0, [], [], []),
  (4, 20, 7, 0, 0, 0, [], [], []),
  (0, 31, 0, 0, 0, 0, [], [], []),
  (4, 20, 7, 0, 0, 0, [], [], []),
  (7, 20, 6, 0, 0, 0, [], [], []),
  (0, 31, 0, 0, 0, 0, [], [], []),
  (4, 20, 7, 0, 0, 0, [], [], []),
  (0, 31, 0, 0, 0, 0, [], [], []),
  (4, 20, 8, 0, 0, 0, [], [], []),
  (7, 20, 5, 0, 0, 0, [], [], []),
  (10, 20, 6, 0, 0, 0, [], [], []),
  (0, 31, 0, 0, 0, 0, [], [], []),
  (4, 20, 7, 0, 0, 0, [], [], []),
  (0, 31, 0, 0, 0, 0, [], [], []),
  (4, 20, 7, 0, 0, 0, [], [], []),
  (7, 20, 6, 0, 0, 0, [], [], []),
  (0, 31, 0, 0, 0, 0, [], [], []),
  (4, 20, 7, 0, 0, 0, [], [], []),
  (0, 31, 0, 0, 0, 0, [], [], []),
  (4, 20, 8, 0, 0, 0, [], [], []),
  (7, 20, 2, 0, 0, 0, [], [], []),
  (10, 20, 3, 0, 0, 0, [], [], []),
  (10, 20, 4, 0, 0, 0, [], [], []),
  (10, 20, 5, 0, 0, 0, [], [], []),
  (10, 20, 6, 0, 0, 0, [], [], []),
  (0, 31, 0, 0, 0, 0, [], [], []),
  (4, 20, 7, 0, 0, 0, [], [], []),
  (0, 31, 0, 0, 0, 0, [], [], []),
  (4, 20, 7, 0, 0, 0, [], [], []),
  (7, 20, 6, 0, 0, 0, [], [], []),
  (0, 31, 0, 0, 0, 0, [], [], []),
  (4, 20, 7, 0, 0, 0, [], [], []),
  (0, 31, 0, 0, 0, 0, [], [], []),
  (4, 20, 8, 0, 0, 0, [], [], []),
  (7, 20, 5, 0, 0, 0, [], [], []),
  (10, 20, 6, 0, 0, 0, [], [], []),
  (0, 31, 0, 0, 0, 0, [], [], []),
  (4, 20, 7, 0, 0, 0, [], [], []),
  (0, 31, 0, 0, 0, 0, [], [], []),
  (4, 20, 7, 0, 0, 0, [], [], []),
  (7, 20, 6, 0, 0, 0, [], [], []),
  (0, 31, 0, 0, 0, 0, [], [], []),
  (4, 20, 7, 0, 0, 0, [], [], []),
  (0, 31, 0, 0, 0, 0, [], [], []),
  (4, 20, 9, 0, 0, 0, [], [], []),
  (7, 20, 4, 0, 0, 0, [], [], []),
  (10, 20, 5, 0, 0, 0, [], [], []),
  (10, 20, 6, 0, 0, 0, [], [], []),
  (0, 31, 0, 0, 0, 0, [], [], []),
  (4, 20, 7, 0, 0, 0, [], [], []),
  (0, 31, 0, 0, 0, 0, [], [], []),
  (4, 20, 7, 0, 0, 0, [], [], []),
  (7, 20, 6, 0, 0, 0, [], [], []),
  (0, 31, 0, 0, 0, 0, [], [], []),
  (4, 20, 7, 0, 0, 0, [], [], []),
  (0, 31, 0, 0, 0, 0, [], [], []),
  (4, 20, 8, 0, 0, 0, [], [], []),
  (7, 20, 5, 0, 0, 0, [], [], []),
  (10, 20, 6, 0, 0, 0, [], [], []),
  (0, 31, 0, 0, 0, 0, [], [], []),
  (4, 20, 7, 0, 0, 0, [], [], []),
  (0, 31, 0, 0, 0, 0, [], [], []),
  (4, 20, 7, 0, 0, 0, [], [], []),
  (7, 20, 6, 0, 0, 0, [], [], []),
  (0, 31, 0, 0, 0, 0, [], [], []),
  (4, 20, 7, 0, 0, 0, [], [], []),
  (0, 31, 0, 0, 0, 0, [], [], []),
  (4, 20, 8, 0, 0, 0, [], [], []),
  (7, 20, 3, 0, 0, 0, [], [], []),
  (10, 20, 4, 0, 0, 0, [], [], []),
  (10, 20, 5, 0, 0, 0, [], [], []),
  (10, 20, 6, 0, 0, 0, [], [], []),
  (0, 31, 0, 0, 0, 0, [], [], []),
  (4, 20, 7, 0, 0, 0, [], [], []),
  (0, 31, 0, 0, 0, 0, [], [], []),
  (4, 20, 7, 0, 0, 0, [], [], []),
  (7, 20, 6, 0, 0, 0, [], [], []),
  (0, 31, 0, 0, 0, 0, [], [], []),
  (4, 20, 7, 0, 0, 0, [], [], []),
  (0, 31, 0, 0, 0, 0, [], [], []),
  (4, 20, 8, 0, 0, 0, [], [], []),
  (7, 20, 5, 0, 0, 0, [], [], []),
  (10, 20, 6, 0, 0, 0, [], [], []),
  (0, 31, 0, 0, 0, 0, [], [], []),
  (4, 20, 7, 0, 0, 0, [], [], []),
  (0, 31, 0, 0, 0, 0, [], [], []),
  (4, 20, 7, 0, 0, 0, [], [], []),
  (7, 20, 6, 0, 0, 0, [], [], []),
  (0, 31, 0, 0, 0, 0, [], [], []),
  (4, 20, 7, 0, 0, 0, [], [], []),
  (0, 31, 0, 0, 0, 0, [], [], []),
  (4, 20, 9, 0, 0, 0, [], [], []),
  (7, 20, 4, 0, 0, 0, [], [], []),
  (10, 20, 5, 0, 0, 0, [], [], []),
  (10, 20, 6, 0, 0, 0, [], [], []),
  (0, 31, 0, 0, 0, 0, [], [], []),
  (4, 20, 7, 0, 0, 0, [], [], []),
  (0, 31, 0, 0, 0, 0, [], [], []),
  (4, 20, 7, 0, 0, 0, [], [], []),
  (7, 20, 6, 0, 0, 0, [], [], []),
  (0, 31, 0, 0, 0, 0, [], [], []),
  (4, 20, 7, 0, 0, 0, [], [], []),
  (0, 31, 0, 0, 0, 0, [], [], []),
  (4, 20, 8, 0, 0, 0, [], [], []),
  (7, 20, 5, 0, 0, 0, [], [], []),
  (10, 20, 6, 0, 0, 0, [], [], []),
  (0, 31, 0, 0, 0, 0, [], [], []),
  (4, 20, 7, 0, 0, 0, [], [], []),
  (0, 31, 0, 0, 0, 0, [], [], []),
  (4, 20, 7, 0, 0, 0, [], [], []),
  (7, 20, 6, 0, 0, 0, [], [], []),
  (0, 31, 0, 0, 0, 0, [], [], []),
  (4, 20, 7, 0, 0, 0, [], [], []),
  (0, 31, 0, 0, 0, 0, [], [], []),
  (8, 20, 1, 0, 0, 0, [], [], []),
  (10, 20, 2, 0, 0, 0, [], [], []),
  (10, 20, 3, 0, 0, 0, [], [], []),
  (10, 20, 4, 0, 0, 0, [], [], []),
  (10, 20, 5, 0, 0, 0, [], [], []),
  (10, 20, 6, 0, 0, 0, [], [], []),
  (0, 31, 0, 0, 0, 0, [], [], []),
  (4, 20, 7, 0, 0, 0, [], [], []),
  (0, 31, 0, 0, 0, 0, [], [], [])]
set_option maxRecDepth 100000 in
noncomputable def sz_h902_0_1 : List sy_Hn := [(4, 20, 7, 0, 0, 0, [], [], []),
  (7, 20, 6, 0, 0, 0, [], [], []),
  (0, 31, 0, 0, 0, 0, [], [], []),
  (4, 20, 7, 0, 0, 0, [], [], []),
  (0, 31, 0, 0, 0, 0, [], [], []),
  (4, 20, 8, 0, 0, 0, [], [], []),
  (7, 20, 5, 0, 0, 0, [], [], []),
  (10, 20, 6, 0, 0, 0, [], [], []),
  (0, 31, 0, 0, 0, 0, [], [], []),
  (4, 20, 7, 0, 0, 0, [], [], []),
  (0, 31, 0, 0, 0, 0, [], [], []),
  (4, 20, 7, 0, 0, 0, [], [], []),
  (7, 20, 6, 0, 0, 0, [], [], []),
  (0, 31, 0, 0, 0, 0, [], [], []),
  (4, 20, 7, 0, 0, 0, [], [], []),
  (0, 31, 0, 0, 0, 0, [], [], []),
  (4, 20, 9, 0, 0, 0, [], [], []),
  (7, 20, 4, 0, 0, 0, [], [], []),
  (10, 20, 5, 0, 0, 0, [], [], []),
  (10, 20, 6, 0, 0, 0, [], [], []),
  (0, 31, 0, 0, 0, 0, [], [], []),
  (4, 20, 7, 0, 0, 0, [], [], []),
  (0, 31, 0, 0, 0, 0, [], [], []),
  (4, 20, 7, 0, 0, 0, [], [], []),
  (7, 20, 6, 0, 0, 0, [], [], []),
  (0, 31, 0, 0, 0, 0, [], [], []),
  (4, 20, 7, 0, 0, 0, [], [], []),
  (0, 31, 0, 0, 0, 0, [], [], []),
  (4, 20, 8, 0, 0, 0, [], [], []),
  (7, 20, 5, 0, 0, 0, [], [], []),
  (10, 20, 6, 0, 0, 0, [], [], []),
  (0, 31, 0, 0, 0, 0, [], [], []),
  (4, 20, 7, 0, 0, 0, [], [], []),
  (0, 31, 0, 0, 0, 0, [], [], []),
  (4, 20, 7, 0, 0, 0, [], [], []),
  (7, 20, 6, 0, 0, 0, [], [], []),
  (0, 31, 0, 0, 0, 0, [], [], []),
  (4, 20, 7, 0, 0, 0, [], [], []),
  (0, 31, 0, 0, 0, 0, [], [], []),
  (4, 20, 8, 0, 0, 0, [], [], []),
  (7, 20, 3, 0, 0, 0, [], [], []),
  (10, 20, 4, 0, 0, 0, [], [], []),
  (10, 20, 5, 0, 0, 0, [], [], []),
  (10, 20, 6, 0, 0, 0, [], [], []),
  (0, 31, 0, 0, 0, 0, [], [], []),
  (4, 20, 7, 0, 0, 0, [], [], []),
  (0, 31, 0, 0, 0, 0, [], [], []),
  (4, 20, 7, 0, 0, 0, [], [], []),
  (7, 20, 6, 0, 0, 0, [], [], []),
  (0, 31, 0, 0, 0, 0, [], [], []),
  (4, 20, 7, 0, 0, 0, [], [], []),
  (0, 31, 0, 0, 0, 0, [], [], []),
  (4, 20, 8, 0, 0, 0, [], [], []),
  (7, 20, 5, 0, 0, 0, [], [], []),
  (10, 20, 6, 0, 0, 0, [], [], []),
  (0, 31, 0, 0, 0, 0, [], [], []),
  (4, 20, 7, 0, 0, 0, [], [], []),
  (0, 31, 0, 0, 0, 0, [], [], []),
  (4, 20, 7, 0, 0, 0, [], [], []),
  (7, 20, 6, 0, 0, 0, [], [], []),
  (0, 31, 0, 0, 0, 0, [], [], []),
  (4, 20, 7, 0, 0, 0, [], [], []),
  (0, 31, 0, 0, 0, 0, [], [], []),
  (4, 20, 9, 0, 0, 0, [], [], []),
  (7, 20, 4, 0, 0, 0, [], [], []),
  (10, 20, 5, 0, 0, 0, [], [], []),
  (10, 20, 6, 0, 0, 0, [], [], []),
  (0, 31, 0, 0, 0, 0, [], [], []),
  (4, 20, 7, 0, 0, 0, [], [], []),
  (0, 31, 0, 0, 0, 0, [], [], []),
  (4, 20, 7, 0, 0, 0, [], [], []),
  (7, 20, 6, 0, 0, 0, [], [], []),
  (0, 31, 0, 0, 0, 0, [], [], []),
  (4, 20, 7, 0, 0, 0, [], [], []),
  (0, 31, 0, 0, 0, 0, [], [], []),
  (4, 20, 8, 0, 0, 0, [], [], []),
  (7, 20, 5, 0, 0, 0, [], [], []),
  (10, 20, 6, 0, 0, 0, [], [], []),
  (0, 31, 0, 0, 0, 0, [], [], []),
  (4, 20, 7, 0, 0, 0, [], [], []),
  (0, 31, 0, 0, 0, 0, [], [], []),
  (4, 20, 7, 0, 0, 0, [], [], []),
  (7, 20, 6, 0, 0, 0, [], [], []),
  (0, 31, 0, 0, 0, 0, [], [], []),
  (4, 20, 7, 0, 0, 0, [], [], []),
  (0, 31, 0, 0, 0, 0, [], [], []),
  (4, 20, 8, 0, 0, 0, [], [], []),
  (7, 20, 2, 0, 0, 0, [], [], []),
  (10, 20, 3, 0, 0, 0, [], [], []),
  (10, 20, 4, 0, 0, 0, [], [], []),
  (10, 20, 5, 0, 0, 0, [], [], []),
  (10, 20, 6, 0, 0, 0, [], [], []),
  (0, 31, 0, 0, 0, 0, [], [], []),
  (4, 20, 7, 0, 0, 0, [], [], []),
  (0, 31, 0, 0, 0, 0, [], [], []),
  (4, 20, 7, 0, 0, 0, [], [], []),
  (7, 20, 6, 0, 0, 0, [], [], []),
  (0, 31, 0, 0, 0, 0, [], [], []),
  (4, 20, 7, 0, 0, 0, [], [], []),
  (0, 31, 0, 0, 0, 0, [], [], []),
  (4, 20, 8, 0, 0, 0, [], [], []),
  (7, 20, 5, 0, 0, 0, [], [], []),
  (10, 20, 6, 0, 0, 0, [], [], []),
  (0, 31, 0, 0, 0, 0, [], [], []),
  (4, 20, 7, 0, 0, 0, [], [], []),
  (0, 31, 0, 0, 0, 0, [], [], []),
  (4, 20, 7, 0, 0, 0, [], [], []),
  (7, 20, 6, 0, 0, 0, [], [], []),
  (0, 31, 0, 0, 0, 0, [], [], []),
  (4, 20, 7, 0, 0, 0, [], [], []),
  (0, 31, 0, 0, 0, 0, [], [], []),
  (4, 20, 9, 0, 0, 0, [], [], []),
  (7, 20, 4, 0, 0, 0, [], [], []),
  (10, 20, 5, 0, 0, 0, [], [], []),
  (10, 20, 6, 0, 0, 0, [], [], []),
  (0, 31, 0, 0, 0, 0, [], [], []),
  (4, 20, 7, 0, 0, 0, [], [], []),
  (0, 31, 0, 0, 0, 0, [], [], []),
  (4, 20, 7, 0, 0, 0, [], [], []),
  (7, 20, 6, 0, 0, 0, [], [], []),
  (0, 31, 0, 0, 0, 0, [], [], []),
  (4, 20, 7, 0, 0, 0, [], [], []),
  (0, 31, 0, 0, 0, 0, [], [], []),
  (4, 20, 8, 0, 0, 0, [], [], []),
  (7, 20, 5, 0, 0, 0, [], [], []),
  (10, 20, 6, 0, 0, 0, [], [], []),
  (0, 31, 0, 0, 0, 0, [], [], []),
  (4, 20, 7, 0, 0, 0, [], [], []),
  (0, 31, 0, 0, 0, 0, [], [], []),
  (4, 20, 7, 0, 0, 0, [], [], []),
  (7, 20, 6, 0, 0, 0, [], [], []),
  (0, 31, 0, 0, 0, 0, [], [], []),
  (4, 20, 7, 0, 0, 0, [], [], []),
  (0, 31, 0, 0, 0, 0, [], [], []),
  (4, 20, 8, 0, 0, 0, [], [], []),
  (7, 20, 3, 0, 0, 0, [], [], []),
  (10, 20, 4, 0, 0, 0, [], [], []),
  (10, 20, 5, 0, 0, 0, [], [], []),
  (10, 20, 6, 0, 0, 0, [], [], []),
  (0, 31, 0, 0, 0, 0, [], [], []),
  (4, 20, 7, 0, 0, 0, [], [], []),
  (0, 31, 0, 0, 0, 0, [], [], []),
  (4, 20, 7, 0, 0, 0, [], [], []),
  (7, 20, 6, 0, 0, 0, [], [], []),
  (0, 31, 0, 0, 0, 0, [], [], []),
  (4, 20, 7, 0, 0, 0, [], [], []),
  (0, 31, 0, 0, 0, 0, [], [], []),
  (4, 20, 8, 0, 0, 0, [], [], []),
  (7, 20, 5, 0, 0, 0, [], [], []),
  (10, 20, 6, 0, 0, 0, [], [], []),
  (0, 31, 0, 0, 0, 0, [], [], []),
  (4, 20, 7, 0, 0, 0, [], [], []),
  (0, 31, 0, 0, 0, 0, [], [], []),
  (4, 20, 7, 0, 0, 0, [], [], []),
  (7, 20, 6, 0, 0, 0, [], [], []),
  (0, 31, 0, 0, 0, 0, [], [], []),
  (4, 20, 7, 0, 0, 0, [], [], []),
  (0, 31, 0, 0, 0, 0, [], [], []),
  (4, 20, 9, 0, 0, 0, [], [], []),
  (7, 20, 4, 0, 0, 0, [], [], []),
  (10, 20, 5, 0, 0, 0, [], [], []),
  (10, 20, 6, 0, 0, 0, [], [], []),
  (0, 31, 0, 0, 0, 0, [], [], []),
  (4, 20, 7, 0, 0, 0, [], [], []),
  (0, 31, 0, 0, 0, 0, [], [], []),
  (4, 20, 7, 0, 0, 0, [], [], []),
  (7, 20, 6, 0, 0, 0, [], [], []),
  (0, 31, 0, 0, 0, 0, [], [], []),
  (4, 20, 7, 0, 0, 0, [], [], []),
  (0, 31, 0, 0, 0, 0, [], [], []),
  (4, 20, 8, 0, 0, 0, [], [], []),
  (7, 20, 5, 0, 0, 0, [], [], []),
  (10, 20, 6, 0, 0, 0, [], [], []),
  (0, 31, 0, 0, 0, 0, [], [], []),
  (4, 20, 7, 0, 0, 0, [], [], []),
  (0, 31, 0, 0, 0, 0, [], [], []),
  (4, 20, 7, 0, 0, 0, [], [], []),
  (7, 20, 6, 0, 0, 0, [], [], []),
  (0, 31, 0, 0, 0, 0, [], [], []),
  (4, 20, 7, 0, 0, 0, [], [], []),
  (0, 31, 0, 0, 0, 0, [], [], []),
  (8, 20, 1, 0, 0, 0, [], [], []),
  (10, 20, 2, 0, 0, 0, [], [], []),
  (10, 20, 3, 0, 0, 0, [], [], []),
  (10, 20, 4, 0, 0, 0, [], [], []),
  (10, 20, 5, 0, 0, 0, [], [], []),
  (10, 20, 6, 0, 0, 0, [], [], []),
  (0, 31, 0, 0, 0, 0, [], [], []),
  (4, 20, 7, 0, 0, 0, [], [], []),
  (0, 31, 0, 0, 0, 0, [], [], []),
  (4, 20, 7, 0, 0, 0, [], [], []),
  (7, 20, 6, 0, 0, 0, [], [], []),
  (0, 31, 0, 0, 0, 0, [], [], []),
  (4, 20, 7, 0, 0, 0, [], [], []),
  (0, 31, 0, 0, 0, 0, [], [], []),
  (4, 20, 8, 0, 0, 0, [], [], []),
  (7, 20, 5, 0, 0, 0, [], [], []),
  (10, 20, 6, 0, 0, 0, [], [], []),
  (0, 31, 0, 0, 0, 0, [], [], []),
  (4, 20, 7, 0, 0, 0, [], [], [])]
set_option maxRecDepth 100000 in
noncomputable def sz_h902_0_2 : List sy_Hn := [(0, 31, 0, 0, 0, 0, [], [], []),
  (4, 20, 7, 0, 0, 0, [], [], []),
  (7, 20, 6, 0, 0, 0, [], [], []),
  (0, 31, 0, 0, 0, 0, [], [], []),
  (4, 20, 7, 0, 0, 0, [], [], []),
  (0, 31, 0, 0, 0, 0, [], [], []),
  (4, 20, 9, 0, 0, 0, [], [], []),
  (7, 20, 4, 0, 0, 0, [], [], []),
  (10, 20, 5, 0, 0, 0, [], [], []),
  (10, 20, 6, 0, 0, 0, [], [], []),
  (0, 31, 0, 0, 0, 0, [], [], []),
  (4, 20, 7, 0, 0, 0, [], [], []),
  (0, 31, 0, 0, 0, 0, [], [], []),
  (4, 20, 7, 0, 0, 0, [], [], []),
  (7, 20, 6, 0, 0, 0, [], [], []),
  (0, 31, 0, 0, 0, 0, [], [], []),
  (4, 20, 7, 0, 0, 0, [], [], []),
  (0, 31, 0, 0, 0, 0, [], [], []),
  (4, 20, 8, 0, 0, 0, [], [], []),
  (7, 20, 5, 0, 0, 0, [], [], []),
  (10, 20, 6, 0, 0, 0, [], [], []),
  (0, 31, 0, 0, 0, 0, [], [], []),
  (4, 20, 7, 0, 0, 0, [], [], []),
  (0, 31, 0, 0, 0, 0, [], [], []),
  (4, 20, 7, 0, 0, 0, [], [], []),
  (7, 20, 6, 0, 0, 0, [], [], []),
  (0, 31, 0, 0, 0, 0, [], [], []),
  (4, 20, 7, 0, 0, 0, [], [], []),
  (0, 31, 0, 0, 0, 0, [], [], []),
  (4, 20, 8, 0, 0, 0, [], [], []),
  (7, 20, 3, 0, 0, 0, [], [], []),
  (10, 20, 4, 0, 0, 0, [], [], []),
  (10, 20, 5, 0, 0, 0, [], [], []),
  (10, 20, 6, 0, 0, 0, [], [], []),
  (0, 31, 0, 0, 0, 0, [], [], []),
  (4, 20, 7, 0, 0, 0, [], [], []),
  (0, 31, 0, 0, 0, 0, [], [], []),
  (4, 20, 7, 0, 0, 0, [], [], []),
  (7, 20, 6, 0, 0, 0, [], [], []),
  (0, 31, 0, 0, 0, 0, [], [], []),
  (4, 20, 7, 0, 0, 0, [], [], []),
  (0, 31, 0, 0, 0, 0, [], [], []),
  (4, 20, 8, 0, 0, 0, [], [], []),
  (7, 20, 5, 0, 0, 0, [], [], []),
  (10, 20, 6, 0, 0, 0, [], [], []),
  (0, 31, 0, 0, 0, 0, [], [], []),
  (4, 20, 7, 0, 0, 0, [], [], []),
  (0, 31, 0, 0, 0, 0, [], [], []),
  (4, 20, 7, 0, 0, 0, [], [], []),
  (7, 20, 6, 0, 0, 0, [], [], []),
  (0, 31, 0, 0, 0, 0, [], [], []),
  (4, 20, 7, 0, 0, 0, [], [], []),
  (0, 31, 0, 0, 0, 0, [], [], []),
  (4, 20, 9, 0, 0, 0, [], [], []),
  (7, 20, 4, 0, 0, 0, [], [], []),
  (10, 20, 5, 0, 0, 0, [], [], []),
  (10, 20, 6, 0, 0, 0, [], [], []),
  (0, 31, 0, 0, 0, 0, [], [], []),
  (4, 20, 7, 0, 0, 0, [], [], []),
  (0, 31, 0, 0, 0, 0, [], [], []),
  (4, 20, 7, 0, 0, 0, [], [], []),
  (7, 20, 6, 0, 0, 0, [], [], []),
  (0, 31, 0, 0, 0, 0, [], [], []),
  (4, 20, 7, 0, 0, 0, [], [], []),
  (0, 31, 0, 0, 0, 0, [], [], []),
  (4, 20, 8, 0, 0, 0, [], [], []),
  (7, 20, 5, 0, 0, 0, [], [], []),
  (10, 20, 6, 0, 0, 0, [], [], []),
  (0, 31, 0, 0, 0, 0, [], [], []),
  (4, 20, 7, 0, 0, 0, [], [], []),
  (0, 31, 0, 0, 0, 0, [], [], []),
  (4, 20, 7, 0, 0, 0, [], [], []),
  (7, 20, 6, 0, 0, 0, [], [], []),
  (0, 31, 0, 0, 0, 0, [], [], []),
  (4, 20, 7, 0, 0, 0, [], [], []),
  (0, 31, 0, 0, 0, 0, [], [], []),
  (4, 20, 8, 0, 0, 0, [], [], []),
  (7, 20, 2, 0, 0, 0, [], [], []),
  (10, 20, 3, 0, 0, 0, [], [], []),
  (10, 20, 4, 0, 0, 0, [], [], []),
  (10, 20, 5, 0, 0, 0, [], [], []),
  (10, 20, 6, 0, 0, 0, [], [], []),
  (0, 31, 0, 0, 0, 0, [], [], []),
  (4, 20, 7, 0, 0, 0, [], [], []),
  (0, 31, 0, 0, 0, 0, [], [], []),
  (4, 20, 7, 0, 0, 0, [], [], []),
  (7, 20, 6, 0, 0, 0, [], [], []),
  (0, 31, 0, 0, 0, 0, [], [], []),
  (4, 20, 7, 0, 0, 0, [], [], []),
  (0, 31, 0, 0, 0, 0, [], [], []),
  (4, 20, 8, 0, 0, 0, [], [], []),
  (7, 20, 5, 0, 0, 0, [], [], []),
  (10, 20, 6, 0, 0, 0, [], [], []),
  (0, 31, 0, 0, 0, 0, [], [], []),
  (4, 20, 7, 0, 0, 0, [], [], []),
  (0, 31, 0, 0, 0, 0, [], [], []),
  (4, 20, 7, 0, 0, 0, [], [], []),
  (7, 20, 6, 0, 0, 0, [], [], []),
  (0, 31, 0, 0, 0, 0, [], [], []),
  (4, 20, 7, 0, 0, 0, [], [], []),
  (0, 31, 0, 0, 0, 0, [], [], []),
  (4, 20, 9, 0, 0, 0, [], [], []),
  (7, 20, 4, 0, 0, 0, [], [], []),
  (10, 20, 5, 0, 0, 0, [], [], []),
  (10, 20, 6, 0, 0, 0, [], [], []),
  (0, 31, 0, 0, 0, 0, [], [], []),
  (4, 20, 7, 0, 0, 0, [], [], []),
  (0, 31, 0, 0, 0, 0, [], [], []),
  (4, 20, 7, 0, 0, 0, [], [], []),
  (7, 20, 6, 0, 0, 0, [], [], []),
  (0, 31, 0, 0, 0, 0, [], [], []),
  (4, 20, 7, 0, 0, 0, [], [], []),
  (0, 31, 0, 0, 0, 0, [], [], []),
  (4, 20, 8, 0, 0, 0, [], [], []),
  (7, 20, 5, 0, 0, 0, [], [], []),
  (10, 20, 6, 0, 0, 0, [], [], []),
  (0, 31, 0, 0, 0, 0, [], [], []),
  (4, 20, 7, 0, 0, 0, [], [], []),
  (0, 31, 0, 0, 0, 0, [], [], []),
  (4, 20, 7, 0, 0, 0, [], [], []),
  (7, 20, 6, 0, 0, 0, [], [], []),
  (0, 31, 0, 0, 0, 0, [], [], []),
  (4, 20, 7, 0, 0, 0, [], [], []),
  (0, 31, 0, 0, 0, 0, [], [], []),
  (4, 20, 8, 0, 0, 0, [], [], []),
  (7, 20, 3, 0, 0, 0, [], [], []),
  (10, 20, 4, 0, 0, 0, [], [], []),
  (10, 20, 5, 0, 0, 0, [], [], []),
  (10, 20, 6, 0, 0, 0, [], [], []),
  (0, 31, 0, 0, 0, 0, [], [], []),
  (4, 20, 7, 0, 0, 0, [], [], []),
  (0, 31, 0, 0, 0, 0, [], [], []),
  (4, 20, 7, 0, 0, 0, [], [], []),
  (7, 20, 6, 0, 0, 0, [], [], []),
  (0, 31, 0, 0, 0, 0, [], [], []),
  (4, 20, 7, 0, 0, 0, [], [], []),
  (0, 31, 0, 0, 0, 0, [], [], []),
  (4, 20, 8, 0, 0, 0, [], [], []),
  (7, 20, 5, 0, 0, 0, [], [], []),
  (10, 20, 6, 0, 0, 0, [], [], []),
  (0, 31, 0, 0, 0, 0, [], [], []),
  (4, 20, 7, 0, 0, 0, [], [], []),
  (0, 31, 0, 0, 0, 0, [], [], []),
  (4, 20, 7, 0, 0, 0, [], [], []),
  (7, 20, 6, 0, 0, 0, [], [], []),
  (0, 31, 0, 0, 0, 0, [], [], []),
  (4, 20, 7, 0, 0, 0, [], [], []),
  (0, 31, 0, 0, 0, 0, [], [], []),
  (4, 20, 9, 0, 0, 0, [], [], []),
  (7, 20, 4, 0, 0, 0, [], [], []),
  (10, 20, 5, 0, 0, 0, [], [], []),
  (10, 20, 6, 0, 0, 0, [], [], []),
  (0, 31, 0, 0, 0, 0, [], [], []),
  (4, 20, 7, 0, 0, 0, [], [], []),
  (0, 31, 0, 0, 0, 0, [], [], []),
  (4, 20, 7, 0, 0, 0, [], [], []),
  (7, 20, 6, 0, 0, 0, [], [], []),
  (0, 31, 0, 0, 0, 0, [], [], []),
  (4, 20, 7, 0, 0, 0, [], [], []),
  (0, 31, 0, 0, 0, 0, [], [], []),
  (4, 20, 8, 0, 0, 0, [], [], []),
  (7, 20, 5, 0, 0, 0, [], [], []),
  (10, 20, 6, 0, 0, 0, [], [], []),
  (0, 31, 0, 0, 0, 0, [], [], []),
  (4, 20, 7, 0, 0, 0, [], [], []),
  (0, 31, 0, 0, 0, 0, [], [], []),
  (4, 20, 7, 0, 0, 0, [], [], []),
  (7, 20, 6, 0, 0, 0, [], [], []),
  (0, 31, 0, 0, 0, 0, [], [], []),
  (4, 20, 7, 0, 0, 0, [], [], []),
  (0, 31, 0, 0, 0, 0, [], [], []),
  (8, 20, 1, 0, 0, 0, [], [], []),
  (10, 20, 2, 0, 0, 0, [], [], []),
  (10, 20, 3, 0, 0, 0, [], [], []),
  (10, 20, 4, 0, 0, 0, [], [], []),
  (10, 20, 5, 0, 0, 0, [], [], []),
  (10, 20, 6, 0, 0, 0, [], [], []),
  (0, 31, 0, 0, 0, 0, [], [], []),
  (4, 20, 7, 0, 0, 0, [], [], []),
  (0, 31, 0, 0, 0, 0, [], [], []),
  (4, 20, 7, 0, 0, 0, [], [], []),
  (7, 20, 6, 0, 0, 0, [], [], []),
  (0, 31, 0, 0, 0, 0, [], [], []),
  (4, 20, 7, 0, 0, 0, [], [], []),
  (0, 31, 0, 0, 0, 0, [], [], []),
  (4, 20, 8, 0, 0, 0, [], [], []),
  (7, 20, 5, 0, 0, 0, [], [], []),
  (10, 20, 6, 0, 0, 0, [], [], []),
  (0, 31, 0, 0, 0, 0, [], [], []),
  (4, 20, 7, 0, 0, 0, [], [], []),
  (0, 31, 0, 0, 0, 0, [], [], []),
  (4, 20, 7, 0, 0, 0, [], [], []),
  (7, 20, 6, 0, 0, 0, [], [], []),
  (0, 31, 0, 0, 0, 0, [], [], []),
  (4, 20, 7, 0, 0, 0, [], [], []),
  (0, 31, 0, 0, 0, 0, [], [], []),
  (4, 20, 9, 0, 0, 0, [], [], []),
  (7, 20, 4, 0, 0, 0, [], [], []),
  (10, 20, 5, 0, 0, 0, [], [], []),
  (10, 20, 6, 0, 0, 0, [], [], [])]
set_option maxRecDepth 100000 in
noncomputable def sz_h902_0_3 : List sy_Hn := [(0, 31, 0, 0, 0, 0, [], [], []),
  (4, 20, 7, 0, 0, 0, [], [], []),
  (0, 31, 0, 0, 0, 0, [], [], []),
  (4, 20, 7, 0, 0, 0, [], [], []),
  (7, 20, 6, 0, 0, 0, [], [], []),
  (0, 31, 0, 0, 0, 0, [], [], []),
  (4, 20, 7, 0, 0, 0, [], [], []),
  (0, 31, 0, 0, 0, 0, [], [], []),
  (4, 20, 8, 0, 0, 0, [], [], []),
  (7, 20, 5, 0, 0, 0, [], [], []),
  (10, 20, 6, 0, 0, 0, [], [], []),
  (0, 31, 0, 0, 0, 0, [], [], []),
  (4, 20, 7, 0, 0, 0, [], [], []),
  (0, 31, 0, 0, 0, 0, [], [], []),
  (4, 20, 7, 0, 0, 0, [], [], []),
  (7, 20, 6, 0, 0, 0, [], [], []),
  (0, 31, 0, 0, 0, 0, [], [], []),
  (4, 20, 7, 0, 0, 0, [], [], []),
  (0, 31, 0, 0, 0, 0, [], [], []),
  (4, 20, 8, 0, 0, 0, [], [], []),
  (7, 20, 3, 0, 0, 0, [], [], []),
  (10, 20, 4, 0, 0, 0, [], [], []),
  (10, 20, 5, 0, 0, 0, [], [], []),
  (10, 20, 6, 0, 0, 0, [], [], []),
  (0, 31, 0, 0, 0, 0, [], [], []),
  (4, 20, 7, 0, 0, 0, [], [], []),
  (0, 31, 0, 0, 0, 0, [], [], []),
  (4, 20, 7, 0, 0, 0, [], [], []),
  (7, 20, 6, 0, 0, 0, [], [], []),
  (0, 31, 0, 0, 0, 0, [], [], []),
  (4, 20, 7, 0, 0, 0, [], [], []),
  (0, 31, 0, 0, 0, 0, [], [], []),
  (4, 20, 8, 0, 0, 0, [], [], []),
  (7, 20, 5, 0, 0, 0, [], [], []),
  (10, 20, 6, 0, 0, 0, [], [], []),
  (0, 31, 0, 0, 0, 0, [], [], []),
  (4, 20, 7, 0, 0, 0, [], [], []),
  (0, 31, 0, 0, 0, 0, [], [], []),
  (4, 20, 7, 0, 0, 0, [], [], []),
  (7, 20, 6, 0, 0, 0, [], [], []),
  (0, 31, 0, 0, 0, 0, [], [], []),
  (4, 20, 7, 0, 0, 0, [], [], []),
  (0, 31, 0, 0, 0, 0, [], [], []),
  (4, 20, 9, 0, 0, 0, [], [], []),
  (7, 20, 4, 0, 0, 0, [], [], []),
  (10, 20, 5, 0, 0, 0, [], [], []),
  (10, 20, 6, 0, 0, 0, [], [], []),
  (0, 31, 0, 0, 0, 0, [], [], []),
  (4, 20, 7, 0, 0, 0, [], [], []),
  (0, 31, 0, 0, 0, 0, [], [], []),
  (4, 20, 7, 0, 0, 0, [], [], []),
  (7, 20, 6, 0, 0, 0, [], [], []),
  (0, 31, 0, 0, 0, 0, [], [], []),
  (4, 20, 7, 0, 0, 0, [], [], []),
  (0, 31, 0, 0, 0, 0, [], [], []),
  (4, 20, 8, 0, 0, 0, [], [], []),
  (7, 20, 5, 0, 0, 0, [], [], []),
  (10, 20, 6, 0, 0, 0, [], [], []),
  (0, 31, 0, 0, 0, 0, [], [], []),
  (4, 20, 7, 0, 0, 0, [], [], []),
  (0, 31, 0, 0, 0, 0, [], [], []),
  (4, 20, 7, 0, 0, 0, [], [], []),
  (7, 20, 6, 0, 0, 0, [], [], []),
  (0, 31, 0, 0, 0, 0, [], [], []),
  (4, 20, 7, 0, 0, 0, [], [], []),
  (0, 31, 0, 0, 0, 0, [], [], []),
  (4, 20, 8, 0, 0, 0, [], [], []),
  (7, 20, 2, 0, 0, 0, [], [], []),
  (10, 20, 3, 0, 0, 0, [], [], []),
  (10, 20, 4, 0, 0, 0, [], [], []),
  (10, 20, 5, 0, 0, 0, [], [], []),
  (10, 20, 6, 0, 0, 0, [], [], []),
  (0, 31, 0, 0, 0, 0, [], [], []),
  (4, 20, 7, 0, 0, 0, [], [], []),
  (0, 31, 0, 0, 0, 0, [], [], []),
  (4, 20, 7, 0, 0, 0, [], [], []),
  (7, 20, 6, 0, 0, 0, [], [], []),
  (0, 31, 0, 0, 0, 0, [], [], []),
  (4, 20, 7, 0, 0, 0, [], [], []),
  (0, 31, 0, 0, 0, 0, [], [], []),
  (4, 20, 8, 0, 0, 0, [], [], []),
  (7, 20, 5, 0, 0, 0, [], [], []),
  (10, 20, 6, 0, 0, 0, [], [], []),
  (0, 31, 0, 0, 0, 0, [], [], []),
  (4, 20, 7, 0, 0, 0, [], [], []),
  (0, 31, 0, 0, 0, 0, [], [], []),
  (4, 20, 7, 0, 0, 0, [], [], []),
  (7, 20, 6, 0, 0, 0, [], [], []),
  (0, 31, 0, 0, 0, 0, [], [], []),
  (4, 20, 7, 0, 0, 0, [], [], []),
  (0, 31, 0, 0, 0, 0, [], [], []),
  (4, 20, 9, 0, 0, 0, [], [], []),
  (7, 20, 4, 0, 0, 0, [], [], []),
  (10, 20, 5, 0, 0, 0, [], [], []),
  (10, 20, 6, 0, 0, 0, [], [], []),
  (0, 31, 0, 0, 0, 0, [], [], []),
  (4, 20, 7, 0, 0, 0, [], [], []),
  (0, 31, 0, 0, 0, 0, [], [], []),
  (4, 20, 7, 0, 0, 0, [], [], []),
  (7, 20, 6, 0, 0, 0, [], [], []),
  (0, 31, 0, 0, 0, 0, [], [], []),
  (4, 20, 7, 0, 0, 0, [], [], []),
  (0, 31, 0, 0, 0, 0, [], [], []),
  (4, 20, 8, 0, 0, 0, [], [], []),
  (7, 20, 5, 0, 0, 0, [], [], []),
  (10, 20, 6, 0, 0, 0, [], [], []),
  (0, 31, 0, 0, 0, 0, [], [], []),
  (4, 20, 7, 0, 0, 0, [], [], []),
  (0, 31, 0, 0, 0, 0, [], [], []),
  (4, 20, 7, 0, 0, 0, [], [], []),
  (7, 20, 6, 0, 0, 0, [], [], []),
  (0, 31, 0, 0, 0, 0, [], [], []),
  (4, 20, 7, 0, 0, 0, [], [], []),
  (0, 31, 0, 0, 0, 0, [], [], []),
  (4, 20, 8, 0, 0, 0, [], [], []),
  (7, 20, 3, 0, 0, 0, [], [], []),
  (10, 20, 4, 0, 0, 0, [], [], []),
  (10, 20, 5, 0, 0, 0, [], [], []),
  (10, 20, 6, 0, 0, 0, [], [], []),
  (0, 31, 0, 0, 0, 0, [], [], []),
  (4, 20, 7, 0, 0, 0, [], [], []),
  (0, 31, 0, 0, 0, 0, [], [], []),
  (4, 20, 7, 0, 0, 0, [], [], []),
  (7, 20, 6, 0, 0, 0, [], [], []),
  (0, 31, 0, 0, 0, 0, [], [], []),
  (4, 20, 7, 0, 0, 0, [], [], []),
  (0, 31, 0, 0, 0, 0, [], [], []),
  (4, 20, 8, 0, 0, 0, [], [], []),
  (7, 20, 5, 0, 0, 0, [], [], []),
  (10, 20, 6, 0, 0, 0, [], [], []),
  (0, 31, 0, 0, 0, 0, [], [], []),
  (4, 20, 7, 0, 0, 0, [], [], []),
  (0, 31, 0, 0, 0, 0, [], [], []),
  (4, 20, 7, 0, 0, 0, [], [], []),
  (7, 20, 6, 0, 0, 0, [], [], []),
  (0, 31, 0, 0, 0, 0, [], [], []),
  (4, 20, 7, 0, 0, 0, [], [], []),
  (0, 31, 0, 0, 0, 0, [], [], []),
  (4, 20, 9, 0, 0, 0, [], [], []),
  (7, 20, 4, 0, 0, 0, [], [], []),
  (10, 20, 5, 0, 0, 0, [], [], []),
  (10, 20, 6, 0, 0, 0, [], [], []),
  (0, 31, 0, 0, 0, 0, [], [], []),
  (4, 20, 7, 0, 0, 0, [], [], []),
  (0, 31, 0, 0, 0, 0, [], [], []),
  (4, 20, 7, 0, 0, 0, [], [], []),
  (7, 20, 6, 0, 0, 0, [], [], []),
  (0, 31, 0, 0, 0, 0, [], [], []),
  (4, 20, 7, 0, 0, 0, [], [], []),
  (0, 31, 0, 0, 0, 0, [], [], []),
  (4, 20, 8, 0, 0, 0, [], [], []),
  (7, 20, 5, 0, 0, 0, [], [], []),
  (10, 20, 6, 0, 0, 0, [], [], []),
  (0, 31, 0, 0, 0, 0, [], [], []),
  (4, 20, 7, 0, 0, 0, [], [], []),
  (0, 31, 0, 0, 0, 0, [], [], []),
  (4, 20, 7, 0, 0, 0, [], [], []),
  (7, 20, 6, 0, 0, 0, [], [], []),
  (0, 31, 0, 0, 0, 0, [], [], []),
  (4, 20, 7, 0, 0, 0, [], [], []),
  (0, 31, 0, 0, 0, 0, [], [], []),
  (0, 31, 0, 0, 0, 0, [], [], [])]
noncomputable def sz_h902_0 : List sy_Hn := sz_h902_0_0 ++ (sz_h902_0_1 ++ (sz_h902_0_2 ++ (sz_h902_0_3)))
set_option maxRecDepth 100000 in
theorem sz_s902_0 : sy_seg sz_E sz_T sz_RU [sz_c877, sz_c893, sz_c894, sz_c895, sz_c896, sz_c897, sz_c898, sz_c899, sz_c900, sz_c901] sz_c902 sz_u902 ri_m_X4_readLaw 5073 none sz_h902_0 = true := by decide +kernel
theorem sz_ok902 (xs : Nat → Value) (L : Nat) : sy_Cok (sz_env xs L) sz_T sz_RU sz_c902 := sy_chk_ok (CT := [sz_c877, sz_c893, sz_c894, sz_c895, sz_c896, sz_c897, sz_c898, sz_c899, sz_c900, sz_c901]) (CU := sz_u902) (M := ri_m_X4_readLaw) (List.forall_mem_cons.mpr ⟨sz_ok877 xs L, List.forall_mem_cons.mpr ⟨sz_ok893 xs L, List.forall_mem_cons.mpr ⟨sz_ok894 xs L, List.forall_mem_cons.mpr ⟨sz_ok895 xs L, List.forall_mem_cons.mpr ⟨sz_ok896 xs L, List.forall_mem_cons.mpr ⟨sz_ok897 xs L, List.forall_mem_cons.mpr ⟨sz_ok898 xs L, List.forall_mem_cons.mpr ⟨sz_ok899 xs L, List.forall_mem_cons.mpr ⟨sz_ok900 xs L, List.forall_mem_cons.mpr ⟨sz_ok901 xs L, fun _ h => absurd h List.not_mem_nil⟩⟩⟩⟩⟩⟩⟩⟩⟩⟩) rfl rfl ⟨_, _, sz_s902_0⟩ (fun _ h => absurd h List.not_mem_nil)

/-! X4_takes [1, 1000002] -/
set_option maxRecDepth 100000 in
noncomputable def sz_c903 : sy_Ct := (256, 4, 85, [(3, .inr 1, .inl 0), (3, .inr 1000002, .inl 0)], ([(0, 400)], []), [((1, 4), (0, .inr 0, .inl 0))], [], [(1, 4, 5)], [(.inl (some (0, .inr 1, .inl 0)), 0, 0, ([(0, 400), (0, 1), (0, 400)], []), [((1, 4), (0, .inr 2, .inl 0))], [])])
set_option maxRecDepth 100000 in
noncomputable def sz_u903 : List sy_Cut := [(16, [(0, (3, .inr 1, .inl 0)), (1, (3, .inr 1000002, .inl 0)), (2, (0, .inr 1, .inl 0)), (3, (0, .inr 2, .inl 0))], ([(0, 400), (0, 3), (3, 403), (0, 400)], [[(1, [3]), ((-1), [1]), (3, [])], [(1, [1]), ((-1), [3]), ((-3), [])], [(400, []), ((-1), [3]), ((-1), [2])]]), [((1, 4), (0, .inr 3, .inl 0))], [], [(8, []), ((-1), [2])])]
set_option maxRecDepth 100000 in
noncomputable def sz_h903_0 : List sy_Hn := [(6, 20, 0, 0, 0, 0, [], [], []),
  (0, 30, 0, 0, 0, 0, [([], [(1, [0])]), ([], []), ([], [(1, [0]), (1, [2])]), ([], [(1, [0]), (1, [1])]), ([2], [(1, [0]), (1, [2])])], [], []),
  (0, 31, 0, 0, 0, 0, [], [], [])]
set_option maxRecDepth 100000 in
theorem sz_s903_0 : sy_seg sz_E sz_T sz_RU [sz_c850] sz_c903 sz_u903 ri_m_X4_takes 38 none sz_h903_0 = true := by decide +kernel
set_option maxRecDepth 100000 in
noncomputable def sz_h903_1 : List sy_Hn := [(32, 3, 1, 0, 3, 401, [([1], [(1, [0]), (1, [1])]), ([2], [(1, [0]), (1, [4]), (1, [6]), (1, [1])])], [], []),
  (1, 3, 1, 0, 3, 400, [([1], [(1, [0]), (1, [1])]), ([2], [(1, [0]), (1, [4]), (1, [6]), (1, [1])])], [], []),
  (0, 31, 0, 0, 0, 0, [], [], []),
  (0, 31, 0, 0, 0, 0, [], [], []),
  (0, 31, 0, 0, 0, 0, [], [], []),
  (0, 31, 0, 0, 0, 0, [], [], []),
  (0, 31, 0, 0, 0, 0, [], [], []),
  (0, 31, 0, 0, 0, 0, [], [], []),
  (0, 31, 0, 0, 0, 0, [], [], []),
  (10, 3, 8, 0, 0, 399, [([8], [(1, [0]), (1, [1])]), ([4], [(1, [0]), (1, [4]), (1, [6]), (1, [2])])], [], []),
  (0, 30, 0, 0, 0, 0, [([13], [(1, [0]), (1, [2])]), ([], [(1, [0]), (1, [1])]), ([], [(1, [0]), (1, [10])]), ([], [(1, [0]), (1, [11])]), ([8], [(1, [0]), (1, [7]), (1, [4]), (1, [2])])], [], []),
  (0, 31, 0, 0, 0, 0, [], [], [])]
set_option maxRecDepth 100000 in
theorem sz_s903_1 : sy_seg sz_E sz_T sz_RU [sz_c850] sz_c903 sz_u903 ri_m_X4_takes 192 (some ((16, [(0, (3, .inr 1, .inl 0)), (1, (3, .inr 1000002, .inl 0)), (2, (0, .inr 1, .inl 0)), (3, (0, .inr 2, .inl 0))], ([(0, 400), (0, 3), (3, 403), (0, 400)], [[(1, [3]), ((-1), [1]), (3, [])], [(1, [1]), ((-1), [3]), ((-3), [])], [(400, []), ((-1), [3]), ((-1), [2])]]), [((1, 4), (0, .inr 3, .inl 0))], [], [(8, []), ((-1), [2])]))) sz_h903_1 = true := by decide +kernel
theorem sz_ok903 (xs : Nat → Value) (L : Nat) : sy_Cok (sz_env xs L) sz_T sz_RU sz_c903 := sy_chk_ok (CT := [sz_c850]) (CU := sz_u903) (M := ri_m_X4_takes) (List.forall_mem_cons.mpr ⟨sz_ok850 xs L, fun _ h => absurd h List.not_mem_nil⟩) rfl rfl ⟨_, _, sz_s903_0⟩ (List.forall_mem_cons.mpr ⟨⟨_, _, sz_s903_1⟩, fun _ h => absurd h List.not_mem_nil⟩)

/-! X4_takes [1, 1000003] -/
set_option maxRecDepth 100000 in
noncomputable def sz_c904 : sy_Ct := (256, 4, 85, [(3, .inr 1, .inl 0), (3, .inr 1000003, .inl 0)], ([(0, 400)], []), [((1, 4), (0, .inr 0, .inl 0))], [], [(1, 4, 5)], [(.inl (some (0, .inr 1, .inl 0)), 0, 0, ([(0, 400), (0, 1), (0, 400)], []), [((1, 4), (0, .inr 2, .inl 0))], [])])
set_option maxRecDepth 100000 in
noncomputable def sz_u904 : List sy_Cut := [(16, [(0, (3, .inr 1, .inl 0)), (1, (3, .inr 1000003, .inl 0)), (2, (0, .inr 1, .inl 0)), (3, (0, .inr 2, .inl 0))], ([(0, 400), (0, 5), (5, 405), (0, 400)], [[(1, [3]), ((-1), [1]), (5, [])], [(1, [1]), ((-1), [3]), ((-5), [])], [(400, []), ((-1), [3]), ((-1), [2])]]), [((1, 4), (0, .inr 3, .inl 0))], [], [(8, []), ((-1), [2])])]
set_option maxRecDepth 100000 in
noncomputable def sz_h904_0 : List sy_Hn := [(6, 20, 0, 0, 0, 0, [], [], []),
  (0, 30, 0, 0, 0, 0, [([], [(1, [0])]), ([], []), ([], [(1, [0]), (1, [2])]), ([], [(1, [0]), (1, [1])]), ([2], [(1, [0]), (1, [2])])], [], []),
  (0, 31, 0, 0, 0, 0, [], [], [])]
set_option maxRecDepth 100000 in
theorem sz_s904_0 : sy_seg sz_E sz_T sz_RU [sz_c850] sz_c904 sz_u904 ri_m_X4_takes 38 none sz_h904_0 = true := by decide +kernel
set_option maxRecDepth 100000 in
noncomputable def sz_h904_1 : List sy_Hn := [(32, 3, 1, 0, 5, 401, [([1], [(1, [0]), (1, [1])]), ([2], [(1, [0]), (1, [4]), (1, [6]), (1, [1])])], [], []),
  (1, 3, 1, 0, 5, 400, [([1], [(1, [0]), (1, [1])]), ([2], [(1, [0]), (1, [4]), (1, [6]), (1, [1])])], [], []),
  (0, 31, 0, 0, 0, 0, [], [], []),
  (0, 31, 0, 0, 0, 0, [], [], []),
  (0, 31, 0, 0, 0, 0, [], [], []),
  (0, 31, 0, 0, 0, 0, [], [], []),
  (0, 31, 0, 0, 0, 0, [], [], []),
  (0, 31, 0, 0, 0, 0, [], [], []),
  (0, 31, 0, 0, 0, 0, [], [], []),
  (10, 3, 8, 0, 0, 399, [([8], [(1, [0]), (1, [1])]), ([4], [(1, [0]), (1, [4]), (1, [6]), (1, [2])])], [], []),
  (0, 30, 0, 0, 0, 0, [([13], [(1, [0]), (1, [2])]), ([], [(1, [0]), (1, [1])]), ([], [(1, [0]), (1, [10])]), ([], [(1, [0]), (1, [11])]), ([8], [(1, [0]), (1, [7]), (1, [4]), (1, [2])])], [], []),
  (0, 31, 0, 0, 0, 0, [], [], [])]
set_option maxRecDepth 100000 in
theorem sz_s904_1 : sy_seg sz_E sz_T sz_RU [sz_c850] sz_c904 sz_u904 ri_m_X4_takes 192 (some ((16, [(0, (3, .inr 1, .inl 0)), (1, (3, .inr 1000003, .inl 0)), (2, (0, .inr 1, .inl 0)), (3, (0, .inr 2, .inl 0))], ([(0, 400), (0, 5), (5, 405), (0, 400)], [[(1, [3]), ((-1), [1]), (5, [])], [(1, [1]), ((-1), [3]), ((-5), [])], [(400, []), ((-1), [3]), ((-1), [2])]]), [((1, 4), (0, .inr 3, .inl 0))], [], [(8, []), ((-1), [2])]))) sz_h904_1 = true := by decide +kernel
theorem sz_ok904 (xs : Nat → Value) (L : Nat) : sy_Cok (sz_env xs L) sz_T sz_RU sz_c904 := sy_chk_ok (CT := [sz_c850]) (CU := sz_u904) (M := ri_m_X4_takes) (List.forall_mem_cons.mpr ⟨sz_ok850 xs L, fun _ h => absurd h List.not_mem_nil⟩) rfl rfl ⟨_, _, sz_s904_0⟩ (List.forall_mem_cons.mpr ⟨⟨_, _, sz_s904_1⟩, fun _ h => absurd h List.not_mem_nil⟩)

/-! X4_takes [1, 1000004] -/
set_option maxRecDepth 100000 in
noncomputable def sz_c905 : sy_Ct := (256, 4, 85, [(3, .inr 1, .inl 0), (3, .inr 1000004, .inl 0)], ([(0, 400)], []), [((1, 4), (0, .inr 0, .inl 0))], [], [(1, 4, 5)], [(.inl (some (0, .inr 1, .inl 0)), 0, 0, ([(0, 400), (0, 1), (0, 400)], []), [((1, 4), (0, .inr 2, .inl 0))], [])])
set_option maxRecDepth 100000 in
noncomputable def sz_u905 : List sy_Cut := [(16, [(0, (3, .inr 1, .inl 0)), (1, (3, .inr 1000004, .inl 0)), (2, (0, .inr 1, .inl 0)), (3, (0, .inr 2, .inl 0))], ([(0, 400), (0, 4), (4, 404), (0, 400)], [[(1, [3]), ((-1), [1]), (4, [])], [(1, [1]), ((-1), [3]), ((-4), [])], [(400, []), ((-1), [3]), ((-1), [2])]]), [((1, 4), (0, .inr 3, .inl 0))], [], [(8, []), ((-1), [2])])]
set_option maxRecDepth 100000 in
noncomputable def sz_h905_0 : List sy_Hn := [(6, 20, 0, 0, 0, 0, [], [], []),
  (0, 30, 0, 0, 0, 0, [([], [(1, [0])]), ([], []), ([], [(1, [0]), (1, [2])]), ([], [(1, [0]), (1, [1])]), ([2], [(1, [0]), (1, [2])])], [], []),
  (0, 31, 0, 0, 0, 0, [], [], [])]
set_option maxRecDepth 100000 in
theorem sz_s905_0 : sy_seg sz_E sz_T sz_RU [sz_c850] sz_c905 sz_u905 ri_m_X4_takes 38 none sz_h905_0 = true := by decide +kernel
set_option maxRecDepth 100000 in
noncomputable def sz_h905_1 : List sy_Hn := [(32, 3, 1, 0, 4, 401, [([1], [(1, [0]), (1, [1])]), ([2], [(1, [0]), (1, [4]), (1, [6]), (1, [1])])], [], []),
  (1, 3, 1, 0, 4, 400, [([1], [(1, [0]), (1, [1])]), ([2], [(1, [0]), (1, [4]), (1, [6]), (1, [1])])], [], []),
  (0, 31, 0, 0, 0, 0, [], [], []),
  (0, 31, 0, 0, 0, 0, [], [], []),
  (0, 31, 0, 0, 0, 0, [], [], []),
  (0, 31, 0, 0, 0, 0, [], [], []),
  (0, 31, 0, 0, 0, 0, [], [], []),
  (0, 31, 0, 0, 0, 0, [], [], []),
  (0, 31, 0, 0, 0, 0, [], [], []),
  (10, 3, 8, 0, 0, 399, [([8], [(1, [0]), (1, [1])]), ([4], [(1, [0]), (1, [4]), (1, [6]), (1, [2])])], [], []),
  (0, 30, 0, 0, 0, 0, [([13], [(1, [0]), (1, [2])]), ([], [(1, [0]), (1, [1])]), ([], [(1, [0]), (1, [10])]), ([], [(1, [0]), (1, [11])]), ([8], [(1, [0]), (1, [7]), (1, [4]), (1, [2])])], [], []),
  (0, 31, 0, 0, 0, 0, [], [], [])]
set_option maxRecDepth 100000 in
theorem sz_s905_1 : sy_seg sz_E sz_T sz_RU [sz_c850] sz_c905 sz_u905 ri_m_X4_takes 192 (some ((16, [(0, (3, .inr 1, .inl 0)), (1, (3, .inr 1000004, .inl 0)), (2, (0, .inr 1, .inl 0)), (3, (0, .inr 2, .inl 0))], ([(0, 400), (0, 4), (4, 404), (0, 400)], [[(1, [3]), ((-1), [1]), (4, [])], [(1, [1]), ((-1), [3]), ((-4), [])], [(400, []), ((-1), [3]), ((-1), [2])]]), [((1, 4), (0, .inr 3, .inl 0))], [], [(8, []), ((-1), [2])]))) sz_h905_1 = true := by decide +kernel
theorem sz_ok905 (xs : Nat → Value) (L : Nat) : sy_Cok (sz_env xs L) sz_T sz_RU sz_c905 := sy_chk_ok (CT := [sz_c850]) (CU := sz_u905) (M := ri_m_X4_takes) (List.forall_mem_cons.mpr ⟨sz_ok850 xs L, fun _ h => absurd h List.not_mem_nil⟩) rfl rfl ⟨_, _, sz_s905_0⟩ (List.forall_mem_cons.mpr ⟨⟨_, _, sz_s905_1⟩, fun _ h => absurd h List.not_mem_nil⟩)

/-! X4_need [1, 1000004] -/
set_option maxRecDepth 100000 in
noncomputable def sz_c906 : sy_Ct := (291, 5, 108, [(3, .inr 1, .inl 0), (3, .inr 1000004, .inl 0)], ([(0, 400)], []), [((1, 4), (0, .inr 0, .inl 0))], [], [(1, 4, 6)], [(.inl none, 0, 0, ([(0, 400), (0, 400)], []), [((1, 4), (0, .inr 1, .inl 0))], [])])
set_option maxRecDepth 100000 in
noncomputable def sz_u906 : List sy_Cut := []
set_option maxRecDepth 100000 in
noncomputable def sz_h906_0 : List sy_Hn := [(3, 20, 0, 0, 0, 0, [], [], []),
  (0, 31, 0, 0, 0, 0, [], [], []),
  (0, 31, 0, 0, 0, 0, [], [], []),
  (0, 31, 0, 0, 0, 0, [], [], [])]
set_option maxRecDepth 100000 in
theorem sz_s906_0 : sy_seg sz_E sz_T sz_RU [sz_c905] sz_c906 sz_u906 ri_m_X4_need 29 none sz_h906_0 = true := by decide +kernel
theorem sz_ok906 (xs : Nat → Value) (L : Nat) : sy_Cok (sz_env xs L) sz_T sz_RU sz_c906 := sy_chk_ok (CT := [sz_c905]) (CU := sz_u906) (M := ri_m_X4_need) (List.forall_mem_cons.mpr ⟨sz_ok905 xs L, fun _ h => absurd h List.not_mem_nil⟩) rfl rfl ⟨_, _, sz_s906_0⟩ (fun _ h => absurd h List.not_mem_nil)

/-! X4_readKind [1] -/
set_option maxRecDepth 100000 in
noncomputable def sz_c907 : sy_Ct := (289, 6, 129, [(3, .inr 1, .inl 0)], ([(0, 400)], []), [((1, 4), (0, .inr 0, .inl 0))], [], [(1, 4, 6)], [(.inl (some (0, .inr 1, .inl 0)), 0, 0, ([(0, 400), (0, 2), (0, 400)], []), [((1, 4), (0, .inr 2, .inl 0))], [])])
set_option maxRecDepth 100000 in
noncomputable def sz_u907 : List sy_Cut := []
set_option maxRecDepth 100000 in
noncomputable def sz_h907_0 : List sy_Hn := [(3, 20, 0, 0, 0, 0, [], [], []),
  (4, 20, 1, 0, 0, 0, [], [], []),
  (4, 20, 2, 0, 0, 0, [], [], []),
  (0, 31, 0, 0, 0, 0, [], [], []),
  (0, 31, 0, 0, 0, 0, [], [], []),
  (0, 31, 0, 0, 0, 0, [], [], [])]
set_option maxRecDepth 100000 in
theorem sz_s907_0 : sy_seg sz_E sz_T sz_RU [sz_c903, sz_c904, sz_c906] sz_c907 sz_u907 ri_m_X4_readKind 28 none sz_h907_0 = true := by decide +kernel
theorem sz_ok907 (xs : Nat → Value) (L : Nat) : sy_Cok (sz_env xs L) sz_T sz_RU sz_c907 := sy_chk_ok (CT := [sz_c903, sz_c904, sz_c906]) (CU := sz_u907) (M := ri_m_X4_readKind) (List.forall_mem_cons.mpr ⟨sz_ok903 xs L, List.forall_mem_cons.mpr ⟨sz_ok904 xs L, List.forall_mem_cons.mpr ⟨sz_ok906 xs L, fun _ h => absurd h List.not_mem_nil⟩⟩⟩) rfl rfl ⟨_, _, sz_s907_0⟩ (fun _ h => absurd h List.not_mem_nil)

/-! X4_takes [1, 1000005] -/
set_option maxRecDepth 100000 in
noncomputable def sz_c908 : sy_Ct := (256, 4, 85, [(3, .inr 1, .inl 0), (3, .inr 1000005, .inl 0)], ([(0, 400)], []), [((1, 4), (0, .inr 0, .inl 0))], [], [(1, 4, 5)], [(.inl (some (0, .inr 1, .inl 0)), 0, 0, ([(0, 400), (0, 1), (0, 400)], []), [((1, 4), (0, .inr 2, .inl 0))], [])])
set_option maxRecDepth 100000 in
noncomputable def sz_u908 : List sy_Cut := [(16, [(0, (3, .inr 1, .inl 0)), (1, (3, .inr 1000005, .inl 0)), (2, (0, .inr 1, .inl 0)), (3, (0, .inr 2, .inl 0))], ([(0, 400), (0, 4), (4, 404), (0, 400)], [[(1, [3]), ((-1), [1]), (4, [])], [(1, [1]), ((-1), [3]), ((-4), [])], [(400, []), ((-1), [3]), ((-1), [2])]]), [((1, 4), (0, .inr 3, .inl 0))], [], [(8, []), ((-1), [2])])]
set_option maxRecDepth 100000 in
noncomputable def sz_h908_0 : List sy_Hn := [(6, 20, 0, 0, 0, 0, [], [], []),
  (0, 30, 0, 0, 0, 0, [([], [(1, [0])]), ([], []), ([], [(1, [0]), (1, [2])]), ([], [(1, [0]), (1, [1])]), ([2], [(1, [0]), (1, [2])])], [], []),
  (0, 31, 0, 0, 0, 0, [], [], [])]
set_option maxRecDepth 100000 in
theorem sz_s908_0 : sy_seg sz_E sz_T sz_RU [sz_c850] sz_c908 sz_u908 ri_m_X4_takes 38 none sz_h908_0 = true := by decide +kernel
set_option maxRecDepth 100000 in
noncomputable def sz_h908_1 : List sy_Hn := [(32, 3, 1, 0, 4, 401, [([1], [(1, [0]), (1, [1])]), ([2], [(1, [0]), (1, [4]), (1, [6]), (1, [1])])], [], []),
  (1, 3, 1, 0, 4, 400, [([1], [(1, [0]), (1, [1])]), ([2], [(1, [0]), (1, [4]), (1, [6]), (1, [1])])], [], []),
  (0, 31, 0, 0, 0, 0, [], [], []),
  (0, 31, 0, 0, 0, 0, [], [], []),
  (0, 31, 0, 0, 0, 0, [], [], []),
  (0, 31, 0, 0, 0, 0, [], [], []),
  (0, 31, 0, 0, 0, 0, [], [], []),
  (0, 31, 0, 0, 0, 0, [], [], []),
  (0, 31, 0, 0, 0, 0, [], [], []),
  (10, 3, 8, 0, 0, 399, [([8], [(1, [0]), (1, [1])]), ([4], [(1, [0]), (1, [4]), (1, [6]), (1, [2])])], [], []),
  (0, 30, 0, 0, 0, 0, [([13], [(1, [0]), (1, [2])]), ([], [(1, [0]), (1, [1])]), ([], [(1, [0]), (1, [10])]), ([], [(1, [0]), (1, [11])]), ([8], [(1, [0]), (1, [7]), (1, [4]), (1, [2])])], [], []),
  (0, 31, 0, 0, 0, 0, [], [], [])]
set_option maxRecDepth 100000 in
theorem sz_s908_1 : sy_seg sz_E sz_T sz_RU [sz_c850] sz_c908 sz_u908 ri_m_X4_takes 192 (some ((16, [(0, (3, .inr 1, .inl 0)), (1, (3, .inr 1000005, .inl 0)), (2, (0, .inr 1, .inl 0)), (3, (0, .inr 2, .inl 0))], ([(0, 400), (0, 4), (4, 404), (0, 400)], [[(1, [3]), ((-1), [1]), (4, [])], [(1, [1]), ((-1), [3]), ((-4), [])], [(400, []), ((-1), [3]), ((-1), [2])]]), [((1, 4), (0, .inr 3, .inl 0))], [], [(8, []), ((-1), [2])]))) sz_h908_1 = true := by decide +kernel
theorem sz_ok908 (xs : Nat → Value) (L : Nat) : sy_Cok (sz_env xs L) sz_T sz_RU sz_c908 := sy_chk_ok (CT := [sz_c850]) (CU := sz_u908) (M := ri_m_X4_takes) (List.forall_mem_cons.mpr ⟨sz_ok850 xs L, fun _ h => absurd h List.not_mem_nil⟩) rfl rfl ⟨_, _, sz_s908_0⟩ (List.forall_mem_cons.mpr ⟨⟨_, _, sz_s908_1⟩, fun _ h => absurd h List.not_mem_nil⟩)

/-! X4_need [1, 1000005] -/
set_option maxRecDepth 100000 in
noncomputable def sz_c909 : sy_Ct := (291, 5, 108, [(3, .inr 1, .inl 0), (3, .inr 1000005, .inl 0)], ([(0, 400)], []), [((1, 4), (0, .inr 0, .inl 0))], [], [(1, 4, 6)], [(.inl none, 0, 0, ([(0, 400), (0, 400)], []), [((1, 4), (0, .inr 1, .inl 0))], [])])
set_option maxRecDepth 100000 in
noncomputable def sz_u909 : List sy_Cut := []
set_option maxRecDepth 100000 in
noncomputable def sz_h909_0 : List sy_Hn := [(3, 20, 0, 0, 0, 0, [], [], []),
  (0, 31, 0, 0, 0, 0, [], [], []),
  (0, 31, 0, 0, 0, 0, [], [], []),
  (0, 31, 0, 0, 0, 0, [], [], [])]
set_option maxRecDepth 100000 in
theorem sz_s909_0 : sy_seg sz_E sz_T sz_RU [sz_c908] sz_c909 sz_u909 ri_m_X4_need 29 none sz_h909_0 = true := by decide +kernel
theorem sz_ok909 (xs : Nat → Value) (L : Nat) : sy_Cok (sz_env xs L) sz_T sz_RU sz_c909 := sy_chk_ok (CT := [sz_c908]) (CU := sz_u909) (M := ri_m_X4_need) (List.forall_mem_cons.mpr ⟨sz_ok908 xs L, fun _ h => absurd h List.not_mem_nil⟩) rfl rfl ⟨_, _, sz_s909_0⟩ (fun _ h => absurd h List.not_mem_nil)

/-! X4_numberBehind [1, 1000005, 999] -/
set_option maxRecDepth 100000 in
noncomputable def sz_c910 : sy_Ct := (290, 6, 129, [(3, .inr 1, .inl 0), (3, .inr 1000005, .inl 0), (0, .inl 999, .inl 0)], ([(0, 400)], []), [((1, 4), (0, .inr 0, .inl 0))], [], [(1, 4, 6)], [(.inl (some (0, .inr 1, .inl 0)), 0, 0, ([(0, 400), (0, 999), (0, 400)], []), [((1, 4), (0, .inr 2, .inl 0))], [])])
set_option maxRecDepth 100000 in
noncomputable def sz_u910 : List sy_Cut := []
set_option maxRecDepth 100000 in
noncomputable def sz_h910_0 : List sy_Hn := [(3, 20, 1, 0, 0, 0, [], [], []),
  (4, 20, 0, 0, 0, 0, [], [], []),
  (0, 31, 0, 0, 0, 0, [], [], [])]
set_option maxRecDepth 100000 in
theorem sz_s910_0 : sy_seg sz_E sz_T sz_RU [sz_c878, sz_c909] sz_c910 sz_u910 ri_m_X4_numberBehind 16 none sz_h910_0 = true := by decide +kernel
theorem sz_ok910 (xs : Nat → Value) (L : Nat) : sy_Cok (sz_env xs L) sz_T sz_RU sz_c910 := sy_chk_ok (CT := [sz_c878, sz_c909]) (CU := sz_u910) (M := ri_m_X4_numberBehind) (List.forall_mem_cons.mpr ⟨sz_ok878 xs L, List.forall_mem_cons.mpr ⟨sz_ok909 xs L, fun _ h => absurd h List.not_mem_nil⟩⟩) rfl rfl ⟨_, _, sz_s910_0⟩ (fun _ h => absurd h List.not_mem_nil)

/-! X4_takes [1, 1000006] -/
set_option maxRecDepth 100000 in
noncomputable def sz_c911 : sy_Ct := (256, 4, 85, [(3, .inr 1, .inl 0), (3, .inr 1000006, .inl 0)], ([(0, 400)], []), [((1, 4), (0, .inr 0, .inl 0))], [], [(1, 4, 5)], [(.inl (some (0, .inr 1, .inl 0)), 0, 0, ([(0, 400), (0, 1), (0, 400)], []), [((1, 4), (0, .inr 2, .inl 0))], [])])
set_option maxRecDepth 100000 in
noncomputable def sz_u911 : List sy_Cut := [(16, [(0, (3, .inr 1, .inl 0)), (1, (3, .inr 1000006, .inl 0)), (2, (0, .inr 1, .inl 0)), (3, (0, .inr 2, .inl 0))], ([(0, 400), (0, 3), (3, 403), (0, 400)], [[(1, [3]), ((-1), [1]), (3, [])], [(1, [1]), ((-1), [3]), ((-3), [])], [(400, []), ((-1), [3]), ((-1), [2])]]), [((1, 4), (0, .inr 3, .inl 0))], [], [(8, []), ((-1), [2])])]
set_option maxRecDepth 100000 in
noncomputable def sz_h911_0 : List sy_Hn := [(6, 20, 0, 0, 0, 0, [], [], []),
  (0, 30, 0, 0, 0, 0, [([], [(1, [0])]), ([], []), ([], [(1, [0]), (1, [2])]), ([], [(1, [0]), (1, [1])]), ([2], [(1, [0]), (1, [2])])], [], []),
  (0, 31, 0, 0, 0, 0, [], [], [])]
set_option maxRecDepth 100000 in
theorem sz_s911_0 : sy_seg sz_E sz_T sz_RU [sz_c850] sz_c911 sz_u911 ri_m_X4_takes 38 none sz_h911_0 = true := by decide +kernel
set_option maxRecDepth 100000 in
noncomputable def sz_h911_1 : List sy_Hn := [(32, 3, 1, 0, 3, 401, [([1], [(1, [0]), (1, [1])]), ([2], [(1, [0]), (1, [4]), (1, [6]), (1, [1])])], [], []),
  (1, 3, 1, 0, 3, 400, [([1], [(1, [0]), (1, [1])]), ([2], [(1, [0]), (1, [4]), (1, [6]), (1, [1])])], [], []),
  (0, 31, 0, 0, 0, 0, [], [], []),
  (0, 31, 0, 0, 0, 0, [], [], []),
  (0, 31, 0, 0, 0, 0, [], [], []),
  (0, 31, 0, 0, 0, 0, [], [], []),
  (0, 31, 0, 0, 0, 0, [], [], []),
  (0, 31, 0, 0, 0, 0, [], [], []),
  (0, 31, 0, 0, 0, 0, [], [], []),
  (10, 3, 8, 0, 0, 399, [([8], [(1, [0]), (1, [1])]), ([4], [(1, [0]), (1, [4]), (1, [6]), (1, [2])])], [], []),
  (0, 30, 0, 0, 0, 0, [([13], [(1, [0]), (1, [2])]), ([], [(1, [0]), (1, [1])]), ([], [(1, [0]), (1, [10])]), ([], [(1, [0]), (1, [11])]), ([8], [(1, [0]), (1, [7]), (1, [4]), (1, [2])])], [], []),
  (0, 31, 0, 0, 0, 0, [], [], [])]
set_option maxRecDepth 100000 in
theorem sz_s911_1 : sy_seg sz_E sz_T sz_RU [sz_c850] sz_c911 sz_u911 ri_m_X4_takes 192 (some ((16, [(0, (3, .inr 1, .inl 0)), (1, (3, .inr 1000006, .inl 0)), (2, (0, .inr 1, .inl 0)), (3, (0, .inr 2, .inl 0))], ([(0, 400), (0, 3), (3, 403), (0, 400)], [[(1, [3]), ((-1), [1]), (3, [])], [(1, [1]), ((-1), [3]), ((-3), [])], [(400, []), ((-1), [3]), ((-1), [2])]]), [((1, 4), (0, .inr 3, .inl 0))], [], [(8, []), ((-1), [2])]))) sz_h911_1 = true := by decide +kernel
theorem sz_ok911 (xs : Nat → Value) (L : Nat) : sy_Cok (sz_env xs L) sz_T sz_RU sz_c911 := sy_chk_ok (CT := [sz_c850]) (CU := sz_u911) (M := ri_m_X4_takes) (List.forall_mem_cons.mpr ⟨sz_ok850 xs L, fun _ h => absurd h List.not_mem_nil⟩) rfl rfl ⟨_, _, sz_s911_0⟩ (List.forall_mem_cons.mpr ⟨⟨_, _, sz_s911_1⟩, fun _ h => absurd h List.not_mem_nil⟩)

/-! X4_need [1, 1000006] -/
set_option maxRecDepth 100000 in
noncomputable def sz_c912 : sy_Ct := (291, 5, 108, [(3, .inr 1, .inl 0), (3, .inr 1000006, .inl 0)], ([(0, 400)], []), [((1, 4), (0, .inr 0, .inl 0))], [], [(1, 4, 6)], [(.inl none, 0, 0, ([(0, 400), (0, 400)], []), [((1, 4), (0, .inr 1, .inl 0))], [])])
set_option maxRecDepth 100000 in
noncomputable def sz_u912 : List sy_Cut := []
set_option maxRecDepth 100000 in
noncomputable def sz_h912_0 : List sy_Hn := [(3, 20, 0, 0, 0, 0, [], [], []),
  (0, 31, 0, 0, 0, 0, [], [], []),
  (0, 31, 0, 0, 0, 0, [], [], []),
  (0, 31, 0, 0, 0, 0, [], [], [])]
set_option maxRecDepth 100000 in
theorem sz_s912_0 : sy_seg sz_E sz_T sz_RU [sz_c911] sz_c912 sz_u912 ri_m_X4_need 29 none sz_h912_0 = true := by decide +kernel
theorem sz_ok912 (xs : Nat → Value) (L : Nat) : sy_Cok (sz_env xs L) sz_T sz_RU sz_c912 := sy_chk_ok (CT := [sz_c911]) (CU := sz_u912) (M := ri_m_X4_need) (List.forall_mem_cons.mpr ⟨sz_ok911 xs L, fun _ h => absurd h List.not_mem_nil⟩) rfl rfl ⟨_, _, sz_s912_0⟩ (fun _ h => absurd h List.not_mem_nil)

/-! X4_numberBehind [1, 1000006, 8] -/
set_option maxRecDepth 100000 in
noncomputable def sz_c913 : sy_Ct := (290, 6, 129, [(3, .inr 1, .inl 0), (3, .inr 1000006, .inl 0), (0, .inl 8, .inl 0)], ([(0, 400)], []), [((1, 4), (0, .inr 0, .inl 0))], [], [(1, 4, 6)], [(.inl (some (0, .inr 1, .inl 0)), 0, 0, ([(0, 400), (0, 8), (0, 400)], []), [((1, 4), (0, .inr 2, .inl 0))], [])])
set_option maxRecDepth 100000 in
noncomputable def sz_u913 : List sy_Cut := []
set_option maxRecDepth 100000 in
noncomputable def sz_h913_0 : List sy_Hn := [(3, 20, 1, 0, 0, 0, [], [], []),
  (4, 20, 0, 0, 0, 0, [], [], []),
  (0, 31, 0, 0, 0, 0, [], [], [])]
set_option maxRecDepth 100000 in
theorem sz_s913_0 : sy_seg sz_E sz_T sz_RU [sz_c901, sz_c912] sz_c913 sz_u913 ri_m_X4_numberBehind 16 none sz_h913_0 = true := by decide +kernel
theorem sz_ok913 (xs : Nat → Value) (L : Nat) : sy_Cok (sz_env xs L) sz_T sz_RU sz_c913 := sy_chk_ok (CT := [sz_c901, sz_c912]) (CU := sz_u913) (M := ri_m_X4_numberBehind) (List.forall_mem_cons.mpr ⟨sz_ok901 xs L, List.forall_mem_cons.mpr ⟨sz_ok912 xs L, fun _ h => absurd h List.not_mem_nil⟩⟩) rfl rfl ⟨_, _, sz_s913_0⟩ (fun _ h => absurd h List.not_mem_nil)

/-! X4_takes [1, 1000007] -/
set_option maxRecDepth 100000 in
noncomputable def sz_c914 : sy_Ct := (256, 4, 85, [(3, .inr 1, .inl 0), (3, .inr 1000007, .inl 0)], ([(0, 400)], []), [((1, 4), (0, .inr 0, .inl 0))], [], [(1, 4, 5)], [(.inl (some (0, .inr 1, .inl 0)), 0, 0, ([(0, 400), (0, 1), (0, 400)], []), [((1, 4), (0, .inr 2, .inl 0))], [])])
set_option maxRecDepth 100000 in
noncomputable def sz_u914 : List sy_Cut := [(16, [(0, (3, .inr 1, .inl 0)), (1, (3, .inr 1000007, .inl 0)), (2, (0, .inr 1, .inl 0)), (3, (0, .inr 2, .inl 0))], ([(0, 400), (0, 3), (3, 403), (0, 400)], [[(1, [3]), ((-1), [1]), (3, [])], [(1, [1]), ((-1), [3]), ((-3), [])], [(400, []), ((-1), [3]), ((-1), [2])]]), [((1, 4), (0, .inr 3, .inl 0))], [], [(8, []), ((-1), [2])])]
set_option maxRecDepth 100000 in
noncomputable def sz_h914_0 : List sy_Hn := [(6, 20, 0, 0, 0, 0, [], [], []),
  (0, 30, 0, 0, 0, 0, [([], [(1, [0])]), ([], []), ([], [(1, [0]), (1, [2])]), ([], [(1, [0]), (1, [1])]), ([2], [(1, [0]), (1, [2])])], [], []),
  (0, 31, 0, 0, 0, 0, [], [], [])]
set_option maxRecDepth 100000 in
theorem sz_s914_0 : sy_seg sz_E sz_T sz_RU [sz_c850] sz_c914 sz_u914 ri_m_X4_takes 38 none sz_h914_0 = true := by decide +kernel
set_option maxRecDepth 100000 in
noncomputable def sz_h914_1 : List sy_Hn := [(32, 3, 1, 0, 3, 401, [([1], [(1, [0]), (1, [1])]), ([2], [(1, [0]), (1, [4]), (1, [6]), (1, [1])])], [], []),
  (1, 3, 1, 0, 3, 400, [([1], [(1, [0]), (1, [1])]), ([2], [(1, [0]), (1, [4]), (1, [6]), (1, [1])])], [], []),
  (0, 31, 0, 0, 0, 0, [], [], []),
  (0, 31, 0, 0, 0, 0, [], [], []),
  (0, 31, 0, 0, 0, 0, [], [], []),
  (0, 31, 0, 0, 0, 0, [], [], []),
  (0, 31, 0, 0, 0, 0, [], [], []),
  (0, 31, 0, 0, 0, 0, [], [], []),
  (0, 31, 0, 0, 0, 0, [], [], []),
  (10, 3, 8, 0, 0, 399, [([8], [(1, [0]), (1, [1])]), ([4], [(1, [0]), (1, [4]), (1, [6]), (1, [2])])], [], []),
  (0, 30, 0, 0, 0, 0, [([13], [(1, [0]), (1, [2])]), ([], [(1, [0]), (1, [1])]), ([], [(1, [0]), (1, [10])]), ([], [(1, [0]), (1, [11])]), ([8], [(1, [0]), (1, [7]), (1, [4]), (1, [2])])], [], []),
  (0, 31, 0, 0, 0, 0, [], [], [])]
set_option maxRecDepth 100000 in
theorem sz_s914_1 : sy_seg sz_E sz_T sz_RU [sz_c850] sz_c914 sz_u914 ri_m_X4_takes 192 (some ((16, [(0, (3, .inr 1, .inl 0)), (1, (3, .inr 1000007, .inl 0)), (2, (0, .inr 1, .inl 0)), (3, (0, .inr 2, .inl 0))], ([(0, 400), (0, 3), (3, 403), (0, 400)], [[(1, [3]), ((-1), [1]), (3, [])], [(1, [1]), ((-1), [3]), ((-3), [])], [(400, []), ((-1), [3]), ((-1), [2])]]), [((1, 4), (0, .inr 3, .inl 0))], [], [(8, []), ((-1), [2])]))) sz_h914_1 = true := by decide +kernel
theorem sz_ok914 (xs : Nat → Value) (L : Nat) : sy_Cok (sz_env xs L) sz_T sz_RU sz_c914 := sy_chk_ok (CT := [sz_c850]) (CU := sz_u914) (M := ri_m_X4_takes) (List.forall_mem_cons.mpr ⟨sz_ok850 xs L, fun _ h => absurd h List.not_mem_nil⟩) rfl rfl ⟨_, _, sz_s914_0⟩ (List.forall_mem_cons.mpr ⟨⟨_, _, sz_s914_1⟩, fun _ h => absurd h List.not_mem_nil⟩)

/-! X4_need [1, 1000007] -/
set_option maxRecDepth 100000 in
noncomputable def sz_c915 : sy_Ct := (291, 5, 108, [(3, .inr 1, .inl 0), (3, .inr 1000007, .inl 0)], ([(0, 400)], []), [((1, 4), (0, .inr 0, .inl 0))], [], [(1, 4, 6)], [(.inl none, 0, 0, ([(0, 400), (0, 400)], []), [((1, 4), (0, .inr 1, .inl 0))], [])])
set_option maxRecDepth 100000 in
noncomputable def sz_u915 : List sy_Cut := []
set_option maxRecDepth 100000 in
noncomputable def sz_h915_0 : List sy_Hn := [(3, 20, 0, 0, 0, 0, [], [], []),
  (0, 31, 0, 0, 0, 0, [], [], []),
  (0, 31, 0, 0, 0, 0, [], [], []),
  (0, 31, 0, 0, 0, 0, [], [], [])]
set_option maxRecDepth 100000 in
theorem sz_s915_0 : sy_seg sz_E sz_T sz_RU [sz_c914] sz_c915 sz_u915 ri_m_X4_need 29 none sz_h915_0 = true := by decide +kernel
theorem sz_ok915 (xs : Nat → Value) (L : Nat) : sy_Cok (sz_env xs L) sz_T sz_RU sz_c915 := sy_chk_ok (CT := [sz_c914]) (CU := sz_u915) (M := ri_m_X4_need) (List.forall_mem_cons.mpr ⟨sz_ok914 xs L, fun _ h => absurd h List.not_mem_nil⟩) rfl rfl ⟨_, _, sz_s915_0⟩ (fun _ h => absurd h List.not_mem_nil)
