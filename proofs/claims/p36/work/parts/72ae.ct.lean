/-! ===== the survey: contracts 77 to 136 ===== -/
/-! X11_onePlant [244, 2] -/
set_option maxRecDepth 100000 in
noncomputable def sz_c77 : sy_Ct := (167, 3, 76, [(3, .inr 244, .inl 0), (0, .inl 2, .inl 0)], ([(3, 4)], []), [((245, 0), (1, .inr 0, .inl 0))], [], [(245, 206, 207), (245, 211, 219)], [(.inl none, 0, 0, ([(3, 4)], []), [], [])])
set_option maxRecDepth 100000 in
noncomputable def sz_u77 : List sy_Cut := []
set_option maxRecDepth 100000 in
noncomputable def sz_h77_0 : List sy_Hn := [(3, 20, 0, 0, 0, 0, [], [], []),
  (415, 1, 1, 0, 0, 0, [], [], []),
  (0, 31, 0, 0, 0, 0, [], [], []),
  (0, 31, 0, 0, 0, 0, [], [], []),
  (0, 31, 0, 0, 0, 0, [], [], []),
  (0, 31, 0, 0, 0, 0, [], [], []),
  (0, 31, 0, 0, 0, 0, [], [], []),
  (0, 31, 0, 0, 0, 0, [], [], []),
  (0, 31, 0, 0, 0, 0, [], [], []),
  (0, 31, 0, 0, 0, 0, [], [], []),
  (0, 31, 0, 0, 0, 0, [], [], []),
  (0, 1, 1, 0, 1, 0, [], [], []),
  (0, 31, 0, 0, 0, 0, [], [], []),
  (0, 31, 0, 0, 0, 0, [], [], []),
  (0, 31, 0, 0, 0, 0, [], [], []),
  (0, 31, 0, 0, 0, 0, [], [], []),
  (0, 31, 0, 0, 0, 0, [], [], []),
  (0, 31, 0, 0, 0, 0, [], [], []),
  (0, 31, 0, 0, 0, 0, [], [], []),
  (0, 31, 0, 0, 0, 0, [], [], []),
  (0, 31, 0, 0, 0, 0, [], [], []),
  (0, 1, 1, 0, 2, 0, [], [], []),
  (0, 31, 0, 0, 0, 0, [], [], []),
  (0, 31, 0, 0, 0, 0, [], [], []),
  (0, 31, 0, 0, 0, 0, [], [], []),
  (0, 31, 0, 0, 0, 0, [], [], []),
  (0, 31, 0, 0, 0, 0, [], [], []),
  (0, 31, 0, 0, 0, 0, [], [], []),
  (0, 31, 0, 0, 0, 0, [], [], []),
  (0, 31, 0, 0, 0, 0, [], [], []),
  (0, 31, 0, 0, 0, 0, [], [], []),
  (0, 31, 0, 0, 0, 0, [], [], []),
  (0, 31, 0, 0, 0, 0, [], [], []),
  (0, 31, 0, 0, 0, 0, [], [], []),
  (0, 31, 0, 0, 0, 0, [], [], []),
  (0, 31, 0, 0, 0, 0, [], [], []),
  (0, 31, 0, 0, 0, 0, [], [], []),
  (0, 31, 0, 0, 0, 0, [], [], []),
  (0, 31, 0, 0, 0, 0, [], [], []),
  (0, 31, 0, 0, 0, 0, [], [], []),
  (110, 5, 19, 0, 0, 0, [], [], []),
  (0, 7, 0, 0, 0, 0, [([0], [(1, [2]), (1, [0])])], [], []),
  (0, 4, 245, 170, 0, 0, [], [], []),
  (0, 5, 20, 0, 0, 0, [], [], []),
  (0, 7, 0, 0, 0, 0, [([0], [(1, [2]), (1, [0])])], [], []),
  (0, 5, 20, 1, 0, 0, [], [], []),
  (0, 7, 0, 0, 0, 0, [([0], [(1, [2]), (1, [0])])], [], []),
  (0, 5, 21, 0, 0, 0, [], [], []),
  (0, 7, 0, 0, 0, 0, [([0], [(1, [2]), (1, [0])])], [], []),
  (0, 3, 15, 0, 0, 19998, [([], [(1, [0]), (1, [7]), (1, [1])]), ([15], [(1, [0]), (1, [2])])], [], []),
  (4, 3, 14, 0, 1, 19998, [([], [(1, [0]), (1, [11]), (1, [6])]), ([14], [(1, [0]), (1, [2])])], [], []),
  (0, 5, 21, 1, 0, 0, [], [], []),
  (0, 7, 0, 0, 0, 0, [([0], [(1, [2]), (1, [0])])], [], []),
  (0, 2, 0, 0, 0, 0, [([], [(1, [0]), (1, [12]), (1, [1]), (1, [11])])], [(1, [14]), ((-1), [15])], []),
  (1, 3, 19, 0, 0, 7, [([19], [(1, [0]), (1, [1])]), ([14, 16, 19], [(1, [0, 1]), (1, [0]), (1, [7]), (1, [12]), (1, [9, 3]), (1, [4, 1]), (1, [4]), (1, [1])])], [], []),
  (62, 3, 21, 0, 0, 139986, [([], [(1, [0]), (1, [11]), (1, [15]), (1, [14])]), ([21], [(1, [0]), (1, [2])])], [], []),
  (0, 31, 0, 0, 0, 0, [], [], []),
  (0, 31, 0, 0, 0, 0, [], [], []),
  (0, 31, 0, 0, 0, 0, [], [], []),
  (0, 31, 0, 0, 0, 0, [], [], []),
  (0, 31, 0, 0, 0, 0, [], [], []),
  (0, 31, 0, 0, 0, 0, [], [], []),
  (0, 31, 0, 0, 0, 0, [], [], []),
  (0, 31, 0, 0, 0, 0, [], [], []),
  (0, 31, 0, 0, 0, 0, [], [], []),
  (0, 31, 0, 0, 0, 0, [], [], []),
  (0, 31, 0, 0, 0, 0, [], [], []),
  (0, 31, 0, 0, 0, 0, [], [], []),
  (0, 31, 0, 0, 0, 0, [], [], []),
  (0, 31, 0, 0, 0, 0, [], [], []),
  (0, 31, 0, 0, 0, 0, [], [], []),
  (0, 31, 0, 0, 0, 0, [], [], []),
  (0, 31, 0, 0, 0, 0, [], [], []),
  (0, 31, 0, 0, 0, 0, [], [], []),
  (0, 31, 0, 0, 0, 0, [], [], []),
  (0, 31, 0, 0, 0, 0, [], [], []),
  (0, 31, 0, 0, 0, 0, [], [], []),
  (0, 31, 0, 0, 0, 0, [], [], []),
  (0, 31, 0, 0, 0, 0, [], [], []),
  (0, 31, 0, 0, 0, 0, [], [], []),
  (0, 31, 0, 0, 0, 0, [], [], []),
  (0, 31, 0, 0, 0, 0, [], [], []),
  (0, 31, 0, 0, 0, 0, [], [], []),
  (0, 31, 0, 0, 0, 0, [], [], []),
  (0, 31, 0, 0, 0, 0, [], [], []),
  (0, 31, 0, 0, 0, 0, [], [], []),
  (0, 31, 0, 0, 0, 0, [], [], []),
  (0, 31, 0, 0, 0, 0, [], [], []),
  (0, 31, 0, 0, 0, 0, [], [], []),
  (0, 31, 0, 0, 0, 0, [], [], []),
  (0, 31, 0, 0, 0, 0, [], [], []),
  (0, 31, 0, 0, 0, 0, [], [], []),
  (0, 31, 0, 0, 0, 0, [], [], []),
  (0, 31, 0, 0, 0, 0, [], [], []),
  (0, 31, 0, 0, 0, 0, [], [], []),
  (0, 31, 0, 0, 0, 0, [], [], []),
  (0, 31, 0, 0, 0, 0, [], [], []),
  (0, 31, 0, 0, 0, 0, [], [], []),
  (0, 31, 0, 0, 0, 0, [], [], []),
  (0, 31, 0, 0, 0, 0, [], [], []),
  (0, 31, 0, 0, 0, 0, [], [], [])]
set_option maxRecDepth 100000 in
theorem sz_s77_0 : sy_seg sz_E sz_T sz_RU [sz_c76] sz_c77 sz_u77 ri_m_X11_onePlant 6779 none sz_h77_0 = true := by decide +kernel
theorem sz_ok77 (xs : Nat → Value) (L : Nat) : sy_Cok (sz_env xs L) sz_T sz_RU sz_c77 := sy_chk_ok (CT := [sz_c76]) (CU := sz_u77) (M := ri_m_X11_onePlant) (List.forall_mem_cons.mpr ⟨sz_ok76 xs L, fun _ h => absurd h List.not_mem_nil⟩) rfl rfl ⟨_, _, sz_s77_0⟩ (fun _ h => absurd h List.not_mem_nil)

/-! X11_leastOn [244, 3] -/
set_option maxRecDepth 100000 in
noncomputable def sz_c78 : sy_Ct := (199, 1, 20, [(3, .inr 244, .inl 0), (0, .inl 3, .inl 0)], ([], []), [], [], [], [(.inl (some (0, .inl (-1), .inl 0)), 0, 0, ([], []), [], [])])
set_option maxRecDepth 100000 in
noncomputable def sz_u78 : List sy_Cut := []
set_option maxRecDepth 100000 in
noncomputable def sz_h78_0 : List sy_Hn := [(0, 31, 0, 0, 0, 0, [], [], [])]
set_option maxRecDepth 100000 in
theorem sz_s78_0 : sy_seg sz_E sz_T sz_RU [] sz_c78 sz_u78 ri_m_X11_leastOn 32 none sz_h78_0 = true := by decide +kernel
theorem sz_ok78 (xs : Nat → Value) (L : Nat) : sy_Cok (sz_env xs L) sz_T sz_RU sz_c78 := sy_chk_ok (CT := []) (CU := sz_u78) (M := ri_m_X11_leastOn) (fun _ h => absurd h List.not_mem_nil) rfl rfl ⟨_, _, sz_s78_0⟩ (fun _ h => absurd h List.not_mem_nil)

/-! X11_onePlant [244, 3] -/
set_option maxRecDepth 100000 in
noncomputable def sz_c79 : sy_Ct := (167, 3, 76, [(3, .inr 244, .inl 0), (0, .inl 3, .inl 0)], ([], []), [((245, 0), (1, .inl 4, .inl 0))], [], [(245, 283, 284), (245, 288, 296)], [(.inl none, 0, 0, ([], []), [], [])])
set_option maxRecDepth 100000 in
noncomputable def sz_u79 : List sy_Cut := []
set_option maxRecDepth 100000 in
noncomputable def sz_h79_0 : List sy_Hn := [(3, 20, 0, 0, 0, 0, [], [], []),
  (513, 5, 28, 0, 0, 0, [], [], []),
  (0, 7, 0, 0, 0, 0, [([], [(1, [0])])], [], []),
  (0, 4, 245, 247, 0, 0, [], [], []),
  (0, 5, 29, 0, 0, 0, [], [], []),
  (0, 7, 0, 0, 0, 0, [([], [(1, [0])])], [], []),
  (0, 5, 29, 1, 0, 0, [], [], []),
  (0, 7, 0, 0, 0, 0, [([], [(1, [0])])], [], []),
  (0, 5, 30, 0, 0, 0, [], [], []),
  (0, 7, 0, 0, 0, 0, [([], [(1, [0])])], [], []),
  (0, 3, 13, 0, 0, 19998, [([], [(1, [0]), (1, [7]), (1, [1])]), ([13], [(1, [0]), (1, [2])])], [], []),
  (4, 3, 12, 0, 1, 19998, [([], [(1, [0]), (1, [11]), (1, [6])]), ([12], [(1, [0]), (1, [2])])], [], []),
  (0, 5, 30, 1, 0, 0, [], [], []),
  (0, 7, 0, 0, 0, 0, [([], [(1, [0])])], [], []),
  (0, 2, 0, 0, 0, 0, [([], [(1, [0]), (1, [12]), (1, [1]), (1, [11])])], [(1, [12]), ((-1), [13])], []),
  (1, 3, 17, 0, 0, 7, [([17], [(1, [0]), (1, [1])]), ([12, 14, 17], [(1, [0, 1]), (1, [0]), (1, [7]), (1, [12]), (1, [9, 3]), (1, [4, 1]), (1, [4]), (1, [1])])], [], []),
  (62, 3, 19, 0, 0, 139986, [([], [(1, [0]), (1, [11]), (1, [15]), (1, [14])]), ([19], [(1, [0]), (1, [2])])], [], []),
  (0, 31, 0, 0, 0, 0, [], [], []),
  (0, 31, 0, 0, 0, 0, [], [], []),
  (0, 31, 0, 0, 0, 0, [], [], []),
  (0, 31, 0, 0, 0, 0, [], [], []),
  (0, 31, 0, 0, 0, 0, [], [], []),
  (0, 31, 0, 0, 0, 0, [], [], []),
  (0, 31, 0, 0, 0, 0, [], [], []),
  (0, 31, 0, 0, 0, 0, [], [], []),
  (0, 31, 0, 0, 0, 0, [], [], []),
  (0, 31, 0, 0, 0, 0, [], [], []),
  (0, 31, 0, 0, 0, 0, [], [], []),
  (0, 31, 0, 0, 0, 0, [], [], []),
  (0, 31, 0, 0, 0, 0, [], [], []),
  (0, 31, 0, 0, 0, 0, [], [], []),
  (0, 31, 0, 0, 0, 0, [], [], []),
  (0, 31, 0, 0, 0, 0, [], [], []),
  (0, 31, 0, 0, 0, 0, [], [], []),
  (0, 31, 0, 0, 0, 0, [], [], []),
  (0, 31, 0, 0, 0, 0, [], [], []),
  (0, 31, 0, 0, 0, 0, [], [], []),
  (0, 31, 0, 0, 0, 0, [], [], []),
  (0, 31, 0, 0, 0, 0, [], [], []),
  (0, 31, 0, 0, 0, 0, [], [], []),
  (0, 31, 0, 0, 0, 0, [], [], []),
  (0, 31, 0, 0, 0, 0, [], [], []),
  (0, 31, 0, 0, 0, 0, [], [], []),
  (0, 31, 0, 0, 0, 0, [], [], []),
  (0, 31, 0, 0, 0, 0, [], [], []),
  (0, 31, 0, 0, 0, 0, [], [], []),
  (0, 31, 0, 0, 0, 0, [], [], []),
  (0, 31, 0, 0, 0, 0, [], [], []),
  (0, 31, 0, 0, 0, 0, [], [], []),
  (0, 31, 0, 0, 0, 0, [], [], []),
  (0, 31, 0, 0, 0, 0, [], [], []),
  (0, 31, 0, 0, 0, 0, [], [], []),
  (0, 31, 0, 0, 0, 0, [], [], []),
  (0, 31, 0, 0, 0, 0, [], [], []),
  (0, 31, 0, 0, 0, 0, [], [], []),
  (0, 31, 0, 0, 0, 0, [], [], []),
  (0, 31, 0, 0, 0, 0, [], [], []),
  (0, 31, 0, 0, 0, 0, [], [], []),
  (0, 31, 0, 0, 0, 0, [], [], []),
  (0, 31, 0, 0, 0, 0, [], [], []),
  (0, 31, 0, 0, 0, 0, [], [], []),
  (0, 31, 0, 0, 0, 0, [], [], [])]
set_option maxRecDepth 100000 in
theorem sz_s79_0 : sy_seg sz_E sz_T sz_RU [sz_c78] sz_c79 sz_u79 ri_m_X11_onePlant 4033 none sz_h79_0 = true := by decide +kernel
theorem sz_ok79 (xs : Nat → Value) (L : Nat) : sy_Cok (sz_env xs L) sz_T sz_RU sz_c79 := sy_chk_ok (CT := [sz_c78]) (CU := sz_u79) (M := ri_m_X11_onePlant) (List.forall_mem_cons.mpr ⟨sz_ok78 xs L, fun _ h => absurd h List.not_mem_nil⟩) rfl rfl ⟨_, _, sz_s79_0⟩ (fun _ h => absurd h List.not_mem_nil)

/-! X11_oneTick [244, 0] -/
set_option maxRecDepth 100000 in
noncomputable def sz_c80 : sy_Ct := (99, 7, 169, [(3, .inr 244, .inl 0), (0, .inl 0, .inl 0)], ([], []), [], [], [(245, 2, 2), (245, 4, 4), (245, 13, 14), (245, 16, 18), (245, 20, 21), (245, 23, 24), (245, 52, 70), (245, 72, 77), (245, 80, 81), (245, 90, 91), (245, 93, 95), (245, 97, 98), (245, 100, 101), (245, 129, 147), (245, 149, 154), (245, 157, 158), (245, 167, 168), (245, 170, 172), (245, 174, 175), (245, 177, 178), (245, 206, 224), (245, 226, 231), (245, 234, 235), (245, 244, 245), (245, 247, 249), (245, 251, 252), (245, 254, 255), (245, 283, 301), (245, 303, 308), (245, 311, 312), (245, 345, 584), (251, 0, 3)], [(.inl (some (0, .inr 0, .inl 0)), 0, 0, ([((-2147483648), 2147483647)], []), [], [])])
set_option maxRecDepth 100000 in
noncomputable def sz_u80 : List sy_Cut := [(6, [(0, (3, .inr 244, .inl 0)), (1, (0, .inl 0, .inl 0)), (2, (0, .inr 0, .inl 0))], ([(0, 4)], []), [], [], [(4, []), ((-1), [0]), (20, [])]), (21, [(0, (3, .inr 244, .inl 0)), (1, (0, .inl 0, .inl 0)), (2, (0, .inr 0, .inl 0)), (3, (0, .inr 1, .inl 0))], ([(0, 4), ((-2147483648), 2147483647)], []), [], [], [(4, []), ((-1), [1]), (10, [])]), (39, [(0, (3, .inr 244, .inl 0)), (1, (0, .inl 0, .inl 0)), (2, (0, .inr 0, .inl 0)), (3, (0, .inr 1, .inl 0))], ([(0, 4), ((-2147483648), 2147483647)], []), [], [], [(4, []), ((-1), [1])])]
set_option maxRecDepth 100000 in
noncomputable def sz_h80_0 : List sy_Hn := [(0, 30, 0, 0, 0, 0, [([], [(1, [0])]), ([], [])], [], [])]
set_option maxRecDepth 100000 in
theorem sz_s80_0 : sy_seg sz_E sz_T sz_RU [sz_c17, sz_c35, sz_c37, sz_c55, sz_c57, sz_c75, sz_c77, sz_c79] sz_c80 sz_u80 ri_m_X11_oneTick 11 none sz_h80_0 = true := by decide +kernel
set_option maxRecDepth 100000 in
noncomputable def sz_h80_1 : List sy_Hn := [(0, 30, 0, 0, 0, 0, [([], [(1, [0])]), ([0], [(1, [0]), (1, [2])])], [], []),
  (13, 1, 0, 0, 0, 0, [], [], []),
  (0, 30, 0, 0, 0, 0, [([], [(1, [0])]), ([0], [(1, [0]), (1, [2])])], [], []),
  (0, 1, 0, 0, 1, 0, [], [], []),
  (0, 30, 0, 0, 0, 0, [([], [(1, [0])]), ([0], [(1, [0]), (1, [2])])], [], []),
  (0, 1, 0, 0, 2, 0, [], [], []),
  (0, 30, 0, 0, 0, 0, [([], [(1, [0])]), ([0], [(1, [0]), (1, [2])])], [], []),
  (0, 30, 0, 0, 0, 0, [([], [(1, [0])]), ([0], [(1, [0]), (1, [2])])], [], [])]
set_option maxRecDepth 100000 in
theorem sz_s80_1 : sy_seg sz_E sz_T sz_RU [sz_c17, sz_c35, sz_c37, sz_c55, sz_c57, sz_c75, sz_c77, sz_c79] sz_c80 sz_u80 ri_m_X11_oneTick 88 (some ((6, [(0, (3, .inr 244, .inl 0)), (1, (0, .inl 0, .inl 0)), (2, (0, .inr 0, .inl 0))], ([(0, 4)], []), [], [], [(4, []), ((-1), [0]), (20, [])]))) sz_h80_1 = true := by decide +kernel
set_option maxRecDepth 100000 in
noncomputable def sz_h80_2 : List sy_Hn := [(0, 30, 0, 0, 0, 0, [([], [(1, [0])]), ([1], [(1, [0]), (1, [2])])], [], []),
  (2, 1, 1, 0, 0, 0, [], [], []),
  (1, 20, 0, 0, 0, 0, [], [], []),
  (0, 30, 0, 0, 0, 0, [([], [(1, [0])]), ([1], [(1, [0]), (1, [2])])], [], []),
  (0, 1, 1, 0, 1, 0, [], [], []),
  (0, 3, 2, 0, 2, 4, [([1], [(1, [0]), (1, [3]), (1, [1])]), ([2], [(1, [0]), (1, [2])])], [], []),
  (1, 20, 1, 0, 0, 0, [], [], []),
  (0, 30, 0, 0, 0, 0, [([], [(1, [0])]), ([1], [(1, [0]), (1, [2])])], [], []),
  (0, 1, 1, 0, 2, 0, [], [], []),
  (0, 3, 2, 0, 3, 4, [([1], [(1, [0]), (1, [3]), (1, [1])]), ([2], [(1, [0]), (1, [2])])], [], []),
  (1, 20, 3, 0, 0, 0, [], [], []),
  (0, 30, 0, 0, 0, 0, [([], [(1, [0])]), ([1], [(1, [0]), (1, [2])])], [], []),
  (0, 3, 2, 0, 4, 4, [([1], [(1, [0]), (1, [3]), (1, [1])]), ([2], [(1, [0]), (1, [2])])], [], []),
  (1, 20, 5, 0, 0, 0, [], [], []),
  (0, 30, 0, 0, 0, 0, [([], [(1, [0])]), ([1], [(1, [0]), (1, [2])])], [], [])]
set_option maxRecDepth 100000 in
theorem sz_s80_2 : sy_seg sz_E sz_T sz_RU [sz_c17, sz_c35, sz_c37, sz_c55, sz_c57, sz_c75, sz_c77, sz_c79] sz_c80 sz_u80 ri_m_X11_oneTick 146 (some ((21, [(0, (3, .inr 244, .inl 0)), (1, (0, .inl 0, .inl 0)), (2, (0, .inr 0, .inl 0)), (3, (0, .inr 1, .inl 0))], ([(0, 4), ((-2147483648), 2147483647)], []), [], [], [(4, []), ((-1), [1]), (10, [])]))) sz_h80_2 = true := by decide +kernel
set_option maxRecDepth 100000 in
noncomputable def sz_h80_3 : List sy_Hn := [(0, 31, 0, 0, 0, 0, [], [], []),
  (2, 1, 1, 0, 0, 0, [], [], []),
  (1, 20, 2, 0, 0, 0, [], [], []),
  (0, 30, 0, 0, 0, 0, [([], [(1, [0])]), ([1], [(1, [0]), (1, [2])])], [], []),
  (0, 1, 1, 0, 1, 0, [], [], []),
  (0, 3, 2, 0, 2, 4, [([1], [(1, [0]), (1, [3]), (1, [1])]), ([2], [(1, [0]), (1, [2])])], [], []),
  (1, 20, 4, 0, 0, 0, [], [], []),
  (0, 30, 0, 0, 0, 0, [([], [(1, [0])]), ([1], [(1, [0]), (1, [2])])], [], []),
  (0, 1, 1, 0, 2, 0, [], [], []),
  (0, 3, 2, 0, 3, 4, [([1], [(1, [0]), (1, [3]), (1, [1])]), ([2], [(1, [0]), (1, [2])])], [], []),
  (1, 20, 6, 0, 0, 0, [], [], []),
  (0, 30, 0, 0, 0, 0, [([], [(1, [0])]), ([1], [(1, [0]), (1, [2])])], [], []),
  (0, 3, 2, 0, 4, 4, [([1], [(1, [0]), (1, [3]), (1, [1])]), ([2], [(1, [0]), (1, [2])])], [], []),
  (1, 20, 7, 0, 0, 0, [], [], []),
  (0, 30, 0, 0, 0, 0, [([], [(1, [0])]), ([1], [(1, [0]), (1, [2])])], [], [])]
set_option maxRecDepth 100000 in
theorem sz_s80_3 : sy_seg sz_E sz_T sz_RU [sz_c17, sz_c35, sz_c37, sz_c55, sz_c57, sz_c75, sz_c77, sz_c79] sz_c80 sz_u80 ri_m_X11_oneTick 61 (some ((39, [(0, (3, .inr 244, .inl 0)), (1, (0, .inl 0, .inl 0)), (2, (0, .inr 0, .inl 0)), (3, (0, .inr 1, .inl 0))], ([(0, 4), ((-2147483648), 2147483647)], []), [], [], [(4, []), ((-1), [1])]))) sz_h80_3 = true := by decide +kernel
theorem sz_ok80 (xs : Nat → Value) (L : Nat) : sy_Cok (sz_env xs L) sz_T sz_RU sz_c80 := sy_chk_ok (CT := [sz_c17, sz_c35, sz_c37, sz_c55, sz_c57, sz_c75, sz_c77, sz_c79]) (CU := sz_u80) (M := ri_m_X11_oneTick) (List.forall_mem_cons.mpr ⟨sz_ok17 xs L, List.forall_mem_cons.mpr ⟨sz_ok35 xs L, List.forall_mem_cons.mpr ⟨sz_ok37 xs L, List.forall_mem_cons.mpr ⟨sz_ok55 xs L, List.forall_mem_cons.mpr ⟨sz_ok57 xs L, List.forall_mem_cons.mpr ⟨sz_ok75 xs L, List.forall_mem_cons.mpr ⟨sz_ok77 xs L, List.forall_mem_cons.mpr ⟨sz_ok79 xs L, fun _ h => absurd h List.not_mem_nil⟩⟩⟩⟩⟩⟩⟩⟩) rfl rfl ⟨_, _, sz_s80_0⟩ (List.forall_mem_cons.mpr ⟨⟨_, _, sz_s80_1⟩, List.forall_mem_cons.mpr ⟨⟨_, _, sz_s80_2⟩, List.forall_mem_cons.mpr ⟨⟨_, _, sz_s80_3⟩, fun _ h => absurd h List.not_mem_nil⟩⟩⟩)

/-! X11_happens [244, 0, 0, 0] -/
set_option maxRecDepth 100000 in
noncomputable def sz_c81 : sy_Ct := (225, 3, 65, [(3, .inr 244, .inl 0), (0, .inl 0, .inl 0), (0, .inl 0, .inl 0), (0, .inr 0, .inl 0)], ([((-9999), 9999)], []), [], [], [(245, 14, 14)], [(.inl none, 0, 0, ([((-9999), 9999)], []), [], [])])
set_option maxRecDepth 100000 in
noncomputable def sz_u81 : List sy_Cut := []
set_option maxRecDepth 100000 in
noncomputable def sz_h81_0 : List sy_Hn := [(0, 31, 0, 0, 0, 0, [], [], []),
  (0, 31, 0, 0, 0, 0, [], [], []),
  (0, 31, 0, 0, 0, 0, [], [], [])]
set_option maxRecDepth 100000 in
theorem sz_s81_0 : sy_seg sz_E sz_T sz_RU [] sz_c81 sz_u81 ri_m_X11_happens 130 none sz_h81_0 = true := by decide +kernel
theorem sz_ok81 (xs : Nat → Value) (L : Nat) : sy_Cok (sz_env xs L) sz_T sz_RU sz_c81 := sy_chk_ok (CT := []) (CU := sz_u81) (M := ri_m_X11_happens) (fun _ h => absurd h List.not_mem_nil) rfl rfl ⟨_, _, sz_s81_0⟩ (fun _ h => absurd h List.not_mem_nil)

/-! X11_happens [244, 0, 1, 0] -/
set_option maxRecDepth 100000 in
noncomputable def sz_c82 : sy_Ct := (225, 3, 65, [(3, .inr 244, .inl 0), (0, .inl 0, .inl 0), (0, .inl 1, .inl 0), (0, .inr 0, .inl 0)], ([((-9999), 9999)], []), [], [], [(245, 91, 91)], [(.inl none, 0, 0, ([((-9999), 9999)], []), [], [])])
set_option maxRecDepth 100000 in
noncomputable def sz_u82 : List sy_Cut := []
set_option maxRecDepth 100000 in
noncomputable def sz_h82_0 : List sy_Hn := [(0, 31, 0, 0, 0, 0, [], [], []),
  (0, 31, 0, 0, 0, 0, [], [], []),
  (0, 31, 0, 0, 0, 0, [], [], [])]
set_option maxRecDepth 100000 in
theorem sz_s82_0 : sy_seg sz_E sz_T sz_RU [] sz_c82 sz_u82 ri_m_X11_happens 130 none sz_h82_0 = true := by decide +kernel
theorem sz_ok82 (xs : Nat → Value) (L : Nat) : sy_Cok (sz_env xs L) sz_T sz_RU sz_c82 := sy_chk_ok (CT := []) (CU := sz_u82) (M := ri_m_X11_happens) (fun _ h => absurd h List.not_mem_nil) rfl rfl ⟨_, _, sz_s82_0⟩ (fun _ h => absurd h List.not_mem_nil)

/-! X11_happens [244, 0, 2, 0] -/
set_option maxRecDepth 100000 in
noncomputable def sz_c83 : sy_Ct := (225, 3, 65, [(3, .inr 244, .inl 0), (0, .inl 0, .inl 0), (0, .inl 2, .inl 0), (0, .inr 0, .inl 0)], ([((-9999), 9999)], []), [], [], [(245, 168, 168)], [(.inl none, 0, 0, ([((-9999), 9999)], []), [], [])])
set_option maxRecDepth 100000 in
noncomputable def sz_u83 : List sy_Cut := []
set_option maxRecDepth 100000 in
noncomputable def sz_h83_0 : List sy_Hn := [(0, 31, 0, 0, 0, 0, [], [], []),
  (0, 31, 0, 0, 0, 0, [], [], []),
  (0, 31, 0, 0, 0, 0, [], [], [])]
set_option maxRecDepth 100000 in
theorem sz_s83_0 : sy_seg sz_E sz_T sz_RU [] sz_c83 sz_u83 ri_m_X11_happens 130 none sz_h83_0 = true := by decide +kernel
theorem sz_ok83 (xs : Nat → Value) (L : Nat) : sy_Cok (sz_env xs L) sz_T sz_RU sz_c83 := sy_chk_ok (CT := []) (CU := sz_u83) (M := ri_m_X11_happens) (fun _ h => absurd h List.not_mem_nil) rfl rfl ⟨_, _, sz_s83_0⟩ (fun _ h => absurd h List.not_mem_nil)

/-! X11_happens [244, 0, 3, 0] -/
set_option maxRecDepth 100000 in
noncomputable def sz_c84 : sy_Ct := (225, 3, 65, [(3, .inr 244, .inl 0), (0, .inl 0, .inl 0), (0, .inl 3, .inl 0), (0, .inr 0, .inl 0)], ([((-9999), 9999)], []), [], [], [(245, 245, 245)], [(.inl none, 0, 0, ([((-9999), 9999)], []), [], [])])
set_option maxRecDepth 100000 in
noncomputable def sz_u84 : List sy_Cut := []
set_option maxRecDepth 100000 in
noncomputable def sz_h84_0 : List sy_Hn := [(0, 31, 0, 0, 0, 0, [], [], []),
  (0, 31, 0, 0, 0, 0, [], [], []),
  (0, 31, 0, 0, 0, 0, [], [], [])]
set_option maxRecDepth 100000 in
theorem sz_s84_0 : sy_seg sz_E sz_T sz_RU [] sz_c84 sz_u84 ri_m_X11_happens 130 none sz_h84_0 = true := by decide +kernel
theorem sz_ok84 (xs : Nat → Value) (L : Nat) : sy_Cok (sz_env xs L) sz_T sz_RU sz_c84 := sy_chk_ok (CT := []) (CU := sz_u84) (M := ri_m_X11_happens) (fun _ h => absurd h List.not_mem_nil) rfl rfl ⟨_, _, sz_s84_0⟩ (fun _ h => absurd h List.not_mem_nil)

/-! X11_happens [244, 1, 0, 0] -/
set_option maxRecDepth 100000 in
noncomputable def sz_c85 : sy_Ct := (225, 2, 45, [(3, .inr 244, .inl 0), (0, .inl 1, .inl 0), (0, .inl 0, .inl 0), (0, .inr 0, .inl 0)], ([((-9999), 9999)], []), [], [], [(245, 9, 9)], [(.inl none, 0, 0, ([((-9999), 9999)], []), [], [])])
set_option maxRecDepth 100000 in
noncomputable def sz_u85 : List sy_Cut := []
set_option maxRecDepth 100000 in
noncomputable def sz_h85_0 : List sy_Hn := [(0, 31, 0, 0, 0, 0, [], [], [])]
set_option maxRecDepth 100000 in
theorem sz_s85_0 : sy_seg sz_E sz_T sz_RU [] sz_c85 sz_u85 ri_m_X11_happens 43 none sz_h85_0 = true := by decide +kernel
theorem sz_ok85 (xs : Nat → Value) (L : Nat) : sy_Cok (sz_env xs L) sz_T sz_RU sz_c85 := sy_chk_ok (CT := []) (CU := sz_u85) (M := ri_m_X11_happens) (fun _ h => absurd h List.not_mem_nil) rfl rfl ⟨_, _, sz_s85_0⟩ (fun _ h => absurd h List.not_mem_nil)

/-! X11_happens [244, 1, 1, 0] -/
set_option maxRecDepth 100000 in
noncomputable def sz_c86 : sy_Ct := (225, 2, 45, [(3, .inr 244, .inl 0), (0, .inl 1, .inl 0), (0, .inl 1, .inl 0), (0, .inr 0, .inl 0)], ([((-9999), 9999)], []), [], [], [(245, 86, 86)], [(.inl none, 0, 0, ([((-9999), 9999)], []), [], [])])
set_option maxRecDepth 100000 in
noncomputable def sz_u86 : List sy_Cut := []
set_option maxRecDepth 100000 in
noncomputable def sz_h86_0 : List sy_Hn := [(0, 31, 0, 0, 0, 0, [], [], [])]
set_option maxRecDepth 100000 in
theorem sz_s86_0 : sy_seg sz_E sz_T sz_RU [] sz_c86 sz_u86 ri_m_X11_happens 43 none sz_h86_0 = true := by decide +kernel
theorem sz_ok86 (xs : Nat → Value) (L : Nat) : sy_Cok (sz_env xs L) sz_T sz_RU sz_c86 := sy_chk_ok (CT := []) (CU := sz_u86) (M := ri_m_X11_happens) (fun _ h => absurd h List.not_mem_nil) rfl rfl ⟨_, _, sz_s86_0⟩ (fun _ h => absurd h List.not_mem_nil)

/-! X11_happens [244, 1, 2, 0] -/
set_option maxRecDepth 100000 in
noncomputable def sz_c87 : sy_Ct := (225, 2, 45, [(3, .inr 244, .inl 0), (0, .inl 1, .inl 0), (0, .inl 2, .inl 0), (0, .inr 0, .inl 0)], ([((-9999), 9999)], []), [], [], [(245, 163, 163)], [(.inl none, 0, 0, ([((-9999), 9999)], []), [], [])])
set_option maxRecDepth 100000 in
noncomputable def sz_u87 : List sy_Cut := []
set_option maxRecDepth 100000 in
noncomputable def sz_h87_0 : List sy_Hn := [(0, 31, 0, 0, 0, 0, [], [], [])]
set_option maxRecDepth 100000 in
theorem sz_s87_0 : sy_seg sz_E sz_T sz_RU [] sz_c87 sz_u87 ri_m_X11_happens 43 none sz_h87_0 = true := by decide +kernel
theorem sz_ok87 (xs : Nat → Value) (L : Nat) : sy_Cok (sz_env xs L) sz_T sz_RU sz_c87 := sy_chk_ok (CT := []) (CU := sz_u87) (M := ri_m_X11_happens) (fun _ h => absurd h List.not_mem_nil) rfl rfl ⟨_, _, sz_s87_0⟩ (fun _ h => absurd h List.not_mem_nil)

/-! X11_happens [244, 1, 3, 0] -/
set_option maxRecDepth 100000 in
noncomputable def sz_c88 : sy_Ct := (225, 2, 45, [(3, .inr 244, .inl 0), (0, .inl 1, .inl 0), (0, .inl 3, .inl 0), (0, .inr 0, .inl 0)], ([((-9999), 9999)], []), [], [], [(245, 240, 240)], [(.inl none, 0, 0, ([((-9999), 9999)], []), [], [])])
set_option maxRecDepth 100000 in
noncomputable def sz_u88 : List sy_Cut := []
set_option maxRecDepth 100000 in
noncomputable def sz_h88_0 : List sy_Hn := [(0, 31, 0, 0, 0, 0, [], [], [])]
set_option maxRecDepth 100000 in
theorem sz_s88_0 : sy_seg sz_E sz_T sz_RU [] sz_c88 sz_u88 ri_m_X11_happens 43 none sz_h88_0 = true := by decide +kernel
theorem sz_ok88 (xs : Nat → Value) (L : Nat) : sy_Cok (sz_env xs L) sz_T sz_RU sz_c88 := sy_chk_ok (CT := []) (CU := sz_u88) (M := ri_m_X11_happens) (fun _ h => absurd h List.not_mem_nil) rfl rfl ⟨_, _, sz_s88_0⟩ (fun _ h => absurd h List.not_mem_nil)

/-! X11_happens [244, 2, 0, 0] -/
set_option maxRecDepth 100000 in
noncomputable def sz_c89 : sy_Ct := (225, 2, 45, [(3, .inr 244, .inl 0), (0, .inl 2, .inl 0), (0, .inl 0, .inl 0), (0, .inr 0, .inl 0)], ([((-9999), 9999)], []), [], [], [(245, 22, 22)], [(.inl none, 0, 0, ([((-9999), 9999)], []), [], [])])
set_option maxRecDepth 100000 in
noncomputable def sz_u89 : List sy_Cut := []
set_option maxRecDepth 100000 in
noncomputable def sz_h89_0 : List sy_Hn := [(0, 31, 0, 0, 0, 0, [], [], [])]
set_option maxRecDepth 100000 in
theorem sz_s89_0 : sy_seg sz_E sz_T sz_RU [] sz_c89 sz_u89 ri_m_X11_happens 43 none sz_h89_0 = true := by decide +kernel
theorem sz_ok89 (xs : Nat → Value) (L : Nat) : sy_Cok (sz_env xs L) sz_T sz_RU sz_c89 := sy_chk_ok (CT := []) (CU := sz_u89) (M := ri_m_X11_happens) (fun _ h => absurd h List.not_mem_nil) rfl rfl ⟨_, _, sz_s89_0⟩ (fun _ h => absurd h List.not_mem_nil)

/-! X11_happens [244, 2, 1, 0] -/
set_option maxRecDepth 100000 in
noncomputable def sz_c90 : sy_Ct := (225, 2, 45, [(3, .inr 244, .inl 0), (0, .inl 2, .inl 0), (0, .inl 1, .inl 0), (0, .inr 0, .inl 0)], ([((-9999), 9999)], []), [], [], [(245, 99, 99)], [(.inl none, 0, 0, ([((-9999), 9999)], []), [], [])])
set_option maxRecDepth 100000 in
noncomputable def sz_u90 : List sy_Cut := []
set_option maxRecDepth 100000 in
noncomputable def sz_h90_0 : List sy_Hn := [(0, 31, 0, 0, 0, 0, [], [], [])]
set_option maxRecDepth 100000 in
theorem sz_s90_0 : sy_seg sz_E sz_T sz_RU [] sz_c90 sz_u90 ri_m_X11_happens 43 none sz_h90_0 = true := by decide +kernel
theorem sz_ok90 (xs : Nat → Value) (L : Nat) : sy_Cok (sz_env xs L) sz_T sz_RU sz_c90 := sy_chk_ok (CT := []) (CU := sz_u90) (M := ri_m_X11_happens) (fun _ h => absurd h List.not_mem_nil) rfl rfl ⟨_, _, sz_s90_0⟩ (fun _ h => absurd h List.not_mem_nil)

/-! X11_happens [244, 2, 2, 0] -/
set_option maxRecDepth 100000 in
noncomputable def sz_c91 : sy_Ct := (225, 2, 45, [(3, .inr 244, .inl 0), (0, .inl 2, .inl 0), (0, .inl 2, .inl 0), (0, .inr 0, .inl 0)], ([((-9999), 9999)], []), [], [], [(245, 176, 176)], [(.inl none, 0, 0, ([((-9999), 9999)], []), [], [])])
set_option maxRecDepth 100000 in
noncomputable def sz_u91 : List sy_Cut := []
set_option maxRecDepth 100000 in
noncomputable def sz_h91_0 : List sy_Hn := [(0, 31, 0, 0, 0, 0, [], [], [])]
set_option maxRecDepth 100000 in
theorem sz_s91_0 : sy_seg sz_E sz_T sz_RU [] sz_c91 sz_u91 ri_m_X11_happens 43 none sz_h91_0 = true := by decide +kernel
theorem sz_ok91 (xs : Nat → Value) (L : Nat) : sy_Cok (sz_env xs L) sz_T sz_RU sz_c91 := sy_chk_ok (CT := []) (CU := sz_u91) (M := ri_m_X11_happens) (fun _ h => absurd h List.not_mem_nil) rfl rfl ⟨_, _, sz_s91_0⟩ (fun _ h => absurd h List.not_mem_nil)

/-! X11_happens [244, 2, 3, 0] -/
set_option maxRecDepth 100000 in
noncomputable def sz_c92 : sy_Ct := (225, 2, 45, [(3, .inr 244, .inl 0), (0, .inl 2, .inl 0), (0, .inl 3, .inl 0), (0, .inr 0, .inl 0)], ([((-9999), 9999)], []), [], [], [(245, 253, 253)], [(.inl none, 0, 0, ([((-9999), 9999)], []), [], [])])
set_option maxRecDepth 100000 in
noncomputable def sz_u92 : List sy_Cut := []
set_option maxRecDepth 100000 in
noncomputable def sz_h92_0 : List sy_Hn := [(0, 31, 0, 0, 0, 0, [], [], [])]
set_option maxRecDepth 100000 in
theorem sz_s92_0 : sy_seg sz_E sz_T sz_RU [] sz_c92 sz_u92 ri_m_X11_happens 43 none sz_h92_0 = true := by decide +kernel
theorem sz_ok92 (xs : Nat → Value) (L : Nat) : sy_Cok (sz_env xs L) sz_T sz_RU sz_c92 := sy_chk_ok (CT := []) (CU := sz_u92) (M := ri_m_X11_happens) (fun _ h => absurd h List.not_mem_nil) rfl rfl ⟨_, _, sz_s92_0⟩ (fun _ h => absurd h List.not_mem_nil)

/-! X11_happens [244, 3, 0, 0] -/
set_option maxRecDepth 100000 in
noncomputable def sz_c93 : sy_Ct := (225, 2, 45, [(3, .inr 244, .inl 0), (0, .inl 3, .inl 0), (0, .inl 0, .inl 0), (0, .inr 0, .inl 0)], ([((-9999), 9999)], []), [], [], [(245, 22, 22)], [(.inl none, 0, 0, ([((-9999), 9999)], []), [], [])])
set_option maxRecDepth 100000 in
noncomputable def sz_u93 : List sy_Cut := []
set_option maxRecDepth 100000 in
noncomputable def sz_h93_0 : List sy_Hn := [(0, 31, 0, 0, 0, 0, [], [], [])]
set_option maxRecDepth 100000 in
theorem sz_s93_0 : sy_seg sz_E sz_T sz_RU [] sz_c93 sz_u93 ri_m_X11_happens 45 none sz_h93_0 = true := by decide +kernel
theorem sz_ok93 (xs : Nat → Value) (L : Nat) : sy_Cok (sz_env xs L) sz_T sz_RU sz_c93 := sy_chk_ok (CT := []) (CU := sz_u93) (M := ri_m_X11_happens) (fun _ h => absurd h List.not_mem_nil) rfl rfl ⟨_, _, sz_s93_0⟩ (fun _ h => absurd h List.not_mem_nil)

/-! X11_happens [244, 3, 1, 0] -/
set_option maxRecDepth 100000 in
noncomputable def sz_c94 : sy_Ct := (225, 2, 45, [(3, .inr 244, .inl 0), (0, .inl 3, .inl 0), (0, .inl 1, .inl 0), (0, .inr 0, .inl 0)], ([((-9999), 9999)], []), [], [], [(245, 99, 99)], [(.inl none, 0, 0, ([((-9999), 9999)], []), [], [])])
set_option maxRecDepth 100000 in
noncomputable def sz_u94 : List sy_Cut := []
set_option maxRecDepth 100000 in
noncomputable def sz_h94_0 : List sy_Hn := [(0, 31, 0, 0, 0, 0, [], [], [])]
set_option maxRecDepth 100000 in
theorem sz_s94_0 : sy_seg sz_E sz_T sz_RU [] sz_c94 sz_u94 ri_m_X11_happens 45 none sz_h94_0 = true := by decide +kernel
theorem sz_ok94 (xs : Nat → Value) (L : Nat) : sy_Cok (sz_env xs L) sz_T sz_RU sz_c94 := sy_chk_ok (CT := []) (CU := sz_u94) (M := ri_m_X11_happens) (fun _ h => absurd h List.not_mem_nil) rfl rfl ⟨_, _, sz_s94_0⟩ (fun _ h => absurd h List.not_mem_nil)

/-! X11_happens [244, 3, 2, 0] -/
set_option maxRecDepth 100000 in
noncomputable def sz_c95 : sy_Ct := (225, 2, 45, [(3, .inr 244, .inl 0), (0, .inl 3, .inl 0), (0, .inl 2, .inl 0), (0, .inr 0, .inl 0)], ([((-9999), 9999)], []), [], [], [(245, 176, 176)], [(.inl none, 0, 0, ([((-9999), 9999)], []), [], [])])
set_option maxRecDepth 100000 in
noncomputable def sz_u95 : List sy_Cut := []
set_option maxRecDepth 100000 in
noncomputable def sz_h95_0 : List sy_Hn := [(0, 31, 0, 0, 0, 0, [], [], [])]
set_option maxRecDepth 100000 in
theorem sz_s95_0 : sy_seg sz_E sz_T sz_RU [] sz_c95 sz_u95 ri_m_X11_happens 45 none sz_h95_0 = true := by decide +kernel
theorem sz_ok95 (xs : Nat → Value) (L : Nat) : sy_Cok (sz_env xs L) sz_T sz_RU sz_c95 := sy_chk_ok (CT := []) (CU := sz_u95) (M := ri_m_X11_happens) (fun _ h => absurd h List.not_mem_nil) rfl rfl ⟨_, _, sz_s95_0⟩ (fun _ h => absurd h List.not_mem_nil)

/-! X11_happens [244, 3, 3, 0] -/
set_option maxRecDepth 100000 in
noncomputable def sz_c96 : sy_Ct := (225, 2, 45, [(3, .inr 244, .inl 0), (0, .inl 3, .inl 0), (0, .inl 3, .inl 0), (0, .inr 0, .inl 0)], ([((-9999), 9999)], []), [], [], [(245, 253, 253)], [(.inl none, 0, 0, ([((-9999), 9999)], []), [], [])])
set_option maxRecDepth 100000 in
noncomputable def sz_u96 : List sy_Cut := []
set_option maxRecDepth 100000 in
noncomputable def sz_h96_0 : List sy_Hn := [(0, 31, 0, 0, 0, 0, [], [], [])]
set_option maxRecDepth 100000 in
theorem sz_s96_0 : sy_seg sz_E sz_T sz_RU [] sz_c96 sz_u96 ri_m_X11_happens 45 none sz_h96_0 = true := by decide +kernel
theorem sz_ok96 (xs : Nat → Value) (L : Nat) : sy_Cok (sz_env xs L) sz_T sz_RU sz_c96 := sy_chk_ok (CT := []) (CU := sz_u96) (M := ri_m_X11_happens) (fun _ h => absurd h List.not_mem_nil) rfl rfl ⟨_, _, sz_s96_0⟩ (fun _ h => absurd h List.not_mem_nil)

/-! X11_isTold [244, 0, 1, 0] -/
set_option maxRecDepth 100000 in
noncomputable def sz_c97 : sy_Ct := (170, 1, 23, [(3, .inr 244, .inl 0), (0, .inl 0, .inl 0), (0, .inl 1, .inl 0), (1, .inl 0, .inl 0)], ([], []), [], [], [(245, 4, 4), (245, 345, 584)], [(.inl none, 0, 0, ([], []), [], [])])
set_option maxRecDepth 100000 in
noncomputable def sz_u97 : List sy_Cut := [(2, [(0, (3, .inr 244, .inl 0)), (1, (0, .inl 0, .inl 0)), (2, (0, .inl 1, .inl 0)), (3, (1, .inl 0, .inl 0)), (5, (0, .inr 0, .inl 0))], ([(3, 239)], []), [], [], [(1, [0]), ((-3), [])])]
set_option maxRecDepth 100000 in
noncomputable def sz_h97_0 : List sy_Hn := [(0, 30, 0, 0, 0, 0, [([], [(1, [0])]), ([], [])], [], [])]
set_option maxRecDepth 100000 in
theorem sz_s97_0 : sy_seg sz_E sz_T sz_RU [] sz_c97 sz_u97 ri_m_X11_isTold 9 none sz_h97_0 = true := by decide +kernel
set_option maxRecDepth 100000 in
noncomputable def sz_h97_1 : List sy_Hn := [(0, 31, 0, 0, 0, 0, [], [], []),
  (0, 31, 0, 0, 0, 0, [], [], []),
  (0, 30, 0, 0, 0, 0, [([5], [(1, [0]), (1, [1])]), ([], [(1, [0]), (1, [2])])], [], [])]
set_option maxRecDepth 100000 in
theorem sz_s97_1 : sy_seg sz_E sz_T sz_RU [] sz_c97 sz_u97 ri_m_X11_isTold 77 (some ((2, [(0, (3, .inr 244, .inl 0)), (1, (0, .inl 0, .inl 0)), (2, (0, .inl 1, .inl 0)), (3, (1, .inl 0, .inl 0)), (5, (0, .inr 0, .inl 0))], ([(3, 239)], []), [], [], [(1, [0]), ((-3), [])]))) sz_h97_1 = true := by decide +kernel
theorem sz_ok97 (xs : Nat → Value) (L : Nat) : sy_Cok (sz_env xs L) sz_T sz_RU sz_c97 := sy_chk_ok (CT := []) (CU := sz_u97) (M := ri_m_X11_isTold) (fun _ h => absurd h List.not_mem_nil) rfl rfl ⟨_, _, sz_s97_0⟩ (List.forall_mem_cons.mpr ⟨⟨_, _, sz_s97_1⟩, fun _ h => absurd h List.not_mem_nil⟩)

/-! X11_isMode [244, 0, 0] -/
set_option maxRecDepth 100000 in
noncomputable def sz_c98 : sy_Ct := (102, 3, 65, [(3, .inr 244, .inl 0), (0, .inl 0, .inl 0), (0, .inl 0, .inl 0)], ([], []), [], [], [(245, 4, 4), (245, 13, 13), (245, 20, 21), (245, 66, 70), (245, 345, 584)], [(.inl none, 0, 0, ([], []), [], [])])
set_option maxRecDepth 100000 in
noncomputable def sz_u98 : List sy_Cut := []
set_option maxRecDepth 100000 in
noncomputable def sz_h98_0 : List sy_Hn := [(239, 4, 245, 10, 0, 0, [], [], []),
  (0, 4, 245, 11, 0, 0, [], [], []),
  (0, 4, 245, 71, 0, 0, [], [], []),
  (0, 4, 245, 78, 0, 0, [], [], []),
  (0, 6, 3, 0, 0, 0, [([], [(1, [0])]), ([], [(1, [0])])], [], [0, 0]),
  (0, 4, 245, 12, 0, 0, [], [], []),
  (0, 6, 4, 0, 0, 0, [([], [(1, [0])])], [], [0]),
  (0, 4, 245, 74, 0, 0, [], [], []),
  (0, 4, 245, 75, 0, 0, [], [], []),
  (0, 6, 7, 0, 0, 0, [([], [(1, [0])]), ([], [(1, [0])])], [], [0, 0]),
  (0, 6, 8, 0, 0, 0, [([], [(1, [0])])], [], [0]),
  (0, 4, 245, 0, 0, 0, [], [], []),
  (0, 6, 9, 0, 0, 0, [([], [(1, [0])])], [], [1]),
  (1, 20, 0, 0, 0, 0, [], [], []),
  (0, 31, 0, 0, 0, 0, [], [], []),
  (0, 31, 0, 0, 0, 0, [], [], [])]
set_option maxRecDepth 100000 in
theorem sz_s98_0 : sy_seg sz_E sz_T sz_RU [sz_c97] sz_c98 sz_u98 ri_m_X11_isMode 267 none sz_h98_0 = true := by decide +kernel
theorem sz_ok98 (xs : Nat → Value) (L : Nat) : sy_Cok (sz_env xs L) sz_T sz_RU sz_c98 := sy_chk_ok (CT := [sz_c97]) (CU := sz_u98) (M := ri_m_X11_isMode) (List.forall_mem_cons.mpr ⟨sz_ok97 xs L, fun _ h => absurd h List.not_mem_nil⟩) rfl rfl ⟨_, _, sz_s98_0⟩ (fun _ h => absurd h List.not_mem_nil)

/-! X11_happens [244, 4, 0, 0] -/
set_option maxRecDepth 100000 in
noncomputable def sz_c99 : sy_Ct := (225, 4, 88, [(3, .inr 244, .inl 0), (0, .inl 4, .inl 0), (0, .inl 0, .inl 0), (0, .inl 0, .inl 0)], ([], []), [], [], [(245, 4, 4), (245, 13, 13), (245, 20, 21), (245, 66, 70), (245, 345, 584)], [(.inl none, 0, 0, ([], []), [], [])])
set_option maxRecDepth 100000 in
noncomputable def sz_u99 : List sy_Cut := []
set_option maxRecDepth 100000 in
noncomputable def sz_h99_0 : List sy_Hn := [(18, 20, 0, 0, 0, 0, [], [], []),
  (0, 31, 0, 0, 0, 0, [], [], [])]
set_option maxRecDepth 100000 in
theorem sz_s99_0 : sy_seg sz_E sz_T sz_RU [sz_c98] sz_c99 sz_u99 ri_m_X11_happens 26 none sz_h99_0 = true := by decide +kernel
theorem sz_ok99 (xs : Nat → Value) (L : Nat) : sy_Cok (sz_env xs L) sz_T sz_RU sz_c99 := sy_chk_ok (CT := [sz_c98]) (CU := sz_u99) (M := ri_m_X11_happens) (List.forall_mem_cons.mpr ⟨sz_ok98 xs L, fun _ h => absurd h List.not_mem_nil⟩) rfl rfl ⟨_, _, sz_s99_0⟩ (fun _ h => absurd h List.not_mem_nil)

/-! X11_isBalanced [244, 0, 0] -/
set_option maxRecDepth 100000 in
noncomputable def sz_c100 : sy_Ct := (107, 4, 91, [(3, .inr 244, .inl 0), (0, .inl 0, .inl 0), (1, .inr 0, .inl 0)], ([((-9223372036854775808), 9223372036854775807)], []), [], [], [(245, 54, 54)], [(.inl none, 0, 0, ([((-9223372036854775808), 9223372036854775807)], []), [], [])])
set_option maxRecDepth 100000 in
noncomputable def sz_u100 : List sy_Cut := []
set_option maxRecDepth 100000 in
noncomputable def sz_h100_0 : List sy_Hn := [(63, 1, 3, 0, 0, 0, [], [], []),
  (0, 31, 0, 0, 0, 0, [], [], []),
  (0, 31, 0, 0, 0, 0, [], [], []),
  (0, 31, 0, 0, 0, 0, [], [], []),
  (0, 1, 3, 0, 1, 0, [], [], []),
  (0, 31, 0, 0, 0, 0, [], [], []),
  (0, 31, 0, 0, 0, 0, [], [], []),
  (0, 31, 0, 0, 0, 0, [], [], []),
  (0, 31, 0, 0, 0, 0, [], [], []),
  (0, 31, 0, 0, 0, 0, [], [], []),
  (0, 31, 0, 0, 0, 0, [], [], [])]
set_option maxRecDepth 100000 in
theorem sz_s100_0 : sy_seg sz_E sz_T sz_RU [] sz_c100 sz_u100 ri_m_X11_isBalanced 798 none sz_h100_0 = true := by decide +kernel
theorem sz_ok100 (xs : Nat → Value) (L : Nat) : sy_Cok (sz_env xs L) sz_T sz_RU sz_c100 := sy_chk_ok (CT := []) (CU := sz_u100) (M := ri_m_X11_isBalanced) (fun _ h => absurd h List.not_mem_nil) rfl rfl ⟨_, _, sz_s100_0⟩ (fun _ h => absurd h List.not_mem_nil)

/-! X11_isTold [244, 0, 1, 1] -/
set_option maxRecDepth 100000 in
noncomputable def sz_c101 : sy_Ct := (170, 1, 23, [(3, .inr 244, .inl 0), (0, .inl 0, .inl 0), (0, .inl 1, .inl 0), (1, .inl 1, .inl 0)], ([], []), [], [], [(245, 4, 4), (245, 345, 584)], [(.inl none, 0, 0, ([], []), [], [])])
set_option maxRecDepth 100000 in
noncomputable def sz_u101 : List sy_Cut := [(2, [(0, (3, .inr 244, .inl 0)), (1, (0, .inl 0, .inl 0)), (2, (0, .inl 1, .inl 0)), (3, (1, .inl 1, .inl 0)), (5, (0, .inr 0, .inl 0))], ([(3, 239)], []), [], [], [(1, [0]), ((-3), [])])]
set_option maxRecDepth 100000 in
noncomputable def sz_h101_0 : List sy_Hn := [(0, 30, 0, 0, 0, 0, [([], [(1, [0])]), ([], [])], [], [])]
set_option maxRecDepth 100000 in
theorem sz_s101_0 : sy_seg sz_E sz_T sz_RU [] sz_c101 sz_u101 ri_m_X11_isTold 9 none sz_h101_0 = true := by decide +kernel
set_option maxRecDepth 100000 in
noncomputable def sz_h101_1 : List sy_Hn := [(0, 31, 0, 0, 0, 0, [], [], []),
  (0, 31, 0, 0, 0, 0, [], [], []),
  (0, 30, 0, 0, 0, 0, [([5], [(1, [0]), (1, [1])]), ([], [(1, [0]), (1, [2])])], [], [])]
set_option maxRecDepth 100000 in
theorem sz_s101_1 : sy_seg sz_E sz_T sz_RU [] sz_c101 sz_u101 ri_m_X11_isTold 77 (some ((2, [(0, (3, .inr 244, .inl 0)), (1, (0, .inl 0, .inl 0)), (2, (0, .inl 1, .inl 0)), (3, (1, .inl 1, .inl 0)), (5, (0, .inr 0, .inl 0))], ([(3, 239)], []), [], [], [(1, [0]), ((-3), [])]))) sz_h101_1 = true := by decide +kernel
theorem sz_ok101 (xs : Nat → Value) (L : Nat) : sy_Cok (sz_env xs L) sz_T sz_RU sz_c101 := sy_chk_ok (CT := []) (CU := sz_u101) (M := ri_m_X11_isTold) (fun _ h => absurd h List.not_mem_nil) rfl rfl ⟨_, _, sz_s101_0⟩ (List.forall_mem_cons.mpr ⟨⟨_, _, sz_s101_1⟩, fun _ h => absurd h List.not_mem_nil⟩)

/-! X11_isMode [244, 0, 1] -/
set_option maxRecDepth 100000 in
noncomputable def sz_c102 : sy_Ct := (102, 5, 114, [(3, .inr 244, .inl 0), (0, .inl 0, .inl 0), (0, .inl 1, .inl 0)], ([], []), [], [], [(245, 4, 4), (245, 13, 13), (245, 20, 21), (245, 54, 54), (245, 66, 70), (245, 345, 584)], [(.inl none, 0, 0, ([], []), [], [])])
set_option maxRecDepth 100000 in
noncomputable def sz_u102 : List sy_Cut := []
set_option maxRecDepth 100000 in
noncomputable def sz_h102_0 : List sy_Hn := [(89, 4, 245, 10, 0, 0, [], [], []),
  (0, 4, 245, 11, 0, 0, [], [], []),
  (0, 4, 245, 71, 0, 0, [], [], []),
  (0, 4, 245, 78, 0, 0, [], [], []),
  (0, 6, 3, 0, 0, 0, [([], [(1, [0])]), ([], [(1, [0])])], [], [0, 0]),
  (0, 4, 245, 12, 0, 0, [], [], []),
  (0, 6, 4, 0, 0, 0, [([], [(1, [0])])], [], [0]),
  (0, 4, 245, 74, 0, 0, [], [], []),
  (0, 4, 245, 75, 0, 0, [], [], []),
  (0, 6, 7, 0, 0, 0, [([], [(1, [0])]), ([], [(1, [0])])], [], [0, 0]),
  (1, 20, 0, 0, 0, 0, [], [], []),
  (182, 6, 8, 0, 0, 0, [([], [(1, [0])])], [], [0]),
  (0, 4, 245, 0, 0, 0, [], [], []),
  (0, 6, 9, 0, 0, 0, [([], [(1, [0])])], [], [1]),
  (1, 20, 1, 0, 0, 0, [], [], []),
  (0, 31, 0, 0, 0, 0, [], [], []),
  (62, 4, 245, 10, 0, 0, [], [], []),
  (0, 4, 245, 11, 0, 0, [], [], []),
  (0, 4, 245, 71, 0, 0, [], [], []),
  (0, 4, 245, 78, 0, 0, [], [], []),
  (0, 6, 3, 0, 0, 0, [([], [(1, [0])]), ([], [(1, [0])])], [], [0, 0]),
  (0, 4, 245, 12, 0, 0, [], [], []),
  (0, 6, 4, 0, 0, 0, [([], [(1, [0])])], [], [0]),
  (0, 4, 245, 74, 0, 0, [], [], []),
  (0, 4, 245, 75, 0, 0, [], [], []),
  (0, 6, 7, 0, 0, 0, [([], [(1, [0])]), ([], [(1, [0])])], [], [0, 0]),
  (1, 20, 0, 0, 0, 0, [], [], []),
  (182, 6, 8, 0, 0, 0, [([], [(1, [0])])], [], [0]),
  (0, 4, 245, 0, 0, 0, [], [], []),
  (0, 6, 9, 0, 0, 0, [([], [(1, [0])])], [], [1]),
  (1, 20, 1, 0, 0, 0, [], [], []),
  (0, 31, 0, 0, 0, 0, [], [], []),
  (0, 31, 0, 0, 0, 0, [], [], [])]
set_option maxRecDepth 100000 in
theorem sz_s102_0 : sy_seg sz_E sz_T sz_RU [sz_c100, sz_c101] sz_c102 sz_u102 ri_m_X11_isMode 564 none sz_h102_0 = true := by decide +kernel
theorem sz_ok102 (xs : Nat → Value) (L : Nat) : sy_Cok (sz_env xs L) sz_T sz_RU sz_c102 := sy_chk_ok (CT := [sz_c100, sz_c101]) (CU := sz_u102) (M := ri_m_X11_isMode) (List.forall_mem_cons.mpr ⟨sz_ok100 xs L, List.forall_mem_cons.mpr ⟨sz_ok101 xs L, fun _ h => absurd h List.not_mem_nil⟩⟩) rfl rfl ⟨_, _, sz_s102_0⟩ (fun _ h => absurd h List.not_mem_nil)

/-! X11_happens [244, 4, 0, 1] -/
set_option maxRecDepth 100000 in
noncomputable def sz_c103 : sy_Ct := (225, 6, 137, [(3, .inr 244, .inl 0), (0, .inl 4, .inl 0), (0, .inl 0, .inl 0), (0, .inl 1, .inl 0)], ([], []), [], [], [(245, 4, 4), (245, 13, 13), (245, 20, 21), (245, 54, 54), (245, 66, 70), (245, 345, 584)], [(.inl none, 0, 0, ([], []), [], [])])
set_option maxRecDepth 100000 in
noncomputable def sz_u103 : List sy_Cut := []
set_option maxRecDepth 100000 in
noncomputable def sz_h103_0 : List sy_Hn := [(18, 20, 0, 0, 0, 0, [], [], []),
  (0, 31, 0, 0, 0, 0, [], [], [])]
set_option maxRecDepth 100000 in
theorem sz_s103_0 : sy_seg sz_E sz_T sz_RU [sz_c102] sz_c103 sz_u103 ri_m_X11_happens 26 none sz_h103_0 = true := by decide +kernel
theorem sz_ok103 (xs : Nat → Value) (L : Nat) : sy_Cok (sz_env xs L) sz_T sz_RU sz_c103 := sy_chk_ok (CT := [sz_c102]) (CU := sz_u103) (M := ri_m_X11_happens) (List.forall_mem_cons.mpr ⟨sz_ok102 xs L, fun _ h => absurd h List.not_mem_nil⟩) rfl rfl ⟨_, _, sz_s103_0⟩ (fun _ h => absurd h List.not_mem_nil)

/-! X11_isTold [244, 0, 1, 2] -/
set_option maxRecDepth 100000 in
noncomputable def sz_c104 : sy_Ct := (170, 1, 23, [(3, .inr 244, .inl 0), (0, .inl 0, .inl 0), (0, .inl 1, .inl 0), (1, .inl 2, .inl 0)], ([], []), [], [], [(245, 4, 4), (245, 345, 584)], [(.inl none, 0, 0, ([], []), [], [])])
set_option maxRecDepth 100000 in
noncomputable def sz_u104 : List sy_Cut := [(2, [(0, (3, .inr 244, .inl 0)), (1, (0, .inl 0, .inl 0)), (2, (0, .inl 1, .inl 0)), (3, (1, .inl 2, .inl 0)), (5, (0, .inr 0, .inl 0))], ([(3, 239)], []), [], [], [(1, [0]), ((-3), [])])]
set_option maxRecDepth 100000 in
noncomputable def sz_h104_0 : List sy_Hn := [(0, 30, 0, 0, 0, 0, [([], [(1, [0])]), ([], [])], [], [])]
set_option maxRecDepth 100000 in
theorem sz_s104_0 : sy_seg sz_E sz_T sz_RU [] sz_c104 sz_u104 ri_m_X11_isTold 9 none sz_h104_0 = true := by decide +kernel
set_option maxRecDepth 100000 in
noncomputable def sz_h104_1 : List sy_Hn := [(0, 31, 0, 0, 0, 0, [], [], []),
  (0, 31, 0, 0, 0, 0, [], [], []),
  (0, 30, 0, 0, 0, 0, [([5], [(1, [0]), (1, [1])]), ([], [(1, [0]), (1, [2])])], [], [])]
set_option maxRecDepth 100000 in
theorem sz_s104_1 : sy_seg sz_E sz_T sz_RU [] sz_c104 sz_u104 ri_m_X11_isTold 77 (some ((2, [(0, (3, .inr 244, .inl 0)), (1, (0, .inl 0, .inl 0)), (2, (0, .inl 1, .inl 0)), (3, (1, .inl 2, .inl 0)), (5, (0, .inr 0, .inl 0))], ([(3, 239)], []), [], [], [(1, [0]), ((-3), [])]))) sz_h104_1 = true := by decide +kernel
theorem sz_ok104 (xs : Nat → Value) (L : Nat) : sy_Cok (sz_env xs L) sz_T sz_RU sz_c104 := sy_chk_ok (CT := []) (CU := sz_u104) (M := ri_m_X11_isTold) (fun _ h => absurd h List.not_mem_nil) rfl rfl ⟨_, _, sz_s104_0⟩ (List.forall_mem_cons.mpr ⟨⟨_, _, sz_s104_1⟩, fun _ h => absurd h List.not_mem_nil⟩)

/-! X11_isMode [244, 0, 2] -/
set_option maxRecDepth 100000 in
noncomputable def sz_c105 : sy_Ct := (102, 5, 114, [(3, .inr 244, .inl 0), (0, .inl 0, .inl 0), (0, .inl 2, .inl 0)], ([], []), [((245, 12), (1, .inl 0, .inl 0))], [], [(245, 4, 4), (245, 13, 14), (245, 20, 21), (245, 54, 54), (245, 66, 70), (245, 345, 584)], [(.inl none, 0, 0, ([], []), [], [])])
set_option maxRecDepth 100000 in
noncomputable def sz_u105 : List sy_Cut := []
set_option maxRecDepth 100000 in
noncomputable def sz_h105_0 : List sy_Hn := [(147, 4, 245, 10, 0, 0, [], [], []),
  (0, 4, 245, 11, 0, 0, [], [], []),
  (0, 4, 245, 71, 0, 0, [], [], []),
  (0, 4, 245, 78, 0, 0, [], [], []),
  (0, 6, 3, 0, 0, 0, [([], [(1, [0])]), ([], [(1, [0])])], [], [0, 0]),
  (0, 6, 4, 0, 0, 0, [([], [(1, [0])])], [], [2]),
  (0, 4, 245, 74, 0, 0, [], [], []),
  (0, 4, 245, 75, 0, 0, [], [], []),
  (0, 6, 7, 0, 0, 0, [([], [(1, [0])]), ([], [(1, [0])])], [], [0, 0]),
  (1, 20, 0, 0, 0, 0, [], [], []),
  (182, 6, 8, 0, 0, 0, [([], [(1, [0])])], [], [0]),
  (0, 4, 245, 0, 0, 0, [], [], []),
  (0, 6, 9, 0, 0, 0, [([], [(1, [0])])], [], [1]),
  (1, 20, 1, 0, 0, 0, [], [], []),
  (0, 31, 0, 0, 0, 0, [], [], []),
  (23, 4, 245, 10, 0, 0, [], [], []),
  (0, 4, 245, 11, 0, 0, [], [], []),
  (0, 4, 245, 71, 0, 0, [], [], []),
  (0, 4, 245, 78, 0, 0, [], [], []),
  (0, 5, 3, 0, 0, 0, [], [], []),
  (0, 7, 0, 0, 0, 0, [([0], [(1, [2]), (1, [0])])], [], []),
  (0, 5, 3, 1, 0, 0, [], [], []),
  (0, 7, 0, 0, 0, 0, [([0], [(1, [2]), (1, [0])])], [], []),
  (0, 4, 245, 74, 0, 0, [], [], []),
  (0, 4, 245, 75, 0, 0, [], [], []),
  (0, 5, 7, 0, 0, 0, [], [], []),
  (0, 7, 0, 0, 0, 0, [([0], [(1, [2]), (1, [0])])], [], []),
  (0, 3, 5, 0, 0, 239, [([5], [(1, [0]), (1, [1])]), ([], [(1, [0]), (1, [1])])], [], []),
  (0, 5, 7, 1, 0, 0, [], [], []),
  (0, 7, 0, 0, 0, 0, [([0], [(1, [2]), (1, [0])])], [], []),
  (97, 6, 3, 0, 0, 0, [([], [(1, [0])]), ([], [(1, [0])])], [], [0, 0]),
  (0, 6, 4, 0, 0, 0, [([], [(1, [0])])], [], [2]),
  (0, 6, 7, 0, 0, 0, [([], [(1, [0])]), ([], [(1, [0])])], [], [0, 0]),
  (1, 20, 0, 0, 0, 0, [], [], []),
  (182, 6, 8, 0, 0, 0, [([], [(1, [0])])], [], [0]),
  (0, 4, 245, 0, 0, 0, [], [], []),
  (0, 6, 9, 0, 0, 0, [([], [(1, [0])])], [], [1]),
  (1, 20, 1, 0, 0, 0, [], [], []),
  (0, 31, 0, 0, 0, 0, [], [], []),
  (0, 31, 0, 0, 0, 0, [], [], [])]
set_option maxRecDepth 100000 in
theorem sz_s105_0 : sy_seg sz_E sz_T sz_RU [sz_c100, sz_c104] sz_c105 sz_u105 ri_m_X11_isMode 691 none sz_h105_0 = true := by decide +kernel
theorem sz_ok105 (xs : Nat → Value) (L : Nat) : sy_Cok (sz_env xs L) sz_T sz_RU sz_c105 := sy_chk_ok (CT := [sz_c100, sz_c104]) (CU := sz_u105) (M := ri_m_X11_isMode) (List.forall_mem_cons.mpr ⟨sz_ok100 xs L, List.forall_mem_cons.mpr ⟨sz_ok104 xs L, fun _ h => absurd h List.not_mem_nil⟩⟩) rfl rfl ⟨_, _, sz_s105_0⟩ (fun _ h => absurd h List.not_mem_nil)

/-! X11_happens [244, 4, 0, 2] -/
set_option maxRecDepth 100000 in
noncomputable def sz_c106 : sy_Ct := (225, 6, 137, [(3, .inr 244, .inl 0), (0, .inl 4, .inl 0), (0, .inl 0, .inl 0), (0, .inl 2, .inl 0)], ([], []), [((245, 12), (1, .inl 0, .inl 0))], [], [(245, 4, 4), (245, 13, 14), (245, 20, 21), (245, 54, 54), (245, 66, 70), (245, 345, 584)], [(.inl none, 0, 0, ([], []), [], [])])
set_option maxRecDepth 100000 in
noncomputable def sz_u106 : List sy_Cut := []
set_option maxRecDepth 100000 in
noncomputable def sz_h106_0 : List sy_Hn := [(18, 20, 0, 0, 0, 0, [], [], []),
  (0, 31, 0, 0, 0, 0, [], [], [])]
set_option maxRecDepth 100000 in
theorem sz_s106_0 : sy_seg sz_E sz_T sz_RU [sz_c105] sz_c106 sz_u106 ri_m_X11_happens 26 none sz_h106_0 = true := by decide +kernel
theorem sz_ok106 (xs : Nat → Value) (L : Nat) : sy_Cok (sz_env xs L) sz_T sz_RU sz_c106 := sy_chk_ok (CT := [sz_c105]) (CU := sz_u106) (M := ri_m_X11_happens) (List.forall_mem_cons.mpr ⟨sz_ok105 xs L, fun _ h => absurd h List.not_mem_nil⟩) rfl rfl ⟨_, _, sz_s106_0⟩ (fun _ h => absurd h List.not_mem_nil)

/-! X11_isTold [244, 1, 1, 0] -/
set_option maxRecDepth 100000 in
noncomputable def sz_c107 : sy_Ct := (170, 1, 23, [(3, .inr 244, .inl 0), (0, .inl 1, .inl 0), (0, .inl 1, .inl 0), (1, .inl 0, .inl 0)], ([], []), [], [], [(245, 4, 4), (245, 345, 584)], [(.inl none, 0, 0, ([], []), [], [])])
set_option maxRecDepth 100000 in
noncomputable def sz_u107 : List sy_Cut := [(2, [(0, (3, .inr 244, .inl 0)), (1, (0, .inl 1, .inl 0)), (2, (0, .inl 1, .inl 0)), (3, (1, .inl 0, .inl 0)), (5, (0, .inr 0, .inl 0))], ([(3, 239)], []), [], [], [(1, [0]), ((-3), [])])]
set_option maxRecDepth 100000 in
noncomputable def sz_h107_0 : List sy_Hn := [(0, 30, 0, 0, 0, 0, [([], [(1, [0])]), ([], [])], [], [])]
set_option maxRecDepth 100000 in
theorem sz_s107_0 : sy_seg sz_E sz_T sz_RU [] sz_c107 sz_u107 ri_m_X11_isTold 9 none sz_h107_0 = true := by decide +kernel
set_option maxRecDepth 100000 in
noncomputable def sz_h107_1 : List sy_Hn := [(0, 31, 0, 0, 0, 0, [], [], []),
  (0, 31, 0, 0, 0, 0, [], [], []),
  (0, 30, 0, 0, 0, 0, [([5], [(1, [0]), (1, [1])]), ([], [(1, [0]), (1, [2])])], [], [])]
set_option maxRecDepth 100000 in
theorem sz_s107_1 : sy_seg sz_E sz_T sz_RU [] sz_c107 sz_u107 ri_m_X11_isTold 77 (some ((2, [(0, (3, .inr 244, .inl 0)), (1, (0, .inl 1, .inl 0)), (2, (0, .inl 1, .inl 0)), (3, (1, .inl 0, .inl 0)), (5, (0, .inr 0, .inl 0))], ([(3, 239)], []), [], [], [(1, [0]), ((-3), [])]))) sz_h107_1 = true := by decide +kernel
theorem sz_ok107 (xs : Nat → Value) (L : Nat) : sy_Cok (sz_env xs L) sz_T sz_RU sz_c107 := sy_chk_ok (CT := []) (CU := sz_u107) (M := ri_m_X11_isTold) (fun _ h => absurd h List.not_mem_nil) rfl rfl ⟨_, _, sz_s107_0⟩ (List.forall_mem_cons.mpr ⟨⟨_, _, sz_s107_1⟩, fun _ h => absurd h List.not_mem_nil⟩)

/-! X11_isMode [244, 1, 0] -/
set_option maxRecDepth 100000 in
noncomputable def sz_c108 : sy_Ct := (102, 3, 65, [(3, .inr 244, .inl 0), (0, .inl 1, .inl 0), (0, .inl 0, .inl 0)], ([], []), [], [], [(245, 4, 4), (245, 90, 90), (245, 97, 98), (245, 143, 147), (245, 345, 584)], [(.inl none, 0, 0, ([], []), [], [])])
set_option maxRecDepth 100000 in
noncomputable def sz_u108 : List sy_Cut := []
set_option maxRecDepth 100000 in
noncomputable def sz_h108_0 : List sy_Hn := [(239, 4, 245, 87, 0, 0, [], [], []),
  (0, 4, 245, 88, 0, 0, [], [], []),
  (0, 4, 245, 148, 0, 0, [], [], []),
  (0, 4, 245, 155, 0, 0, [], [], []),
  (0, 6, 13, 0, 0, 0, [([], [(1, [0])]), ([], [(1, [0])])], [], [0, 0]),
  (0, 4, 245, 89, 0, 0, [], [], []),
  (0, 6, 14, 0, 0, 0, [([], [(1, [0])])], [], [0]),
  (0, 4, 245, 151, 0, 0, [], [], []),
  (0, 4, 245, 152, 0, 0, [], [], []),
  (0, 6, 16, 0, 0, 0, [([], [(1, [0])]), ([], [(1, [0])])], [], [0, 0]),
  (0, 4, 245, 12, 0, 0, [], [], []),
  (0, 6, 17, 0, 0, 0, [([], [(1, [0])]), ([], [(1, [0])])], [], [0, 0]),
  (0, 4, 245, 0, 0, 0, [], [], []),
  (0, 6, 18, 0, 0, 0, [([], [(1, [0])])], [], [1]),
  (1, 20, 0, 0, 0, 0, [], [], []),
  (0, 31, 0, 0, 0, 0, [], [], []),
  (0, 31, 0, 0, 0, 0, [], [], [])]
set_option maxRecDepth 100000 in
theorem sz_s108_0 : sy_seg sz_E sz_T sz_RU [sz_c107] sz_c108 sz_u108 ri_m_X11_isMode 268 none sz_h108_0 = true := by decide +kernel
theorem sz_ok108 (xs : Nat → Value) (L : Nat) : sy_Cok (sz_env xs L) sz_T sz_RU sz_c108 := sy_chk_ok (CT := [sz_c107]) (CU := sz_u108) (M := ri_m_X11_isMode) (List.forall_mem_cons.mpr ⟨sz_ok107 xs L, fun _ h => absurd h List.not_mem_nil⟩) rfl rfl ⟨_, _, sz_s108_0⟩ (fun _ h => absurd h List.not_mem_nil)

/-! X11_happens [244, 4, 1, 0] -/
set_option maxRecDepth 100000 in
noncomputable def sz_c109 : sy_Ct := (225, 4, 88, [(3, .inr 244, .inl 0), (0, .inl 4, .inl 0), (0, .inl 1, .inl 0), (0, .inl 0, .inl 0)], ([], []), [], [], [(245, 4, 4), (245, 90, 90), (245, 97, 98), (245, 143, 147), (245, 345, 584)], [(.inl none, 0, 0, ([], []), [], [])])
set_option maxRecDepth 100000 in
noncomputable def sz_u109 : List sy_Cut := []
set_option maxRecDepth 100000 in
noncomputable def sz_h109_0 : List sy_Hn := [(18, 20, 0, 0, 0, 0, [], [], []),
  (0, 31, 0, 0, 0, 0, [], [], [])]
set_option maxRecDepth 100000 in
theorem sz_s109_0 : sy_seg sz_E sz_T sz_RU [sz_c108] sz_c109 sz_u109 ri_m_X11_happens 26 none sz_h109_0 = true := by decide +kernel
theorem sz_ok109 (xs : Nat → Value) (L : Nat) : sy_Cok (sz_env xs L) sz_T sz_RU sz_c109 := sy_chk_ok (CT := [sz_c108]) (CU := sz_u109) (M := ri_m_X11_happens) (List.forall_mem_cons.mpr ⟨sz_ok108 xs L, fun _ h => absurd h List.not_mem_nil⟩) rfl rfl ⟨_, _, sz_s109_0⟩ (fun _ h => absurd h List.not_mem_nil)

/-! X11_isBalanced [244, 1, 0] -/
set_option maxRecDepth 100000 in
noncomputable def sz_c110 : sy_Ct := (107, 4, 91, [(3, .inr 244, .inl 0), (0, .inl 1, .inl 0), (1, .inr 0, .inl 0)], ([((-9223372036854775808), 9223372036854775807)], []), [], [], [(245, 131, 131)], [(.inl none, 0, 0, ([((-9223372036854775808), 9223372036854775807)], []), [], [])])
set_option maxRecDepth 100000 in
noncomputable def sz_u110 : List sy_Cut := []
set_option maxRecDepth 100000 in
noncomputable def sz_h110_0 : List sy_Hn := [(63, 1, 3, 0, 0, 0, [], [], []),
  (0, 31, 0, 0, 0, 0, [], [], []),
  (0, 31, 0, 0, 0, 0, [], [], []),
  (0, 31, 0, 0, 0, 0, [], [], []),
  (0, 1, 3, 0, 1, 0, [], [], []),
  (0, 31, 0, 0, 0, 0, [], [], []),
  (0, 31, 0, 0, 0, 0, [], [], []),
  (0, 31, 0, 0, 0, 0, [], [], []),
  (0, 31, 0, 0, 0, 0, [], [], []),
  (0, 31, 0, 0, 0, 0, [], [], []),
  (0, 31, 0, 0, 0, 0, [], [], [])]
set_option maxRecDepth 100000 in
theorem sz_s110_0 : sy_seg sz_E sz_T sz_RU [] sz_c110 sz_u110 ri_m_X11_isBalanced 798 none sz_h110_0 = true := by decide +kernel
theorem sz_ok110 (xs : Nat → Value) (L : Nat) : sy_Cok (sz_env xs L) sz_T sz_RU sz_c110 := sy_chk_ok (CT := []) (CU := sz_u110) (M := ri_m_X11_isBalanced) (fun _ h => absurd h List.not_mem_nil) rfl rfl ⟨_, _, sz_s110_0⟩ (fun _ h => absurd h List.not_mem_nil)

/-! X11_isTold [244, 1, 1, 1] -/
set_option maxRecDepth 100000 in
noncomputable def sz_c111 : sy_Ct := (170, 1, 23, [(3, .inr 244, .inl 0), (0, .inl 1, .inl 0), (0, .inl 1, .inl 0), (1, .inl 1, .inl 0)], ([], []), [], [], [(245, 4, 4), (245, 345, 584)], [(.inl none, 0, 0, ([], []), [], [])])
set_option maxRecDepth 100000 in
noncomputable def sz_u111 : List sy_Cut := [(2, [(0, (3, .inr 244, .inl 0)), (1, (0, .inl 1, .inl 0)), (2, (0, .inl 1, .inl 0)), (3, (1, .inl 1, .inl 0)), (5, (0, .inr 0, .inl 0))], ([(3, 239)], []), [], [], [(1, [0]), ((-3), [])])]
set_option maxRecDepth 100000 in
noncomputable def sz_h111_0 : List sy_Hn := [(0, 30, 0, 0, 0, 0, [([], [(1, [0])]), ([], [])], [], [])]
set_option maxRecDepth 100000 in
theorem sz_s111_0 : sy_seg sz_E sz_T sz_RU [] sz_c111 sz_u111 ri_m_X11_isTold 9 none sz_h111_0 = true := by decide +kernel
set_option maxRecDepth 100000 in
noncomputable def sz_h111_1 : List sy_Hn := [(0, 31, 0, 0, 0, 0, [], [], []),
  (0, 31, 0, 0, 0, 0, [], [], []),
  (0, 30, 0, 0, 0, 0, [([5], [(1, [0]), (1, [1])]), ([], [(1, [0]), (1, [2])])], [], [])]
set_option maxRecDepth 100000 in
theorem sz_s111_1 : sy_seg sz_E sz_T sz_RU [] sz_c111 sz_u111 ri_m_X11_isTold 77 (some ((2, [(0, (3, .inr 244, .inl 0)), (1, (0, .inl 1, .inl 0)), (2, (0, .inl 1, .inl 0)), (3, (1, .inl 1, .inl 0)), (5, (0, .inr 0, .inl 0))], ([(3, 239)], []), [], [], [(1, [0]), ((-3), [])]))) sz_h111_1 = true := by decide +kernel
theorem sz_ok111 (xs : Nat → Value) (L : Nat) : sy_Cok (sz_env xs L) sz_T sz_RU sz_c111 := sy_chk_ok (CT := []) (CU := sz_u111) (M := ri_m_X11_isTold) (fun _ h => absurd h List.not_mem_nil) rfl rfl ⟨_, _, sz_s111_0⟩ (List.forall_mem_cons.mpr ⟨⟨_, _, sz_s111_1⟩, fun _ h => absurd h List.not_mem_nil⟩)

/-! X11_isMode [244, 1, 1] -/
set_option maxRecDepth 100000 in
noncomputable def sz_c112 : sy_Ct := (102, 5, 114, [(3, .inr 244, .inl 0), (0, .inl 1, .inl 0), (0, .inl 1, .inl 0)], ([], []), [], [], [(245, 4, 4), (245, 90, 90), (245, 97, 98), (245, 131, 131), (245, 143, 147), (245, 345, 584)], [(.inl none, 0, 0, ([], []), [], [])])
set_option maxRecDepth 100000 in
noncomputable def sz_u112 : List sy_Cut := []
set_option maxRecDepth 100000 in
noncomputable def sz_h112_0 : List sy_Hn := [(89, 4, 245, 87, 0, 0, [], [], []),
  (0, 4, 245, 88, 0, 0, [], [], []),
  (0, 4, 245, 148, 0, 0, [], [], []),
  (0, 4, 245, 155, 0, 0, [], [], []),
  (0, 6, 13, 0, 0, 0, [([], [(1, [0])]), ([], [(1, [0])])], [], [0, 0]),
  (0, 4, 245, 89, 0, 0, [], [], []),
  (0, 6, 14, 0, 0, 0, [([], [(1, [0])])], [], [0]),
  (0, 4, 245, 151, 0, 0, [], [], []),
  (0, 4, 245, 152, 0, 0, [], [], []),
  (0, 6, 16, 0, 0, 0, [([], [(1, [0])]), ([], [(1, [0])])], [], [0, 0]),
  (1, 20, 0, 0, 0, 0, [], [], []),
  (182, 4, 245, 12, 0, 0, [], [], []),
  (0, 6, 17, 0, 0, 0, [([], [(1, [0])]), ([], [(1, [0])])], [], [0, 0]),
  (0, 4, 245, 0, 0, 0, [], [], []),
  (0, 6, 18, 0, 0, 0, [([], [(1, [0])])], [], [1]),
  (1, 20, 1, 0, 0, 0, [], [], []),
  (0, 31, 0, 0, 0, 0, [], [], []),
  (62, 4, 245, 87, 0, 0, [], [], []),
  (0, 4, 245, 88, 0, 0, [], [], []),
  (0, 4, 245, 148, 0, 0, [], [], []),
  (0, 4, 245, 155, 0, 0, [], [], []),
  (0, 6, 13, 0, 0, 0, [([], [(1, [0])]), ([], [(1, [0])])], [], [0, 0]),
  (0, 4, 245, 89, 0, 0, [], [], []),
  (0, 6, 14, 0, 0, 0, [([], [(1, [0])])], [], [0]),
  (0, 4, 245, 151, 0, 0, [], [], []),
  (0, 4, 245, 152, 0, 0, [], [], []),
  (0, 6, 16, 0, 0, 0, [([], [(1, [0])]), ([], [(1, [0])])], [], [0, 0]),
  (1, 20, 0, 0, 0, 0, [], [], []),
  (182, 4, 245, 12, 0, 0, [], [], []),
  (0, 6, 17, 0, 0, 0, [([], [(1, [0])]), ([], [(1, [0])])], [], [0, 0]),
  (0, 4, 245, 0, 0, 0, [], [], []),
  (0, 6, 18, 0, 0, 0, [([], [(1, [0])])], [], [1]),
  (1, 20, 1, 0, 0, 0, [], [], []),
  (0, 31, 0, 0, 0, 0, [], [], []),
  (0, 31, 0, 0, 0, 0, [], [], [])]
set_option maxRecDepth 100000 in
theorem sz_s112_0 : sy_seg sz_E sz_T sz_RU [sz_c110, sz_c111] sz_c112 sz_u112 ri_m_X11_isMode 566 none sz_h112_0 = true := by decide +kernel
theorem sz_ok112 (xs : Nat → Value) (L : Nat) : sy_Cok (sz_env xs L) sz_T sz_RU sz_c112 := sy_chk_ok (CT := [sz_c110, sz_c111]) (CU := sz_u112) (M := ri_m_X11_isMode) (List.forall_mem_cons.mpr ⟨sz_ok110 xs L, List.forall_mem_cons.mpr ⟨sz_ok111 xs L, fun _ h => absurd h List.not_mem_nil⟩⟩) rfl rfl ⟨_, _, sz_s112_0⟩ (fun _ h => absurd h List.not_mem_nil)

/-! X11_happens [244, 4, 1, 1] -/
set_option maxRecDepth 100000 in
noncomputable def sz_c113 : sy_Ct := (225, 6, 137, [(3, .inr 244, .inl 0), (0, .inl 4, .inl 0), (0, .inl 1, .inl 0), (0, .inl 1, .inl 0)], ([], []), [], [], [(245, 4, 4), (245, 90, 90), (245, 97, 98), (245, 131, 131), (245, 143, 147), (245, 345, 584)], [(.inl none, 0, 0, ([], []), [], [])])
set_option maxRecDepth 100000 in
noncomputable def sz_u113 : List sy_Cut := []
set_option maxRecDepth 100000 in
noncomputable def sz_h113_0 : List sy_Hn := [(18, 20, 0, 0, 0, 0, [], [], []),
  (0, 31, 0, 0, 0, 0, [], [], [])]
set_option maxRecDepth 100000 in
theorem sz_s113_0 : sy_seg sz_E sz_T sz_RU [sz_c112] sz_c113 sz_u113 ri_m_X11_happens 26 none sz_h113_0 = true := by decide +kernel
theorem sz_ok113 (xs : Nat → Value) (L : Nat) : sy_Cok (sz_env xs L) sz_T sz_RU sz_c113 := sy_chk_ok (CT := [sz_c112]) (CU := sz_u113) (M := ri_m_X11_happens) (List.forall_mem_cons.mpr ⟨sz_ok112 xs L, fun _ h => absurd h List.not_mem_nil⟩) rfl rfl ⟨_, _, sz_s113_0⟩ (fun _ h => absurd h List.not_mem_nil)

/-! X11_isTold [244, 1, 1, 2] -/
set_option maxRecDepth 100000 in
noncomputable def sz_c114 : sy_Ct := (170, 1, 23, [(3, .inr 244, .inl 0), (0, .inl 1, .inl 0), (0, .inl 1, .inl 0), (1, .inl 2, .inl 0)], ([], []), [], [], [(245, 4, 4), (245, 345, 584)], [(.inl none, 0, 0, ([], []), [], [])])
set_option maxRecDepth 100000 in
noncomputable def sz_u114 : List sy_Cut := [(2, [(0, (3, .inr 244, .inl 0)), (1, (0, .inl 1, .inl 0)), (2, (0, .inl 1, .inl 0)), (3, (1, .inl 2, .inl 0)), (5, (0, .inr 0, .inl 0))], ([(3, 239)], []), [], [], [(1, [0]), ((-3), [])])]
set_option maxRecDepth 100000 in
noncomputable def sz_h114_0 : List sy_Hn := [(0, 30, 0, 0, 0, 0, [([], [(1, [0])]), ([], [])], [], [])]
set_option maxRecDepth 100000 in
theorem sz_s114_0 : sy_seg sz_E sz_T sz_RU [] sz_c114 sz_u114 ri_m_X11_isTold 9 none sz_h114_0 = true := by decide +kernel
set_option maxRecDepth 100000 in
noncomputable def sz_h114_1 : List sy_Hn := [(0, 31, 0, 0, 0, 0, [], [], []),
  (0, 31, 0, 0, 0, 0, [], [], []),
  (0, 30, 0, 0, 0, 0, [([5], [(1, [0]), (1, [1])]), ([], [(1, [0]), (1, [2])])], [], [])]
set_option maxRecDepth 100000 in
theorem sz_s114_1 : sy_seg sz_E sz_T sz_RU [] sz_c114 sz_u114 ri_m_X11_isTold 77 (some ((2, [(0, (3, .inr 244, .inl 0)), (1, (0, .inl 1, .inl 0)), (2, (0, .inl 1, .inl 0)), (3, (1, .inl 2, .inl 0)), (5, (0, .inr 0, .inl 0))], ([(3, 239)], []), [], [], [(1, [0]), ((-3), [])]))) sz_h114_1 = true := by decide +kernel
theorem sz_ok114 (xs : Nat → Value) (L : Nat) : sy_Cok (sz_env xs L) sz_T sz_RU sz_c114 := sy_chk_ok (CT := []) (CU := sz_u114) (M := ri_m_X11_isTold) (fun _ h => absurd h List.not_mem_nil) rfl rfl ⟨_, _, sz_s114_0⟩ (List.forall_mem_cons.mpr ⟨⟨_, _, sz_s114_1⟩, fun _ h => absurd h List.not_mem_nil⟩)

/-! X11_isMode [244, 1, 2] -/
set_option maxRecDepth 100000 in
noncomputable def sz_c115 : sy_Ct := (102, 5, 114, [(3, .inr 244, .inl 0), (0, .inl 1, .inl 0), (0, .inl 2, .inl 0)], ([], []), [((245, 89), (1, .inl 0, .inl 0))], [], [(245, 4, 4), (245, 90, 91), (245, 97, 98), (245, 131, 131), (245, 143, 147), (245, 345, 584)], [(.inl none, 0, 0, ([], []), [], [])])
set_option maxRecDepth 100000 in
noncomputable def sz_u115 : List sy_Cut := []
set_option maxRecDepth 100000 in
noncomputable def sz_h115_0 : List sy_Hn := [(147, 4, 245, 87, 0, 0, [], [], []),
  (0, 4, 245, 88, 0, 0, [], [], []),
  (0, 4, 245, 148, 0, 0, [], [], []),
  (0, 4, 245, 155, 0, 0, [], [], []),
  (0, 6, 13, 0, 0, 0, [([], [(1, [0])]), ([], [(1, [0])])], [], [0, 0]),
  (0, 6, 14, 0, 0, 0, [([], [(1, [0])])], [], [2]),
  (0, 4, 245, 151, 0, 0, [], [], []),
  (0, 4, 245, 152, 0, 0, [], [], []),
  (0, 6, 16, 0, 0, 0, [([], [(1, [0])]), ([], [(1, [0])])], [], [0, 0]),
  (1, 20, 0, 0, 0, 0, [], [], []),
  (182, 4, 245, 12, 0, 0, [], [], []),
  (0, 6, 17, 0, 0, 0, [([], [(1, [0])]), ([], [(1, [0])])], [], [0, 0]),
  (0, 4, 245, 0, 0, 0, [], [], []),
  (0, 6, 18, 0, 0, 0, [([], [(1, [0])])], [], [1]),
  (1, 20, 1, 0, 0, 0, [], [], []),
  (0, 31, 0, 0, 0, 0, [], [], []),
  (23, 4, 245, 87, 0, 0, [], [], []),
  (0, 4, 245, 88, 0, 0, [], [], []),
  (0, 4, 245, 148, 0, 0, [], [], []),
  (0, 4, 245, 155, 0, 0, [], [], []),
  (0, 5, 13, 0, 0, 0, [], [], []),
  (0, 7, 0, 0, 0, 0, [([0], [(1, [2]), (1, [0])])], [], []),
  (0, 5, 13, 1, 0, 0, [], [], []),
  (0, 7, 0, 0, 0, 0, [([0], [(1, [2]), (1, [0])])], [], []),
  (0, 4, 245, 151, 0, 0, [], [], []),
  (0, 4, 245, 152, 0, 0, [], [], []),
  (0, 5, 16, 0, 0, 0, [], [], []),
  (0, 7, 0, 0, 0, 0, [([0], [(1, [2]), (1, [0])])], [], []),
  (0, 3, 5, 0, 0, 239, [([5], [(1, [0]), (1, [1])]), ([], [(1, [0]), (1, [1])])], [], []),
  (0, 5, 16, 1, 0, 0, [], [], []),
  (0, 7, 0, 0, 0, 0, [([0], [(1, [2]), (1, [0])])], [], []),
  (97, 6, 13, 0, 0, 0, [([], [(1, [0])]), ([], [(1, [0])])], [], [0, 0]),
  (0, 6, 14, 0, 0, 0, [([], [(1, [0])])], [], [2]),
  (0, 6, 16, 0, 0, 0, [([], [(1, [0])]), ([], [(1, [0])])], [], [0, 0]),
  (1, 20, 0, 0, 0, 0, [], [], []),
  (182, 4, 245, 12, 0, 0, [], [], []),
  (0, 6, 17, 0, 0, 0, [([], [(1, [0])]), ([], [(1, [0])])], [], [0, 0]),
  (0, 4, 245, 0, 0, 0, [], [], []),
  (0, 6, 18, 0, 0, 0, [([], [(1, [0])])], [], [1]),
  (1, 20, 1, 0, 0, 0, [], [], []),
  (0, 31, 0, 0, 0, 0, [], [], []),
  (0, 31, 0, 0, 0, 0, [], [], [])]
set_option maxRecDepth 100000 in
theorem sz_s115_0 : sy_seg sz_E sz_T sz_RU [sz_c110, sz_c114] sz_c115 sz_u115 ri_m_X11_isMode 693 none sz_h115_0 = true := by decide +kernel
theorem sz_ok115 (xs : Nat → Value) (L : Nat) : sy_Cok (sz_env xs L) sz_T sz_RU sz_c115 := sy_chk_ok (CT := [sz_c110, sz_c114]) (CU := sz_u115) (M := ri_m_X11_isMode) (List.forall_mem_cons.mpr ⟨sz_ok110 xs L, List.forall_mem_cons.mpr ⟨sz_ok114 xs L, fun _ h => absurd h List.not_mem_nil⟩⟩) rfl rfl ⟨_, _, sz_s115_0⟩ (fun _ h => absurd h List.not_mem_nil)

/-! X11_happens [244, 4, 1, 2] -/
set_option maxRecDepth 100000 in
noncomputable def sz_c116 : sy_Ct := (225, 6, 137, [(3, .inr 244, .inl 0), (0, .inl 4, .inl 0), (0, .inl 1, .inl 0), (0, .inl 2, .inl 0)], ([], []), [((245, 89), (1, .inl 0, .inl 0))], [], [(245, 4, 4), (245, 90, 91), (245, 97, 98), (245, 131, 131), (245, 143, 147), (245, 345, 584)], [(.inl none, 0, 0, ([], []), [], [])])
set_option maxRecDepth 100000 in
noncomputable def sz_u116 : List sy_Cut := []
set_option maxRecDepth 100000 in
noncomputable def sz_h116_0 : List sy_Hn := [(18, 20, 0, 0, 0, 0, [], [], []),
  (0, 31, 0, 0, 0, 0, [], [], [])]
set_option maxRecDepth 100000 in
theorem sz_s116_0 : sy_seg sz_E sz_T sz_RU [sz_c115] sz_c116 sz_u116 ri_m_X11_happens 26 none sz_h116_0 = true := by decide +kernel
theorem sz_ok116 (xs : Nat → Value) (L : Nat) : sy_Cok (sz_env xs L) sz_T sz_RU sz_c116 := sy_chk_ok (CT := [sz_c115]) (CU := sz_u116) (M := ri_m_X11_happens) (List.forall_mem_cons.mpr ⟨sz_ok115 xs L, fun _ h => absurd h List.not_mem_nil⟩) rfl rfl ⟨_, _, sz_s116_0⟩ (fun _ h => absurd h List.not_mem_nil)

/-! X11_isTold [244, 2, 1, 0] -/
set_option maxRecDepth 100000 in
noncomputable def sz_c117 : sy_Ct := (170, 1, 23, [(3, .inr 244, .inl 0), (0, .inl 2, .inl 0), (0, .inl 1, .inl 0), (1, .inl 0, .inl 0)], ([], []), [], [], [(245, 4, 4), (245, 345, 584)], [(.inl none, 0, 0, ([], []), [], [])])
set_option maxRecDepth 100000 in
noncomputable def sz_u117 : List sy_Cut := [(2, [(0, (3, .inr 244, .inl 0)), (1, (0, .inl 2, .inl 0)), (2, (0, .inl 1, .inl 0)), (3, (1, .inl 0, .inl 0)), (5, (0, .inr 0, .inl 0))], ([(3, 239)], []), [], [], [(1, [0]), ((-3), [])])]
set_option maxRecDepth 100000 in
noncomputable def sz_h117_0 : List sy_Hn := [(0, 30, 0, 0, 0, 0, [([], [(1, [0])]), ([], [])], [], [])]
set_option maxRecDepth 100000 in
theorem sz_s117_0 : sy_seg sz_E sz_T sz_RU [] sz_c117 sz_u117 ri_m_X11_isTold 9 none sz_h117_0 = true := by decide +kernel
set_option maxRecDepth 100000 in
noncomputable def sz_h117_1 : List sy_Hn := [(0, 31, 0, 0, 0, 0, [], [], []),
  (0, 31, 0, 0, 0, 0, [], [], []),
  (0, 30, 0, 0, 0, 0, [([5], [(1, [0]), (1, [1])]), ([], [(1, [0]), (1, [2])])], [], [])]
set_option maxRecDepth 100000 in
theorem sz_s117_1 : sy_seg sz_E sz_T sz_RU [] sz_c117 sz_u117 ri_m_X11_isTold 77 (some ((2, [(0, (3, .inr 244, .inl 0)), (1, (0, .inl 2, .inl 0)), (2, (0, .inl 1, .inl 0)), (3, (1, .inl 0, .inl 0)), (5, (0, .inr 0, .inl 0))], ([(3, 239)], []), [], [], [(1, [0]), ((-3), [])]))) sz_h117_1 = true := by decide +kernel
theorem sz_ok117 (xs : Nat → Value) (L : Nat) : sy_Cok (sz_env xs L) sz_T sz_RU sz_c117 := sy_chk_ok (CT := []) (CU := sz_u117) (M := ri_m_X11_isTold) (fun _ h => absurd h List.not_mem_nil) rfl rfl ⟨_, _, sz_s117_0⟩ (List.forall_mem_cons.mpr ⟨⟨_, _, sz_s117_1⟩, fun _ h => absurd h List.not_mem_nil⟩)

/-! X11_isMode [244, 2, 0] -/
set_option maxRecDepth 100000 in
noncomputable def sz_c118 : sy_Ct := (102, 3, 65, [(3, .inr 244, .inl 0), (0, .inl 2, .inl 0), (0, .inl 0, .inl 0)], ([], []), [], [], [(245, 4, 4), (245, 167, 167), (245, 174, 175), (245, 220, 224), (245, 345, 584)], [(.inl none, 0, 0, ([], []), [], [])])
set_option maxRecDepth 100000 in
noncomputable def sz_u118 : List sy_Cut := []
set_option maxRecDepth 100000 in
noncomputable def sz_h118_0 : List sy_Hn := [(239, 4, 245, 164, 0, 0, [], [], []),
  (0, 4, 245, 165, 0, 0, [], [], []),
  (0, 4, 245, 225, 0, 0, [], [], []),
  (0, 4, 245, 232, 0, 0, [], [], []),
  (0, 6, 22, 0, 0, 0, [([], [(1, [0])]), ([], [(1, [0])])], [], [0, 0]),
  (0, 4, 245, 166, 0, 0, [], [], []),
  (0, 6, 23, 0, 0, 0, [([], [(1, [0])])], [], [0]),
  (0, 4, 245, 228, 0, 0, [], [], []),
  (0, 4, 245, 229, 0, 0, [], [], []),
  (0, 6, 25, 0, 0, 0, [([], [(1, [0])]), ([], [(1, [0])])], [], [0, 0]),
  (0, 4, 245, 12, 0, 0, [], [], []),
  (0, 4, 245, 89, 0, 0, [], [], []),
  (0, 6, 26, 0, 0, 0, [([], [(1, [0])]), ([], [(1, [0])]), ([], [(1, [0])]), ([], [(1, [0])])], [], [0, 0, 0, 0]),
  (0, 4, 245, 0, 0, 0, [], [], []),
  (0, 6, 27, 0, 0, 0, [([], [(1, [0])])], [], [1]),
  (1, 20, 0, 0, 0, 0, [], [], []),
  (0, 31, 0, 0, 0, 0, [], [], []),
  (0, 31, 0, 0, 0, 0, [], [], [])]
set_option maxRecDepth 100000 in
theorem sz_s118_0 : sy_seg sz_E sz_T sz_RU [sz_c117] sz_c118 sz_u118 ri_m_X11_isMode 269 none sz_h118_0 = true := by decide +kernel
theorem sz_ok118 (xs : Nat → Value) (L : Nat) : sy_Cok (sz_env xs L) sz_T sz_RU sz_c118 := sy_chk_ok (CT := [sz_c117]) (CU := sz_u118) (M := ri_m_X11_isMode) (List.forall_mem_cons.mpr ⟨sz_ok117 xs L, fun _ h => absurd h List.not_mem_nil⟩) rfl rfl ⟨_, _, sz_s118_0⟩ (fun _ h => absurd h List.not_mem_nil)

/-! X11_happens [244, 4, 2, 0] -/
set_option maxRecDepth 100000 in
noncomputable def sz_c119 : sy_Ct := (225, 4, 88, [(3, .inr 244, .inl 0), (0, .inl 4, .inl 0), (0, .inl 2, .inl 0), (0, .inl 0, .inl 0)], ([], []), [], [], [(245, 4, 4), (245, 167, 167), (245, 174, 175), (245, 220, 224), (245, 345, 584)], [(.inl none, 0, 0, ([], []), [], [])])
set_option maxRecDepth 100000 in
noncomputable def sz_u119 : List sy_Cut := []
set_option maxRecDepth 100000 in
noncomputable def sz_h119_0 : List sy_Hn := [(18, 20, 0, 0, 0, 0, [], [], []),
  (0, 31, 0, 0, 0, 0, [], [], [])]
set_option maxRecDepth 100000 in
theorem sz_s119_0 : sy_seg sz_E sz_T sz_RU [sz_c118] sz_c119 sz_u119 ri_m_X11_happens 26 none sz_h119_0 = true := by decide +kernel
theorem sz_ok119 (xs : Nat → Value) (L : Nat) : sy_Cok (sz_env xs L) sz_T sz_RU sz_c119 := sy_chk_ok (CT := [sz_c118]) (CU := sz_u119) (M := ri_m_X11_happens) (List.forall_mem_cons.mpr ⟨sz_ok118 xs L, fun _ h => absurd h List.not_mem_nil⟩) rfl rfl ⟨_, _, sz_s119_0⟩ (fun _ h => absurd h List.not_mem_nil)

/-! X11_isBalanced [244, 2, 0] -/
set_option maxRecDepth 100000 in
noncomputable def sz_c120 : sy_Ct := (107, 4, 91, [(3, .inr 244, .inl 0), (0, .inl 2, .inl 0), (1, .inr 0, .inl 0)], ([((-9223372036854775808), 9223372036854775807)], []), [], [], [(245, 208, 208)], [(.inl none, 0, 0, ([((-9223372036854775808), 9223372036854775807)], []), [], [])])
set_option maxRecDepth 100000 in
noncomputable def sz_u120 : List sy_Cut := []
set_option maxRecDepth 100000 in
noncomputable def sz_h120_0 : List sy_Hn := [(63, 1, 3, 0, 0, 0, [], [], []),
  (0, 31, 0, 0, 0, 0, [], [], []),
  (0, 31, 0, 0, 0, 0, [], [], []),
  (0, 31, 0, 0, 0, 0, [], [], []),
  (0, 1, 3, 0, 1, 0, [], [], []),
  (0, 31, 0, 0, 0, 0, [], [], []),
  (0, 31, 0, 0, 0, 0, [], [], []),
  (0, 31, 0, 0, 0, 0, [], [], []),
  (0, 31, 0, 0, 0, 0, [], [], []),
  (0, 31, 0, 0, 0, 0, [], [], []),
  (0, 31, 0, 0, 0, 0, [], [], [])]
set_option maxRecDepth 100000 in
theorem sz_s120_0 : sy_seg sz_E sz_T sz_RU [] sz_c120 sz_u120 ri_m_X11_isBalanced 798 none sz_h120_0 = true := by decide +kernel
theorem sz_ok120 (xs : Nat → Value) (L : Nat) : sy_Cok (sz_env xs L) sz_T sz_RU sz_c120 := sy_chk_ok (CT := []) (CU := sz_u120) (M := ri_m_X11_isBalanced) (fun _ h => absurd h List.not_mem_nil) rfl rfl ⟨_, _, sz_s120_0⟩ (fun _ h => absurd h List.not_mem_nil)

/-! X11_isTold [244, 2, 1, 1] -/
set_option maxRecDepth 100000 in
noncomputable def sz_c121 : sy_Ct := (170, 1, 23, [(3, .inr 244, .inl 0), (0, .inl 2, .inl 0), (0, .inl 1, .inl 0), (1, .inl 1, .inl 0)], ([], []), [], [], [(245, 4, 4), (245, 345, 584)], [(.inl none, 0, 0, ([], []), [], [])])
set_option maxRecDepth 100000 in
noncomputable def sz_u121 : List sy_Cut := [(2, [(0, (3, .inr 244, .inl 0)), (1, (0, .inl 2, .inl 0)), (2, (0, .inl 1, .inl 0)), (3, (1, .inl 1, .inl 0)), (5, (0, .inr 0, .inl 0))], ([(3, 239)], []), [], [], [(1, [0]), ((-3), [])])]
set_option maxRecDepth 100000 in
noncomputable def sz_h121_0 : List sy_Hn := [(0, 30, 0, 0, 0, 0, [([], [(1, [0])]), ([], [])], [], [])]
set_option maxRecDepth 100000 in
theorem sz_s121_0 : sy_seg sz_E sz_T sz_RU [] sz_c121 sz_u121 ri_m_X11_isTold 9 none sz_h121_0 = true := by decide +kernel
set_option maxRecDepth 100000 in
noncomputable def sz_h121_1 : List sy_Hn := [(0, 31, 0, 0, 0, 0, [], [], []),
  (0, 31, 0, 0, 0, 0, [], [], []),
  (0, 30, 0, 0, 0, 0, [([5], [(1, [0]), (1, [1])]), ([], [(1, [0]), (1, [2])])], [], [])]
set_option maxRecDepth 100000 in
theorem sz_s121_1 : sy_seg sz_E sz_T sz_RU [] sz_c121 sz_u121 ri_m_X11_isTold 77 (some ((2, [(0, (3, .inr 244, .inl 0)), (1, (0, .inl 2, .inl 0)), (2, (0, .inl 1, .inl 0)), (3, (1, .inl 1, .inl 0)), (5, (0, .inr 0, .inl 0))], ([(3, 239)], []), [], [], [(1, [0]), ((-3), [])]))) sz_h121_1 = true := by decide +kernel
theorem sz_ok121 (xs : Nat → Value) (L : Nat) : sy_Cok (sz_env xs L) sz_T sz_RU sz_c121 := sy_chk_ok (CT := []) (CU := sz_u121) (M := ri_m_X11_isTold) (fun _ h => absurd h List.not_mem_nil) rfl rfl ⟨_, _, sz_s121_0⟩ (List.forall_mem_cons.mpr ⟨⟨_, _, sz_s121_1⟩, fun _ h => absurd h List.not_mem_nil⟩)

/-! X11_isMode [244, 2, 1] -/
set_option maxRecDepth 100000 in
noncomputable def sz_c122 : sy_Ct := (102, 5, 114, [(3, .inr 244, .inl 0), (0, .inl 2, .inl 0), (0, .inl 1, .inl 0)], ([], []), [], [], [(245, 4, 4), (245, 167, 167), (245, 174, 175), (245, 208, 208), (245, 220, 224), (245, 345, 584)], [(.inl none, 0, 0, ([], []), [], [])])
set_option maxRecDepth 100000 in
noncomputable def sz_u122 : List sy_Cut := []
set_option maxRecDepth 100000 in
noncomputable def sz_h122_0 : List sy_Hn := [(89, 4, 245, 164, 0, 0, [], [], []),
  (0, 4, 245, 165, 0, 0, [], [], []),
  (0, 4, 245, 225, 0, 0, [], [], []),
  (0, 4, 245, 232, 0, 0, [], [], []),
  (0, 6, 22, 0, 0, 0, [([], [(1, [0])]), ([], [(1, [0])])], [], [0, 0]),
  (0, 4, 245, 166, 0, 0, [], [], []),
  (0, 6, 23, 0, 0, 0, [([], [(1, [0])])], [], [0]),
  (0, 4, 245, 228, 0, 0, [], [], []),
  (0, 4, 245, 229, 0, 0, [], [], []),
  (0, 6, 25, 0, 0, 0, [([], [(1, [0])]), ([], [(1, [0])])], [], [0, 0]),
  (1, 20, 0, 0, 0, 0, [], [], []),
  (182, 4, 245, 12, 0, 0, [], [], []),
  (0, 4, 245, 89, 0, 0, [], [], []),
  (0, 6, 26, 0, 0, 0, [([], [(1, [0])]), ([], [(1, [0])]), ([], [(1, [0])]), ([], [(1, [0])])], [], [0, 0, 0, 0]),
  (0, 4, 245, 0, 0, 0, [], [], []),
  (0, 6, 27, 0, 0, 0, [([], [(1, [0])])], [], [1]),
  (1, 20, 1, 0, 0, 0, [], [], []),
  (0, 31, 0, 0, 0, 0, [], [], []),
  (62, 4, 245, 164, 0, 0, [], [], []),
  (0, 4, 245, 165, 0, 0, [], [], []),
  (0, 4, 245, 225, 0, 0, [], [], []),
  (0, 4, 245, 232, 0, 0, [], [], []),
  (0, 6, 22, 0, 0, 0, [([], [(1, [0])]), ([], [(1, [0])])], [], [0, 0]),
  (0, 4, 245, 166, 0, 0, [], [], []),
  (0, 6, 23, 0, 0, 0, [([], [(1, [0])])], [], [0]),
  (0, 4, 245, 228, 0, 0, [], [], []),
  (0, 4, 245, 229, 0, 0, [], [], []),
  (0, 6, 25, 0, 0, 0, [([], [(1, [0])]), ([], [(1, [0])])], [], [0, 0]),
  (1, 20, 0, 0, 0, 0, [], [], []),
  (182, 4, 245, 12, 0, 0, [], [], []),
  (0, 4, 245, 89, 0, 0, [], [], []),
  (0, 6, 26, 0, 0, 0, [([], [(1, [0])]), ([], [(1, [0])]), ([], [(1, [0])]), ([], [(1, [0])])], [], [0, 0, 0, 0]),
  (0, 4, 245, 0, 0, 0, [], [], []),
  (0, 6, 27, 0, 0, 0, [([], [(1, [0])])], [], [1]),
  (1, 20, 1, 0, 0, 0, [], [], []),
  (0, 31, 0, 0, 0, 0, [], [], []),
  (0, 31, 0, 0, 0, 0, [], [], [])]
set_option maxRecDepth 100000 in
theorem sz_s122_0 : sy_seg sz_E sz_T sz_RU [sz_c120, sz_c121] sz_c122 sz_u122 ri_m_X11_isMode 568 none sz_h122_0 = true := by decide +kernel
theorem sz_ok122 (xs : Nat → Value) (L : Nat) : sy_Cok (sz_env xs L) sz_T sz_RU sz_c122 := sy_chk_ok (CT := [sz_c120, sz_c121]) (CU := sz_u122) (M := ri_m_X11_isMode) (List.forall_mem_cons.mpr ⟨sz_ok120 xs L, List.forall_mem_cons.mpr ⟨sz_ok121 xs L, fun _ h => absurd h List.not_mem_nil⟩⟩) rfl rfl ⟨_, _, sz_s122_0⟩ (fun _ h => absurd h List.not_mem_nil)

/-! X11_happens [244, 4, 2, 1] -/
set_option maxRecDepth 100000 in
noncomputable def sz_c123 : sy_Ct := (225, 6, 137, [(3, .inr 244, .inl 0), (0, .inl 4, .inl 0), (0, .inl 2, .inl 0), (0, .inl 1, .inl 0)], ([], []), [], [], [(245, 4, 4), (245, 167, 167), (245, 174, 175), (245, 208, 208), (245, 220, 224), (245, 345, 584)], [(.inl none, 0, 0, ([], []), [], [])])
set_option maxRecDepth 100000 in
noncomputable def sz_u123 : List sy_Cut := []
set_option maxRecDepth 100000 in
noncomputable def sz_h123_0 : List sy_Hn := [(18, 20, 0, 0, 0, 0, [], [], []),
  (0, 31, 0, 0, 0, 0, [], [], [])]
set_option maxRecDepth 100000 in
theorem sz_s123_0 : sy_seg sz_E sz_T sz_RU [sz_c122] sz_c123 sz_u123 ri_m_X11_happens 26 none sz_h123_0 = true := by decide +kernel
theorem sz_ok123 (xs : Nat → Value) (L : Nat) : sy_Cok (sz_env xs L) sz_T sz_RU sz_c123 := sy_chk_ok (CT := [sz_c122]) (CU := sz_u123) (M := ri_m_X11_happens) (List.forall_mem_cons.mpr ⟨sz_ok122 xs L, fun _ h => absurd h List.not_mem_nil⟩) rfl rfl ⟨_, _, sz_s123_0⟩ (fun _ h => absurd h List.not_mem_nil)

/-! X11_isTold [244, 2, 1, 2] -/
set_option maxRecDepth 100000 in
noncomputable def sz_c124 : sy_Ct := (170, 1, 23, [(3, .inr 244, .inl 0), (0, .inl 2, .inl 0), (0, .inl 1, .inl 0), (1, .inl 2, .inl 0)], ([], []), [], [], [(245, 4, 4), (245, 345, 584)], [(.inl none, 0, 0, ([], []), [], [])])
set_option maxRecDepth 100000 in
noncomputable def sz_u124 : List sy_Cut := [(2, [(0, (3, .inr 244, .inl 0)), (1, (0, .inl 2, .inl 0)), (2, (0, .inl 1, .inl 0)), (3, (1, .inl 2, .inl 0)), (5, (0, .inr 0, .inl 0))], ([(3, 239)], []), [], [], [(1, [0]), ((-3), [])])]
set_option maxRecDepth 100000 in
noncomputable def sz_h124_0 : List sy_Hn := [(0, 30, 0, 0, 0, 0, [([], [(1, [0])]), ([], [])], [], [])]
set_option maxRecDepth 100000 in
theorem sz_s124_0 : sy_seg sz_E sz_T sz_RU [] sz_c124 sz_u124 ri_m_X11_isTold 9 none sz_h124_0 = true := by decide +kernel
set_option maxRecDepth 100000 in
noncomputable def sz_h124_1 : List sy_Hn := [(0, 31, 0, 0, 0, 0, [], [], []),
  (0, 31, 0, 0, 0, 0, [], [], []),
  (0, 30, 0, 0, 0, 0, [([5], [(1, [0]), (1, [1])]), ([], [(1, [0]), (1, [2])])], [], [])]
set_option maxRecDepth 100000 in
theorem sz_s124_1 : sy_seg sz_E sz_T sz_RU [] sz_c124 sz_u124 ri_m_X11_isTold 77 (some ((2, [(0, (3, .inr 244, .inl 0)), (1, (0, .inl 2, .inl 0)), (2, (0, .inl 1, .inl 0)), (3, (1, .inl 2, .inl 0)), (5, (0, .inr 0, .inl 0))], ([(3, 239)], []), [], [], [(1, [0]), ((-3), [])]))) sz_h124_1 = true := by decide +kernel
theorem sz_ok124 (xs : Nat → Value) (L : Nat) : sy_Cok (sz_env xs L) sz_T sz_RU sz_c124 := sy_chk_ok (CT := []) (CU := sz_u124) (M := ri_m_X11_isTold) (fun _ h => absurd h List.not_mem_nil) rfl rfl ⟨_, _, sz_s124_0⟩ (List.forall_mem_cons.mpr ⟨⟨_, _, sz_s124_1⟩, fun _ h => absurd h List.not_mem_nil⟩)

/-! X11_isMode [244, 2, 2] -/
set_option maxRecDepth 100000 in
noncomputable def sz_c125 : sy_Ct := (102, 5, 114, [(3, .inr 244, .inl 0), (0, .inl 2, .inl 0), (0, .inl 2, .inl 0)], ([(0, 1)], []), [((245, 166), (1, .inr 0, .inl 0))], [], [(245, 4, 4), (245, 167, 168), (245, 174, 175), (245, 208, 208), (245, 220, 224), (245, 345, 584)], [(.inl none, 0, 0, ([(0, 1)], []), [], [])])
set_option maxRecDepth 100000 in
noncomputable def sz_u125 : List sy_Cut := []
set_option maxRecDepth 100000 in
noncomputable def sz_h125_0 : List sy_Hn := [(89, 1, 0, 0, 0, 0, [], [], []),
  (58, 4, 245, 164, 0, 0, [], [], []),
  (0, 4, 245, 165, 0, 0, [], [], []),
  (0, 4, 245, 225, 0, 0, [], [], []),
  (0, 4, 245, 232, 0, 0, [], [], []),
  (0, 6, 22, 0, 0, 0, [([], [(1, [0])]), ([], [(1, [0])])], [], [0, 0]),
  (0, 6, 23, 0, 0, 0, [([0], [(1, [0]), (1, [1])])], [], [2]),
  (0, 4, 245, 228, 0, 0, [], [], []),
  (0, 4, 245, 229, 0, 0, [], [], []),
  (0, 6, 25, 0, 0, 0, [([], [(1, [0])]), ([], [(1, [0])])], [], [0, 0]),
  (1, 20, 0, 0, 0, 0, [], [], []),
  (182, 4, 245, 12, 0, 0, [], [], []),
  (0, 4, 245, 89, 0, 0, [], [], []),
  (0, 6, 26, 0, 0, 0, [([], [(1, [0])]), ([], [(1, [0])]), ([], [(1, [0])]), ([], [(1, [0])])], [], [0, 0, 0, 0]),
  (0, 4, 245, 0, 0, 0, [], [], []),
  (0, 6, 27, 0, 0, 0, [([], [(1, [0])])], [], [1]),
  (1, 20, 1, 0, 0, 0, [], [], []),
  (0, 31, 0, 0, 0, 0, [], [], []),
  (58, 4, 245, 164, 0, 0, [], [], []),
  (0, 4, 245, 165, 0, 0, [], [], []),
  (0, 4, 245, 225, 0, 0, [], [], []),
  (0, 4, 245, 232, 0, 0, [], [], []),
  (0, 6, 22, 0, 0, 0, [([], [(1, [0])]), ([], [(1, [0])])], [], [0, 0]),
  (0, 6, 23, 0, 0, 0, [([0], [(1, [0]), (1, [1])])], [], [2]),
  (0, 4, 245, 228, 0, 0, [], [], []),
  (0, 4, 245, 229, 0, 0, [], [], []),
  (0, 6, 25, 0, 0, 0, [([], [(1, [0])]), ([], [(1, [0])])], [], [0, 0]),
  (1, 20, 0, 0, 0, 0, [], [], []),
  (182, 4, 245, 12, 0, 0, [], [], []),
  (0, 4, 245, 89, 0, 0, [], [], []),
  (0, 6, 26, 0, 0, 0, [([], [(1, [0])]), ([], [(1, [0])]), ([], [(1, [0])]), ([], [(1, [0])])], [], [0, 0, 0, 0]),
  (0, 4, 245, 0, 0, 0, [], [], []),
  (0, 6, 27, 0, 0, 0, [([], [(1, [0])])], [], [1]),
  (1, 20, 1, 0, 0, 0, [], [], []),
  (0, 31, 0, 0, 0, 0, [], [], []),
  (23, 4, 245, 164, 0, 0, [], [], []),
  (0, 4, 245, 165, 0, 0, [], [], []),
  (0, 4, 245, 225, 0, 0, [], [], []),
  (0, 4, 245, 232, 0, 0, [], [], []),
  (0, 5, 22, 0, 0, 0, [], [], []),
  (0, 7, 0, 0, 0, 0, [([1], [(1, [2]), (1, [0])])], [], []),
  (0, 5, 22, 1, 0, 0, [], [], []),
  (0, 7, 0, 0, 0, 0, [([1], [(1, [2]), (1, [0])])], [], []),
  (0, 4, 245, 228, 0, 0, [], [], []),
  (0, 4, 245, 229, 0, 0, [], [], []),
  (0, 5, 25, 0, 0, 0, [], [], []),
  (0, 7, 0, 0, 0, 0, [([1], [(1, [2]), (1, [0])])], [], []),
  (0, 3, 6, 0, 0, 239, [([6], [(1, [0]), (1, [1])]), ([], [(1, [0]), (1, [1])])], [], []),
  (0, 5, 25, 1, 0, 0, [], [], []),
  (0, 7, 0, 0, 0, 0, [([1], [(1, [2]), (1, [0])])], [], []),
  (39, 1, 0, 0, 0, 0, [], [], []),
  (58, 6, 22, 0, 0, 0, [([], [(1, [0])]), ([], [(1, [0])])], [], [0, 0]),
  (0, 6, 23, 0, 0, 0, [([0], [(1, [0]), (1, [1])])], [], [2]),
  (0, 6, 25, 0, 0, 0, [([], [(1, [0])]), ([], [(1, [0])])], [], [0, 0]),
  (1, 20, 0, 0, 0, 0, [], [], []),
  (182, 4, 245, 12, 0, 0, [], [], []),
  (0, 4, 245, 89, 0, 0, [], [], []),
  (0, 6, 26, 0, 0, 0, [([], [(1, [0])]), ([], [(1, [0])]), ([], [(1, [0])]), ([], [(1, [0])])], [], [0, 0, 0, 0]),
  (0, 4, 245, 0, 0, 0, [], [], []),
  (0, 6, 27, 0, 0, 0, [([], [(1, [0])])], [], [1]),
  (1, 20, 1, 0, 0, 0, [], [], []),
  (0, 31, 0, 0, 0, 0, [], [], []),
  (58, 6, 22, 0, 0, 0, [([], [(1, [0])]), ([], [(1, [0])])], [], [0, 0]),
  (0, 6, 23, 0, 0, 0, [([0], [(1, [0]), (1, [1])])], [], [2]),
  (0, 6, 25, 0, 0, 0, [([], [(1, [0])]), ([], [(1, [0])])], [], [0, 0]),
  (1, 20, 0, 0, 0, 0, [], [], []),
  (182, 4, 245, 12, 0, 0, [], [], []),
  (0, 4, 245, 89, 0, 0, [], [], []),
  (0, 6, 26, 0, 0, 0, [([], [(1, [0])]), ([], [(1, [0])]), ([], [(1, [0])]), ([], [(1, [0])])], [], [0, 0, 0, 0]),
  (0, 4, 245, 0, 0, 0, [], [], []),
  (0, 6, 27, 0, 0, 0, [([], [(1, [0])])], [], [1]),
  (1, 20, 1, 0, 0, 0, [], [], []),
  (0, 31, 0, 0, 0, 0, [], [], []),
  (0, 31, 0, 0, 0, 0, [], [], [])]
set_option maxRecDepth 100000 in
theorem sz_s125_0 : sy_seg sz_E sz_T sz_RU [sz_c120, sz_c124] sz_c125 sz_u125 ri_m_X11_isMode 1213 none sz_h125_0 = true := by decide +kernel
theorem sz_ok125 (xs : Nat → Value) (L : Nat) : sy_Cok (sz_env xs L) sz_T sz_RU sz_c125 := sy_chk_ok (CT := [sz_c120, sz_c124]) (CU := sz_u125) (M := ri_m_X11_isMode) (List.forall_mem_cons.mpr ⟨sz_ok120 xs L, List.forall_mem_cons.mpr ⟨sz_ok124 xs L, fun _ h => absurd h List.not_mem_nil⟩⟩) rfl rfl ⟨_, _, sz_s125_0⟩ (fun _ h => absurd h List.not_mem_nil)

/-! X11_happens [244, 4, 2, 2] -/
set_option maxRecDepth 100000 in
noncomputable def sz_c126 : sy_Ct := (225, 6, 137, [(3, .inr 244, .inl 0), (0, .inl 4, .inl 0), (0, .inl 2, .inl 0), (0, .inl 2, .inl 0)], ([(0, 1)], []), [((245, 166), (1, .inr 0, .inl 0))], [], [(245, 4, 4), (245, 167, 168), (245, 174, 175), (245, 208, 208), (245, 220, 224), (245, 345, 584)], [(.inl none, 0, 0, ([(0, 1)], []), [], [])])
set_option maxRecDepth 100000 in
noncomputable def sz_u126 : List sy_Cut := []
set_option maxRecDepth 100000 in
noncomputable def sz_h126_0 : List sy_Hn := [(18, 20, 0, 0, 0, 0, [], [], []),
  (0, 31, 0, 0, 0, 0, [], [], [])]
set_option maxRecDepth 100000 in
theorem sz_s126_0 : sy_seg sz_E sz_T sz_RU [sz_c125] sz_c126 sz_u126 ri_m_X11_happens 26 none sz_h126_0 = true := by decide +kernel
theorem sz_ok126 (xs : Nat → Value) (L : Nat) : sy_Cok (sz_env xs L) sz_T sz_RU sz_c126 := sy_chk_ok (CT := [sz_c125]) (CU := sz_u126) (M := ri_m_X11_happens) (List.forall_mem_cons.mpr ⟨sz_ok125 xs L, fun _ h => absurd h List.not_mem_nil⟩) rfl rfl ⟨_, _, sz_s126_0⟩ (fun _ h => absurd h List.not_mem_nil)

/-! X11_isTold [244, 3, 1, 0] -/
set_option maxRecDepth 100000 in
noncomputable def sz_c127 : sy_Ct := (170, 1, 23, [(3, .inr 244, .inl 0), (0, .inl 3, .inl 0), (0, .inl 1, .inl 0), (1, .inl 0, .inl 0)], ([], []), [], [], [(245, 4, 4), (245, 345, 584)], [(.inl none, 0, 0, ([], []), [], [])])
set_option maxRecDepth 100000 in
noncomputable def sz_u127 : List sy_Cut := [(2, [(0, (3, .inr 244, .inl 0)), (1, (0, .inl 3, .inl 0)), (2, (0, .inl 1, .inl 0)), (3, (1, .inl 0, .inl 0)), (5, (0, .inr 0, .inl 0))], ([(3, 239)], []), [], [], [(1, [0]), ((-3), [])])]
set_option maxRecDepth 100000 in
noncomputable def sz_h127_0 : List sy_Hn := [(0, 30, 0, 0, 0, 0, [([], [(1, [0])]), ([], [])], [], [])]
set_option maxRecDepth 100000 in
theorem sz_s127_0 : sy_seg sz_E sz_T sz_RU [] sz_c127 sz_u127 ri_m_X11_isTold 9 none sz_h127_0 = true := by decide +kernel
set_option maxRecDepth 100000 in
noncomputable def sz_h127_1 : List sy_Hn := [(0, 31, 0, 0, 0, 0, [], [], []),
  (0, 31, 0, 0, 0, 0, [], [], []),
  (0, 30, 0, 0, 0, 0, [([5], [(1, [0]), (1, [1])]), ([], [(1, [0]), (1, [2])])], [], [])]
set_option maxRecDepth 100000 in
theorem sz_s127_1 : sy_seg sz_E sz_T sz_RU [] sz_c127 sz_u127 ri_m_X11_isTold 77 (some ((2, [(0, (3, .inr 244, .inl 0)), (1, (0, .inl 3, .inl 0)), (2, (0, .inl 1, .inl 0)), (3, (1, .inl 0, .inl 0)), (5, (0, .inr 0, .inl 0))], ([(3, 239)], []), [], [], [(1, [0]), ((-3), [])]))) sz_h127_1 = true := by decide +kernel
theorem sz_ok127 (xs : Nat → Value) (L : Nat) : sy_Cok (sz_env xs L) sz_T sz_RU sz_c127 := sy_chk_ok (CT := []) (CU := sz_u127) (M := ri_m_X11_isTold) (fun _ h => absurd h List.not_mem_nil) rfl rfl ⟨_, _, sz_s127_0⟩ (List.forall_mem_cons.mpr ⟨⟨_, _, sz_s127_1⟩, fun _ h => absurd h List.not_mem_nil⟩)

/-! X11_isMode [244, 3, 0] -/
set_option maxRecDepth 100000 in
noncomputable def sz_c128 : sy_Ct := (102, 3, 65, [(3, .inr 244, .inl 0), (0, .inl 3, .inl 0), (0, .inl 0, .inl 0)], ([], []), [], [], [(245, 4, 4), (245, 244, 244), (245, 251, 252), (245, 297, 301), (245, 345, 584)], [(.inl none, 0, 0, ([], []), [], [])])
set_option maxRecDepth 100000 in
noncomputable def sz_u128 : List sy_Cut := []
set_option maxRecDepth 100000 in
noncomputable def sz_h128_0 : List sy_Hn := [(239, 4, 245, 241, 0, 0, [], [], []),
  (0, 4, 245, 242, 0, 0, [], [], []),
  (0, 4, 245, 302, 0, 0, [], [], []),
  (0, 4, 245, 309, 0, 0, [], [], []),
  (0, 6, 31, 0, 0, 0, [([], [(1, [0])]), ([], [(1, [0])])], [], [0, 0]),
  (0, 4, 245, 243, 0, 0, [], [], []),
  (0, 6, 32, 0, 0, 0, [([], [(1, [0])])], [], [0]),
  (0, 4, 245, 305, 0, 0, [], [], []),
  (0, 4, 245, 306, 0, 0, [], [], []),
  (0, 6, 34, 0, 0, 0, [([], [(1, [0])]), ([], [(1, [0])])], [], [0, 0]),
  (0, 4, 245, 12, 0, 0, [], [], []),
  (0, 4, 245, 89, 0, 0, [], [], []),
  (0, 4, 245, 166, 0, 0, [], [], []),
  (0, 6, 35, 0, 0, 0, [([], [(1, [0])]), ([], [(1, [0])]), ([], [(1, [0])]), ([], [(1, [0])]), ([], [(1, [0])]), ([], [(1, [0])]), ([], [(1, [0])])], [], [0, 0, 0, 0, 0, 0, 0]),
  (0, 4, 245, 0, 0, 0, [], [], []),
  (0, 6, 36, 0, 0, 0, [([], [(1, [0])])], [], [1]),
  (1, 20, 0, 0, 0, 0, [], [], []),
  (0, 31, 0, 0, 0, 0, [], [], []),
  (0, 31, 0, 0, 0, 0, [], [], [])]
set_option maxRecDepth 100000 in
theorem sz_s128_0 : sy_seg sz_E sz_T sz_RU [sz_c127] sz_c128 sz_u128 ri_m_X11_isMode 270 none sz_h128_0 = true := by decide +kernel
theorem sz_ok128 (xs : Nat → Value) (L : Nat) : sy_Cok (sz_env xs L) sz_T sz_RU sz_c128 := sy_chk_ok (CT := [sz_c127]) (CU := sz_u128) (M := ri_m_X11_isMode) (List.forall_mem_cons.mpr ⟨sz_ok127 xs L, fun _ h => absurd h List.not_mem_nil⟩) rfl rfl ⟨_, _, sz_s128_0⟩ (fun _ h => absurd h List.not_mem_nil)

/-! X11_happens [244, 4, 3, 0] -/
set_option maxRecDepth 100000 in
noncomputable def sz_c129 : sy_Ct := (225, 4, 88, [(3, .inr 244, .inl 0), (0, .inl 4, .inl 0), (0, .inl 3, .inl 0), (0, .inl 0, .inl 0)], ([], []), [], [], [(245, 4, 4), (245, 244, 244), (245, 251, 252), (245, 297, 301), (245, 345, 584)], [(.inl none, 0, 0, ([], []), [], [])])
set_option maxRecDepth 100000 in
noncomputable def sz_u129 : List sy_Cut := []
set_option maxRecDepth 100000 in
noncomputable def sz_h129_0 : List sy_Hn := [(18, 20, 0, 0, 0, 0, [], [], []),
  (0, 31, 0, 0, 0, 0, [], [], [])]
set_option maxRecDepth 100000 in
theorem sz_s129_0 : sy_seg sz_E sz_T sz_RU [sz_c128] sz_c129 sz_u129 ri_m_X11_happens 26 none sz_h129_0 = true := by decide +kernel
theorem sz_ok129 (xs : Nat → Value) (L : Nat) : sy_Cok (sz_env xs L) sz_T sz_RU sz_c129 := sy_chk_ok (CT := [sz_c128]) (CU := sz_u129) (M := ri_m_X11_happens) (List.forall_mem_cons.mpr ⟨sz_ok128 xs L, fun _ h => absurd h List.not_mem_nil⟩) rfl rfl ⟨_, _, sz_s129_0⟩ (fun _ h => absurd h List.not_mem_nil)

/-! X11_isBalanced [244, 3, 0] -/
set_option maxRecDepth 100000 in
noncomputable def sz_c130 : sy_Ct := (107, 4, 91, [(3, .inr 244, .inl 0), (0, .inl 3, .inl 0), (1, .inr 0, .inl 0)], ([((-9223372036854775808), 9223372036854775807)], []), [], [], [(245, 285, 285)], [(.inl none, 0, 0, ([((-9223372036854775808), 9223372036854775807)], []), [], [])])
set_option maxRecDepth 100000 in
noncomputable def sz_u130 : List sy_Cut := []
set_option maxRecDepth 100000 in
noncomputable def sz_h130_0 : List sy_Hn := [(63, 1, 3, 0, 0, 0, [], [], []),
  (0, 31, 0, 0, 0, 0, [], [], []),
  (0, 31, 0, 0, 0, 0, [], [], []),
  (0, 31, 0, 0, 0, 0, [], [], []),
  (0, 1, 3, 0, 1, 0, [], [], []),
  (0, 31, 0, 0, 0, 0, [], [], []),
  (0, 31, 0, 0, 0, 0, [], [], []),
  (0, 31, 0, 0, 0, 0, [], [], []),
  (0, 31, 0, 0, 0, 0, [], [], []),
  (0, 31, 0, 0, 0, 0, [], [], []),
  (0, 31, 0, 0, 0, 0, [], [], [])]
set_option maxRecDepth 100000 in
theorem sz_s130_0 : sy_seg sz_E sz_T sz_RU [] sz_c130 sz_u130 ri_m_X11_isBalanced 798 none sz_h130_0 = true := by decide +kernel
theorem sz_ok130 (xs : Nat → Value) (L : Nat) : sy_Cok (sz_env xs L) sz_T sz_RU sz_c130 := sy_chk_ok (CT := []) (CU := sz_u130) (M := ri_m_X11_isBalanced) (fun _ h => absurd h List.not_mem_nil) rfl rfl ⟨_, _, sz_s130_0⟩ (fun _ h => absurd h List.not_mem_nil)

/-! X11_isTold [244, 3, 1, 1] -/
set_option maxRecDepth 100000 in
noncomputable def sz_c131 : sy_Ct := (170, 1, 23, [(3, .inr 244, .inl 0), (0, .inl 3, .inl 0), (0, .inl 1, .inl 0), (1, .inl 1, .inl 0)], ([], []), [], [], [(245, 4, 4), (245, 345, 584)], [(.inl none, 0, 0, ([], []), [], [])])
set_option maxRecDepth 100000 in
noncomputable def sz_u131 : List sy_Cut := [(2, [(0, (3, .inr 244, .inl 0)), (1, (0, .inl 3, .inl 0)), (2, (0, .inl 1, .inl 0)), (3, (1, .inl 1, .inl 0)), (5, (0, .inr 0, .inl 0))], ([(3, 239)], []), [], [], [(1, [0]), ((-3), [])])]
set_option maxRecDepth 100000 in
noncomputable def sz_h131_0 : List sy_Hn := [(0, 30, 0, 0, 0, 0, [([], [(1, [0])]), ([], [])], [], [])]
set_option maxRecDepth 100000 in
theorem sz_s131_0 : sy_seg sz_E sz_T sz_RU [] sz_c131 sz_u131 ri_m_X11_isTold 9 none sz_h131_0 = true := by decide +kernel
set_option maxRecDepth 100000 in
noncomputable def sz_h131_1 : List sy_Hn := [(0, 31, 0, 0, 0, 0, [], [], []),
  (0, 31, 0, 0, 0, 0, [], [], []),
  (0, 30, 0, 0, 0, 0, [([5], [(1, [0]), (1, [1])]), ([], [(1, [0]), (1, [2])])], [], [])]
set_option maxRecDepth 100000 in
theorem sz_s131_1 : sy_seg sz_E sz_T sz_RU [] sz_c131 sz_u131 ri_m_X11_isTold 77 (some ((2, [(0, (3, .inr 244, .inl 0)), (1, (0, .inl 3, .inl 0)), (2, (0, .inl 1, .inl 0)), (3, (1, .inl 1, .inl 0)), (5, (0, .inr 0, .inl 0))], ([(3, 239)], []), [], [], [(1, [0]), ((-3), [])]))) sz_h131_1 = true := by decide +kernel
theorem sz_ok131 (xs : Nat → Value) (L : Nat) : sy_Cok (sz_env xs L) sz_T sz_RU sz_c131 := sy_chk_ok (CT := []) (CU := sz_u131) (M := ri_m_X11_isTold) (fun _ h => absurd h List.not_mem_nil) rfl rfl ⟨_, _, sz_s131_0⟩ (List.forall_mem_cons.mpr ⟨⟨_, _, sz_s131_1⟩, fun _ h => absurd h List.not_mem_nil⟩)

/-! X11_isMode [244, 3, 1] -/
set_option maxRecDepth 100000 in
noncomputable def sz_c132 : sy_Ct := (102, 5, 114, [(3, .inr 244, .inl 0), (0, .inl 3, .inl 0), (0, .inl 1, .inl 0)], ([], []), [], [], [(245, 4, 4), (245, 244, 244), (245, 251, 252), (245, 285, 285), (245, 297, 301), (245, 345, 584)], [(.inl none, 0, 0, ([], []), [], [])])
set_option maxRecDepth 100000 in
noncomputable def sz_u132 : List sy_Cut := []
set_option maxRecDepth 100000 in
noncomputable def sz_h132_0 : List sy_Hn := [(89, 4, 245, 241, 0, 0, [], [], []),
  (0, 4, 245, 242, 0, 0, [], [], []),
  (0, 4, 245, 302, 0, 0, [], [], []),
  (0, 4, 245, 309, 0, 0, [], [], []),
  (0, 6, 31, 0, 0, 0, [([], [(1, [0])]), ([], [(1, [0])])], [], [0, 0]),
  (0, 4, 245, 243, 0, 0, [], [], []),
  (0, 6, 32, 0, 0, 0, [([], [(1, [0])])], [], [0]),
  (0, 4, 245, 305, 0, 0, [], [], []),
  (0, 4, 245, 306, 0, 0, [], [], []),
  (0, 6, 34, 0, 0, 0, [([], [(1, [0])]), ([], [(1, [0])])], [], [0, 0]),
  (1, 20, 0, 0, 0, 0, [], [], []),
  (182, 4, 245, 12, 0, 0, [], [], []),
  (0, 4, 245, 89, 0, 0, [], [], []),
  (0, 4, 245, 166, 0, 0, [], [], []),
  (0, 6, 35, 0, 0, 0, [([], [(1, [0])]), ([], [(1, [0])]), ([], [(1, [0])]), ([], [(1, [0])]), ([], [(1, [0])]), ([], [(1, [0])]), ([], [(1, [0])])], [], [0, 0, 0, 0, 0, 0, 0]),
  (0, 4, 245, 0, 0, 0, [], [], []),
  (0, 6, 36, 0, 0, 0, [([], [(1, [0])])], [], [1]),
  (1, 20, 1, 0, 0, 0, [], [], []),
  (0, 31, 0, 0, 0, 0, [], [], []),
  (62, 4, 245, 241, 0, 0, [], [], []),
  (0, 4, 245, 242, 0, 0, [], [], []),
  (0, 4, 245, 302, 0, 0, [], [], []),
  (0, 4, 245, 309, 0, 0, [], [], []),
  (0, 6, 31, 0, 0, 0, [([], [(1, [0])]), ([], [(1, [0])])], [], [0, 0]),
  (0, 4, 245, 243, 0, 0, [], [], []),
  (0, 6, 32, 0, 0, 0, [([], [(1, [0])])], [], [0]),
  (0, 4, 245, 305, 0, 0, [], [], []),
  (0, 4, 245, 306, 0, 0, [], [], []),
  (0, 6, 34, 0, 0, 0, [([], [(1, [0])]), ([], [(1, [0])])], [], [0, 0]),
  (1, 20, 0, 0, 0, 0, [], [], []),
  (182, 4, 245, 12, 0, 0, [], [], []),
  (0, 4, 245, 89, 0, 0, [], [], []),
  (0, 4, 245, 166, 0, 0, [], [], []),
  (0, 6, 35, 0, 0, 0, [([], [(1, [0])]), ([], [(1, [0])]), ([], [(1, [0])]), ([], [(1, [0])]), ([], [(1, [0])]), ([], [(1, [0])]), ([], [(1, [0])])], [], [0, 0, 0, 0, 0, 0, 0]),
  (0, 4, 245, 0, 0, 0, [], [], []),
  (0, 6, 36, 0, 0, 0, [([], [(1, [0])])], [], [1]),
  (1, 20, 1, 0, 0, 0, [], [], []),
  (0, 31, 0, 0, 0, 0, [], [], []),
  (0, 31, 0, 0, 0, 0, [], [], [])]
set_option maxRecDepth 100000 in
theorem sz_s132_0 : sy_seg sz_E sz_T sz_RU [sz_c130, sz_c131] sz_c132 sz_u132 ri_m_X11_isMode 570 none sz_h132_0 = true := by decide +kernel
theorem sz_ok132 (xs : Nat → Value) (L : Nat) : sy_Cok (sz_env xs L) sz_T sz_RU sz_c132 := sy_chk_ok (CT := [sz_c130, sz_c131]) (CU := sz_u132) (M := ri_m_X11_isMode) (List.forall_mem_cons.mpr ⟨sz_ok130 xs L, List.forall_mem_cons.mpr ⟨sz_ok131 xs L, fun _ h => absurd h List.not_mem_nil⟩⟩) rfl rfl ⟨_, _, sz_s132_0⟩ (fun _ h => absurd h List.not_mem_nil)

/-! X11_happens [244, 4, 3, 1] -/
set_option maxRecDepth 100000 in
noncomputable def sz_c133 : sy_Ct := (225, 6, 137, [(3, .inr 244, .inl 0), (0, .inl 4, .inl 0), (0, .inl 3, .inl 0), (0, .inl 1, .inl 0)], ([], []), [], [], [(245, 4, 4), (245, 244, 244), (245, 251, 252), (245, 285, 285), (245, 297, 301), (245, 345, 584)], [(.inl none, 0, 0, ([], []), [], [])])
set_option maxRecDepth 100000 in
noncomputable def sz_u133 : List sy_Cut := []
set_option maxRecDepth 100000 in
noncomputable def sz_h133_0 : List sy_Hn := [(18, 20, 0, 0, 0, 0, [], [], []),
  (0, 31, 0, 0, 0, 0, [], [], [])]
set_option maxRecDepth 100000 in
theorem sz_s133_0 : sy_seg sz_E sz_T sz_RU [sz_c132] sz_c133 sz_u133 ri_m_X11_happens 26 none sz_h133_0 = true := by decide +kernel
theorem sz_ok133 (xs : Nat → Value) (L : Nat) : sy_Cok (sz_env xs L) sz_T sz_RU sz_c133 := sy_chk_ok (CT := [sz_c132]) (CU := sz_u133) (M := ri_m_X11_happens) (List.forall_mem_cons.mpr ⟨sz_ok132 xs L, fun _ h => absurd h List.not_mem_nil⟩) rfl rfl ⟨_, _, sz_s133_0⟩ (fun _ h => absurd h List.not_mem_nil)

/-! X11_isTold [244, 3, 1, 2] -/
set_option maxRecDepth 100000 in
noncomputable def sz_c134 : sy_Ct := (170, 1, 23, [(3, .inr 244, .inl 0), (0, .inl 3, .inl 0), (0, .inl 1, .inl 0), (1, .inl 2, .inl 0)], ([], []), [], [], [(245, 4, 4), (245, 345, 584)], [(.inl none, 0, 0, ([], []), [], [])])
set_option maxRecDepth 100000 in
noncomputable def sz_u134 : List sy_Cut := [(2, [(0, (3, .inr 244, .inl 0)), (1, (0, .inl 3, .inl 0)), (2, (0, .inl 1, .inl 0)), (3, (1, .inl 2, .inl 0)), (5, (0, .inr 0, .inl 0))], ([(3, 239)], []), [], [], [(1, [0]), ((-3), [])])]
set_option maxRecDepth 100000 in
noncomputable def sz_h134_0 : List sy_Hn := [(0, 30, 0, 0, 0, 0, [([], [(1, [0])]), ([], [])], [], [])]
set_option maxRecDepth 100000 in
theorem sz_s134_0 : sy_seg sz_E sz_T sz_RU [] sz_c134 sz_u134 ri_m_X11_isTold 9 none sz_h134_0 = true := by decide +kernel
set_option maxRecDepth 100000 in
noncomputable def sz_h134_1 : List sy_Hn := [(0, 31, 0, 0, 0, 0, [], [], []),
  (0, 31, 0, 0, 0, 0, [], [], []),
  (0, 30, 0, 0, 0, 0, [([5], [(1, [0]), (1, [1])]), ([], [(1, [0]), (1, [2])])], [], [])]
set_option maxRecDepth 100000 in
theorem sz_s134_1 : sy_seg sz_E sz_T sz_RU [] sz_c134 sz_u134 ri_m_X11_isTold 77 (some ((2, [(0, (3, .inr 244, .inl 0)), (1, (0, .inl 3, .inl 0)), (2, (0, .inl 1, .inl 0)), (3, (1, .inl 2, .inl 0)), (5, (0, .inr 0, .inl 0))], ([(3, 239)], []), [], [], [(1, [0]), ((-3), [])]))) sz_h134_1 = true := by decide +kernel
theorem sz_ok134 (xs : Nat → Value) (L : Nat) : sy_Cok (sz_env xs L) sz_T sz_RU sz_c134 := sy_chk_ok (CT := []) (CU := sz_u134) (M := ri_m_X11_isTold) (fun _ h => absurd h List.not_mem_nil) rfl rfl ⟨_, _, sz_s134_0⟩ (List.forall_mem_cons.mpr ⟨⟨_, _, sz_s134_1⟩, fun _ h => absurd h List.not_mem_nil⟩)

/-! X11_isMode [244, 3, 2] -/
set_option maxRecDepth 100000 in
noncomputable def sz_c135 : sy_Ct := (102, 5, 114, [(3, .inr 244, .inl 0), (0, .inl 3, .inl 0), (0, .inl 2, .inl 0)], ([(0, 2)], []), [((245, 243), (1, .inr 0, .inl 0))], [], [(245, 4, 4), (245, 244, 245), (245, 251, 252), (245, 285, 285), (245, 297, 301), (245, 345, 584)], [(.inl none, 0, 0, ([(0, 2)], []), [], [])])
set_option maxRecDepth 100000 in
noncomputable def sz_u135 : List sy_Cut := []
set_option maxRecDepth 100000 in
noncomputable def sz_h135_0 : List sy_Hn := [(89, 1, 0, 0, 0, 0, [], [], []),
  (58, 4, 245, 241, 0, 0, [], [], []),
  (0, 4, 245, 242, 0, 0, [], [], []),
  (0, 4, 245, 302, 0, 0, [], [], []),
  (0, 4, 245, 309, 0, 0, [], [], []),
  (0, 6, 31, 0, 0, 0, [([], [(1, [0])]), ([], [(1, [0])])], [], [0, 0]),
  (0, 6, 32, 0, 0, 0, [([0], [(1, [0]), (1, [1])])], [], [2]),
  (0, 4, 245, 305, 0, 0, [], [], []),
  (0, 4, 245, 306, 0, 0, [], [], []),
  (0, 6, 34, 0, 0, 0, [([], [(1, [0])]), ([], [(1, [0])])], [], [0, 0]),
  (1, 20, 0, 0, 0, 0, [], [], []),
  (182, 4, 245, 12, 0, 0, [], [], []),
  (0, 4, 245, 89, 0, 0, [], [], []),
  (0, 4, 245, 166, 0, 0, [], [], []),
  (0, 6, 35, 0, 0, 0, [([], [(1, [0])]), ([], [(1, [0])]), ([], [(1, [0])]), ([], [(1, [0])]), ([], [(1, [0])]), ([], [(1, [0])]), ([], [(1, [0])])], [], [0, 0, 0, 0, 0, 0, 0]),
  (0, 4, 245, 0, 0, 0, [], [], []),
  (0, 6, 36, 0, 0, 0, [([], [(1, [0])])], [], [1]),
  (1, 20, 1, 0, 0, 0, [], [], []),
  (0, 31, 0, 0, 0, 0, [], [], []),
  (0, 1, 0, 0, 1, 0, [], [], []),
  (58, 4, 245, 241, 0, 0, [], [], []),
  (0, 4, 245, 242, 0, 0, [], [], []),
  (0, 4, 245, 302, 0, 0, [], [], []),
  (0, 4, 245, 309, 0, 0, [], [], []),
  (0, 6, 31, 0, 0, 0, [([], [(1, [0])]), ([], [(1, [0])])], [], [0, 0]),
  (0, 6, 32, 0, 0, 0, [([0], [(1, [0]), (1, [1])])], [], [2]),
  (0, 4, 245, 305, 0, 0, [], [], []),
  (0, 4, 245, 306, 0, 0, [], [], []),
  (0, 6, 34, 0, 0, 0, [([], [(1, [0])]), ([], [(1, [0])])], [], [0, 0]),
  (1, 20, 0, 0, 0, 0, [], [], []),
  (182, 4, 245, 12, 0, 0, [], [], []),
  (0, 4, 245, 89, 0, 0, [], [], []),
  (0, 4, 245, 166, 0, 0, [], [], []),
  (0, 6, 35, 0, 0, 0, [([], [(1, [0])]), ([], [(1, [0])]), ([], [(1, [0])]), ([], [(1, [0])]), ([], [(1, [0])]), ([], [(1, [0])]), ([], [(1, [0])])], [], [0, 0, 0, 0, 0, 0, 0]),
  (0, 4, 245, 0, 0, 0, [], [], []),
  (0, 6, 36, 0, 0, 0, [([], [(1, [0])])], [], [1]),
  (1, 20, 1, 0, 0, 0, [], [], []),
  (0, 31, 0, 0, 0, 0, [], [], []),
  (58, 4, 245, 241, 0, 0, [], [], []),
  (0, 4, 245, 242, 0, 0, [], [], []),
  (0, 4, 245, 302, 0, 0, [], [], []),
  (0, 4, 245, 309, 0, 0, [], [], []),
  (0, 6, 31, 0, 0, 0, [([], [(1, [0])]), ([], [(1, [0])])], [], [0, 0]),
  (0, 6, 32, 0, 0, 0, [([0], [(1, [0]), (1, [1])])], [], [2]),
  (0, 4, 245, 305, 0, 0, [], [], []),
  (0, 4, 245, 306, 0, 0, [], [], []),
  (0, 6, 34, 0, 0, 0, [([], [(1, [0])]), ([], [(1, [0])])], [], [0, 0]),
  (1, 20, 0, 0, 0, 0, [], [], []),
  (182, 4, 245, 12, 0, 0, [], [], []),
  (0, 4, 245, 89, 0, 0, [], [], []),
  (0, 4, 245, 166, 0, 0, [], [], []),
  (0, 6, 35, 0, 0, 0, [([], [(1, [0])]), ([], [(1, [0])]), ([], [(1, [0])]), ([], [(1, [0])]), ([], [(1, [0])]), ([], [(1, [0])]), ([], [(1, [0])])], [], [0, 0, 0, 0, 0, 0, 0]),
  (0, 4, 245, 0, 0, 0, [], [], []),
  (0, 6, 36, 0, 0, 0, [([], [(1, [0])])], [], [1]),
  (1, 20, 1, 0, 0, 0, [], [], []),
  (0, 31, 0, 0, 0, 0, [], [], []),
  (23, 4, 245, 241, 0, 0, [], [], []),
  (0, 4, 245, 242, 0, 0, [], [], []),
  (0, 4, 245, 302, 0, 0, [], [], []),
  (0, 4, 245, 309, 0, 0, [], [], []),
  (0, 5, 31, 0, 0, 0, [], [], []),
  (0, 7, 0, 0, 0, 0, [([1], [(1, [2]), (1, [0])])], [], []),
  (0, 5, 31, 1, 0, 0, [], [], []),
  (0, 7, 0, 0, 0, 0, [([1], [(1, [2]), (1, [0])])], [], []),
  (0, 4, 245, 305, 0, 0, [], [], []),
  (0, 4, 245, 306, 0, 0, [], [], []),
  (0, 5, 34, 0, 0, 0, [], [], []),
  (0, 7, 0, 0, 0, 0, [([1], [(1, [2]), (1, [0])])], [], []),
  (0, 3, 6, 0, 0, 239, [([6], [(1, [0]), (1, [1])]), ([], [(1, [0]), (1, [1])])], [], []),
  (0, 5, 34, 1, 0, 0, [], [], []),
  (0, 7, 0, 0, 0, 0, [([1], [(1, [2]), (1, [0])])], [], []),
  (39, 1, 0, 0, 0, 0, [], [], []),
  (58, 6, 31, 0, 0, 0, [([], [(1, [0])]), ([], [(1, [0])])], [], [0, 0]),
  (0, 6, 32, 0, 0, 0, [([0], [(1, [0]), (1, [1])])], [], [2]),
  (0, 6, 34, 0, 0, 0, [([], [(1, [0])]), ([], [(1, [0])])], [], [0, 0]),
  (1, 20, 0, 0, 0, 0, [], [], []),
  (182, 4, 245, 12, 0, 0, [], [], []),
  (0, 4, 245, 89, 0, 0, [], [], []),
  (0, 4, 245, 166, 0, 0, [], [], []),
  (0, 6, 35, 0, 0, 0, [([], [(1, [0])]), ([], [(1, [0])]), ([], [(1, [0])]), ([], [(1, [0])]), ([], [(1, [0])]), ([], [(1, [0])]), ([], [(1, [0])])], [], [0, 0, 0, 0, 0, 0, 0]),
  (0, 4, 245, 0, 0, 0, [], [], []),
  (0, 6, 36, 0, 0, 0, [([], [(1, [0])])], [], [1]),
  (1, 20, 1, 0, 0, 0, [], [], []),
  (0, 31, 0, 0, 0, 0, [], [], []),
  (0, 1, 0, 0, 1, 0, [], [], []),
  (58, 6, 31, 0, 0, 0, [([], [(1, [0])]), ([], [(1, [0])])], [], [0, 0]),
  (0, 6, 32, 0, 0, 0, [([0], [(1, [0]), (1, [1])])], [], [2]),
  (0, 6, 34, 0, 0, 0, [([], [(1, [0])]), ([], [(1, [0])])], [], [0, 0]),
  (1, 20, 0, 0, 0, 0, [], [], []),
  (182, 4, 245, 12, 0, 0, [], [], []),
  (0, 4, 245, 89, 0, 0, [], [], []),
  (0, 4, 245, 166, 0, 0, [], [], []),
  (0, 6, 35, 0, 0, 0, [([], [(1, [0])]), ([], [(1, [0])]), ([], [(1, [0])]), ([], [(1, [0])]), ([], [(1, [0])]), ([], [(1, [0])]), ([], [(1, [0])])], [], [0, 0, 0, 0, 0, 0, 0]),
  (0, 4, 245, 0, 0, 0, [], [], []),
  (0, 6, 36, 0, 0, 0, [([], [(1, [0])])], [], [1]),
  (1, 20, 1, 0, 0, 0, [], [], []),
  (0, 31, 0, 0, 0, 0, [], [], []),
  (58, 6, 31, 0, 0, 0, [([], [(1, [0])]), ([], [(1, [0])])], [], [0, 0]),
  (0, 6, 32, 0, 0, 0, [([0], [(1, [0]), (1, [1])])], [], [2]),
  (0, 6, 34, 0, 0, 0, [([], [(1, [0])]), ([], [(1, [0])])], [], [0, 0]),
  (1, 20, 0, 0, 0, 0, [], [], []),
  (182, 4, 245, 12, 0, 0, [], [], []),
  (0, 4, 245, 89, 0, 0, [], [], []),
  (0, 4, 245, 166, 0, 0, [], [], []),
  (0, 6, 35, 0, 0, 0, [([], [(1, [0])]), ([], [(1, [0])]), ([], [(1, [0])]), ([], [(1, [0])]), ([], [(1, [0])]), ([], [(1, [0])]), ([], [(1, [0])])], [], [0, 0, 0, 0, 0, 0, 0]),
  (0, 4, 245, 0, 0, 0, [], [], []),
  (0, 6, 36, 0, 0, 0, [([], [(1, [0])])], [], [1]),
  (1, 20, 1, 0, 0, 0, [], [], []),
  (0, 31, 0, 0, 0, 0, [], [], []),
  (0, 31, 0, 0, 0, 0, [], [], [])]
set_option maxRecDepth 100000 in
theorem sz_s135_0 : sy_seg sz_E sz_T sz_RU [sz_c130, sz_c134] sz_c135 sz_u135 ri_m_X11_isMode 1737 none sz_h135_0 = true := by decide +kernel
theorem sz_ok135 (xs : Nat → Value) (L : Nat) : sy_Cok (sz_env xs L) sz_T sz_RU sz_c135 := sy_chk_ok (CT := [sz_c130, sz_c134]) (CU := sz_u135) (M := ri_m_X11_isMode) (List.forall_mem_cons.mpr ⟨sz_ok130 xs L, List.forall_mem_cons.mpr ⟨sz_ok134 xs L, fun _ h => absurd h List.not_mem_nil⟩⟩) rfl rfl ⟨_, _, sz_s135_0⟩ (fun _ h => absurd h List.not_mem_nil)

/-! X11_happens [244, 4, 3, 2] -/
set_option maxRecDepth 100000 in
noncomputable def sz_c136 : sy_Ct := (225, 6, 137, [(3, .inr 244, .inl 0), (0, .inl 4, .inl 0), (0, .inl 3, .inl 0), (0, .inl 2, .inl 0)], ([(0, 2)], []), [((245, 243), (1, .inr 0, .inl 0))], [], [(245, 4, 4), (245, 244, 245), (245, 251, 252), (245, 285, 285), (245, 297, 301), (245, 345, 584)], [(.inl none, 0, 0, ([(0, 2)], []), [], [])])
set_option maxRecDepth 100000 in
noncomputable def sz_u136 : List sy_Cut := []
set_option maxRecDepth 100000 in
noncomputable def sz_h136_0 : List sy_Hn := [(18, 20, 0, 0, 0, 0, [], [], []),
  (0, 31, 0, 0, 0, 0, [], [], [])]
set_option maxRecDepth 100000 in
theorem sz_s136_0 : sy_seg sz_E sz_T sz_RU [sz_c135] sz_c136 sz_u136 ri_m_X11_happens 26 none sz_h136_0 = true := by decide +kernel
theorem sz_ok136 (xs : Nat → Value) (L : Nat) : sy_Cok (sz_env xs L) sz_T sz_RU sz_c136 := sy_chk_ok (CT := [sz_c135]) (CU := sz_u136) (M := ri_m_X11_happens) (List.forall_mem_cons.mpr ⟨sz_ok135 xs L, fun _ h => absurd h List.not_mem_nil⟩) rfl rfl ⟨_, _, sz_s136_0⟩ (fun _ h => absurd h List.not_mem_nil)
