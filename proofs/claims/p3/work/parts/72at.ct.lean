/-! ===== the survey: contracts 855 to 970 ===== -/
/-! X11_readCurve [244] -/
set_option maxRecDepth 100000 in
noncomputable def sz_c855 : sy_Ct := (214, 3, 69, [(3, .inr 244, .inl 0)], ([], []), [], [], [(244, 8, 8), (244, 10, 10), (244, 13, 13), (245, 25, 25), (245, 44, 51), (245, 102, 102), (245, 121, 128), (245, 179, 179), (245, 198, 205), (245, 256, 256), (245, 275, 282)], [(.inl (some (0, .inr 0, .inl 0)), 0, 0, ([(0, 1)], []), [], [])])
set_option maxRecDepth 100000 in
noncomputable def sz_u855 : List sy_Cut := [(15, [(0, (3, .inr 244, .inl 0)), (1, (0, .inr 0, .inl 0)), (2, (0, .inr 1, .inl 0))], ([(0, 8), (0, 3)], []), [], [], [(9, []), ((-1), [1])])]
set_option maxRecDepth 100000 in
noncomputable def sz_h855_0 : List sy_Hn := [(13, 20, 1, 0, 0, 0, [], [], []),
  (0, 31, 0, 0, 0, 0, [], [], []),
  (0, 30, 0, 0, 0, 0, [([], [(1, [0])]), ([], [])], [], [])]
set_option maxRecDepth 100000 in
theorem sz_s855_0 : sy_seg sz_E sz_T sz_RU [sz_c262, sz_c761, sz_c854] sz_c855 sz_u855 ri_m_X11_readCurve 31 none sz_h855_0 = true := by decide +kernel
set_option maxRecDepth 100000 in
noncomputable def sz_h855_1 : List sy_Hn := [(0, 31, 0, 0, 0, 0, [], [], []),
  (4, 20, 2, 0, 0, 0, [], [], []),
  (0, 31, 0, 0, 0, 0, [], [], []),
  (18, 1, 0, 0, 0, 0, [], [], []),
  (0, 30, 0, 0, 0, 0, [([5], [(1, [0]), (1, [2])]), ([], [(1, [0]), (1, [1])])], [], []),
  (4, 20, 0, 0, 0, 0, [], [], []),
  (0, 31, 0, 0, 0, 0, [], [], []),
  (0, 31, 0, 0, 0, 0, [], [], []),
  (0, 31, 0, 0, 0, 0, [], [], []),
  (0, 30, 0, 0, 0, 0, [([5], [(1, [0]), (1, [2])]), ([], [(1, [0]), (1, [2])])], [], []),
  (0, 1, 0, 0, 1, 0, [], [], []),
  (0, 30, 0, 0, 0, 0, [([5], [(1, [0]), (1, [2])]), ([], [(1, [0]), (1, [1])])], [], []),
  (4, 20, 0, 0, 0, 0, [], [], []),
  (0, 31, 0, 0, 0, 0, [], [], []),
  (0, 31, 0, 0, 0, 0, [], [], []),
  (0, 31, 0, 0, 0, 0, [], [], []),
  (0, 30, 0, 0, 0, 0, [([5], [(1, [0]), (1, [2])]), ([], [(1, [0]), (1, [2])])], [], []),
  (0, 1, 0, 0, 2, 0, [], [], []),
  (0, 30, 0, 0, 0, 0, [([5], [(1, [0]), (1, [2])]), ([], [(1, [0]), (1, [1])])], [], []),
  (4, 20, 0, 0, 0, 0, [], [], []),
  (0, 31, 0, 0, 0, 0, [], [], []),
  (0, 31, 0, 0, 0, 0, [], [], []),
  (0, 31, 0, 0, 0, 0, [], [], []),
  (0, 30, 0, 0, 0, 0, [([5], [(1, [0]), (1, [2])]), ([], [(1, [0]), (1, [2])])], [], []),
  (0, 30, 0, 0, 0, 0, [([5], [(1, [0]), (1, [2])]), ([], [(1, [0]), (1, [1])])], [], []),
  (4, 20, 0, 0, 0, 0, [], [], []),
  (0, 31, 0, 0, 0, 0, [], [], []),
  (0, 31, 0, 0, 0, 0, [], [], []),
  (0, 31, 0, 0, 0, 0, [], [], []),
  (0, 30, 0, 0, 0, 0, [([5], [(1, [0]), (1, [2])]), ([], [(1, [0]), (1, [2])])], [], [])]
set_option maxRecDepth 100000 in
theorem sz_s855_1 : sy_seg sz_E sz_T sz_RU [sz_c262, sz_c761, sz_c854] sz_c855 sz_u855 ri_m_X11_readCurve 588 (some ((15, [(0, (3, .inr 244, .inl 0)), (1, (0, .inr 0, .inl 0)), (2, (0, .inr 1, .inl 0))], ([(0, 8), (0, 3)], []), [], [], [(9, []), ((-1), [1])]))) sz_h855_1 = true := by decide +kernel
theorem sz_ok855 (xs : Nat → Value) (L : Nat) : sy_Cok (sz_env xs L) sz_T sz_RU sz_c855 := sy_chk_ok (CT := [sz_c262, sz_c761, sz_c854]) (CU := sz_u855) (M := ri_m_X11_readCurve) (List.forall_mem_cons.mpr ⟨sz_ok262 xs L, List.forall_mem_cons.mpr ⟨sz_ok761 xs L, List.forall_mem_cons.mpr ⟨sz_ok854 xs L, fun _ h => absurd h List.not_mem_nil⟩⟩⟩) rfl ⟨_, _, sz_s855_0⟩ (List.forall_mem_cons.mpr ⟨⟨_, _, sz_s855_1⟩, fun _ h => absurd h List.not_mem_nil⟩)

/-! X11_isWord [244, 1000051] -/
set_option maxRecDepth 100000 in
noncomputable def sz_c856 : sy_Ct := (210, 4, 85, [(3, .inr 244, .inl 0), (3, .inr 1000051, .inl 0)], ([], []), [], [], [], [(.inl (some (0, .inr 0, .inl 0)), 0, 0, ([(0, 1)], []), [], [])])
set_option maxRecDepth 100000 in
noncomputable def sz_u856 : List sy_Cut := []
set_option maxRecDepth 100000 in
noncomputable def sz_h856_0 : List sy_Hn := [(0, 31, 0, 0, 0, 0, [], [], []),
  (30, 3, 3, 0, 0, 399, [([3], [(1, [0]), (1, [1])]), ([0, 2], [(1, [0]), (1, [6]), (1, [8]), (1, [2]), (1, [3])])], [], []),
  (0, 31, 0, 0, 0, 0, [], [], []),
  (30, 3, 8, 0, 1, 399, [([8], [(1, [0]), (1, [1])]), ([0, 2], [(1, [0]), (1, [6]), (1, [12]), (1, [2]), (1, [3])])], [], []),
  (0, 31, 0, 0, 0, 0, [], [], []),
  (30, 3, 13, 0, 2, 399, [([13], [(1, [0]), (1, [1])]), ([0, 2], [(1, [0]), (1, [6]), (1, [16]), (1, [2]), (1, [3])])], [], []),
  (0, 31, 0, 0, 0, 0, [], [], []),
  (30, 3, 18, 0, 3, 399, [([18], [(1, [0]), (1, [1])]), ([0, 2], [(1, [0]), (1, [6]), (1, [20]), (1, [2]), (1, [3])])], [], []),
  (0, 31, 0, 0, 0, 0, [], [], []),
  (0, 31, 0, 0, 0, 0, [], [], [])]
set_option maxRecDepth 100000 in
theorem sz_s856_0 : sy_seg sz_E sz_T sz_RU [] sz_c856 sz_u856 ri_m_X11_isWord 402 none sz_h856_0 = true := by decide +kernel
theorem sz_ok856 (xs : Nat → Value) (L : Nat) : sy_Cok (sz_env xs L) sz_T sz_RU sz_c856 := sy_chk_ok (CT := []) (CU := sz_u856) (M := ri_m_X11_isWord) (fun _ h => absurd h List.not_mem_nil) rfl ⟨_, _, sz_s856_0⟩ (fun _ h => absurd h List.not_mem_nil)

/-! X11_passes [244, 1000051] -/
set_option maxRecDepth 100000 in
noncomputable def sz_c857 : sy_Ct := (270, 5, 108, [(3, .inr 244, .inl 0), (3, .inr 1000051, .inl 0)], ([], []), [], [], [(244, 8, 8), (244, 10, 10)], [(.inl (some (0, .inr 0, .inl 0)), 0, 0, ([(0, 1)], []), [], [])])
set_option maxRecDepth 100000 in
noncomputable def sz_u857 : List sy_Cut := []
set_option maxRecDepth 100000 in
noncomputable def sz_h857_0 : List sy_Hn := [(2, 20, 0, 0, 0, 0, [], [], []),
  (3, 20, 1, 0, 0, 0, [], [], []),
  (0, 31, 0, 0, 0, 0, [], [], []),
  (0, 31, 0, 0, 0, 0, [], [], [])]
set_option maxRecDepth 100000 in
theorem sz_s857_0 : sy_seg sz_E sz_T sz_RU [sz_c263, sz_c856] sz_c857 sz_u857 ri_m_X11_passes 23 none sz_h857_0 = true := by decide +kernel
theorem sz_ok857 (xs : Nat → Value) (L : Nat) : sy_Cok (sz_env xs L) sz_T sz_RU sz_c857 := sy_chk_ok (CT := [sz_c263, sz_c856]) (CU := sz_u857) (M := ri_m_X11_passes) (List.forall_mem_cons.mpr ⟨sz_ok263 xs L, List.forall_mem_cons.mpr ⟨sz_ok856 xs L, fun _ h => absurd h List.not_mem_nil⟩⟩) rfl ⟨_, _, sz_s857_0⟩ (fun _ h => absurd h List.not_mem_nil)

/-! X11_isWord [244, 1000052] -/
set_option maxRecDepth 100000 in
noncomputable def sz_c858 : sy_Ct := (210, 4, 85, [(3, .inr 244, .inl 0), (3, .inr 1000052, .inl 0)], ([], []), [], [], [], [(.inl (some (0, .inr 0, .inl 0)), 0, 0, ([(0, 1)], []), [], [])])
set_option maxRecDepth 100000 in
noncomputable def sz_u858 : List sy_Cut := []
set_option maxRecDepth 100000 in
noncomputable def sz_h858_0 : List sy_Hn := [(0, 31, 0, 0, 0, 0, [], [], []),
  (30, 3, 3, 0, 0, 399, [([3], [(1, [0]), (1, [1])]), ([0, 2], [(1, [0]), (1, [6]), (1, [8]), (1, [2]), (1, [3])])], [], []),
  (0, 31, 0, 0, 0, 0, [], [], []),
  (30, 3, 8, 0, 1, 399, [([8], [(1, [0]), (1, [1])]), ([0, 2], [(1, [0]), (1, [6]), (1, [12]), (1, [2]), (1, [3])])], [], []),
  (0, 31, 0, 0, 0, 0, [], [], []),
  (0, 31, 0, 0, 0, 0, [], [], [])]
set_option maxRecDepth 100000 in
theorem sz_s858_0 : sy_seg sz_E sz_T sz_RU [] sz_c858 sz_u858 ri_m_X11_isWord 232 none sz_h858_0 = true := by decide +kernel
theorem sz_ok858 (xs : Nat → Value) (L : Nat) : sy_Cok (sz_env xs L) sz_T sz_RU sz_c858 := sy_chk_ok (CT := []) (CU := sz_u858) (M := ri_m_X11_isWord) (fun _ h => absurd h List.not_mem_nil) rfl ⟨_, _, sz_s858_0⟩ (fun _ h => absurd h List.not_mem_nil)

/-! X11_must [244, 1000052] -/
set_option maxRecDepth 100000 in
noncomputable def sz_c859 : sy_Ct := (266, 5, 108, [(3, .inr 244, .inl 0), (3, .inr 1000052, .inl 0)], ([], []), [], [], [(244, 8, 8), (244, 10, 10)], [(.inl (some (0, .inr 0, .inl 0)), 0, 0, ([(0, 1)], []), [], [])])
set_option maxRecDepth 100000 in
noncomputable def sz_u859 : List sy_Cut := []
set_option maxRecDepth 100000 in
noncomputable def sz_h859_0 : List sy_Hn := [(2, 20, 0, 0, 0, 0, [], [], []),
  (3, 20, 1, 0, 0, 0, [], [], []),
  (0, 31, 0, 0, 0, 0, [], [], [])]
set_option maxRecDepth 100000 in
theorem sz_s859_0 : sy_seg sz_E sz_T sz_RU [sz_c263, sz_c858] sz_c859 sz_u859 ri_m_X11_must 14 none sz_h859_0 = true := by decide +kernel
theorem sz_ok859 (xs : Nat → Value) (L : Nat) : sy_Cok (sz_env xs L) sz_T sz_RU sz_c859 := sy_chk_ok (CT := [sz_c263, sz_c858]) (CU := sz_u859) (M := ri_m_X11_must) (List.forall_mem_cons.mpr ⟨sz_ok263 xs L, List.forall_mem_cons.mpr ⟨sz_ok858 xs L, fun _ h => absurd h List.not_mem_nil⟩⟩) rfl ⟨_, _, sz_s859_0⟩ (fun _ h => absurd h List.not_mem_nil)

/-! X11_figures [244, 1, 0, 9999] -/
set_option maxRecDepth 100000 in
noncomputable def sz_c860 : sy_Ct := (302, 1, 22, [(3, .inr 244, .inl 0), (0, .inl 1, .inl 0), (0, .inl 0, .inl 0), (0, .inl 9999, .inl 0)], ([], []), [], [], [(244, 8, 8), (244, 13, 13)], [(.inl (some (0, .inl 0, .inl 0)), 0, 0, ([], []), [], []), (.inl (some (0, .inl 1, .inl 0)), 0, 0, ([(0, 9999)], [[(9999, []), ((-1), [0])], [(1, [0]), (0, [])]]), [((244, 13), (0, .inr 0, .inl 0))], [])])
set_option maxRecDepth 100000 in
noncomputable def sz_u860 : List sy_Cut := [(5, [(0, (3, .inr 244, .inl 0)), (1, (0, .inl 1, .inl 0)), (2, (0, .inl 0, .inl 0)), (3, (0, .inl 9999, .inl 0)), (4, (0, .inr 0, .inl 0)), (5, (0, .inr 1, .inl 0))], ([(0, 400), (0, 400), ((-2147483648), 2147483647), (0, 400)], []), [((244, 8), (0, .inr 2, .inl 0)), ((244, 9), (0, .inr 3, .inl 0))], [], [(400, []), ((-1), [2])])]
set_option maxRecDepth 100000 in
noncomputable def sz_h860_0 : List sy_Hn := [(5, 4, 244, 9, 0, 0, [], [], []),
  (0, 30, 0, 0, 0, 0, [([0], [(1, [0]), (1, [2])]), ([], [])], [], [])]
set_option maxRecDepth 100000 in
theorem sz_s860_0 : sy_seg sz_E sz_T sz_RU [] sz_c860 sz_u860 ri_m_X11_figures 13 none sz_h860_0 = true := by decide +kernel
set_option maxRecDepth 100000 in
noncomputable def sz_h860_1 : List sy_Hn := [(0, 31, 0, 0, 0, 0, [], [], []),
  (0, 31, 0, 0, 0, 0, [], [], []),
  (0, 31, 0, 0, 0, 0, [], [], []),
  (0, 31, 0, 0, 0, 0, [], [], []),
  (0, 31, 1, 0, 0, 0, [([4], [(1, [0]), (1, [2])]), ([4], [(1, [0]), (1, [1])])], [], []),
  (0, 31, 0, 0, 0, 0, [], [], []),
  (0, 31, 0, 0, 0, 0, [], [], []),
  (0, 31, 0, 0, 0, 0, [], [], []),
  (0, 31, 0, 0, 0, 0, [], [], []),
  (0, 31, 1, 0, 0, 0, [([5], [(1, [0]), (1, [2])]), ([5], [(1, [0]), (1, [1])])], [], []),
  (0, 31, 0, 0, 0, 0, [], [], []),
  (0, 31, 0, 0, 0, 0, [], [], []),
  (0, 31, 0, 0, 0, 0, [], [], []),
  (0, 31, 0, 0, 0, 0, [], [], []),
  (0, 31, 1, 0, 0, 0, [([6], [(1, [0]), (1, [2])]), ([6], [(1, [0]), (1, [1])])], [], []),
  (0, 30, 0, 0, 0, 0, [([7], [(1, [0]), (1, [2])]), ([], [(1, [0]), (1, [1])])], [], []),
  (0, 30, 0, 0, 0, 0, [([11], [(1, [0]), (1, [2])]), ([], [(1, [0]), (1, [1])])], [], [])]
set_option maxRecDepth 100000 in
theorem sz_s860_1 : sy_seg sz_E sz_T sz_RU [] sz_c860 sz_u860 ri_m_X11_figures 275 (some ((5, [(0, (3, .inr 244, .inl 0)), (1, (0, .inl 1, .inl 0)), (2, (0, .inl 0, .inl 0)), (3, (0, .inl 9999, .inl 0)), (4, (0, .inr 0, .inl 0)), (5, (0, .inr 1, .inl 0))], ([(0, 400), (0, 400), ((-2147483648), 2147483647), (0, 400)], []), [((244, 8), (0, .inr 2, .inl 0)), ((244, 9), (0, .inr 3, .inl 0))], [], [(400, []), ((-1), [2])]))) sz_h860_1 = true := by decide +kernel
theorem sz_ok860 (xs : Nat → Value) (L : Nat) : sy_Cok (sz_env xs L) sz_T sz_RU sz_c860 := sy_chk_ok (CT := []) (CU := sz_u860) (M := ri_m_X11_figures) (fun _ h => absurd h List.not_mem_nil) rfl ⟨_, _, sz_s860_0⟩ (List.forall_mem_cons.mpr ⟨⟨_, _, sz_s860_1⟩, fun _ h => absurd h List.not_mem_nil⟩)

/-! X11_number [244, 0, 9999] -/
set_option maxRecDepth 100000 in
noncomputable def sz_c861 : sy_Ct := (269, 2, 47, [(3, .inr 244, .inl 0), (0, .inl 0, .inl 0), (0, .inl 9999, .inl 0)], ([], []), [], [], [(244, 8, 8), (244, 10, 10), (244, 13, 13)], [(.inl (some (0, .inl 0, .inl 0)), 0, 0, ([], []), [], []), (.inl (some (0, .inl 1, .inl 0)), 0, 0, ([(0, 9999)], [[(9999, []), ((-1), [0])], [(1, [0]), (0, [])]]), [((244, 13), (0, .inr 0, .inl 0))], [])])
set_option maxRecDepth 100000 in
noncomputable def sz_u861 : List sy_Cut := []
set_option maxRecDepth 100000 in
noncomputable def sz_h861_0 : List sy_Hn := [(2, 20, 0, 0, 0, 0, [], [], []),
  (5, 20, 1, 0, 0, 0, [], [], []),
  (0, 31, 0, 0, 0, 0, [], [], []),
  (0, 31, 1, 0, 0, 0, [([0], [(1, [0]), (1, [2])]), ([0], [(1, [0]), (1, [1])])], [], [])]
set_option maxRecDepth 100000 in
theorem sz_s861_0 : sy_seg sz_E sz_T sz_RU [sz_c262, sz_c860] sz_c861 sz_u861 ri_m_X11_number 18 none sz_h861_0 = true := by decide +kernel
theorem sz_ok861 (xs : Nat → Value) (L : Nat) : sy_Cok (sz_env xs L) sz_T sz_RU sz_c861 := sy_chk_ok (CT := [sz_c262, sz_c860]) (CU := sz_u861) (M := ri_m_X11_number) (List.forall_mem_cons.mpr ⟨sz_ok262 xs L, List.forall_mem_cons.mpr ⟨sz_ok860 xs L, fun _ h => absurd h List.not_mem_nil⟩⟩) rfl ⟨_, _, sz_s861_0⟩ (fun _ h => absurd h List.not_mem_nil)

/-! X11_behind [244, 1000052, 0, 9999] -/
set_option maxRecDepth 100000 in
noncomputable def sz_c862 : sy_Ct := (265, 6, 129, [(3, .inr 244, .inl 0), (3, .inr 1000052, .inl 0), (0, .inl 0, .inl 0), (0, .inl 9999, .inl 0)], ([], []), [], [], [(244, 8, 8), (244, 10, 10), (244, 13, 13)], [(.inl (some (0, .inl 0, .inl 0)), 0, 0, ([], []), [], []), (.inl (some (0, .inl 1, .inl 0)), 0, 0, ([(0, 9999)], [[(9999, []), ((-1), [0])], [(1, [0]), (0, [])]]), [((244, 13), (0, .inr 0, .inl 0))], [])])
set_option maxRecDepth 100000 in
noncomputable def sz_u862 : List sy_Cut := []
set_option maxRecDepth 100000 in
noncomputable def sz_h862_0 : List sy_Hn := [(3, 20, 0, 0, 0, 0, [], [], []),
  (0, 31, 0, 0, 0, 0, [], [], []),
  (4, 20, 1, 0, 0, 0, [], [], []),
  (0, 31, 0, 0, 0, 0, [], [], []),
  (0, 31, 1, 0, 0, 0, [([1], [(1, [0]), (1, [2])]), ([1], [(1, [0]), (1, [1])])], [], [])]
set_option maxRecDepth 100000 in
theorem sz_s862_0 : sy_seg sz_E sz_T sz_RU [sz_c859, sz_c861] sz_c862 sz_u862 ri_m_X11_behind 27 none sz_h862_0 = true := by decide +kernel
theorem sz_ok862 (xs : Nat → Value) (L : Nat) : sy_Cok (sz_env xs L) sz_T sz_RU sz_c862 := sy_chk_ok (CT := [sz_c859, sz_c861]) (CU := sz_u862) (M := ri_m_X11_behind) (List.forall_mem_cons.mpr ⟨sz_ok859 xs L, List.forall_mem_cons.mpr ⟨sz_ok861 xs L, fun _ h => absurd h List.not_mem_nil⟩⟩) rfl ⟨_, _, sz_s862_0⟩ (fun _ h => absurd h List.not_mem_nil)

/-! X11_readGain [244, 1000052, 0, 0, 1] -/
set_option maxRecDepth 100000 in
noncomputable def sz_c863 : sy_Ct := (271, 7, 152, [(3, .inr 244, .inl 0), (3, .inr 1000052, .inl 0), (0, .inr 0, .inl 0), (0, .inl 0, .inl 0), (0, .inl 1, .inl 0)], ([(0, 3)], []), [], [], [(244, 8, 8), (244, 10, 10), (244, 13, 13), (245, 33, 33), (245, 110, 110), (245, 187, 187), (245, 264, 264)], [(.inl (some (0, .inr 1, .inl 0)), 0, 0, ([(0, 1), (0, 3)], []), [], [])])
set_option maxRecDepth 100000 in
noncomputable def sz_u863 : List sy_Cut := []
set_option maxRecDepth 100000 in
noncomputable def sz_h863_0 : List sy_Hn := [(5, 20, 0, 0, 0, 0, [], [], []),
  (0, 31, 0, 0, 0, 0, [], [], []),
  (20, 1, 0, 0, 0, 0, [], [], []),
  (0, 31, 0, 0, 0, 0, [], [], []),
  (0, 1, 0, 0, 1, 0, [], [], []),
  (0, 31, 0, 0, 0, 0, [], [], []),
  (0, 1, 0, 0, 2, 0, [], [], []),
  (0, 31, 0, 0, 0, 0, [], [], []),
  (0, 31, 0, 0, 0, 0, [], [], [])]
set_option maxRecDepth 100000 in
theorem sz_s863_0 : sy_seg sz_E sz_T sz_RU [sz_c862] sz_c863 sz_u863 ri_m_X11_readGain 93 none sz_h863_0 = true := by decide +kernel
theorem sz_ok863 (xs : Nat → Value) (L : Nat) : sy_Cok (sz_env xs L) sz_T sz_RU sz_c863 := sy_chk_ok (CT := [sz_c862]) (CU := sz_u863) (M := ri_m_X11_readGain) (List.forall_mem_cons.mpr ⟨sz_ok862 xs L, fun _ h => absurd h List.not_mem_nil⟩) rfl ⟨_, _, sz_s863_0⟩ (fun _ h => absurd h List.not_mem_nil)

/-! X11_isWord [244, 1000053] -/
set_option maxRecDepth 100000 in
noncomputable def sz_c864 : sy_Ct := (210, 4, 85, [(3, .inr 244, .inl 0), (3, .inr 1000053, .inl 0)], ([], []), [], [], [], [(.inl (some (0, .inr 0, .inl 0)), 0, 0, ([(0, 1)], []), [], [])])
set_option maxRecDepth 100000 in
noncomputable def sz_u864 : List sy_Cut := []
set_option maxRecDepth 100000 in
noncomputable def sz_h864_0 : List sy_Hn := [(0, 31, 0, 0, 0, 0, [], [], []),
  (30, 3, 3, 0, 0, 399, [([3], [(1, [0]), (1, [1])]), ([0, 2], [(1, [0]), (1, [6]), (1, [8]), (1, [2]), (1, [3])])], [], []),
  (0, 31, 0, 0, 0, 0, [], [], []),
  (30, 3, 8, 0, 1, 399, [([8], [(1, [0]), (1, [1])]), ([0, 2], [(1, [0]), (1, [6]), (1, [12]), (1, [2]), (1, [3])])], [], []),
  (0, 31, 0, 0, 0, 0, [], [], []),
  (0, 31, 0, 0, 0, 0, [], [], [])]
set_option maxRecDepth 100000 in
theorem sz_s864_0 : sy_seg sz_E sz_T sz_RU [] sz_c864 sz_u864 ri_m_X11_isWord 232 none sz_h864_0 = true := by decide +kernel
theorem sz_ok864 (xs : Nat → Value) (L : Nat) : sy_Cok (sz_env xs L) sz_T sz_RU sz_c864 := sy_chk_ok (CT := []) (CU := sz_u864) (M := ri_m_X11_isWord) (fun _ h => absurd h List.not_mem_nil) rfl ⟨_, _, sz_s864_0⟩ (fun _ h => absurd h List.not_mem_nil)

/-! X11_must [244, 1000053] -/
set_option maxRecDepth 100000 in
noncomputable def sz_c865 : sy_Ct := (266, 5, 108, [(3, .inr 244, .inl 0), (3, .inr 1000053, .inl 0)], ([], []), [], [], [(244, 8, 8), (244, 10, 10)], [(.inl (some (0, .inr 0, .inl 0)), 0, 0, ([(0, 1)], []), [], [])])
set_option maxRecDepth 100000 in
noncomputable def sz_u865 : List sy_Cut := []
set_option maxRecDepth 100000 in
noncomputable def sz_h865_0 : List sy_Hn := [(2, 20, 0, 0, 0, 0, [], [], []),
  (3, 20, 1, 0, 0, 0, [], [], []),
  (0, 31, 0, 0, 0, 0, [], [], [])]
set_option maxRecDepth 100000 in
theorem sz_s865_0 : sy_seg sz_E sz_T sz_RU [sz_c263, sz_c864] sz_c865 sz_u865 ri_m_X11_must 14 none sz_h865_0 = true := by decide +kernel
theorem sz_ok865 (xs : Nat → Value) (L : Nat) : sy_Cok (sz_env xs L) sz_T sz_RU sz_c865 := sy_chk_ok (CT := [sz_c263, sz_c864]) (CU := sz_u865) (M := ri_m_X11_must) (List.forall_mem_cons.mpr ⟨sz_ok263 xs L, List.forall_mem_cons.mpr ⟨sz_ok864 xs L, fun _ h => absurd h List.not_mem_nil⟩⟩) rfl ⟨_, _, sz_s865_0⟩ (fun _ h => absurd h List.not_mem_nil)

/-! X11_behind [244, 1000053, 0, 9999] -/
set_option maxRecDepth 100000 in
noncomputable def sz_c866 : sy_Ct := (265, 6, 129, [(3, .inr 244, .inl 0), (3, .inr 1000053, .inl 0), (0, .inl 0, .inl 0), (0, .inl 9999, .inl 0)], ([], []), [], [], [(244, 8, 8), (244, 10, 10), (244, 13, 13)], [(.inl (some (0, .inl 0, .inl 0)), 0, 0, ([], []), [], []), (.inl (some (0, .inl 1, .inl 0)), 0, 0, ([(0, 9999)], [[(9999, []), ((-1), [0])], [(1, [0]), (0, [])]]), [((244, 13), (0, .inr 0, .inl 0))], [])])
set_option maxRecDepth 100000 in
noncomputable def sz_u866 : List sy_Cut := []
set_option maxRecDepth 100000 in
noncomputable def sz_h866_0 : List sy_Hn := [(3, 20, 1, 0, 0, 0, [], [], []),
  (0, 31, 0, 0, 0, 0, [], [], []),
  (4, 20, 0, 0, 0, 0, [], [], []),
  (0, 31, 0, 0, 0, 0, [], [], []),
  (0, 31, 1, 0, 0, 0, [([1], [(1, [0]), (1, [2])]), ([1], [(1, [0]), (1, [1])])], [], [])]
set_option maxRecDepth 100000 in
theorem sz_s866_0 : sy_seg sz_E sz_T sz_RU [sz_c861, sz_c865] sz_c866 sz_u866 ri_m_X11_behind 27 none sz_h866_0 = true := by decide +kernel
theorem sz_ok866 (xs : Nat → Value) (L : Nat) : sy_Cok (sz_env xs L) sz_T sz_RU sz_c866 := sy_chk_ok (CT := [sz_c861, sz_c865]) (CU := sz_u866) (M := ri_m_X11_behind) (List.forall_mem_cons.mpr ⟨sz_ok861 xs L, List.forall_mem_cons.mpr ⟨sz_ok865 xs L, fun _ h => absurd h List.not_mem_nil⟩⟩) rfl ⟨_, _, sz_s866_0⟩ (fun _ h => absurd h List.not_mem_nil)

/-! X11_readGain [244, 1000053, 0, 0, 2] -/
set_option maxRecDepth 100000 in
noncomputable def sz_c867 : sy_Ct := (271, 7, 152, [(3, .inr 244, .inl 0), (3, .inr 1000053, .inl 0), (0, .inr 0, .inl 0), (0, .inl 0, .inl 0), (0, .inl 2, .inl 0)], ([(0, 3)], []), [], [], [(244, 8, 8), (244, 10, 10), (244, 13, 13), (245, 34, 34), (245, 111, 111), (245, 188, 188), (245, 265, 265)], [(.inl (some (0, .inr 1, .inl 0)), 0, 0, ([(0, 1), (0, 3)], []), [], [])])
set_option maxRecDepth 100000 in
noncomputable def sz_u867 : List sy_Cut := []
set_option maxRecDepth 100000 in
noncomputable def sz_h867_0 : List sy_Hn := [(5, 20, 0, 0, 0, 0, [], [], []),
  (0, 31, 0, 0, 0, 0, [], [], []),
  (20, 1, 0, 0, 0, 0, [], [], []),
  (0, 31, 0, 0, 0, 0, [], [], []),
  (0, 1, 0, 0, 1, 0, [], [], []),
  (0, 31, 0, 0, 0, 0, [], [], []),
  (0, 1, 0, 0, 2, 0, [], [], []),
  (0, 31, 0, 0, 0, 0, [], [], []),
  (0, 31, 0, 0, 0, 0, [], [], [])]
set_option maxRecDepth 100000 in
theorem sz_s867_0 : sy_seg sz_E sz_T sz_RU [sz_c866] sz_c867 sz_u867 ri_m_X11_readGain 93 none sz_h867_0 = true := by decide +kernel
theorem sz_ok867 (xs : Nat → Value) (L : Nat) : sy_Cok (sz_env xs L) sz_T sz_RU sz_c867 := sy_chk_ok (CT := [sz_c866]) (CU := sz_u867) (M := ri_m_X11_readGain) (List.forall_mem_cons.mpr ⟨sz_ok866 xs L, fun _ h => absurd h List.not_mem_nil⟩) rfl ⟨_, _, sz_s867_0⟩ (fun _ h => absurd h List.not_mem_nil)

/-! X11_isWord [244, 1000054] -/
set_option maxRecDepth 100000 in
noncomputable def sz_c868 : sy_Ct := (210, 4, 85, [(3, .inr 244, .inl 0), (3, .inr 1000054, .inl 0)], ([], []), [], [], [], [(.inl (some (0, .inr 0, .inl 0)), 0, 0, ([(0, 1)], []), [], [])])
set_option maxRecDepth 100000 in
noncomputable def sz_u868 : List sy_Cut := []
set_option maxRecDepth 100000 in
noncomputable def sz_h868_0 : List sy_Hn := [(0, 31, 0, 0, 0, 0, [], [], []),
  (30, 3, 3, 0, 0, 399, [([3], [(1, [0]), (1, [1])]), ([0, 2], [(1, [0]), (1, [6]), (1, [8]), (1, [2]), (1, [3])])], [], []),
  (0, 31, 0, 0, 0, 0, [], [], []),
  (30, 3, 8, 0, 1, 399, [([8], [(1, [0]), (1, [1])]), ([0, 2], [(1, [0]), (1, [6]), (1, [12]), (1, [2]), (1, [3])])], [], []),
  (0, 31, 0, 0, 0, 0, [], [], []),
  (0, 31, 0, 0, 0, 0, [], [], [])]
set_option maxRecDepth 100000 in
theorem sz_s868_0 : sy_seg sz_E sz_T sz_RU [] sz_c868 sz_u868 ri_m_X11_isWord 232 none sz_h868_0 = true := by decide +kernel
theorem sz_ok868 (xs : Nat → Value) (L : Nat) : sy_Cok (sz_env xs L) sz_T sz_RU sz_c868 := sy_chk_ok (CT := []) (CU := sz_u868) (M := ri_m_X11_isWord) (fun _ h => absurd h List.not_mem_nil) rfl ⟨_, _, sz_s868_0⟩ (fun _ h => absurd h List.not_mem_nil)

/-! X11_must [244, 1000054] -/
set_option maxRecDepth 100000 in
noncomputable def sz_c869 : sy_Ct := (266, 5, 108, [(3, .inr 244, .inl 0), (3, .inr 1000054, .inl 0)], ([], []), [], [], [(244, 8, 8), (244, 10, 10)], [(.inl (some (0, .inr 0, .inl 0)), 0, 0, ([(0, 1)], []), [], [])])
set_option maxRecDepth 100000 in
noncomputable def sz_u869 : List sy_Cut := []
set_option maxRecDepth 100000 in
noncomputable def sz_h869_0 : List sy_Hn := [(2, 20, 0, 0, 0, 0, [], [], []),
  (3, 20, 1, 0, 0, 0, [], [], []),
  (0, 31, 0, 0, 0, 0, [], [], [])]
set_option maxRecDepth 100000 in
theorem sz_s869_0 : sy_seg sz_E sz_T sz_RU [sz_c263, sz_c868] sz_c869 sz_u869 ri_m_X11_must 14 none sz_h869_0 = true := by decide +kernel
theorem sz_ok869 (xs : Nat → Value) (L : Nat) : sy_Cok (sz_env xs L) sz_T sz_RU sz_c869 := sy_chk_ok (CT := [sz_c263, sz_c868]) (CU := sz_u869) (M := ri_m_X11_must) (List.forall_mem_cons.mpr ⟨sz_ok263 xs L, List.forall_mem_cons.mpr ⟨sz_ok868 xs L, fun _ h => absurd h List.not_mem_nil⟩⟩) rfl ⟨_, _, sz_s869_0⟩ (fun _ h => absurd h List.not_mem_nil)

/-! X11_behind [244, 1000054, 0, 9999] -/
set_option maxRecDepth 100000 in
noncomputable def sz_c870 : sy_Ct := (265, 6, 129, [(3, .inr 244, .inl 0), (3, .inr 1000054, .inl 0), (0, .inl 0, .inl 0), (0, .inl 9999, .inl 0)], ([], []), [], [], [(244, 8, 8), (244, 10, 10), (244, 13, 13)], [(.inl (some (0, .inl 0, .inl 0)), 0, 0, ([], []), [], []), (.inl (some (0, .inl 1, .inl 0)), 0, 0, ([(0, 9999)], [[(9999, []), ((-1), [0])], [(1, [0]), (0, [])]]), [((244, 13), (0, .inr 0, .inl 0))], [])])
set_option maxRecDepth 100000 in
noncomputable def sz_u870 : List sy_Cut := []
set_option maxRecDepth 100000 in
noncomputable def sz_h870_0 : List sy_Hn := [(3, 20, 1, 0, 0, 0, [], [], []),
  (0, 31, 0, 0, 0, 0, [], [], []),
  (4, 20, 0, 0, 0, 0, [], [], []),
  (0, 31, 0, 0, 0, 0, [], [], []),
  (0, 31, 1, 0, 0, 0, [([1], [(1, [0]), (1, [2])]), ([1], [(1, [0]), (1, [1])])], [], [])]
set_option maxRecDepth 100000 in
theorem sz_s870_0 : sy_seg sz_E sz_T sz_RU [sz_c861, sz_c869] sz_c870 sz_u870 ri_m_X11_behind 27 none sz_h870_0 = true := by decide +kernel
theorem sz_ok870 (xs : Nat → Value) (L : Nat) : sy_Cok (sz_env xs L) sz_T sz_RU sz_c870 := sy_chk_ok (CT := [sz_c861, sz_c869]) (CU := sz_u870) (M := ri_m_X11_behind) (List.forall_mem_cons.mpr ⟨sz_ok861 xs L, List.forall_mem_cons.mpr ⟨sz_ok869 xs L, fun _ h => absurd h List.not_mem_nil⟩⟩) rfl ⟨_, _, sz_s870_0⟩ (fun _ h => absurd h List.not_mem_nil)

/-! X11_readGain [244, 1000054, 0, 0, 3] -/
set_option maxRecDepth 100000 in
noncomputable def sz_c871 : sy_Ct := (271, 7, 152, [(3, .inr 244, .inl 0), (3, .inr 1000054, .inl 0), (0, .inr 0, .inl 0), (0, .inl 0, .inl 0), (0, .inl 3, .inl 0)], ([(0, 3)], []), [], [], [(244, 8, 8), (244, 10, 10), (244, 13, 13), (245, 35, 35), (245, 112, 112), (245, 189, 189), (245, 266, 266)], [(.inl (some (0, .inr 1, .inl 0)), 0, 0, ([(0, 1), (0, 3)], []), [], [])])
set_option maxRecDepth 100000 in
noncomputable def sz_u871 : List sy_Cut := []
set_option maxRecDepth 100000 in
noncomputable def sz_h871_0 : List sy_Hn := [(5, 20, 0, 0, 0, 0, [], [], []),
  (0, 31, 0, 0, 0, 0, [], [], []),
  (20, 1, 0, 0, 0, 0, [], [], []),
  (0, 31, 0, 0, 0, 0, [], [], []),
  (0, 1, 0, 0, 1, 0, [], [], []),
  (0, 31, 0, 0, 0, 0, [], [], []),
  (0, 1, 0, 0, 2, 0, [], [], []),
  (0, 31, 0, 0, 0, 0, [], [], []),
  (0, 31, 0, 0, 0, 0, [], [], [])]
set_option maxRecDepth 100000 in
theorem sz_s871_0 : sy_seg sz_E sz_T sz_RU [sz_c870] sz_c871 sz_u871 ri_m_X11_readGain 93 none sz_h871_0 = true := by decide +kernel
theorem sz_ok871 (xs : Nat → Value) (L : Nat) : sy_Cok (sz_env xs L) sz_T sz_RU sz_c871 := sy_chk_ok (CT := [sz_c870]) (CU := sz_u871) (M := ri_m_X11_readGain) (List.forall_mem_cons.mpr ⟨sz_ok870 xs L, fun _ h => absurd h List.not_mem_nil⟩) rfl ⟨_, _, sz_s871_0⟩ (fun _ h => absurd h List.not_mem_nil)

/-! X11_figures [244, 1, 0, 9999] -/
set_option maxRecDepth 100000 in
noncomputable def sz_c872 : sy_Ct := (302, 1, 22, [(3, .inr 244, .inl 0), (0, .inl 1, .inl 0), (0, .inr 0, .inl 0), (0, .inl 9999, .inl 0)], ([(1, 9)], []), [], [], [(244, 8, 8), (244, 13, 13)], [(.inl (some (0, .inl 0, .inl 0)), 0, 0, ([(1, 9)], []), [], []), (.inl (some (0, .inl 1, .inl 0)), 0, 0, ([(1, 9999), (1, 9)], [[(9999, []), ((-1), [1])], [(1, [1]), ((-1), [0])]]), [((244, 13), (0, .inr 1, .inl 0))], [])])
set_option maxRecDepth 100000 in
noncomputable def sz_u872 : List sy_Cut := [(5, [(0, (3, .inr 244, .inl 0)), (1, (0, .inl 1, .inl 0)), (2, (0, .inr 0, .inl 0)), (3, (0, .inl 9999, .inl 0)), (4, (0, .inr 1, .inl 0)), (5, (0, .inr 2, .inl 0))], ([(0, 400), (0, 400), ((-2147483648), 2147483647), (0, 400), (1, 9)], []), [((244, 8), (0, .inr 3, .inl 0)), ((244, 9), (0, .inr 4, .inl 0))], [], [(400, []), ((-1), [3])])]
set_option maxRecDepth 100000 in
noncomputable def sz_h872_0 : List sy_Hn := [(5, 4, 244, 9, 0, 0, [], [], []),
  (0, 30, 0, 0, 0, 0, [([1], [(1, [0]), (1, [2])]), ([], [])], [], [])]
set_option maxRecDepth 100000 in
theorem sz_s872_0 : sy_seg sz_E sz_T sz_RU [] sz_c872 sz_u872 ri_m_X11_figures 13 none sz_h872_0 = true := by decide +kernel
set_option maxRecDepth 100000 in
noncomputable def sz_h872_1 : List sy_Hn := [(0, 31, 0, 0, 0, 0, [], [], []),
  (0, 31, 0, 0, 0, 0, [], [], []),
  (0, 31, 0, 0, 0, 0, [], [], []),
  (0, 31, 0, 0, 0, 0, [], [], []),
  (0, 31, 1, 0, 0, 0, [([5], [(1, [0]), (1, [2])]), ([], [(1, [0]), (1, [1])])], [], []),
  (0, 31, 0, 0, 0, 0, [], [], []),
  (0, 31, 0, 0, 0, 0, [], [], []),
  (0, 31, 0, 0, 0, 0, [], [], []),
  (0, 31, 0, 0, 0, 0, [], [], []),
  (0, 31, 1, 0, 0, 0, [([6], [(1, [0]), (1, [2])]), ([], [(1, [0]), (1, [1])])], [], []),
  (0, 31, 0, 0, 0, 0, [], [], []),
  (0, 31, 0, 0, 0, 0, [], [], []),
  (0, 31, 0, 0, 0, 0, [], [], []),
  (0, 31, 0, 0, 0, 0, [], [], []),
  (0, 31, 1, 0, 0, 0, [([7], [(1, [0]), (1, [2])]), ([], [(1, [0]), (1, [1])])], [], []),
  (0, 30, 0, 0, 0, 0, [([8], [(1, [0]), (1, [2])]), ([], [(1, [0]), (1, [1])])], [], []),
  (0, 30, 0, 0, 0, 0, [([12], [(1, [0]), (1, [2])]), ([], [(1, [0]), (1, [1])])], [], [])]
set_option maxRecDepth 100000 in
theorem sz_s872_1 : sy_seg sz_E sz_T sz_RU [] sz_c872 sz_u872 ri_m_X11_figures 275 (some ((5, [(0, (3, .inr 244, .inl 0)), (1, (0, .inl 1, .inl 0)), (2, (0, .inr 0, .inl 0)), (3, (0, .inl 9999, .inl 0)), (4, (0, .inr 1, .inl 0)), (5, (0, .inr 2, .inl 0))], ([(0, 400), (0, 400), ((-2147483648), 2147483647), (0, 400), (1, 9)], []), [((244, 8), (0, .inr 3, .inl 0)), ((244, 9), (0, .inr 4, .inl 0))], [], [(400, []), ((-1), [3])]))) sz_h872_1 = true := by decide +kernel
theorem sz_ok872 (xs : Nat → Value) (L : Nat) : sy_Cok (sz_env xs L) sz_T sz_RU sz_c872 := sy_chk_ok (CT := []) (CU := sz_u872) (M := ri_m_X11_figures) (fun _ h => absurd h List.not_mem_nil) rfl ⟨_, _, sz_s872_0⟩ (List.forall_mem_cons.mpr ⟨⟨_, _, sz_s872_1⟩, fun _ h => absurd h List.not_mem_nil⟩)

/-! X11_figures [244, -1, 0, 9999] -/
set_option maxRecDepth 100000 in
noncomputable def sz_c873 : sy_Ct := (302, 1, 22, [(3, .inr 244, .inl 0), (0, .inl (-1), .inl 0), (0, .inr 0, .inl 0), (0, .inl 9999, .inl 0)], ([(1, 9)], []), [], [], [(244, 8, 8), (244, 13, 13)], [(.inl (some (0, .inl 0, .inl 0)), 0, 0, ([(1, 9)], []), [], []), (.inl (some (0, .inl 1, .inl 0)), 0, 0, ([(1, 9999), (1, 9)], [[(9999, []), ((-1), [1])], [(1, [1]), ((-1), [0])]]), [((244, 13), (0, .inr 1, .inl 0))], [])])
set_option maxRecDepth 100000 in
noncomputable def sz_u873 : List sy_Cut := [(5, [(0, (3, .inr 244, .inl 0)), (1, (0, .inl (-1), .inl 0)), (2, (0, .inr 0, .inl 0)), (3, (0, .inl 9999, .inl 0)), (4, (0, .inr 1, .inl 0)), (5, (0, .inr 2, .inl 0))], ([(0, 400), (0, 400), ((-2147483648), 2147483647), (0, 400), (1, 9)], []), [((244, 8), (0, .inr 3, .inl 0)), ((244, 9), (0, .inr 4, .inl 0))], [], [(400, []), ((-1), [3])])]
set_option maxRecDepth 100000 in
noncomputable def sz_h873_0 : List sy_Hn := [(5, 4, 244, 9, 0, 0, [], [], []),
  (0, 30, 0, 0, 0, 0, [([1], [(1, [0]), (1, [2])]), ([], [])], [], [])]
set_option maxRecDepth 100000 in
theorem sz_s873_0 : sy_seg sz_E sz_T sz_RU [] sz_c873 sz_u873 ri_m_X11_figures 13 none sz_h873_0 = true := by decide +kernel
set_option maxRecDepth 100000 in
noncomputable def sz_h873_1 : List sy_Hn := [(0, 31, 0, 0, 0, 0, [], [], []),
  (0, 31, 0, 0, 0, 0, [], [], []),
  (0, 31, 0, 0, 0, 0, [], [], []),
  (0, 31, 0, 0, 0, 0, [], [], []),
  (0, 31, 1, 0, 0, 0, [([5], [(1, [0]), (1, [2])]), ([], [(1, [0]), (1, [1])])], [], []),
  (0, 31, 0, 0, 0, 0, [], [], []),
  (0, 31, 0, 0, 0, 0, [], [], []),
  (0, 31, 0, 0, 0, 0, [], [], []),
  (0, 31, 0, 0, 0, 0, [], [], []),
  (0, 31, 1, 0, 0, 0, [([6], [(1, [0]), (1, [2])]), ([], [(1, [0]), (1, [1])])], [], []),
  (0, 31, 0, 0, 0, 0, [], [], []),
  (0, 31, 0, 0, 0, 0, [], [], []),
  (0, 31, 0, 0, 0, 0, [], [], []),
  (0, 31, 0, 0, 0, 0, [], [], []),
  (0, 31, 1, 0, 0, 0, [([7], [(1, [0]), (1, [2])]), ([], [(1, [0]), (1, [1])])], [], []),
  (0, 30, 0, 0, 0, 0, [([8], [(1, [0]), (1, [2])]), ([], [(1, [0]), (1, [1])])], [], []),
  (0, 30, 0, 0, 0, 0, [([12], [(1, [0]), (1, [2])]), ([], [(1, [0]), (1, [1])])], [], [])]
set_option maxRecDepth 100000 in
theorem sz_s873_1 : sy_seg sz_E sz_T sz_RU [] sz_c873 sz_u873 ri_m_X11_figures 275 (some ((5, [(0, (3, .inr 244, .inl 0)), (1, (0, .inl (-1), .inl 0)), (2, (0, .inr 0, .inl 0)), (3, (0, .inl 9999, .inl 0)), (4, (0, .inr 1, .inl 0)), (5, (0, .inr 2, .inl 0))], ([(0, 400), (0, 400), ((-2147483648), 2147483647), (0, 400), (1, 9)], []), [((244, 8), (0, .inr 3, .inl 0)), ((244, 9), (0, .inr 4, .inl 0))], [], [(400, []), ((-1), [3])]))) sz_h873_1 = true := by decide +kernel
theorem sz_ok873 (xs : Nat → Value) (L : Nat) : sy_Cok (sz_env xs L) sz_T sz_RU sz_c873 := sy_chk_ok (CT := []) (CU := sz_u873) (M := ri_m_X11_figures) (fun _ h => absurd h List.not_mem_nil) rfl ⟨_, _, sz_s873_0⟩ (List.forall_mem_cons.mpr ⟨⟨_, _, sz_s873_1⟩, fun _ h => absurd h List.not_mem_nil⟩)

/-! X11_signed [244, 0, 9999] -/
set_option maxRecDepth 100000 in
noncomputable def sz_c874 : sy_Ct := (267, 2, 47, [(3, .inr 244, .inl 0), (0, .inr 0, .inl 0), (0, .inl 9999, .inl 0)], ([(1, 9)], []), [], [], [(244, 8, 8), (244, 10, 10), (244, 13, 13)], [(.inl (some (0, .inl 0, .inl 0)), 0, 0, ([(1, 9)], []), [], []), (.inl (some (0, .inl 1, .inl 0)), 0, 0, ([(1, 9999), (1, 9)], [[(9999, []), ((-1), [1])], [(1, [1]), ((-1), [0])]]), [((244, 13), (0, .inr 1, .inl 0))], [])])
set_option maxRecDepth 100000 in
noncomputable def sz_u874 : List sy_Cut := []
set_option maxRecDepth 100000 in
noncomputable def sz_h874_0 : List sy_Hn := [(2, 20, 0, 0, 0, 0, [], [], []),
  (29, 20, 1, 0, 0, 0, [], [], []),
  (0, 31, 0, 0, 0, 0, [], [], []),
  (0, 31, 1, 0, 0, 0, [([4], [(1, [0]), (1, [2])]), ([], [(1, [0]), (1, [1])])], [], []),
  (27, 20, 1, 0, 0, 0, [], [], []),
  (0, 31, 0, 0, 0, 0, [], [], []),
  (0, 31, 1, 0, 0, 0, [([5], [(1, [0]), (1, [2])]), ([], [(1, [0]), (1, [1])])], [], []),
  (27, 20, 1, 0, 0, 0, [], [], []),
  (0, 31, 0, 0, 0, 0, [], [], []),
  (0, 31, 1, 0, 0, 0, [([6], [(1, [0]), (1, [2])]), ([], [(1, [0]), (1, [1])])], [], []),
  (39, 20, 2, 0, 0, 0, [], [], []),
  (0, 31, 0, 0, 0, 0, [], [], []),
  (0, 31, 1, 0, 0, 0, [([6], [(1, [0]), (1, [2])]), ([], [(1, [0]), (1, [1])])], [], []),
  (22, 20, 2, 0, 0, 0, [], [], []),
  (0, 31, 0, 0, 0, 0, [], [], []),
  (0, 31, 1, 0, 0, 0, [([7], [(1, [0]), (1, [2])]), ([], [(1, [0]), (1, [1])])], [], []),
  (22, 20, 2, 0, 0, 0, [], [], []),
  (0, 31, 0, 0, 0, 0, [], [], []),
  (0, 31, 1, 0, 0, 0, [([8], [(1, [0]), (1, [2])]), ([], [(1, [0]), (1, [1])])], [], []),
  (12, 20, 2, 0, 0, 0, [], [], []),
  (0, 31, 0, 0, 0, 0, [], [], []),
  (0, 31, 1, 0, 0, 0, [([8], [(1, [0]), (1, [2])]), ([], [(1, [0]), (1, [1])])], [], [])]
set_option maxRecDepth 100000 in
theorem sz_s874_0 : sy_seg sz_E sz_T sz_RU [sz_c262, sz_c872, sz_c873] sz_c874 sz_u874 ri_m_X11_signed 221 none sz_h874_0 = true := by decide +kernel
theorem sz_ok874 (xs : Nat → Value) (L : Nat) : sy_Cok (sz_env xs L) sz_T sz_RU sz_c874 := sy_chk_ok (CT := [sz_c262, sz_c872, sz_c873]) (CU := sz_u874) (M := ri_m_X11_signed) (List.forall_mem_cons.mpr ⟨sz_ok262 xs L, List.forall_mem_cons.mpr ⟨sz_ok872 xs L, List.forall_mem_cons.mpr ⟨sz_ok873 xs L, fun _ h => absurd h List.not_mem_nil⟩⟩⟩) rfl ⟨_, _, sz_s874_0⟩ (fun _ h => absurd h List.not_mem_nil)

/-! X11_readGain [244, 1000052, 0, 0, 1] -/
set_option maxRecDepth 100000 in
noncomputable def sz_c875 : sy_Ct := (271, 7, 152, [(3, .inr 244, .inl 0), (3, .inr 1000052, .inl 0), (0, .inl 0, .inl 0), (0, .inl 0, .inl 0), (0, .inl 1, .inl 0)], ([], []), [], [], [(244, 8, 8), (244, 10, 10), (244, 13, 13), (245, 33, 33)], [(.inl (some (0, .inr 0, .inl 0)), 0, 0, ([(0, 1)], []), [], [])])
set_option maxRecDepth 100000 in
noncomputable def sz_u875 : List sy_Cut := []
set_option maxRecDepth 100000 in
noncomputable def sz_h875_0 : List sy_Hn := [(5, 20, 0, 0, 0, 0, [], [], []),
  (0, 31, 0, 0, 0, 0, [], [], []),
  (0, 31, 0, 0, 0, 0, [], [], [])]
set_option maxRecDepth 100000 in
theorem sz_s875_0 : sy_seg sz_E sz_T sz_RU [sz_c862] sz_c875 sz_u875 ri_m_X11_readGain 48 none sz_h875_0 = true := by decide +kernel
theorem sz_ok875 (xs : Nat → Value) (L : Nat) : sy_Cok (sz_env xs L) sz_T sz_RU sz_c875 := sy_chk_ok (CT := [sz_c862]) (CU := sz_u875) (M := ri_m_X11_readGain) (List.forall_mem_cons.mpr ⟨sz_ok862 xs L, fun _ h => absurd h List.not_mem_nil⟩) rfl ⟨_, _, sz_s875_0⟩ (fun _ h => absurd h List.not_mem_nil)

/-! X11_readGain [244, 1000053, 0, 0, 2] -/
set_option maxRecDepth 100000 in
noncomputable def sz_c876 : sy_Ct := (271, 7, 152, [(3, .inr 244, .inl 0), (3, .inr 1000053, .inl 0), (0, .inl 0, .inl 0), (0, .inl 0, .inl 0), (0, .inl 2, .inl 0)], ([], []), [], [], [(244, 8, 8), (244, 10, 10), (244, 13, 13), (245, 34, 34)], [(.inl (some (0, .inr 0, .inl 0)), 0, 0, ([(0, 1)], []), [], [])])
set_option maxRecDepth 100000 in
noncomputable def sz_u876 : List sy_Cut := []
set_option maxRecDepth 100000 in
noncomputable def sz_h876_0 : List sy_Hn := [(5, 20, 0, 0, 0, 0, [], [], []),
  (0, 31, 0, 0, 0, 0, [], [], []),
  (0, 31, 0, 0, 0, 0, [], [], [])]
set_option maxRecDepth 100000 in
theorem sz_s876_0 : sy_seg sz_E sz_T sz_RU [sz_c866] sz_c876 sz_u876 ri_m_X11_readGain 48 none sz_h876_0 = true := by decide +kernel
theorem sz_ok876 (xs : Nat → Value) (L : Nat) : sy_Cok (sz_env xs L) sz_T sz_RU sz_c876 := sy_chk_ok (CT := [sz_c866]) (CU := sz_u876) (M := ri_m_X11_readGain) (List.forall_mem_cons.mpr ⟨sz_ok866 xs L, fun _ h => absurd h List.not_mem_nil⟩) rfl ⟨_, _, sz_s876_0⟩ (fun _ h => absurd h List.not_mem_nil)

/-! X11_readGain [244, 1000054, 0, 0, 3] -/
set_option maxRecDepth 100000 in
noncomputable def sz_c877 : sy_Ct := (271, 7, 152, [(3, .inr 244, .inl 0), (3, .inr 1000054, .inl 0), (0, .inl 0, .inl 0), (0, .inl 0, .inl 0), (0, .inl 3, .inl 0)], ([], []), [], [], [(244, 8, 8), (244, 10, 10), (244, 13, 13), (245, 35, 35)], [(.inl (some (0, .inr 0, .inl 0)), 0, 0, ([(0, 1)], []), [], [])])
set_option maxRecDepth 100000 in
noncomputable def sz_u877 : List sy_Cut := []
set_option maxRecDepth 100000 in
noncomputable def sz_h877_0 : List sy_Hn := [(5, 20, 0, 0, 0, 0, [], [], []),
  (0, 31, 0, 0, 0, 0, [], [], []),
  (0, 31, 0, 0, 0, 0, [], [], [])]
set_option maxRecDepth 100000 in
theorem sz_s877_0 : sy_seg sz_E sz_T sz_RU [sz_c870] sz_c877 sz_u877 ri_m_X11_readGain 48 none sz_h877_0 = true := by decide +kernel
theorem sz_ok877 (xs : Nat → Value) (L : Nat) : sy_Cok (sz_env xs L) sz_T sz_RU sz_c877 := sy_chk_ok (CT := [sz_c870]) (CU := sz_u877) (M := ri_m_X11_readGain) (List.forall_mem_cons.mpr ⟨sz_ok870 xs L, fun _ h => absurd h List.not_mem_nil⟩) rfl ⟨_, _, sz_s877_0⟩ (fun _ h => absurd h List.not_mem_nil)

/-! X11_readGain [244, 1000052, 0, 1, 1] -/
set_option maxRecDepth 100000 in
noncomputable def sz_c878 : sy_Ct := (271, 7, 152, [(3, .inr 244, .inl 0), (3, .inr 1000052, .inl 0), (0, .inl 0, .inl 0), (0, .inl 1, .inl 0), (0, .inl 1, .inl 0)], ([], []), [], [], [(244, 8, 8), (244, 10, 10), (244, 13, 13), (245, 37, 37)], [(.inl (some (0, .inr 0, .inl 0)), 0, 0, ([(0, 1)], []), [], [])])
set_option maxRecDepth 100000 in
noncomputable def sz_u878 : List sy_Cut := []
set_option maxRecDepth 100000 in
noncomputable def sz_h878_0 : List sy_Hn := [(5, 20, 0, 0, 0, 0, [], [], []),
  (0, 31, 0, 0, 0, 0, [], [], []),
  (0, 31, 0, 0, 0, 0, [], [], [])]
set_option maxRecDepth 100000 in
theorem sz_s878_0 : sy_seg sz_E sz_T sz_RU [sz_c862] sz_c878 sz_u878 ri_m_X11_readGain 48 none sz_h878_0 = true := by decide +kernel
theorem sz_ok878 (xs : Nat → Value) (L : Nat) : sy_Cok (sz_env xs L) sz_T sz_RU sz_c878 := sy_chk_ok (CT := [sz_c862]) (CU := sz_u878) (M := ri_m_X11_readGain) (List.forall_mem_cons.mpr ⟨sz_ok862 xs L, fun _ h => absurd h List.not_mem_nil⟩) rfl ⟨_, _, sz_s878_0⟩ (fun _ h => absurd h List.not_mem_nil)

/-! X11_readGain [244, 1000053, 0, 1, 2] -/
set_option maxRecDepth 100000 in
noncomputable def sz_c879 : sy_Ct := (271, 7, 152, [(3, .inr 244, .inl 0), (3, .inr 1000053, .inl 0), (0, .inl 0, .inl 0), (0, .inl 1, .inl 0), (0, .inl 2, .inl 0)], ([], []), [], [], [(244, 8, 8), (244, 10, 10), (244, 13, 13), (245, 38, 38)], [(.inl (some (0, .inr 0, .inl 0)), 0, 0, ([(0, 1)], []), [], [])])
set_option maxRecDepth 100000 in
noncomputable def sz_u879 : List sy_Cut := []
set_option maxRecDepth 100000 in
noncomputable def sz_h879_0 : List sy_Hn := [(5, 20, 0, 0, 0, 0, [], [], []),
  (0, 31, 0, 0, 0, 0, [], [], []),
  (0, 31, 0, 0, 0, 0, [], [], [])]
set_option maxRecDepth 100000 in
theorem sz_s879_0 : sy_seg sz_E sz_T sz_RU [sz_c866] sz_c879 sz_u879 ri_m_X11_readGain 48 none sz_h879_0 = true := by decide +kernel
theorem sz_ok879 (xs : Nat → Value) (L : Nat) : sy_Cok (sz_env xs L) sz_T sz_RU sz_c879 := sy_chk_ok (CT := [sz_c866]) (CU := sz_u879) (M := ri_m_X11_readGain) (List.forall_mem_cons.mpr ⟨sz_ok866 xs L, fun _ h => absurd h List.not_mem_nil⟩) rfl ⟨_, _, sz_s879_0⟩ (fun _ h => absurd h List.not_mem_nil)

/-! X11_readGain [244, 1000054, 0, 1, 3] -/
set_option maxRecDepth 100000 in
noncomputable def sz_c880 : sy_Ct := (271, 7, 152, [(3, .inr 244, .inl 0), (3, .inr 1000054, .inl 0), (0, .inl 0, .inl 0), (0, .inl 1, .inl 0), (0, .inl 3, .inl 0)], ([], []), [], [], [(244, 8, 8), (244, 10, 10), (244, 13, 13), (245, 39, 39)], [(.inl (some (0, .inr 0, .inl 0)), 0, 0, ([(0, 1)], []), [], [])])
set_option maxRecDepth 100000 in
noncomputable def sz_u880 : List sy_Cut := []
set_option maxRecDepth 100000 in
noncomputable def sz_h880_0 : List sy_Hn := [(5, 20, 0, 0, 0, 0, [], [], []),
  (0, 31, 0, 0, 0, 0, [], [], []),
  (0, 31, 0, 0, 0, 0, [], [], [])]
set_option maxRecDepth 100000 in
theorem sz_s880_0 : sy_seg sz_E sz_T sz_RU [sz_c870] sz_c880 sz_u880 ri_m_X11_readGain 48 none sz_h880_0 = true := by decide +kernel
theorem sz_ok880 (xs : Nat → Value) (L : Nat) : sy_Cok (sz_env xs L) sz_T sz_RU sz_c880 := sy_chk_ok (CT := [sz_c870]) (CU := sz_u880) (M := ri_m_X11_readGain) (List.forall_mem_cons.mpr ⟨sz_ok870 xs L, fun _ h => absurd h List.not_mem_nil⟩) rfl ⟨_, _, sz_s880_0⟩ (fun _ h => absurd h List.not_mem_nil)

/-! X11_readGain [244, 1000052, 0, 2, 1] -/
set_option maxRecDepth 100000 in
noncomputable def sz_c881 : sy_Ct := (271, 7, 152, [(3, .inr 244, .inl 0), (3, .inr 1000052, .inl 0), (0, .inl 0, .inl 0), (0, .inl 2, .inl 0), (0, .inl 1, .inl 0)], ([], []), [], [], [(244, 8, 8), (244, 10, 10), (244, 13, 13), (245, 41, 41)], [(.inl (some (0, .inr 0, .inl 0)), 0, 0, ([(0, 1)], []), [], [])])
set_option maxRecDepth 100000 in
noncomputable def sz_u881 : List sy_Cut := []
set_option maxRecDepth 100000 in
noncomputable def sz_h881_0 : List sy_Hn := [(5, 20, 0, 0, 0, 0, [], [], []),
  (0, 31, 0, 0, 0, 0, [], [], []),
  (0, 31, 0, 0, 0, 0, [], [], [])]
set_option maxRecDepth 100000 in
theorem sz_s881_0 : sy_seg sz_E sz_T sz_RU [sz_c862] sz_c881 sz_u881 ri_m_X11_readGain 48 none sz_h881_0 = true := by decide +kernel
theorem sz_ok881 (xs : Nat → Value) (L : Nat) : sy_Cok (sz_env xs L) sz_T sz_RU sz_c881 := sy_chk_ok (CT := [sz_c862]) (CU := sz_u881) (M := ri_m_X11_readGain) (List.forall_mem_cons.mpr ⟨sz_ok862 xs L, fun _ h => absurd h List.not_mem_nil⟩) rfl ⟨_, _, sz_s881_0⟩ (fun _ h => absurd h List.not_mem_nil)

/-! X11_readGain [244, 1000053, 0, 2, 2] -/
set_option maxRecDepth 100000 in
noncomputable def sz_c882 : sy_Ct := (271, 7, 152, [(3, .inr 244, .inl 0), (3, .inr 1000053, .inl 0), (0, .inl 0, .inl 0), (0, .inl 2, .inl 0), (0, .inl 2, .inl 0)], ([], []), [], [], [(244, 8, 8), (244, 10, 10), (244, 13, 13), (245, 42, 42)], [(.inl (some (0, .inr 0, .inl 0)), 0, 0, ([(0, 1)], []), [], [])])
set_option maxRecDepth 100000 in
noncomputable def sz_u882 : List sy_Cut := []
set_option maxRecDepth 100000 in
noncomputable def sz_h882_0 : List sy_Hn := [(5, 20, 0, 0, 0, 0, [], [], []),
  (0, 31, 0, 0, 0, 0, [], [], []),
  (0, 31, 0, 0, 0, 0, [], [], [])]
set_option maxRecDepth 100000 in
theorem sz_s882_0 : sy_seg sz_E sz_T sz_RU [sz_c866] sz_c882 sz_u882 ri_m_X11_readGain 48 none sz_h882_0 = true := by decide +kernel
theorem sz_ok882 (xs : Nat → Value) (L : Nat) : sy_Cok (sz_env xs L) sz_T sz_RU sz_c882 := sy_chk_ok (CT := [sz_c866]) (CU := sz_u882) (M := ri_m_X11_readGain) (List.forall_mem_cons.mpr ⟨sz_ok866 xs L, fun _ h => absurd h List.not_mem_nil⟩) rfl ⟨_, _, sz_s882_0⟩ (fun _ h => absurd h List.not_mem_nil)

/-! X11_readGain [244, 1000054, 0, 2, 3] -/
set_option maxRecDepth 100000 in
noncomputable def sz_c883 : sy_Ct := (271, 7, 152, [(3, .inr 244, .inl 0), (3, .inr 1000054, .inl 0), (0, .inl 0, .inl 0), (0, .inl 2, .inl 0), (0, .inl 3, .inl 0)], ([], []), [], [], [(244, 8, 8), (244, 10, 10), (244, 13, 13), (245, 43, 43)], [(.inl (some (0, .inr 0, .inl 0)), 0, 0, ([(0, 1)], []), [], [])])
set_option maxRecDepth 100000 in
noncomputable def sz_u883 : List sy_Cut := []
set_option maxRecDepth 100000 in
noncomputable def sz_h883_0 : List sy_Hn := [(5, 20, 0, 0, 0, 0, [], [], []),
  (0, 31, 0, 0, 0, 0, [], [], []),
  (0, 31, 0, 0, 0, 0, [], [], [])]
set_option maxRecDepth 100000 in
theorem sz_s883_0 : sy_seg sz_E sz_T sz_RU [sz_c870] sz_c883 sz_u883 ri_m_X11_readGain 48 none sz_h883_0 = true := by decide +kernel
theorem sz_ok883 (xs : Nat → Value) (L : Nat) : sy_Cok (sz_env xs L) sz_T sz_RU sz_c883 := sy_chk_ok (CT := [sz_c870]) (CU := sz_u883) (M := ri_m_X11_readGain) (List.forall_mem_cons.mpr ⟨sz_ok870 xs L, fun _ h => absurd h List.not_mem_nil⟩) rfl ⟨_, _, sz_s883_0⟩ (fun _ h => absurd h List.not_mem_nil)

/-! X11_figures [244, -1, 0, 9999] -/
set_option maxRecDepth 100000 in
noncomputable def sz_c884 : sy_Ct := (302, 1, 22, [(3, .inr 244, .inl 0), (0, .inl (-1), .inl 0), (0, .inr 0, .inl 0), (0, .inl 9999, .inl 0)], ([((-2147483648), 2147483647)], []), [], [], [(244, 8, 8), (244, 13, 13)], [(.inl (some (0, .inl 0, .inl 0)), 0, 0, ([((-2147483648), 2147483647)], []), [], []), (.inl (some (0, .inl 1, .inl 0)), 0, 0, ([((-2147483648), 9999), ((-2147483648), 2147483647)], [[(9999, []), ((-1), [1])], [(1, [1]), ((-1), [0])]]), [((244, 13), (0, .inr 1, .inl 0))], [])])
set_option maxRecDepth 100000 in
noncomputable def sz_u884 : List sy_Cut := [(5, [(0, (3, .inr 244, .inl 0)), (1, (0, .inl (-1), .inl 0)), (2, (0, .inr 0, .inl 0)), (3, (0, .inl 9999, .inl 0)), (4, (0, .inr 1, .inl 0)), (5, (0, .inr 2, .inl 0))], ([(0, 400), (0, 400), ((-2147483648), 2147483647), (0, 400), ((-2147483648), 2147483647)], []), [((244, 8), (0, .inr 3, .inl 0)), ((244, 9), (0, .inr 4, .inl 0))], [], [(400, []), ((-1), [3])])]
set_option maxRecDepth 100000 in
noncomputable def sz_h884_0 : List sy_Hn := [(5, 4, 244, 9, 0, 0, [], [], []),
  (0, 30, 0, 0, 0, 0, [([1], [(1, [0]), (1, [2])]), ([], [])], [], [])]
set_option maxRecDepth 100000 in
theorem sz_s884_0 : sy_seg sz_E sz_T sz_RU [] sz_c884 sz_u884 ri_m_X11_figures 13 none sz_h884_0 = true := by decide +kernel
set_option maxRecDepth 100000 in
noncomputable def sz_h884_1 : List sy_Hn := [(0, 31, 0, 0, 0, 0, [], [], []),
  (0, 31, 0, 0, 0, 0, [], [], []),
  (0, 31, 0, 0, 0, 0, [], [], []),
  (0, 31, 0, 0, 0, 0, [], [], []),
  (0, 31, 1, 0, 0, 0, [([5], [(1, [0]), (1, [2])]), ([], [(1, [0]), (1, [1])])], [], []),
  (0, 31, 0, 0, 0, 0, [], [], []),
  (0, 31, 0, 0, 0, 0, [], [], []),
  (0, 31, 0, 0, 0, 0, [], [], []),
  (0, 31, 0, 0, 0, 0, [], [], []),
  (0, 31, 1, 0, 0, 0, [([6], [(1, [0]), (1, [2])]), ([], [(1, [0]), (1, [1])])], [], []),
  (0, 31, 0, 0, 0, 0, [], [], []),
  (0, 31, 0, 0, 0, 0, [], [], []),
  (0, 31, 0, 0, 0, 0, [], [], []),
  (0, 31, 0, 0, 0, 0, [], [], []),
  (0, 31, 1, 0, 0, 0, [([7], [(1, [0]), (1, [2])]), ([], [(1, [0]), (1, [1])])], [], []),
  (0, 30, 0, 0, 0, 0, [([8], [(1, [0]), (1, [2])]), ([], [(1, [0]), (1, [1])])], [], []),
  (0, 30, 0, 0, 0, 0, [([12], [(1, [0]), (1, [2])]), ([], [(1, [0]), (1, [1])])], [], [])]
set_option maxRecDepth 100000 in
theorem sz_s884_1 : sy_seg sz_E sz_T sz_RU [] sz_c884 sz_u884 ri_m_X11_figures 275 (some ((5, [(0, (3, .inr 244, .inl 0)), (1, (0, .inl (-1), .inl 0)), (2, (0, .inr 0, .inl 0)), (3, (0, .inl 9999, .inl 0)), (4, (0, .inr 1, .inl 0)), (5, (0, .inr 2, .inl 0))], ([(0, 400), (0, 400), ((-2147483648), 2147483647), (0, 400), ((-2147483648), 2147483647)], []), [((244, 8), (0, .inr 3, .inl 0)), ((244, 9), (0, .inr 4, .inl 0))], [], [(400, []), ((-1), [3])]))) sz_h884_1 = true := by decide +kernel
theorem sz_ok884 (xs : Nat → Value) (L : Nat) : sy_Cok (sz_env xs L) sz_T sz_RU sz_c884 := sy_chk_ok (CT := []) (CU := sz_u884) (M := ri_m_X11_figures) (fun _ h => absurd h List.not_mem_nil) rfl ⟨_, _, sz_s884_0⟩ (List.forall_mem_cons.mpr ⟨⟨_, _, sz_s884_1⟩, fun _ h => absurd h List.not_mem_nil⟩)

/-! X11_signed [244, 0, 9999] -/
set_option maxRecDepth 100000 in
noncomputable def sz_c885 : sy_Ct := (267, 2, 47, [(3, .inr 244, .inl 0), (0, .inr 0, .inl 0), (0, .inl 9999, .inl 0)], ([((-2147483648), 2147483647)], []), [], [], [(244, 8, 8), (244, 10, 10), (244, 13, 13)], [(.inl (some (0, .inl 0, .inl 0)), 0, 0, ([((-2147483648), 2147483647)], []), [], []), (.inl (some (0, .inl 1, .inl 0)), 0, 0, ([((-2147483648), 9999), ((-2147483648), 2147483647)], [[(9999, []), ((-1), [1])], [(1, [1]), ((-1), [0])]]), [((244, 13), (0, .inr 1, .inl 0))], [])])
set_option maxRecDepth 100000 in
noncomputable def sz_u885 : List sy_Cut := []
set_option maxRecDepth 100000 in
noncomputable def sz_h885_0 : List sy_Hn := [(2, 20, 0, 0, 0, 0, [], [], []),
  (29, 20, 1, 0, 0, 0, [], [], []),
  (0, 31, 0, 0, 0, 0, [], [], []),
  (0, 31, 1, 0, 0, 0, [([4], [(1, [0]), (1, [2])]), ([], [(1, [0]), (1, [1])])], [], []),
  (27, 20, 1, 0, 0, 0, [], [], []),
  (0, 31, 0, 0, 0, 0, [], [], []),
  (0, 31, 1, 0, 0, 0, [([5], [(1, [0]), (1, [2])]), ([], [(1, [0]), (1, [1])])], [], []),
  (27, 20, 1, 0, 0, 0, [], [], []),
  (0, 31, 0, 0, 0, 0, [], [], []),
  (0, 31, 1, 0, 0, 0, [([6], [(1, [0]), (1, [2])]), ([], [(1, [0]), (1, [1])])], [], []),
  (39, 20, 2, 0, 0, 0, [], [], []),
  (0, 31, 0, 0, 0, 0, [], [], []),
  (0, 31, 1, 0, 0, 0, [([6], [(1, [0]), (1, [2])]), ([], [(1, [0]), (1, [1])])], [], []),
  (22, 20, 2, 0, 0, 0, [], [], []),
  (0, 31, 0, 0, 0, 0, [], [], []),
  (0, 31, 1, 0, 0, 0, [([7], [(1, [0]), (1, [2])]), ([], [(1, [0]), (1, [1])])], [], []),
  (22, 20, 2, 0, 0, 0, [], [], []),
  (0, 31, 0, 0, 0, 0, [], [], []),
  (0, 31, 1, 0, 0, 0, [([8], [(1, [0]), (1, [2])]), ([], [(1, [0]), (1, [1])])], [], []),
  (12, 20, 2, 0, 0, 0, [], [], []),
  (0, 31, 0, 0, 0, 0, [], [], []),
  (0, 31, 1, 0, 0, 0, [([8], [(1, [0]), (1, [2])]), ([], [(1, [0]), (1, [1])])], [], [])]
set_option maxRecDepth 100000 in
theorem sz_s885_0 : sy_seg sz_E sz_T sz_RU [sz_c262, sz_c752, sz_c884] sz_c885 sz_u885 ri_m_X11_signed 221 none sz_h885_0 = true := by decide +kernel
theorem sz_ok885 (xs : Nat → Value) (L : Nat) : sy_Cok (sz_env xs L) sz_T sz_RU sz_c885 := sy_chk_ok (CT := [sz_c262, sz_c752, sz_c884]) (CU := sz_u885) (M := ri_m_X11_signed) (List.forall_mem_cons.mpr ⟨sz_ok262 xs L, List.forall_mem_cons.mpr ⟨sz_ok752 xs L, List.forall_mem_cons.mpr ⟨sz_ok884 xs L, fun _ h => absurd h List.not_mem_nil⟩⟩⟩) rfl ⟨_, _, sz_s885_0⟩ (fun _ h => absurd h List.not_mem_nil)

/-! X11_readGain [244, 1000052, 1, 0, 1] -/
set_option maxRecDepth 100000 in
noncomputable def sz_c886 : sy_Ct := (271, 7, 152, [(3, .inr 244, .inl 0), (3, .inr 1000052, .inl 0), (0, .inl 1, .inl 0), (0, .inl 0, .inl 0), (0, .inl 1, .inl 0)], ([], []), [], [], [(244, 8, 8), (244, 10, 10), (244, 13, 13), (245, 110, 110)], [(.inl (some (0, .inr 0, .inl 0)), 0, 0, ([(0, 1)], []), [], [])])
set_option maxRecDepth 100000 in
noncomputable def sz_u886 : List sy_Cut := []
set_option maxRecDepth 100000 in
noncomputable def sz_h886_0 : List sy_Hn := [(5, 20, 0, 0, 0, 0, [], [], []),
  (0, 31, 0, 0, 0, 0, [], [], []),
  (0, 31, 0, 0, 0, 0, [], [], [])]
set_option maxRecDepth 100000 in
theorem sz_s886_0 : sy_seg sz_E sz_T sz_RU [sz_c862] sz_c886 sz_u886 ri_m_X11_readGain 48 none sz_h886_0 = true := by decide +kernel
theorem sz_ok886 (xs : Nat → Value) (L : Nat) : sy_Cok (sz_env xs L) sz_T sz_RU sz_c886 := sy_chk_ok (CT := [sz_c862]) (CU := sz_u886) (M := ri_m_X11_readGain) (List.forall_mem_cons.mpr ⟨sz_ok862 xs L, fun _ h => absurd h List.not_mem_nil⟩) rfl ⟨_, _, sz_s886_0⟩ (fun _ h => absurd h List.not_mem_nil)

/-! X11_readGain [244, 1000053, 1, 0, 2] -/
set_option maxRecDepth 100000 in
noncomputable def sz_c887 : sy_Ct := (271, 7, 152, [(3, .inr 244, .inl 0), (3, .inr 1000053, .inl 0), (0, .inl 1, .inl 0), (0, .inl 0, .inl 0), (0, .inl 2, .inl 0)], ([], []), [], [], [(244, 8, 8), (244, 10, 10), (244, 13, 13), (245, 111, 111)], [(.inl (some (0, .inr 0, .inl 0)), 0, 0, ([(0, 1)], []), [], [])])
set_option maxRecDepth 100000 in
noncomputable def sz_u887 : List sy_Cut := []
set_option maxRecDepth 100000 in
noncomputable def sz_h887_0 : List sy_Hn := [(5, 20, 0, 0, 0, 0, [], [], []),
  (0, 31, 0, 0, 0, 0, [], [], []),
  (0, 31, 0, 0, 0, 0, [], [], [])]
set_option maxRecDepth 100000 in
theorem sz_s887_0 : sy_seg sz_E sz_T sz_RU [sz_c866] sz_c887 sz_u887 ri_m_X11_readGain 48 none sz_h887_0 = true := by decide +kernel
theorem sz_ok887 (xs : Nat → Value) (L : Nat) : sy_Cok (sz_env xs L) sz_T sz_RU sz_c887 := sy_chk_ok (CT := [sz_c866]) (CU := sz_u887) (M := ri_m_X11_readGain) (List.forall_mem_cons.mpr ⟨sz_ok866 xs L, fun _ h => absurd h List.not_mem_nil⟩) rfl ⟨_, _, sz_s887_0⟩ (fun _ h => absurd h List.not_mem_nil)

/-! X11_readGain [244, 1000054, 1, 0, 3] -/
set_option maxRecDepth 100000 in
noncomputable def sz_c888 : sy_Ct := (271, 7, 152, [(3, .inr 244, .inl 0), (3, .inr 1000054, .inl 0), (0, .inl 1, .inl 0), (0, .inl 0, .inl 0), (0, .inl 3, .inl 0)], ([], []), [], [], [(244, 8, 8), (244, 10, 10), (244, 13, 13), (245, 112, 112)], [(.inl (some (0, .inr 0, .inl 0)), 0, 0, ([(0, 1)], []), [], [])])
set_option maxRecDepth 100000 in
noncomputable def sz_u888 : List sy_Cut := []
set_option maxRecDepth 100000 in
noncomputable def sz_h888_0 : List sy_Hn := [(5, 20, 0, 0, 0, 0, [], [], []),
  (0, 31, 0, 0, 0, 0, [], [], []),
  (0, 31, 0, 0, 0, 0, [], [], [])]
set_option maxRecDepth 100000 in
theorem sz_s888_0 : sy_seg sz_E sz_T sz_RU [sz_c870] sz_c888 sz_u888 ri_m_X11_readGain 48 none sz_h888_0 = true := by decide +kernel
theorem sz_ok888 (xs : Nat → Value) (L : Nat) : sy_Cok (sz_env xs L) sz_T sz_RU sz_c888 := sy_chk_ok (CT := [sz_c870]) (CU := sz_u888) (M := ri_m_X11_readGain) (List.forall_mem_cons.mpr ⟨sz_ok870 xs L, fun _ h => absurd h List.not_mem_nil⟩) rfl ⟨_, _, sz_s888_0⟩ (fun _ h => absurd h List.not_mem_nil)

/-! X11_readGain [244, 1000052, 1, 1, 1] -/
set_option maxRecDepth 100000 in
noncomputable def sz_c889 : sy_Ct := (271, 7, 152, [(3, .inr 244, .inl 0), (3, .inr 1000052, .inl 0), (0, .inl 1, .inl 0), (0, .inl 1, .inl 0), (0, .inl 1, .inl 0)], ([], []), [], [], [(244, 8, 8), (244, 10, 10), (244, 13, 13), (245, 114, 114)], [(.inl (some (0, .inr 0, .inl 0)), 0, 0, ([(0, 1)], []), [], [])])
set_option maxRecDepth 100000 in
noncomputable def sz_u889 : List sy_Cut := []
set_option maxRecDepth 100000 in
noncomputable def sz_h889_0 : List sy_Hn := [(5, 20, 0, 0, 0, 0, [], [], []),
  (0, 31, 0, 0, 0, 0, [], [], []),
  (0, 31, 0, 0, 0, 0, [], [], [])]
set_option maxRecDepth 100000 in
theorem sz_s889_0 : sy_seg sz_E sz_T sz_RU [sz_c862] sz_c889 sz_u889 ri_m_X11_readGain 48 none sz_h889_0 = true := by decide +kernel
theorem sz_ok889 (xs : Nat → Value) (L : Nat) : sy_Cok (sz_env xs L) sz_T sz_RU sz_c889 := sy_chk_ok (CT := [sz_c862]) (CU := sz_u889) (M := ri_m_X11_readGain) (List.forall_mem_cons.mpr ⟨sz_ok862 xs L, fun _ h => absurd h List.not_mem_nil⟩) rfl ⟨_, _, sz_s889_0⟩ (fun _ h => absurd h List.not_mem_nil)

/-! X11_readGain [244, 1000053, 1, 1, 2] -/
set_option maxRecDepth 100000 in
noncomputable def sz_c890 : sy_Ct := (271, 7, 152, [(3, .inr 244, .inl 0), (3, .inr 1000053, .inl 0), (0, .inl 1, .inl 0), (0, .inl 1, .inl 0), (0, .inl 2, .inl 0)], ([], []), [], [], [(244, 8, 8), (244, 10, 10), (244, 13, 13), (245, 115, 115)], [(.inl (some (0, .inr 0, .inl 0)), 0, 0, ([(0, 1)], []), [], [])])
set_option maxRecDepth 100000 in
noncomputable def sz_u890 : List sy_Cut := []
set_option maxRecDepth 100000 in
noncomputable def sz_h890_0 : List sy_Hn := [(5, 20, 0, 0, 0, 0, [], [], []),
  (0, 31, 0, 0, 0, 0, [], [], []),
  (0, 31, 0, 0, 0, 0, [], [], [])]
set_option maxRecDepth 100000 in
theorem sz_s890_0 : sy_seg sz_E sz_T sz_RU [sz_c866] sz_c890 sz_u890 ri_m_X11_readGain 48 none sz_h890_0 = true := by decide +kernel
theorem sz_ok890 (xs : Nat → Value) (L : Nat) : sy_Cok (sz_env xs L) sz_T sz_RU sz_c890 := sy_chk_ok (CT := [sz_c866]) (CU := sz_u890) (M := ri_m_X11_readGain) (List.forall_mem_cons.mpr ⟨sz_ok866 xs L, fun _ h => absurd h List.not_mem_nil⟩) rfl ⟨_, _, sz_s890_0⟩ (fun _ h => absurd h List.not_mem_nil)

/-! X11_readGain [244, 1000054, 1, 1, 3] -/
set_option maxRecDepth 100000 in
noncomputable def sz_c891 : sy_Ct := (271, 7, 152, [(3, .inr 244, .inl 0), (3, .inr 1000054, .inl 0), (0, .inl 1, .inl 0), (0, .inl 1, .inl 0), (0, .inl 3, .inl 0)], ([], []), [], [], [(244, 8, 8), (244, 10, 10), (244, 13, 13), (245, 116, 116)], [(.inl (some (0, .inr 0, .inl 0)), 0, 0, ([(0, 1)], []), [], [])])
set_option maxRecDepth 100000 in
noncomputable def sz_u891 : List sy_Cut := []
set_option maxRecDepth 100000 in
noncomputable def sz_h891_0 : List sy_Hn := [(5, 20, 0, 0, 0, 0, [], [], []),
  (0, 31, 0, 0, 0, 0, [], [], []),
  (0, 31, 0, 0, 0, 0, [], [], [])]
set_option maxRecDepth 100000 in
theorem sz_s891_0 : sy_seg sz_E sz_T sz_RU [sz_c870] sz_c891 sz_u891 ri_m_X11_readGain 48 none sz_h891_0 = true := by decide +kernel
theorem sz_ok891 (xs : Nat → Value) (L : Nat) : sy_Cok (sz_env xs L) sz_T sz_RU sz_c891 := sy_chk_ok (CT := [sz_c870]) (CU := sz_u891) (M := ri_m_X11_readGain) (List.forall_mem_cons.mpr ⟨sz_ok870 xs L, fun _ h => absurd h List.not_mem_nil⟩) rfl ⟨_, _, sz_s891_0⟩ (fun _ h => absurd h List.not_mem_nil)

/-! X11_readGain [244, 1000052, 1, 2, 1] -/
set_option maxRecDepth 100000 in
noncomputable def sz_c892 : sy_Ct := (271, 7, 152, [(3, .inr 244, .inl 0), (3, .inr 1000052, .inl 0), (0, .inl 1, .inl 0), (0, .inl 2, .inl 0), (0, .inl 1, .inl 0)], ([], []), [], [], [(244, 8, 8), (244, 10, 10), (244, 13, 13), (245, 118, 118)], [(.inl (some (0, .inr 0, .inl 0)), 0, 0, ([(0, 1)], []), [], [])])
set_option maxRecDepth 100000 in
noncomputable def sz_u892 : List sy_Cut := []
set_option maxRecDepth 100000 in
noncomputable def sz_h892_0 : List sy_Hn := [(5, 20, 0, 0, 0, 0, [], [], []),
  (0, 31, 0, 0, 0, 0, [], [], []),
  (0, 31, 0, 0, 0, 0, [], [], [])]
set_option maxRecDepth 100000 in
theorem sz_s892_0 : sy_seg sz_E sz_T sz_RU [sz_c862] sz_c892 sz_u892 ri_m_X11_readGain 48 none sz_h892_0 = true := by decide +kernel
theorem sz_ok892 (xs : Nat → Value) (L : Nat) : sy_Cok (sz_env xs L) sz_T sz_RU sz_c892 := sy_chk_ok (CT := [sz_c862]) (CU := sz_u892) (M := ri_m_X11_readGain) (List.forall_mem_cons.mpr ⟨sz_ok862 xs L, fun _ h => absurd h List.not_mem_nil⟩) rfl ⟨_, _, sz_s892_0⟩ (fun _ h => absurd h List.not_mem_nil)

/-! X11_readGain [244, 1000053, 1, 2, 2] -/
set_option maxRecDepth 100000 in
noncomputable def sz_c893 : sy_Ct := (271, 7, 152, [(3, .inr 244, .inl 0), (3, .inr 1000053, .inl 0), (0, .inl 1, .inl 0), (0, .inl 2, .inl 0), (0, .inl 2, .inl 0)], ([], []), [], [], [(244, 8, 8), (244, 10, 10), (244, 13, 13), (245, 119, 119)], [(.inl (some (0, .inr 0, .inl 0)), 0, 0, ([(0, 1)], []), [], [])])
set_option maxRecDepth 100000 in
noncomputable def sz_u893 : List sy_Cut := []
set_option maxRecDepth 100000 in
noncomputable def sz_h893_0 : List sy_Hn := [(5, 20, 0, 0, 0, 0, [], [], []),
  (0, 31, 0, 0, 0, 0, [], [], []),
  (0, 31, 0, 0, 0, 0, [], [], [])]
set_option maxRecDepth 100000 in
theorem sz_s893_0 : sy_seg sz_E sz_T sz_RU [sz_c866] sz_c893 sz_u893 ri_m_X11_readGain 48 none sz_h893_0 = true := by decide +kernel
theorem sz_ok893 (xs : Nat → Value) (L : Nat) : sy_Cok (sz_env xs L) sz_T sz_RU sz_c893 := sy_chk_ok (CT := [sz_c866]) (CU := sz_u893) (M := ri_m_X11_readGain) (List.forall_mem_cons.mpr ⟨sz_ok866 xs L, fun _ h => absurd h List.not_mem_nil⟩) rfl ⟨_, _, sz_s893_0⟩ (fun _ h => absurd h List.not_mem_nil)

/-! X11_readGain [244, 1000054, 1, 2, 3] -/
set_option maxRecDepth 100000 in
noncomputable def sz_c894 : sy_Ct := (271, 7, 152, [(3, .inr 244, .inl 0), (3, .inr 1000054, .inl 0), (0, .inl 1, .inl 0), (0, .inl 2, .inl 0), (0, .inl 3, .inl 0)], ([], []), [], [], [(244, 8, 8), (244, 10, 10), (244, 13, 13), (245, 120, 120)], [(.inl (some (0, .inr 0, .inl 0)), 0, 0, ([(0, 1)], []), [], [])])
set_option maxRecDepth 100000 in
noncomputable def sz_u894 : List sy_Cut := []
set_option maxRecDepth 100000 in
noncomputable def sz_h894_0 : List sy_Hn := [(5, 20, 0, 0, 0, 0, [], [], []),
  (0, 31, 0, 0, 0, 0, [], [], []),
  (0, 31, 0, 0, 0, 0, [], [], [])]
set_option maxRecDepth 100000 in
theorem sz_s894_0 : sy_seg sz_E sz_T sz_RU [sz_c870] sz_c894 sz_u894 ri_m_X11_readGain 48 none sz_h894_0 = true := by decide +kernel
theorem sz_ok894 (xs : Nat → Value) (L : Nat) : sy_Cok (sz_env xs L) sz_T sz_RU sz_c894 := sy_chk_ok (CT := [sz_c870]) (CU := sz_u894) (M := ri_m_X11_readGain) (List.forall_mem_cons.mpr ⟨sz_ok870 xs L, fun _ h => absurd h List.not_mem_nil⟩) rfl ⟨_, _, sz_s894_0⟩ (fun _ h => absurd h List.not_mem_nil)

/-! X11_readGain [244, 1000052, 2, 0, 1] -/
set_option maxRecDepth 100000 in
noncomputable def sz_c895 : sy_Ct := (271, 7, 152, [(3, .inr 244, .inl 0), (3, .inr 1000052, .inl 0), (0, .inl 2, .inl 0), (0, .inl 0, .inl 0), (0, .inl 1, .inl 0)], ([], []), [], [], [(244, 8, 8), (244, 10, 10), (244, 13, 13), (245, 187, 187)], [(.inl (some (0, .inr 0, .inl 0)), 0, 0, ([(0, 1)], []), [], [])])
set_option maxRecDepth 100000 in
noncomputable def sz_u895 : List sy_Cut := []
set_option maxRecDepth 100000 in
noncomputable def sz_h895_0 : List sy_Hn := [(5, 20, 0, 0, 0, 0, [], [], []),
  (0, 31, 0, 0, 0, 0, [], [], []),
  (0, 31, 0, 0, 0, 0, [], [], [])]
set_option maxRecDepth 100000 in
theorem sz_s895_0 : sy_seg sz_E sz_T sz_RU [sz_c862] sz_c895 sz_u895 ri_m_X11_readGain 48 none sz_h895_0 = true := by decide +kernel
theorem sz_ok895 (xs : Nat → Value) (L : Nat) : sy_Cok (sz_env xs L) sz_T sz_RU sz_c895 := sy_chk_ok (CT := [sz_c862]) (CU := sz_u895) (M := ri_m_X11_readGain) (List.forall_mem_cons.mpr ⟨sz_ok862 xs L, fun _ h => absurd h List.not_mem_nil⟩) rfl ⟨_, _, sz_s895_0⟩ (fun _ h => absurd h List.not_mem_nil)

/-! X11_readGain [244, 1000053, 2, 0, 2] -/
set_option maxRecDepth 100000 in
noncomputable def sz_c896 : sy_Ct := (271, 7, 152, [(3, .inr 244, .inl 0), (3, .inr 1000053, .inl 0), (0, .inl 2, .inl 0), (0, .inl 0, .inl 0), (0, .inl 2, .inl 0)], ([], []), [], [], [(244, 8, 8), (244, 10, 10), (244, 13, 13), (245, 188, 188)], [(.inl (some (0, .inr 0, .inl 0)), 0, 0, ([(0, 1)], []), [], [])])
set_option maxRecDepth 100000 in
noncomputable def sz_u896 : List sy_Cut := []
set_option maxRecDepth 100000 in
noncomputable def sz_h896_0 : List sy_Hn := [(5, 20, 0, 0, 0, 0, [], [], []),
  (0, 31, 0, 0, 0, 0, [], [], []),
  (0, 31, 0, 0, 0, 0, [], [], [])]
set_option maxRecDepth 100000 in
theorem sz_s896_0 : sy_seg sz_E sz_T sz_RU [sz_c866] sz_c896 sz_u896 ri_m_X11_readGain 48 none sz_h896_0 = true := by decide +kernel
theorem sz_ok896 (xs : Nat → Value) (L : Nat) : sy_Cok (sz_env xs L) sz_T sz_RU sz_c896 := sy_chk_ok (CT := [sz_c866]) (CU := sz_u896) (M := ri_m_X11_readGain) (List.forall_mem_cons.mpr ⟨sz_ok866 xs L, fun _ h => absurd h List.not_mem_nil⟩) rfl ⟨_, _, sz_s896_0⟩ (fun _ h => absurd h List.not_mem_nil)

/-! X11_readGain [244, 1000054, 2, 0, 3] -/
set_option maxRecDepth 100000 in
noncomputable def sz_c897 : sy_Ct := (271, 7, 152, [(3, .inr 244, .inl 0), (3, .inr 1000054, .inl 0), (0, .inl 2, .inl 0), (0, .inl 0, .inl 0), (0, .inl 3, .inl 0)], ([], []), [], [], [(244, 8, 8), (244, 10, 10), (244, 13, 13), (245, 189, 189)], [(.inl (some (0, .inr 0, .inl 0)), 0, 0, ([(0, 1)], []), [], [])])
set_option maxRecDepth 100000 in
noncomputable def sz_u897 : List sy_Cut := []
set_option maxRecDepth 100000 in
noncomputable def sz_h897_0 : List sy_Hn := [(5, 20, 0, 0, 0, 0, [], [], []),
  (0, 31, 0, 0, 0, 0, [], [], []),
  (0, 31, 0, 0, 0, 0, [], [], [])]
set_option maxRecDepth 100000 in
theorem sz_s897_0 : sy_seg sz_E sz_T sz_RU [sz_c870] sz_c897 sz_u897 ri_m_X11_readGain 48 none sz_h897_0 = true := by decide +kernel
theorem sz_ok897 (xs : Nat → Value) (L : Nat) : sy_Cok (sz_env xs L) sz_T sz_RU sz_c897 := sy_chk_ok (CT := [sz_c870]) (CU := sz_u897) (M := ri_m_X11_readGain) (List.forall_mem_cons.mpr ⟨sz_ok870 xs L, fun _ h => absurd h List.not_mem_nil⟩) rfl ⟨_, _, sz_s897_0⟩ (fun _ h => absurd h List.not_mem_nil)

/-! X11_readGain [244, 1000052, 2, 1, 1] -/
set_option maxRecDepth 100000 in
noncomputable def sz_c898 : sy_Ct := (271, 7, 152, [(3, .inr 244, .inl 0), (3, .inr 1000052, .inl 0), (0, .inl 2, .inl 0), (0, .inl 1, .inl 0), (0, .inl 1, .inl 0)], ([], []), [], [], [(244, 8, 8), (244, 10, 10), (244, 13, 13), (245, 191, 191)], [(.inl (some (0, .inr 0, .inl 0)), 0, 0, ([(0, 1)], []), [], [])])
set_option maxRecDepth 100000 in
noncomputable def sz_u898 : List sy_Cut := []
set_option maxRecDepth 100000 in
noncomputable def sz_h898_0 : List sy_Hn := [(5, 20, 0, 0, 0, 0, [], [], []),
  (0, 31, 0, 0, 0, 0, [], [], []),
  (0, 31, 0, 0, 0, 0, [], [], [])]
set_option maxRecDepth 100000 in
theorem sz_s898_0 : sy_seg sz_E sz_T sz_RU [sz_c862] sz_c898 sz_u898 ri_m_X11_readGain 48 none sz_h898_0 = true := by decide +kernel
theorem sz_ok898 (xs : Nat → Value) (L : Nat) : sy_Cok (sz_env xs L) sz_T sz_RU sz_c898 := sy_chk_ok (CT := [sz_c862]) (CU := sz_u898) (M := ri_m_X11_readGain) (List.forall_mem_cons.mpr ⟨sz_ok862 xs L, fun _ h => absurd h List.not_mem_nil⟩) rfl ⟨_, _, sz_s898_0⟩ (fun _ h => absurd h List.not_mem_nil)

/-! X11_readGain [244, 1000053, 2, 1, 2] -/
set_option maxRecDepth 100000 in
noncomputable def sz_c899 : sy_Ct := (271, 7, 152, [(3, .inr 244, .inl 0), (3, .inr 1000053, .inl 0), (0, .inl 2, .inl 0), (0, .inl 1, .inl 0), (0, .inl 2, .inl 0)], ([], []), [], [], [(244, 8, 8), (244, 10, 10), (244, 13, 13), (245, 192, 192)], [(.inl (some (0, .inr 0, .inl 0)), 0, 0, ([(0, 1)], []), [], [])])
set_option maxRecDepth 100000 in
noncomputable def sz_u899 : List sy_Cut := []
set_option maxRecDepth 100000 in
noncomputable def sz_h899_0 : List sy_Hn := [(5, 20, 0, 0, 0, 0, [], [], []),
  (0, 31, 0, 0, 0, 0, [], [], []),
  (0, 31, 0, 0, 0, 0, [], [], [])]
set_option maxRecDepth 100000 in
theorem sz_s899_0 : sy_seg sz_E sz_T sz_RU [sz_c866] sz_c899 sz_u899 ri_m_X11_readGain 48 none sz_h899_0 = true := by decide +kernel
theorem sz_ok899 (xs : Nat → Value) (L : Nat) : sy_Cok (sz_env xs L) sz_T sz_RU sz_c899 := sy_chk_ok (CT := [sz_c866]) (CU := sz_u899) (M := ri_m_X11_readGain) (List.forall_mem_cons.mpr ⟨sz_ok866 xs L, fun _ h => absurd h List.not_mem_nil⟩) rfl ⟨_, _, sz_s899_0⟩ (fun _ h => absurd h List.not_mem_nil)

/-! X11_readGain [244, 1000054, 2, 1, 3] -/
set_option maxRecDepth 100000 in
noncomputable def sz_c900 : sy_Ct := (271, 7, 152, [(3, .inr 244, .inl 0), (3, .inr 1000054, .inl 0), (0, .inl 2, .inl 0), (0, .inl 1, .inl 0), (0, .inl 3, .inl 0)], ([], []), [], [], [(244, 8, 8), (244, 10, 10), (244, 13, 13), (245, 193, 193)], [(.inl (some (0, .inr 0, .inl 0)), 0, 0, ([(0, 1)], []), [], [])])
set_option maxRecDepth 100000 in
noncomputable def sz_u900 : List sy_Cut := []
set_option maxRecDepth 100000 in
noncomputable def sz_h900_0 : List sy_Hn := [(5, 20, 0, 0, 0, 0, [], [], []),
  (0, 31, 0, 0, 0, 0, [], [], []),
  (0, 31, 0, 0, 0, 0, [], [], [])]
set_option maxRecDepth 100000 in
theorem sz_s900_0 : sy_seg sz_E sz_T sz_RU [sz_c870] sz_c900 sz_u900 ri_m_X11_readGain 48 none sz_h900_0 = true := by decide +kernel
theorem sz_ok900 (xs : Nat → Value) (L : Nat) : sy_Cok (sz_env xs L) sz_T sz_RU sz_c900 := sy_chk_ok (CT := [sz_c870]) (CU := sz_u900) (M := ri_m_X11_readGain) (List.forall_mem_cons.mpr ⟨sz_ok870 xs L, fun _ h => absurd h List.not_mem_nil⟩) rfl ⟨_, _, sz_s900_0⟩ (fun _ h => absurd h List.not_mem_nil)

/-! X11_readGain [244, 1000052, 2, 2, 1] -/
set_option maxRecDepth 100000 in
noncomputable def sz_c901 : sy_Ct := (271, 7, 152, [(3, .inr 244, .inl 0), (3, .inr 1000052, .inl 0), (0, .inl 2, .inl 0), (0, .inl 2, .inl 0), (0, .inl 1, .inl 0)], ([], []), [], [], [(244, 8, 8), (244, 10, 10), (244, 13, 13), (245, 195, 195)], [(.inl (some (0, .inr 0, .inl 0)), 0, 0, ([(0, 1)], []), [], [])])
set_option maxRecDepth 100000 in
noncomputable def sz_u901 : List sy_Cut := []
set_option maxRecDepth 100000 in
noncomputable def sz_h901_0 : List sy_Hn := [(5, 20, 0, 0, 0, 0, [], [], []),
  (0, 31, 0, 0, 0, 0, [], [], []),
  (0, 31, 0, 0, 0, 0, [], [], [])]
set_option maxRecDepth 100000 in
theorem sz_s901_0 : sy_seg sz_E sz_T sz_RU [sz_c862] sz_c901 sz_u901 ri_m_X11_readGain 48 none sz_h901_0 = true := by decide +kernel
theorem sz_ok901 (xs : Nat → Value) (L : Nat) : sy_Cok (sz_env xs L) sz_T sz_RU sz_c901 := sy_chk_ok (CT := [sz_c862]) (CU := sz_u901) (M := ri_m_X11_readGain) (List.forall_mem_cons.mpr ⟨sz_ok862 xs L, fun _ h => absurd h List.not_mem_nil⟩) rfl ⟨_, _, sz_s901_0⟩ (fun _ h => absurd h List.not_mem_nil)

/-! X11_readGain [244, 1000053, 2, 2, 2] -/
set_option maxRecDepth 100000 in
noncomputable def sz_c902 : sy_Ct := (271, 7, 152, [(3, .inr 244, .inl 0), (3, .inr 1000053, .inl 0), (0, .inl 2, .inl 0), (0, .inl 2, .inl 0), (0, .inl 2, .inl 0)], ([], []), [], [], [(244, 8, 8), (244, 10, 10), (244, 13, 13), (245, 196, 196)], [(.inl (some (0, .inr 0, .inl 0)), 0, 0, ([(0, 1)], []), [], [])])
set_option maxRecDepth 100000 in
noncomputable def sz_u902 : List sy_Cut := []
set_option maxRecDepth 100000 in
noncomputable def sz_h902_0 : List sy_Hn := [(5, 20, 0, 0, 0, 0, [], [], []),
  (0, 31, 0, 0, 0, 0, [], [], []),
  (0, 31, 0, 0, 0, 0, [], [], [])]
set_option maxRecDepth 100000 in
theorem sz_s902_0 : sy_seg sz_E sz_T sz_RU [sz_c866] sz_c902 sz_u902 ri_m_X11_readGain 48 none sz_h902_0 = true := by decide +kernel
theorem sz_ok902 (xs : Nat → Value) (L : Nat) : sy_Cok (sz_env xs L) sz_T sz_RU sz_c902 := sy_chk_ok (CT := [sz_c866]) (CU := sz_u902) (M := ri_m_X11_readGain) (List.forall_mem_cons.mpr ⟨sz_ok866 xs L, fun _ h => absurd h List.not_mem_nil⟩) rfl ⟨_, _, sz_s902_0⟩ (fun _ h => absurd h List.not_mem_nil)

/-! X11_readGain [244, 1000054, 2, 2, 3] -/
set_option maxRecDepth 100000 in
noncomputable def sz_c903 : sy_Ct := (271, 7, 152, [(3, .inr 244, .inl 0), (3, .inr 1000054, .inl 0), (0, .inl 2, .inl 0), (0, .inl 2, .inl 0), (0, .inl 3, .inl 0)], ([], []), [], [], [(244, 8, 8), (244, 10, 10), (244, 13, 13), (245, 197, 197)], [(.inl (some (0, .inr 0, .inl 0)), 0, 0, ([(0, 1)], []), [], [])])
set_option maxRecDepth 100000 in
noncomputable def sz_u903 : List sy_Cut := []
set_option maxRecDepth 100000 in
noncomputable def sz_h903_0 : List sy_Hn := [(5, 20, 0, 0, 0, 0, [], [], []),
  (0, 31, 0, 0, 0, 0, [], [], []),
  (0, 31, 0, 0, 0, 0, [], [], [])]
set_option maxRecDepth 100000 in
theorem sz_s903_0 : sy_seg sz_E sz_T sz_RU [sz_c870] sz_c903 sz_u903 ri_m_X11_readGain 48 none sz_h903_0 = true := by decide +kernel
theorem sz_ok903 (xs : Nat → Value) (L : Nat) : sy_Cok (sz_env xs L) sz_T sz_RU sz_c903 := sy_chk_ok (CT := [sz_c870]) (CU := sz_u903) (M := ri_m_X11_readGain) (List.forall_mem_cons.mpr ⟨sz_ok870 xs L, fun _ h => absurd h List.not_mem_nil⟩) rfl ⟨_, _, sz_s903_0⟩ (fun _ h => absurd h List.not_mem_nil)

/-! X11_readGain [244, 1000052, 3, 0, 1] -/
set_option maxRecDepth 100000 in
noncomputable def sz_c904 : sy_Ct := (271, 7, 152, [(3, .inr 244, .inl 0), (3, .inr 1000052, .inl 0), (0, .inl 3, .inl 0), (0, .inl 0, .inl 0), (0, .inl 1, .inl 0)], ([], []), [], [], [(244, 8, 8), (244, 10, 10), (244, 13, 13), (245, 264, 264)], [(.inl (some (0, .inr 0, .inl 0)), 0, 0, ([(0, 1)], []), [], [])])
set_option maxRecDepth 100000 in
noncomputable def sz_u904 : List sy_Cut := []
set_option maxRecDepth 100000 in
noncomputable def sz_h904_0 : List sy_Hn := [(5, 20, 0, 0, 0, 0, [], [], []),
  (0, 31, 0, 0, 0, 0, [], [], []),
  (0, 31, 0, 0, 0, 0, [], [], [])]
set_option maxRecDepth 100000 in
theorem sz_s904_0 : sy_seg sz_E sz_T sz_RU [sz_c862] sz_c904 sz_u904 ri_m_X11_readGain 48 none sz_h904_0 = true := by decide +kernel
theorem sz_ok904 (xs : Nat → Value) (L : Nat) : sy_Cok (sz_env xs L) sz_T sz_RU sz_c904 := sy_chk_ok (CT := [sz_c862]) (CU := sz_u904) (M := ri_m_X11_readGain) (List.forall_mem_cons.mpr ⟨sz_ok862 xs L, fun _ h => absurd h List.not_mem_nil⟩) rfl ⟨_, _, sz_s904_0⟩ (fun _ h => absurd h List.not_mem_nil)

/-! X11_readGain [244, 1000053, 3, 0, 2] -/
set_option maxRecDepth 100000 in
noncomputable def sz_c905 : sy_Ct := (271, 7, 152, [(3, .inr 244, .inl 0), (3, .inr 1000053, .inl 0), (0, .inl 3, .inl 0), (0, .inl 0, .inl 0), (0, .inl 2, .inl 0)], ([], []), [], [], [(244, 8, 8), (244, 10, 10), (244, 13, 13), (245, 265, 265)], [(.inl (some (0, .inr 0, .inl 0)), 0, 0, ([(0, 1)], []), [], [])])
set_option maxRecDepth 100000 in
noncomputable def sz_u905 : List sy_Cut := []
set_option maxRecDepth 100000 in
noncomputable def sz_h905_0 : List sy_Hn := [(5, 20, 0, 0, 0, 0, [], [], []),
  (0, 31, 0, 0, 0, 0, [], [], []),
  (0, 31, 0, 0, 0, 0, [], [], [])]
set_option maxRecDepth 100000 in
theorem sz_s905_0 : sy_seg sz_E sz_T sz_RU [sz_c866] sz_c905 sz_u905 ri_m_X11_readGain 48 none sz_h905_0 = true := by decide +kernel
theorem sz_ok905 (xs : Nat → Value) (L : Nat) : sy_Cok (sz_env xs L) sz_T sz_RU sz_c905 := sy_chk_ok (CT := [sz_c866]) (CU := sz_u905) (M := ri_m_X11_readGain) (List.forall_mem_cons.mpr ⟨sz_ok866 xs L, fun _ h => absurd h List.not_mem_nil⟩) rfl ⟨_, _, sz_s905_0⟩ (fun _ h => absurd h List.not_mem_nil)

/-! X11_readGain [244, 1000054, 3, 0, 3] -/
set_option maxRecDepth 100000 in
noncomputable def sz_c906 : sy_Ct := (271, 7, 152, [(3, .inr 244, .inl 0), (3, .inr 1000054, .inl 0), (0, .inl 3, .inl 0), (0, .inl 0, .inl 0), (0, .inl 3, .inl 0)], ([], []), [], [], [(244, 8, 8), (244, 10, 10), (244, 13, 13), (245, 266, 266)], [(.inl (some (0, .inr 0, .inl 0)), 0, 0, ([(0, 1)], []), [], [])])
set_option maxRecDepth 100000 in
noncomputable def sz_u906 : List sy_Cut := []
set_option maxRecDepth 100000 in
noncomputable def sz_h906_0 : List sy_Hn := [(5, 20, 0, 0, 0, 0, [], [], []),
  (0, 31, 0, 0, 0, 0, [], [], []),
  (0, 31, 0, 0, 0, 0, [], [], [])]
set_option maxRecDepth 100000 in
theorem sz_s906_0 : sy_seg sz_E sz_T sz_RU [sz_c870] sz_c906 sz_u906 ri_m_X11_readGain 48 none sz_h906_0 = true := by decide +kernel
theorem sz_ok906 (xs : Nat → Value) (L : Nat) : sy_Cok (sz_env xs L) sz_T sz_RU sz_c906 := sy_chk_ok (CT := [sz_c870]) (CU := sz_u906) (M := ri_m_X11_readGain) (List.forall_mem_cons.mpr ⟨sz_ok870 xs L, fun _ h => absurd h List.not_mem_nil⟩) rfl ⟨_, _, sz_s906_0⟩ (fun _ h => absurd h List.not_mem_nil)

/-! X11_readGain [244, 1000052, 3, 1, 1] -/
set_option maxRecDepth 100000 in
noncomputable def sz_c907 : sy_Ct := (271, 7, 152, [(3, .inr 244, .inl 0), (3, .inr 1000052, .inl 0), (0, .inl 3, .inl 0), (0, .inl 1, .inl 0), (0, .inl 1, .inl 0)], ([], []), [], [], [(244, 8, 8), (244, 10, 10), (244, 13, 13), (245, 268, 268)], [(.inl (some (0, .inr 0, .inl 0)), 0, 0, ([(0, 1)], []), [], [])])
set_option maxRecDepth 100000 in
noncomputable def sz_u907 : List sy_Cut := []
set_option maxRecDepth 100000 in
noncomputable def sz_h907_0 : List sy_Hn := [(5, 20, 0, 0, 0, 0, [], [], []),
  (0, 31, 0, 0, 0, 0, [], [], []),
  (0, 31, 0, 0, 0, 0, [], [], [])]
set_option maxRecDepth 100000 in
theorem sz_s907_0 : sy_seg sz_E sz_T sz_RU [sz_c862] sz_c907 sz_u907 ri_m_X11_readGain 48 none sz_h907_0 = true := by decide +kernel
theorem sz_ok907 (xs : Nat → Value) (L : Nat) : sy_Cok (sz_env xs L) sz_T sz_RU sz_c907 := sy_chk_ok (CT := [sz_c862]) (CU := sz_u907) (M := ri_m_X11_readGain) (List.forall_mem_cons.mpr ⟨sz_ok862 xs L, fun _ h => absurd h List.not_mem_nil⟩) rfl ⟨_, _, sz_s907_0⟩ (fun _ h => absurd h List.not_mem_nil)

/-! X11_readGain [244, 1000053, 3, 1, 2] -/
set_option maxRecDepth 100000 in
noncomputable def sz_c908 : sy_Ct := (271, 7, 152, [(3, .inr 244, .inl 0), (3, .inr 1000053, .inl 0), (0, .inl 3, .inl 0), (0, .inl 1, .inl 0), (0, .inl 2, .inl 0)], ([], []), [], [], [(244, 8, 8), (244, 10, 10), (244, 13, 13), (245, 269, 269)], [(.inl (some (0, .inr 0, .inl 0)), 0, 0, ([(0, 1)], []), [], [])])
set_option maxRecDepth 100000 in
noncomputable def sz_u908 : List sy_Cut := []
set_option maxRecDepth 100000 in
noncomputable def sz_h908_0 : List sy_Hn := [(5, 20, 0, 0, 0, 0, [], [], []),
  (0, 31, 0, 0, 0, 0, [], [], []),
  (0, 31, 0, 0, 0, 0, [], [], [])]
set_option maxRecDepth 100000 in
theorem sz_s908_0 : sy_seg sz_E sz_T sz_RU [sz_c866] sz_c908 sz_u908 ri_m_X11_readGain 48 none sz_h908_0 = true := by decide +kernel
theorem sz_ok908 (xs : Nat → Value) (L : Nat) : sy_Cok (sz_env xs L) sz_T sz_RU sz_c908 := sy_chk_ok (CT := [sz_c866]) (CU := sz_u908) (M := ri_m_X11_readGain) (List.forall_mem_cons.mpr ⟨sz_ok866 xs L, fun _ h => absurd h List.not_mem_nil⟩) rfl ⟨_, _, sz_s908_0⟩ (fun _ h => absurd h List.not_mem_nil)

/-! X11_readGain [244, 1000054, 3, 1, 3] -/
set_option maxRecDepth 100000 in
noncomputable def sz_c909 : sy_Ct := (271, 7, 152, [(3, .inr 244, .inl 0), (3, .inr 1000054, .inl 0), (0, .inl 3, .inl 0), (0, .inl 1, .inl 0), (0, .inl 3, .inl 0)], ([], []), [], [], [(244, 8, 8), (244, 10, 10), (244, 13, 13), (245, 270, 270)], [(.inl (some (0, .inr 0, .inl 0)), 0, 0, ([(0, 1)], []), [], [])])
set_option maxRecDepth 100000 in
noncomputable def sz_u909 : List sy_Cut := []
set_option maxRecDepth 100000 in
noncomputable def sz_h909_0 : List sy_Hn := [(5, 20, 0, 0, 0, 0, [], [], []),
  (0, 31, 0, 0, 0, 0, [], [], []),
  (0, 31, 0, 0, 0, 0, [], [], [])]
set_option maxRecDepth 100000 in
theorem sz_s909_0 : sy_seg sz_E sz_T sz_RU [sz_c870] sz_c909 sz_u909 ri_m_X11_readGain 48 none sz_h909_0 = true := by decide +kernel
theorem sz_ok909 (xs : Nat → Value) (L : Nat) : sy_Cok (sz_env xs L) sz_T sz_RU sz_c909 := sy_chk_ok (CT := [sz_c870]) (CU := sz_u909) (M := ri_m_X11_readGain) (List.forall_mem_cons.mpr ⟨sz_ok870 xs L, fun _ h => absurd h List.not_mem_nil⟩) rfl ⟨_, _, sz_s909_0⟩ (fun _ h => absurd h List.not_mem_nil)

/-! X11_readGain [244, 1000052, 3, 2, 1] -/
set_option maxRecDepth 100000 in
noncomputable def sz_c910 : sy_Ct := (271, 7, 152, [(3, .inr 244, .inl 0), (3, .inr 1000052, .inl 0), (0, .inl 3, .inl 0), (0, .inl 2, .inl 0), (0, .inl 1, .inl 0)], ([], []), [], [], [(244, 8, 8), (244, 10, 10), (244, 13, 13), (245, 272, 272)], [(.inl (some (0, .inr 0, .inl 0)), 0, 0, ([(0, 1)], []), [], [])])
set_option maxRecDepth 100000 in
noncomputable def sz_u910 : List sy_Cut := []
set_option maxRecDepth 100000 in
noncomputable def sz_h910_0 : List sy_Hn := [(5, 20, 0, 0, 0, 0, [], [], []),
  (0, 31, 0, 0, 0, 0, [], [], []),
  (0, 31, 0, 0, 0, 0, [], [], [])]
set_option maxRecDepth 100000 in
theorem sz_s910_0 : sy_seg sz_E sz_T sz_RU [sz_c862] sz_c910 sz_u910 ri_m_X11_readGain 48 none sz_h910_0 = true := by decide +kernel
theorem sz_ok910 (xs : Nat → Value) (L : Nat) : sy_Cok (sz_env xs L) sz_T sz_RU sz_c910 := sy_chk_ok (CT := [sz_c862]) (CU := sz_u910) (M := ri_m_X11_readGain) (List.forall_mem_cons.mpr ⟨sz_ok862 xs L, fun _ h => absurd h List.not_mem_nil⟩) rfl ⟨_, _, sz_s910_0⟩ (fun _ h => absurd h List.not_mem_nil)

/-! X11_readGain [244, 1000053, 3, 2, 2] -/
set_option maxRecDepth 100000 in
noncomputable def sz_c911 : sy_Ct := (271, 7, 152, [(3, .inr 244, .inl 0), (3, .inr 1000053, .inl 0), (0, .inl 3, .inl 0), (0, .inl 2, .inl 0), (0, .inl 2, .inl 0)], ([], []), [], [], [(244, 8, 8), (244, 10, 10), (244, 13, 13), (245, 273, 273)], [(.inl (some (0, .inr 0, .inl 0)), 0, 0, ([(0, 1)], []), [], [])])
set_option maxRecDepth 100000 in
noncomputable def sz_u911 : List sy_Cut := []
set_option maxRecDepth 100000 in
noncomputable def sz_h911_0 : List sy_Hn := [(5, 20, 0, 0, 0, 0, [], [], []),
  (0, 31, 0, 0, 0, 0, [], [], []),
  (0, 31, 0, 0, 0, 0, [], [], [])]
set_option maxRecDepth 100000 in
theorem sz_s911_0 : sy_seg sz_E sz_T sz_RU [sz_c866] sz_c911 sz_u911 ri_m_X11_readGain 48 none sz_h911_0 = true := by decide +kernel
theorem sz_ok911 (xs : Nat → Value) (L : Nat) : sy_Cok (sz_env xs L) sz_T sz_RU sz_c911 := sy_chk_ok (CT := [sz_c866]) (CU := sz_u911) (M := ri_m_X11_readGain) (List.forall_mem_cons.mpr ⟨sz_ok866 xs L, fun _ h => absurd h List.not_mem_nil⟩) rfl ⟨_, _, sz_s911_0⟩ (fun _ h => absurd h List.not_mem_nil)

/-! X11_readGain [244, 1000054, 3, 2, 3] -/
set_option maxRecDepth 100000 in
noncomputable def sz_c912 : sy_Ct := (271, 7, 152, [(3, .inr 244, .inl 0), (3, .inr 1000054, .inl 0), (0, .inl 3, .inl 0), (0, .inl 2, .inl 0), (0, .inl 3, .inl 0)], ([], []), [], [], [(244, 8, 8), (244, 10, 10), (244, 13, 13), (245, 274, 274)], [(.inl (some (0, .inr 0, .inl 0)), 0, 0, ([(0, 1)], []), [], [])])
set_option maxRecDepth 100000 in
noncomputable def sz_u912 : List sy_Cut := []
set_option maxRecDepth 100000 in
noncomputable def sz_h912_0 : List sy_Hn := [(5, 20, 0, 0, 0, 0, [], [], []),
  (0, 31, 0, 0, 0, 0, [], [], []),
  (0, 31, 0, 0, 0, 0, [], [], [])]
set_option maxRecDepth 100000 in
theorem sz_s912_0 : sy_seg sz_E sz_T sz_RU [sz_c870] sz_c912 sz_u912 ri_m_X11_readGain 48 none sz_h912_0 = true := by decide +kernel
theorem sz_ok912 (xs : Nat → Value) (L : Nat) : sy_Cok (sz_env xs L) sz_T sz_RU sz_c912 := sy_chk_ok (CT := [sz_c870]) (CU := sz_u912) (M := ri_m_X11_readGain) (List.forall_mem_cons.mpr ⟨sz_ok870 xs L, fun _ h => absurd h List.not_mem_nil⟩) rfl ⟨_, _, sz_s912_0⟩ (fun _ h => absurd h List.not_mem_nil)

/-! X11_readGains [244, 0] -/
set_option maxRecDepth 100000 in
noncomputable def sz_c913 : sy_Ct := (213, 8, 176, [(3, .inr 244, .inl 0), (0, .inr 0, .inl 0)], ([(0, 400)], []), [], [], [(244, 8, 8), (244, 10, 10), (244, 13, 13), (245, 19, 19), (245, 32, 43), (245, 96, 96), (245, 109, 120), (245, 173, 173), (245, 186, 197), (245, 250, 250), (245, 263, 274)], [(.inl (some (0, .inr 1, .inl 0)), 0, 0, ([(0, 1), (0, 400)], []), [], [])])
set_option maxRecDepth 100000 in
noncomputable def sz_u913 : List sy_Cut := []
set_option maxRecDepth 100000 in
noncomputable def sz_h913_0_0 : List sy_Hn := [(13, 20, 0, 0, 0, 0, [], [], []),
  (0, 31, 0, 0, 0, 0, [], [], []),
  (9, 20, 1, 0, 0, 0, [], [], []),
  (7, 20, 2, 0, 0, 0, [], [], []),
  (0, 31, 0, 0, 0, 0, [], [], []),
  (6, 20, 3, 0, 0, 0, [], [], []),
  (0, 31, 0, 0, 0, 0, [], [], []),
  (6, 20, 4, 0, 0, 0, [], [], []),
  (0, 31, 0, 0, 0, 0, [], [], []),
  (0, 31, 0, 0, 0, 0, [], [], []),
  (12, 1, 3, 0, 0, 0, [], [], []),
  (26, 1, 6, 0, (-1), 0, [], [], []),
  (20, 20, 5, 0, 0, 0, [], [], []),
  (0, 31, 0, 0, 0, 0, [], [], []),
  (12, 1, 5, 0, 0, 0, [], [], []),
  (24, 20, 6, 0, 0, 0, [], [], []),
  (0, 31, 0, 0, 0, 0, [], [], []),
  (6, 20, 7, 0, 0, 0, [], [], []),
  (0, 31, 0, 0, 0, 0, [], [], []),
  (6, 20, 8, 0, 0, 0, [], [], []),
  (0, 31, 0, 0, 0, 0, [], [], []),
  (0, 31, 0, 0, 0, 0, [], [], []),
  (0, 1, 5, 0, 1, 0, [], [], []),
  (24, 20, 9, 0, 0, 0, [], [], []),
  (0, 31, 0, 0, 0, 0, [], [], []),
  (6, 20, 10, 0, 0, 0, [], [], []),
  (0, 31, 0, 0, 0, 0, [], [], []),
  (6, 20, 11, 0, 0, 0, [], [], []),
  (0, 31, 0, 0, 0, 0, [], [], []),
  (0, 31, 0, 0, 0, 0, [], [], []),
  (24, 20, 12, 0, 0, 0, [], [], []),
  (0, 31, 0, 0, 0, 0, [], [], []),
  (6, 20, 13, 0, 0, 0, [], [], []),
  (0, 31, 0, 0, 0, 0, [], [], []),
  (6, 20, 14, 0, 0, 0, [], [], []),
  (0, 31, 0, 0, 0, 0, [], [], []),
  (0, 31, 0, 0, 0, 0, [], [], []),
  (0, 1, 6, 0, 0, 0, [], [], []),
  (20, 20, 15, 0, 0, 0, [], [], []),
  (0, 31, 0, 0, 0, 0, [], [], []),
  (12, 1, 5, 0, 0, 0, [], [], []),
  (24, 20, 6, 0, 0, 0, [], [], []),
  (0, 31, 0, 0, 0, 0, [], [], []),
  (6, 20, 7, 0, 0, 0, [], [], []),
  (0, 31, 0, 0, 0, 0, [], [], []),
  (6, 20, 8, 0, 0, 0, [], [], []),
  (0, 31, 0, 0, 0, 0, [], [], []),
  (0, 31, 0, 0, 0, 0, [], [], []),
  (0, 1, 5, 0, 1, 0, [], [], []),
  (24, 20, 9, 0, 0, 0, [], [], []),
  (0, 31, 0, 0, 0, 0, [], [], []),
  (6, 20, 10, 0, 0, 0, [], [], []),
  (0, 31, 0, 0, 0, 0, [], [], []),
  (6, 20, 11, 0, 0, 0, [], [], []),
  (0, 31, 0, 0, 0, 0, [], [], []),
  (0, 31, 0, 0, 0, 0, [], [], []),
  (24, 20, 12, 0, 0, 0, [], [], []),
  (0, 31, 0, 0, 0, 0, [], [], []),
  (6, 20, 13, 0, 0, 0, [], [], []),
  (0, 31, 0, 0, 0, 0, [], [], []),
  (6, 20, 14, 0, 0, 0, [], [], []),
  (0, 31, 0, 0, 0, 0, [], [], []),
  (0, 31, 0, 0, 0, 0, [], [], []),
  (20, 20, 15, 0, 0, 0, [], [], []),
  (0, 31, 0, 0, 0, 0, [], [], []),
  (12, 1, 5, 0, 0, 0, [], [], []),
  (24, 20, 6, 0, 0, 0, [], [], []),
  (0, 31, 0, 0, 0, 0, [], [], []),
  (6, 20, 7, 0, 0, 0, [], [], []),
  (0, 31, 0, 0, 0, 0, [], [], []),
  (6, 20, 8, 0, 0, 0, [], [], []),
  (0, 31, 0, 0, 0, 0, [], [], []),
  (0, 31, 0, 0, 0, 0, [], [], []),
  (0, 1, 5, 0, 1, 0, [], [], []),
  (24, 20, 9, 0, 0, 0, [], [], []),
  (0, 31, 0, 0, 0, 0, [], [], []),
  (6, 20, 10, 0, 0, 0, [], [], []),
  (0, 31, 0, 0, 0, 0, [], [], []),
  (6, 20, 11, 0, 0, 0, [], [], []),
  (0, 31, 0, 0, 0, 0, [], [], []),
  (0, 31, 0, 0, 0, 0, [], [], []),
  (24, 20, 12, 0, 0, 0, [], [], []),
  (0, 31, 0, 0, 0, 0, [], [], []),
  (6, 20, 13, 0, 0, 0, [], [], []),
  (0, 31, 0, 0, 0, 0, [], [], []),
  (6, 20, 14, 0, 0, 0, [], [], []),
  (0, 31, 0, 0, 0, 0, [], [], []),
  (0, 31, 0, 0, 0, 0, [], [], []),
  (0, 31, 0, 0, 0, 0, [], [], []),
  (0, 1, 3, 0, 1, 0, [], [], []),
  (26, 1, 6, 0, (-1), 0, [], [], []),
  (20, 20, 5, 0, 0, 0, [], [], []),
  (0, 31, 0, 0, 0, 0, [], [], []),
  (12, 1, 5, 0, 0, 0, [], [], []),
  (24, 20, 16, 0, 0, 0, [], [], []),
  (0, 31, 0, 0, 0, 0, [], [], []),
  (6, 20, 17, 0, 0, 0, [], [], []),
  (0, 31, 0, 0, 0, 0, [], [], []),
  (6, 20, 18, 0, 0, 0, [], [], []),
  (0, 31, 0, 0, 0, 0, [], [], []),
  (0, 31, 0, 0, 0, 0, [], [], []),
  (0, 1, 5, 0, 1, 0, [], [], []),
  (24, 20, 19, 0, 0, 0, [], [], []),
  (0, 31, 0, 0, 0, 0, [], [], []),
  (6, 20, 20, 0, 0, 0, [], [], []),
  (0, 31, 0, 0, 0, 0, [], [], []),
  (6, 20, 21, 0, 0, 0, [], [], []),
  (0, 31, 0, 0, 0, 0, [], [], []),
  (0, 31, 0, 0, 0, 0, [], [], []),
  (24, 20, 22, 0, 0, 0, [], [], []),
  (0, 31, 0, 0, 0, 0, [], [], []),
  (6, 20, 23, 0, 0, 0, [], [], []),
  (0, 31, 0, 0, 0, 0, [], [], []),
  (6, 20, 24, 0, 0, 0, [], [], []),
  (0, 31, 0, 0, 0, 0, [], [], []),
  (0, 31, 0, 0, 0, 0, [], [], []),
  (0, 1, 6, 0, 0, 0, [], [], []),
  (20, 20, 15, 0, 0, 0, [], [], []),
  (0, 31, 0, 0, 0, 0, [], [], []),
  (12, 1, 5, 0, 0, 0, [], [], []),
  (24, 20, 16, 0, 0, 0, [], [], []),
  (0, 31, 0, 0, 0, 0, [], [], []),
  (6, 20, 17, 0, 0, 0, [], [], []),
  (0, 31, 0, 0, 0, 0, [], [], []),
  (6, 20, 18, 0, 0, 0, [], [], []),
  (0, 31, 0, 0, 0, 0, [], [], []),
  (0, 31, 0, 0, 0, 0, [], [], []),
  (0, 1, 5, 0, 1, 0, [], [], []),
  (24, 20, 19, 0, 0, 0, [], [], []),
  (0, 31, 0, 0, 0, 0, [], [], []),
  (6, 20, 20, 0, 0, 0, [], [], []),
  (0, 31, 0, 0, 0, 0, [], [], []),
  (6, 20, 21, 0, 0, 0, [], [], []),
  (0, 31, 0, 0, 0, 0, [], [], []),
  (0, 31, 0, 0, 0, 0, [], [], []),
  (24, 20, 22, 0, 0, 0, [], [], []),
  (0, 31, 0, 0, 0, 0, [], [], []),
  (6, 20, 23, 0, 0, 0, [], [], []),
  (0, 31, 0, 0, 0, 0, [], [], []),
  (6, 20, 24, 0, 0, 0, [], [], []),
  (0, 31, 0, 0, 0, 0, [], [], []),
  (0, 31, 0, 0, 0, 0, [], [], []),
  (20, 20, 15, 0, 0, 0, [], [], []),
  (0, 31, 0, 0, 0, 0, [], [], []),
  (12, 1, 5, 0, 0, 0, [], [], []),
  (24, 20, 16, 0, 0, 0, [], [], []),
  (0, 31, 0, 0, 0, 0, [], [], []),
  (6, 20, 17, 0, 0, 0, [], [], []),
  (0, 31, 0, 0, 0, 0, [], [], []),
  (6, 20, 18, 0, 0, 0, [], [], []),
  (0, 31, 0, 0, 0, 0, [], [], []),
  (0, 31, 0, 0, 0, 0, [], [], []),
  (0, 1, 5, 0, 1, 0, [], [], []),
  (24, 20, 19, 0, 0, 0, [], [], []),
  (0, 31, 0, 0, 0, 0, [], [], []),
  (6, 20, 20, 0, 0, 0, [], [], []),
  (0, 31, 0, 0, 0, 0, [], [], []),
  (6, 20, 21, 0, 0, 0, [], [], []),
  (0, 31, 0, 0, 0, 0, [], [], []),
  (0, 31, 0, 0, 0, 0, [], [], []),
  (24, 20, 22, 0, 0, 0, [], [], []),
  (0, 31, 0, 0, 0, 0, [], [], []),
  (6, 20, 23, 0, 0, 0, [], [], []),
  (0, 31, 0, 0, 0, 0, [], [], []),
  (6, 20, 24, 0, 0, 0, [], [], []),
  (0, 31, 0, 0, 0, 0, [], [], []),
  (0, 31, 0, 0, 0, 0, [], [], []),
  (0, 31, 0, 0, 0, 0, [], [], []),
  (0, 1, 3, 0, 2, 0, [], [], []),
  (26, 1, 6, 0, (-1), 0, [], [], []),
  (20, 20, 5, 0, 0, 0, [], [], []),
  (0, 31, 0, 0, 0, 0, [], [], []),
  (12, 1, 5, 0, 0, 0, [], [], []),
  (24, 20, 25, 0, 0, 0, [], [], []),
  (0, 31, 0, 0, 0, 0, [], [], []),
  (6, 20, 26, 0, 0, 0, [], [], []),
  (0, 31, 0, 0, 0, 0, [], [], []),
  (6, 20, 27, 0, 0, 0, [], [], []),
  (0, 31, 0, 0, 0, 0, [], [], []),
  (0, 31, 0, 0, 0, 0, [], [], []),
  (0, 1, 5, 0, 1, 0, [], [], []),
  (24, 20, 28, 0, 0, 0, [], [], []),
  (0, 31, 0, 0, 0, 0, [], [], []),
  (6, 20, 29, 0, 0, 0, [], [], []),
  (0, 31, 0, 0, 0, 0, [], [], []),
  (6, 20, 30, 0, 0, 0, [], [], []),
  (0, 31, 0, 0, 0, 0, [], [], []),
  (0, 31, 0, 0, 0, 0, [], [], []),
  (24, 20, 31, 0, 0, 0, [], [], []),
  (0, 31, 0, 0, 0, 0, [], [], []),
  (6, 20, 32, 0, 0, 0, [], [], []),
  (0, 31, 0, 0, 0, 0, [], [], []),
  (6, 20, 33, 0, 0, 0, [], [], []),
  (0, 31, 0, 0, 0, 0, [], [], []),
  (0, 31, 0, 0, 0, 0, [], [], []),
  (0, 1, 6, 0, 0, 0, [], [], []),
  (20, 20, 15, 0, 0, 0, [], [], []),
  (0, 31, 0, 0, 0, 0, [], [], []),
  (12, 1, 5, 0, 0, 0, [], [], []),
  (24, 20, 25, 0, 0, 0, [], [], [])]
set_option maxRecDepth 100000 in
noncomputable def sz_h913_0_1 : List sy_Hn := [(0, 31, 0, 0, 0, 0, [], [], []),
  (6, 20, 26, 0, 0, 0, [], [], []),
  (0, 31, 0, 0, 0, 0, [], [], []),
  (6, 20, 27, 0, 0, 0, [], [], []),
  (0, 31, 0, 0, 0, 0, [], [], []),
  (0, 31, 0, 0, 0, 0, [], [], []),
  (0, 1, 5, 0, 1, 0, [], [], []),
  (24, 20, 28, 0, 0, 0, [], [], []),
  (0, 31, 0, 0, 0, 0, [], [], []),
  (6, 20, 29, 0, 0, 0, [], [], []),
  (0, 31, 0, 0, 0, 0, [], [], []),
  (6, 20, 30, 0, 0, 0, [], [], []),
  (0, 31, 0, 0, 0, 0, [], [], []),
  (0, 31, 0, 0, 0, 0, [], [], []),
  (24, 20, 31, 0, 0, 0, [], [], []),
  (0, 31, 0, 0, 0, 0, [], [], []),
  (6, 20, 32, 0, 0, 0, [], [], []),
  (0, 31, 0, 0, 0, 0, [], [], []),
  (6, 20, 33, 0, 0, 0, [], [], []),
  (0, 31, 0, 0, 0, 0, [], [], []),
  (0, 31, 0, 0, 0, 0, [], [], []),
  (20, 20, 15, 0, 0, 0, [], [], []),
  (0, 31, 0, 0, 0, 0, [], [], []),
  (12, 1, 5, 0, 0, 0, [], [], []),
  (24, 20, 25, 0, 0, 0, [], [], []),
  (0, 31, 0, 0, 0, 0, [], [], []),
  (6, 20, 26, 0, 0, 0, [], [], []),
  (0, 31, 0, 0, 0, 0, [], [], []),
  (6, 20, 27, 0, 0, 0, [], [], []),
  (0, 31, 0, 0, 0, 0, [], [], []),
  (0, 31, 0, 0, 0, 0, [], [], []),
  (0, 1, 5, 0, 1, 0, [], [], []),
  (24, 20, 28, 0, 0, 0, [], [], []),
  (0, 31, 0, 0, 0, 0, [], [], []),
  (6, 20, 29, 0, 0, 0, [], [], []),
  (0, 31, 0, 0, 0, 0, [], [], []),
  (6, 20, 30, 0, 0, 0, [], [], []),
  (0, 31, 0, 0, 0, 0, [], [], []),
  (0, 31, 0, 0, 0, 0, [], [], []),
  (24, 20, 31, 0, 0, 0, [], [], []),
  (0, 31, 0, 0, 0, 0, [], [], []),
  (6, 20, 32, 0, 0, 0, [], [], []),
  (0, 31, 0, 0, 0, 0, [], [], []),
  (6, 20, 33, 0, 0, 0, [], [], []),
  (0, 31, 0, 0, 0, 0, [], [], []),
  (0, 31, 0, 0, 0, 0, [], [], []),
  (0, 31, 0, 0, 0, 0, [], [], []),
  (26, 1, 6, 0, (-1), 0, [], [], []),
  (20, 20, 5, 0, 0, 0, [], [], []),
  (0, 31, 0, 0, 0, 0, [], [], []),
  (12, 1, 5, 0, 0, 0, [], [], []),
  (24, 20, 34, 0, 0, 0, [], [], []),
  (0, 31, 0, 0, 0, 0, [], [], []),
  (6, 20, 35, 0, 0, 0, [], [], []),
  (0, 31, 0, 0, 0, 0, [], [], []),
  (6, 20, 36, 0, 0, 0, [], [], []),
  (0, 31, 0, 0, 0, 0, [], [], []),
  (0, 31, 0, 0, 0, 0, [], [], []),
  (0, 1, 5, 0, 1, 0, [], [], []),
  (24, 20, 37, 0, 0, 0, [], [], []),
  (0, 31, 0, 0, 0, 0, [], [], []),
  (6, 20, 38, 0, 0, 0, [], [], []),
  (0, 31, 0, 0, 0, 0, [], [], []),
  (6, 20, 39, 0, 0, 0, [], [], []),
  (0, 31, 0, 0, 0, 0, [], [], []),
  (0, 31, 0, 0, 0, 0, [], [], []),
  (24, 20, 40, 0, 0, 0, [], [], []),
  (0, 31, 0, 0, 0, 0, [], [], []),
  (6, 20, 41, 0, 0, 0, [], [], []),
  (0, 31, 0, 0, 0, 0, [], [], []),
  (6, 20, 42, 0, 0, 0, [], [], []),
  (0, 31, 0, 0, 0, 0, [], [], []),
  (0, 31, 0, 0, 0, 0, [], [], []),
  (0, 1, 6, 0, 0, 0, [], [], []),
  (20, 20, 15, 0, 0, 0, [], [], []),
  (0, 31, 0, 0, 0, 0, [], [], []),
  (12, 1, 5, 0, 0, 0, [], [], []),
  (24, 20, 34, 0, 0, 0, [], [], []),
  (0, 31, 0, 0, 0, 0, [], [], []),
  (6, 20, 35, 0, 0, 0, [], [], []),
  (0, 31, 0, 0, 0, 0, [], [], []),
  (6, 20, 36, 0, 0, 0, [], [], []),
  (0, 31, 0, 0, 0, 0, [], [], []),
  (0, 31, 0, 0, 0, 0, [], [], []),
  (0, 1, 5, 0, 1, 0, [], [], []),
  (24, 20, 37, 0, 0, 0, [], [], []),
  (0, 31, 0, 0, 0, 0, [], [], []),
  (6, 20, 38, 0, 0, 0, [], [], []),
  (0, 31, 0, 0, 0, 0, [], [], []),
  (6, 20, 39, 0, 0, 0, [], [], []),
  (0, 31, 0, 0, 0, 0, [], [], []),
  (0, 31, 0, 0, 0, 0, [], [], []),
  (24, 20, 40, 0, 0, 0, [], [], []),
  (0, 31, 0, 0, 0, 0, [], [], []),
  (6, 20, 41, 0, 0, 0, [], [], []),
  (0, 31, 0, 0, 0, 0, [], [], []),
  (6, 20, 42, 0, 0, 0, [], [], []),
  (0, 31, 0, 0, 0, 0, [], [], []),
  (0, 31, 0, 0, 0, 0, [], [], []),
  (20, 20, 15, 0, 0, 0, [], [], []),
  (0, 31, 0, 0, 0, 0, [], [], []),
  (12, 1, 5, 0, 0, 0, [], [], []),
  (24, 20, 34, 0, 0, 0, [], [], []),
  (0, 31, 0, 0, 0, 0, [], [], []),
  (6, 20, 35, 0, 0, 0, [], [], []),
  (0, 31, 0, 0, 0, 0, [], [], []),
  (6, 20, 36, 0, 0, 0, [], [], []),
  (0, 31, 0, 0, 0, 0, [], [], []),
  (0, 31, 0, 0, 0, 0, [], [], []),
  (0, 1, 5, 0, 1, 0, [], [], []),
  (24, 20, 37, 0, 0, 0, [], [], []),
  (0, 31, 0, 0, 0, 0, [], [], []),
  (6, 20, 38, 0, 0, 0, [], [], []),
  (0, 31, 0, 0, 0, 0, [], [], []),
  (6, 20, 39, 0, 0, 0, [], [], []),
  (0, 31, 0, 0, 0, 0, [], [], []),
  (0, 31, 0, 0, 0, 0, [], [], []),
  (24, 20, 40, 0, 0, 0, [], [], []),
  (0, 31, 0, 0, 0, 0, [], [], []),
  (6, 20, 41, 0, 0, 0, [], [], []),
  (0, 31, 0, 0, 0, 0, [], [], []),
  (6, 20, 42, 0, 0, 0, [], [], []),
  (0, 31, 0, 0, 0, 0, [], [], []),
  (0, 31, 0, 0, 0, 0, [], [], []),
  (0, 31, 0, 0, 0, 0, [], [], [])]
noncomputable def sz_h913_0 : List sy_Hn := sz_h913_0_0 ++ (sz_h913_0_1)
set_option maxRecDepth 100000 in
theorem sz_s913_0 : sy_seg sz_E sz_T sz_RU [sz_c761, sz_c857, sz_c863, sz_c867, sz_c871, sz_c874, sz_c875, sz_c876, sz_c877, sz_c878, sz_c879, sz_c880, sz_c881, sz_c882, sz_c883, sz_c885, sz_c886, sz_c887, sz_c888, sz_c889, sz_c890, sz_c891, sz_c892, sz_c893, sz_c894, sz_c895, sz_c896, sz_c897, sz_c898, sz_c899, sz_c900, sz_c901, sz_c902, sz_c903, sz_c904, sz_c905, sz_c906, sz_c907, sz_c908, sz_c909, sz_c910, sz_c911, sz_c912] sz_c913 sz_u913 ri_m_X11_readGains 3318 none sz_h913_0 = true := by decide +kernel
theorem sz_ok913 (xs : Nat → Value) (L : Nat) : sy_Cok (sz_env xs L) sz_T sz_RU sz_c913 := sy_chk_ok (CT := [sz_c761, sz_c857, sz_c863, sz_c867, sz_c871, sz_c874, sz_c875, sz_c876, sz_c877, sz_c878, sz_c879, sz_c880, sz_c881, sz_c882, sz_c883, sz_c885, sz_c886, sz_c887, sz_c888, sz_c889, sz_c890, sz_c891, sz_c892, sz_c893, sz_c894, sz_c895, sz_c896, sz_c897, sz_c898, sz_c899, sz_c900, sz_c901, sz_c902, sz_c903, sz_c904, sz_c905, sz_c906, sz_c907, sz_c908, sz_c909, sz_c910, sz_c911, sz_c912]) (CU := sz_u913) (M := ri_m_X11_readGains) (List.forall_mem_cons.mpr ⟨sz_ok761 xs L, List.forall_mem_cons.mpr ⟨sz_ok857 xs L, List.forall_mem_cons.mpr ⟨sz_ok863 xs L, List.forall_mem_cons.mpr ⟨sz_ok867 xs L, List.forall_mem_cons.mpr ⟨sz_ok871 xs L, List.forall_mem_cons.mpr ⟨sz_ok874 xs L, List.forall_mem_cons.mpr ⟨sz_ok875 xs L, List.forall_mem_cons.mpr ⟨sz_ok876 xs L, List.forall_mem_cons.mpr ⟨sz_ok877 xs L, List.forall_mem_cons.mpr ⟨sz_ok878 xs L, List.forall_mem_cons.mpr ⟨sz_ok879 xs L, List.forall_mem_cons.mpr ⟨sz_ok880 xs L, List.forall_mem_cons.mpr ⟨sz_ok881 xs L, List.forall_mem_cons.mpr ⟨sz_ok882 xs L, List.forall_mem_cons.mpr ⟨sz_ok883 xs L, List.forall_mem_cons.mpr ⟨sz_ok885 xs L, List.forall_mem_cons.mpr ⟨sz_ok886 xs L, List.forall_mem_cons.mpr ⟨sz_ok887 xs L, List.forall_mem_cons.mpr ⟨sz_ok888 xs L, List.forall_mem_cons.mpr ⟨sz_ok889 xs L, List.forall_mem_cons.mpr ⟨sz_ok890 xs L, List.forall_mem_cons.mpr ⟨sz_ok891 xs L, List.forall_mem_cons.mpr ⟨sz_ok892 xs L, List.forall_mem_cons.mpr ⟨sz_ok893 xs L, List.forall_mem_cons.mpr ⟨sz_ok894 xs L, List.forall_mem_cons.mpr ⟨sz_ok895 xs L, List.forall_mem_cons.mpr ⟨sz_ok896 xs L, List.forall_mem_cons.mpr ⟨sz_ok897 xs L, List.forall_mem_cons.mpr ⟨sz_ok898 xs L, List.forall_mem_cons.mpr ⟨sz_ok899 xs L, List.forall_mem_cons.mpr ⟨sz_ok900 xs L, List.forall_mem_cons.mpr ⟨sz_ok901 xs L, List.forall_mem_cons.mpr ⟨sz_ok902 xs L, List.forall_mem_cons.mpr ⟨sz_ok903 xs L, List.forall_mem_cons.mpr ⟨sz_ok904 xs L, List.forall_mem_cons.mpr ⟨sz_ok905 xs L, List.forall_mem_cons.mpr ⟨sz_ok906 xs L, List.forall_mem_cons.mpr ⟨sz_ok907 xs L, List.forall_mem_cons.mpr ⟨sz_ok908 xs L, List.forall_mem_cons.mpr ⟨sz_ok909 xs L, List.forall_mem_cons.mpr ⟨sz_ok910 xs L, List.forall_mem_cons.mpr ⟨sz_ok911 xs L, List.forall_mem_cons.mpr ⟨sz_ok912 xs L, fun _ h => absurd h List.not_mem_nil⟩⟩⟩⟩⟩⟩⟩⟩⟩⟩⟩⟩⟩⟩⟩⟩⟩⟩⟩⟩⟩⟩⟩⟩⟩⟩⟩⟩⟩⟩⟩⟩⟩⟩⟩⟩⟩⟩⟩⟩⟩⟩⟩) rfl ⟨_, _, sz_s913_0⟩ (fun _ h => absurd h List.not_mem_nil)

/-! X11_isWord [244, 1000044] -/
set_option maxRecDepth 100000 in
noncomputable def sz_c914 : sy_Ct := (210, 4, 85, [(3, .inr 244, .inl 0), (3, .inr 1000044, .inl 0)], ([], []), [], [], [], [(.inl (some (0, .inr 0, .inl 0)), 0, 0, ([(0, 1)], []), [], [])])
set_option maxRecDepth 100000 in
noncomputable def sz_u914 : List sy_Cut := []
set_option maxRecDepth 100000 in
noncomputable def sz_h914_0 : List sy_Hn := [(0, 31, 0, 0, 0, 0, [], [], []),
  (30, 3, 3, 0, 0, 399, [([3], [(1, [0]), (1, [1])]), ([0, 2], [(1, [0]), (1, [6]), (1, [8]), (1, [2]), (1, [3])])], [], []),
  (0, 31, 0, 0, 0, 0, [], [], []),
  (0, 31, 0, 0, 0, 0, [], [], [])]
set_option maxRecDepth 100000 in
theorem sz_s914_0 : sy_seg sz_E sz_T sz_RU [] sz_c914 sz_u914 ri_m_X11_isWord 147 none sz_h914_0 = true := by decide +kernel
theorem sz_ok914 (xs : Nat → Value) (L : Nat) : sy_Cok (sz_env xs L) sz_T sz_RU sz_c914 := sy_chk_ok (CT := []) (CU := sz_u914) (M := ri_m_X11_isWord) (fun _ h => absurd h List.not_mem_nil) rfl ⟨_, _, sz_s914_0⟩ (fun _ h => absurd h List.not_mem_nil)

/-! X11_passes [244, 1000044] -/
set_option maxRecDepth 100000 in
noncomputable def sz_c915 : sy_Ct := (270, 5, 108, [(3, .inr 244, .inl 0), (3, .inr 1000044, .inl 0)], ([], []), [], [], [(244, 8, 8), (244, 10, 10)], [(.inl (some (0, .inr 0, .inl 0)), 0, 0, ([(0, 1)], []), [], [])])
set_option maxRecDepth 100000 in
noncomputable def sz_u915 : List sy_Cut := []
set_option maxRecDepth 100000 in
noncomputable def sz_h915_0 : List sy_Hn := [(2, 20, 0, 0, 0, 0, [], [], []),
  (3, 20, 1, 0, 0, 0, [], [], []),
  (0, 31, 0, 0, 0, 0, [], [], []),
  (0, 31, 0, 0, 0, 0, [], [], [])]
set_option maxRecDepth 100000 in
theorem sz_s915_0 : sy_seg sz_E sz_T sz_RU [sz_c263, sz_c914] sz_c915 sz_u915 ri_m_X11_passes 23 none sz_h915_0 = true := by decide +kernel
theorem sz_ok915 (xs : Nat → Value) (L : Nat) : sy_Cok (sz_env xs L) sz_T sz_RU sz_c915 := sy_chk_ok (CT := [sz_c263, sz_c914]) (CU := sz_u915) (M := ri_m_X11_passes) (List.forall_mem_cons.mpr ⟨sz_ok263 xs L, List.forall_mem_cons.mpr ⟨sz_ok914 xs L, fun _ h => absurd h List.not_mem_nil⟩⟩) rfl ⟨_, _, sz_s915_0⟩ (fun _ h => absurd h List.not_mem_nil)

/-! X11_figures [244, 1, 0, 256] -/
set_option maxRecDepth 100000 in
noncomputable def sz_c916 : sy_Ct := (302, 1, 22, [(3, .inr 244, .inl 0), (0, .inl 1, .inl 0), (0, .inl 0, .inl 0), (0, .inl 256, .inl 0)], ([], []), [], [], [(244, 8, 8), (244, 13, 13)], [(.inl (some (0, .inl 0, .inl 0)), 0, 0, ([], []), [], []), (.inl (some (0, .inl 1, .inl 0)), 0, 0, ([(0, 256)], [[(256, []), ((-1), [0])], [(1, [0]), (0, [])]]), [((244, 13), (0, .inr 0, .inl 0))], [])])
set_option maxRecDepth 100000 in
noncomputable def sz_u916 : List sy_Cut := [(5, [(0, (3, .inr 244, .inl 0)), (1, (0, .inl 1, .inl 0)), (2, (0, .inl 0, .inl 0)), (3, (0, .inl 256, .inl 0)), (4, (0, .inr 0, .inl 0)), (5, (0, .inr 1, .inl 0))], ([(0, 400), (0, 400), ((-2147483648), 2147483647), (0, 400)], []), [((244, 8), (0, .inr 2, .inl 0)), ((244, 9), (0, .inr 3, .inl 0))], [], [(400, []), ((-1), [2])])]
set_option maxRecDepth 100000 in
noncomputable def sz_h916_0 : List sy_Hn := [(5, 4, 244, 9, 0, 0, [], [], []),
  (0, 30, 0, 0, 0, 0, [([0], [(1, [0]), (1, [2])]), ([], [])], [], [])]
set_option maxRecDepth 100000 in
theorem sz_s916_0 : sy_seg sz_E sz_T sz_RU [] sz_c916 sz_u916 ri_m_X11_figures 13 none sz_h916_0 = true := by decide +kernel
set_option maxRecDepth 100000 in
noncomputable def sz_h916_1 : List sy_Hn := [(0, 31, 0, 0, 0, 0, [], [], []),
  (0, 31, 0, 0, 0, 0, [], [], []),
  (0, 31, 0, 0, 0, 0, [], [], []),
  (0, 31, 0, 0, 0, 0, [], [], []),
  (0, 31, 1, 0, 0, 0, [([4], [(1, [0]), (1, [2])]), ([4], [(1, [0]), (1, [1])])], [], []),
  (0, 31, 0, 0, 0, 0, [], [], []),
  (0, 31, 0, 0, 0, 0, [], [], []),
  (0, 31, 0, 0, 0, 0, [], [], []),
  (0, 31, 0, 0, 0, 0, [], [], []),
  (0, 31, 1, 0, 0, 0, [([5], [(1, [0]), (1, [2])]), ([5], [(1, [0]), (1, [1])])], [], []),
  (0, 31, 0, 0, 0, 0, [], [], []),
  (0, 31, 0, 0, 0, 0, [], [], []),
  (0, 31, 0, 0, 0, 0, [], [], []),
  (0, 31, 0, 0, 0, 0, [], [], []),
  (0, 31, 1, 0, 0, 0, [([6], [(1, [0]), (1, [2])]), ([6], [(1, [0]), (1, [1])])], [], []),
  (0, 30, 0, 0, 0, 0, [([7], [(1, [0]), (1, [2])]), ([], [(1, [0]), (1, [1])])], [], []),
  (0, 30, 0, 0, 0, 0, [([11], [(1, [0]), (1, [2])]), ([], [(1, [0]), (1, [1])])], [], [])]
set_option maxRecDepth 100000 in
theorem sz_s916_1 : sy_seg sz_E sz_T sz_RU [] sz_c916 sz_u916 ri_m_X11_figures 275 (some ((5, [(0, (3, .inr 244, .inl 0)), (1, (0, .inl 1, .inl 0)), (2, (0, .inl 0, .inl 0)), (3, (0, .inl 256, .inl 0)), (4, (0, .inr 0, .inl 0)), (5, (0, .inr 1, .inl 0))], ([(0, 400), (0, 400), ((-2147483648), 2147483647), (0, 400)], []), [((244, 8), (0, .inr 2, .inl 0)), ((244, 9), (0, .inr 3, .inl 0))], [], [(400, []), ((-1), [2])]))) sz_h916_1 = true := by decide +kernel
theorem sz_ok916 (xs : Nat → Value) (L : Nat) : sy_Cok (sz_env xs L) sz_T sz_RU sz_c916 := sy_chk_ok (CT := []) (CU := sz_u916) (M := ri_m_X11_figures) (fun _ h => absurd h List.not_mem_nil) rfl ⟨_, _, sz_s916_0⟩ (List.forall_mem_cons.mpr ⟨⟨_, _, sz_s916_1⟩, fun _ h => absurd h List.not_mem_nil⟩)

/-! X11_number [244, 0, 256] -/
set_option maxRecDepth 100000 in
noncomputable def sz_c917 : sy_Ct := (269, 2, 47, [(3, .inr 244, .inl 0), (0, .inl 0, .inl 0), (0, .inl 256, .inl 0)], ([], []), [], [], [(244, 8, 8), (244, 10, 10), (244, 13, 13)], [(.inl (some (0, .inl 0, .inl 0)), 0, 0, ([], []), [], []), (.inl (some (0, .inl 1, .inl 0)), 0, 0, ([(0, 256)], [[(256, []), ((-1), [0])], [(1, [0]), (0, [])]]), [((244, 13), (0, .inr 0, .inl 0))], [])])
set_option maxRecDepth 100000 in
noncomputable def sz_u917 : List sy_Cut := []
set_option maxRecDepth 100000 in
noncomputable def sz_h917_0 : List sy_Hn := [(2, 20, 0, 0, 0, 0, [], [], []),
  (5, 20, 1, 0, 0, 0, [], [], []),
  (0, 31, 0, 0, 0, 0, [], [], []),
  (0, 31, 1, 0, 0, 0, [([0], [(1, [0]), (1, [2])]), ([0], [(1, [0]), (1, [1])])], [], [])]
set_option maxRecDepth 100000 in
theorem sz_s917_0 : sy_seg sz_E sz_T sz_RU [sz_c262, sz_c916] sz_c917 sz_u917 ri_m_X11_number 18 none sz_h917_0 = true := by decide +kernel
theorem sz_ok917 (xs : Nat → Value) (L : Nat) : sy_Cok (sz_env xs L) sz_T sz_RU sz_c917 := sy_chk_ok (CT := [sz_c262, sz_c916]) (CU := sz_u917) (M := ri_m_X11_number) (List.forall_mem_cons.mpr ⟨sz_ok262 xs L, List.forall_mem_cons.mpr ⟨sz_ok916 xs L, fun _ h => absurd h List.not_mem_nil⟩⟩) rfl ⟨_, _, sz_s917_0⟩ (fun _ h => absurd h List.not_mem_nil)

/-! X11_mayBe [244, 1000044, 256, 0, 21] -/
set_option maxRecDepth 100000 in
noncomputable def sz_c918 : sy_Ct := (268, 6, 129, [(3, .inr 244, .inl 0), (3, .inr 1000044, .inl 0), (0, .inl 256, .inl 0), (0, .inr 0, .inl 0), (0, .inl 21, .inl 0)], ([(0, 3)], []), [], [], [(244, 8, 8), (244, 10, 10), (244, 13, 13), (245, 26, 26), (245, 103, 103), (245, 180, 180), (245, 257, 257)], [(.inl (some (0, .inr 1, .inl 0)), 0, 0, ([(0, 1), (0, 3)], []), [], [])])
set_option maxRecDepth 100000 in
noncomputable def sz_u918 : List sy_Cut := []
set_option maxRecDepth 100000 in
noncomputable def sz_h918_0 : List sy_Hn := [(3, 20, 0, 0, 0, 0, [], [], []),
  (5, 20, 1, 0, 0, 0, [], [], []),
  (0, 31, 0, 0, 0, 0, [], [], []),
  (16, 1, 0, 0, 0, 0, [], [], []),
  (0, 31, 0, 0, 0, 0, [], [], []),
  (0, 1, 0, 0, 1, 0, [], [], []),
  (0, 31, 0, 0, 0, 0, [], [], []),
  (0, 1, 0, 0, 2, 0, [], [], []),
  (0, 31, 0, 0, 0, 0, [], [], []),
  (0, 31, 0, 0, 0, 0, [], [], []),
  (0, 31, 0, 0, 0, 0, [], [], [])]
set_option maxRecDepth 100000 in
theorem sz_s918_0 : sy_seg sz_E sz_T sz_RU [sz_c915, sz_c917] sz_c918 sz_u918 ri_m_X11_mayBe 88 none sz_h918_0 = true := by decide +kernel
theorem sz_ok918 (xs : Nat → Value) (L : Nat) : sy_Cok (sz_env xs L) sz_T sz_RU sz_c918 := sy_chk_ok (CT := [sz_c915, sz_c917]) (CU := sz_u918) (M := ri_m_X11_mayBe) (List.forall_mem_cons.mpr ⟨sz_ok915 xs L, List.forall_mem_cons.mpr ⟨sz_ok917 xs L, fun _ h => absurd h List.not_mem_nil⟩⟩) rfl ⟨_, _, sz_s918_0⟩ (fun _ h => absurd h List.not_mem_nil)

/-! X11_isWord [244, 1000045] -/
set_option maxRecDepth 100000 in
noncomputable def sz_c919 : sy_Ct := (210, 4, 85, [(3, .inr 244, .inl 0), (3, .inr 1000045, .inl 0)], ([], []), [], [], [], [(.inl (some (0, .inr 0, .inl 0)), 0, 0, ([(0, 1)], []), [], [])])
set_option maxRecDepth 100000 in
noncomputable def sz_u919 : List sy_Cut := []
set_option maxRecDepth 100000 in
noncomputable def sz_h919_0 : List sy_Hn := [(0, 31, 0, 0, 0, 0, [], [], []),
  (30, 3, 3, 0, 0, 399, [([3], [(1, [0]), (1, [1])]), ([0, 2], [(1, [0]), (1, [6]), (1, [8]), (1, [2]), (1, [3])])], [], []),
  (0, 31, 0, 0, 0, 0, [], [], []),
  (0, 31, 0, 0, 0, 0, [], [], [])]
set_option maxRecDepth 100000 in
theorem sz_s919_0 : sy_seg sz_E sz_T sz_RU [] sz_c919 sz_u919 ri_m_X11_isWord 147 none sz_h919_0 = true := by decide +kernel
theorem sz_ok919 (xs : Nat → Value) (L : Nat) : sy_Cok (sz_env xs L) sz_T sz_RU sz_c919 := sy_chk_ok (CT := []) (CU := sz_u919) (M := ri_m_X11_isWord) (fun _ h => absurd h List.not_mem_nil) rfl ⟨_, _, sz_s919_0⟩ (fun _ h => absurd h List.not_mem_nil)

/-! X11_passes [244, 1000045] -/
set_option maxRecDepth 100000 in
noncomputable def sz_c920 : sy_Ct := (270, 5, 108, [(3, .inr 244, .inl 0), (3, .inr 1000045, .inl 0)], ([], []), [], [], [(244, 8, 8), (244, 10, 10)], [(.inl (some (0, .inr 0, .inl 0)), 0, 0, ([(0, 1)], []), [], [])])
set_option maxRecDepth 100000 in
noncomputable def sz_u920 : List sy_Cut := []
set_option maxRecDepth 100000 in
noncomputable def sz_h920_0 : List sy_Hn := [(2, 20, 0, 0, 0, 0, [], [], []),
  (3, 20, 1, 0, 0, 0, [], [], []),
  (0, 31, 0, 0, 0, 0, [], [], []),
  (0, 31, 0, 0, 0, 0, [], [], [])]
set_option maxRecDepth 100000 in
theorem sz_s920_0 : sy_seg sz_E sz_T sz_RU [sz_c263, sz_c919] sz_c920 sz_u920 ri_m_X11_passes 23 none sz_h920_0 = true := by decide +kernel
theorem sz_ok920 (xs : Nat → Value) (L : Nat) : sy_Cok (sz_env xs L) sz_T sz_RU sz_c920 := sy_chk_ok (CT := [sz_c263, sz_c919]) (CU := sz_u920) (M := ri_m_X11_passes) (List.forall_mem_cons.mpr ⟨sz_ok263 xs L, List.forall_mem_cons.mpr ⟨sz_ok919 xs L, fun _ h => absurd h List.not_mem_nil⟩⟩) rfl ⟨_, _, sz_s920_0⟩ (fun _ h => absurd h List.not_mem_nil)

/-! X11_mayBe [244, 1000045, 256, 0, 22] -/
set_option maxRecDepth 100000 in
noncomputable def sz_c921 : sy_Ct := (268, 6, 129, [(3, .inr 244, .inl 0), (3, .inr 1000045, .inl 0), (0, .inl 256, .inl 0), (0, .inr 0, .inl 0), (0, .inl 22, .inl 0)], ([(0, 3)], []), [], [], [(244, 8, 8), (244, 10, 10), (244, 13, 13), (245, 27, 27), (245, 104, 104), (245, 181, 181), (245, 258, 258)], [(.inl (some (0, .inr 1, .inl 0)), 0, 0, ([(0, 1), (0, 3)], []), [], [])])
set_option maxRecDepth 100000 in
noncomputable def sz_u921 : List sy_Cut := []
set_option maxRecDepth 100000 in
noncomputable def sz_h921_0 : List sy_Hn := [(3, 20, 1, 0, 0, 0, [], [], []),
  (5, 20, 0, 0, 0, 0, [], [], []),
  (0, 31, 0, 0, 0, 0, [], [], []),
  (16, 1, 0, 0, 0, 0, [], [], []),
  (0, 31, 0, 0, 0, 0, [], [], []),
  (0, 1, 0, 0, 1, 0, [], [], []),
  (0, 31, 0, 0, 0, 0, [], [], []),
  (0, 1, 0, 0, 2, 0, [], [], []),
  (0, 31, 0, 0, 0, 0, [], [], []),
  (0, 31, 0, 0, 0, 0, [], [], []),
  (0, 31, 0, 0, 0, 0, [], [], [])]
set_option maxRecDepth 100000 in
theorem sz_s921_0 : sy_seg sz_E sz_T sz_RU [sz_c917, sz_c920] sz_c921 sz_u921 ri_m_X11_mayBe 88 none sz_h921_0 = true := by decide +kernel
theorem sz_ok921 (xs : Nat → Value) (L : Nat) : sy_Cok (sz_env xs L) sz_T sz_RU sz_c921 := sy_chk_ok (CT := [sz_c917, sz_c920]) (CU := sz_u921) (M := ri_m_X11_mayBe) (List.forall_mem_cons.mpr ⟨sz_ok917 xs L, List.forall_mem_cons.mpr ⟨sz_ok920 xs L, fun _ h => absurd h List.not_mem_nil⟩⟩) rfl ⟨_, _, sz_s921_0⟩ (fun _ h => absurd h List.not_mem_nil)

/-! X11_isWord [244, 1000046] -/
set_option maxRecDepth 100000 in
noncomputable def sz_c922 : sy_Ct := (210, 4, 85, [(3, .inr 244, .inl 0), (3, .inr 1000046, .inl 0)], ([], []), [], [], [], [(.inl (some (0, .inr 0, .inl 0)), 0, 0, ([(0, 1)], []), [], [])])
set_option maxRecDepth 100000 in
noncomputable def sz_u922 : List sy_Cut := []
set_option maxRecDepth 100000 in
noncomputable def sz_h922_0 : List sy_Hn := [(0, 31, 0, 0, 0, 0, [], [], []),
  (30, 3, 3, 0, 0, 399, [([3], [(1, [0]), (1, [1])]), ([0, 2], [(1, [0]), (1, [6]), (1, [8]), (1, [2]), (1, [3])])], [], []),
  (0, 31, 0, 0, 0, 0, [], [], []),
  (30, 3, 8, 0, 1, 399, [([8], [(1, [0]), (1, [1])]), ([0, 2], [(1, [0]), (1, [6]), (1, [12]), (1, [2]), (1, [3])])], [], []),
  (0, 31, 0, 0, 0, 0, [], [], []),
  (30, 3, 13, 0, 2, 399, [([13], [(1, [0]), (1, [1])]), ([0, 2], [(1, [0]), (1, [6]), (1, [16]), (1, [2]), (1, [3])])], [], []),
  (0, 31, 0, 0, 0, 0, [], [], []),
  (30, 3, 18, 0, 3, 399, [([18], [(1, [0]), (1, [1])]), ([0, 2], [(1, [0]), (1, [6]), (1, [20]), (1, [2]), (1, [3])])], [], []),
  (0, 31, 0, 0, 0, 0, [], [], []),
  (30, 3, 23, 0, 4, 399, [([23], [(1, [0]), (1, [1])]), ([0, 2], [(1, [0]), (1, [6]), (1, [24]), (1, [2]), (1, [3])])], [], []),
  (0, 31, 0, 0, 0, 0, [], [], []),
  (30, 3, 28, 0, 5, 399, [([28], [(1, [0]), (1, [1])]), ([0, 2], [(1, [0]), (1, [6]), (1, [28]), (1, [2]), (1, [3])])], [], []),
  (0, 31, 0, 0, 0, 0, [], [], []),
  (0, 31, 0, 0, 0, 0, [], [], [])]
set_option maxRecDepth 100000 in
theorem sz_s922_0 : sy_seg sz_E sz_T sz_RU [] sz_c922 sz_u922 ri_m_X11_isWord 572 none sz_h922_0 = true := by decide +kernel
theorem sz_ok922 (xs : Nat → Value) (L : Nat) : sy_Cok (sz_env xs L) sz_T sz_RU sz_c922 := sy_chk_ok (CT := []) (CU := sz_u922) (M := ri_m_X11_isWord) (fun _ h => absurd h List.not_mem_nil) rfl ⟨_, _, sz_s922_0⟩ (fun _ h => absurd h List.not_mem_nil)

/-! X11_passes [244, 1000046] -/
set_option maxRecDepth 100000 in
noncomputable def sz_c923 : sy_Ct := (270, 5, 108, [(3, .inr 244, .inl 0), (3, .inr 1000046, .inl 0)], ([], []), [], [], [(244, 8, 8), (244, 10, 10)], [(.inl (some (0, .inr 0, .inl 0)), 0, 0, ([(0, 1)], []), [], [])])
set_option maxRecDepth 100000 in
noncomputable def sz_u923 : List sy_Cut := []
set_option maxRecDepth 100000 in
noncomputable def sz_h923_0 : List sy_Hn := [(2, 20, 0, 0, 0, 0, [], [], []),
  (3, 20, 1, 0, 0, 0, [], [], []),
  (0, 31, 0, 0, 0, 0, [], [], []),
  (0, 31, 0, 0, 0, 0, [], [], [])]
set_option maxRecDepth 100000 in
theorem sz_s923_0 : sy_seg sz_E sz_T sz_RU [sz_c263, sz_c922] sz_c923 sz_u923 ri_m_X11_passes 23 none sz_h923_0 = true := by decide +kernel
theorem sz_ok923 (xs : Nat → Value) (L : Nat) : sy_Cok (sz_env xs L) sz_T sz_RU sz_c923 := sy_chk_ok (CT := [sz_c263, sz_c922]) (CU := sz_u923) (M := ri_m_X11_passes) (List.forall_mem_cons.mpr ⟨sz_ok263 xs L, List.forall_mem_cons.mpr ⟨sz_ok922 xs L, fun _ h => absurd h List.not_mem_nil⟩⟩) rfl ⟨_, _, sz_s923_0⟩ (fun _ h => absurd h List.not_mem_nil)

/-! X11_figures [244, 1, 0, 8] -/
set_option maxRecDepth 100000 in
noncomputable def sz_c924 : sy_Ct := (302, 1, 22, [(3, .inr 244, .inl 0), (0, .inl 1, .inl 0), (0, .inl 0, .inl 0), (0, .inl 8, .inl 0)], ([], []), [], [], [(244, 8, 8), (244, 13, 13)], [(.inl (some (0, .inl 0, .inl 0)), 0, 0, ([], []), [], []), (.inl (some (0, .inl 1, .inl 0)), 0, 0, ([(0, 8)], [[(8, []), ((-1), [0])], [(1, [0]), (0, [])]]), [((244, 13), (0, .inr 0, .inl 0))], [])])
set_option maxRecDepth 100000 in
noncomputable def sz_u924 : List sy_Cut := [(5, [(0, (3, .inr 244, .inl 0)), (1, (0, .inl 1, .inl 0)), (2, (0, .inl 0, .inl 0)), (3, (0, .inl 8, .inl 0)), (4, (0, .inr 0, .inl 0)), (5, (0, .inr 1, .inl 0))], ([(0, 400), (0, 400), ((-2147483648), 2147483647), (0, 400)], []), [((244, 8), (0, .inr 2, .inl 0)), ((244, 9), (0, .inr 3, .inl 0))], [], [(400, []), ((-1), [2])])]
set_option maxRecDepth 100000 in
noncomputable def sz_h924_0 : List sy_Hn := [(5, 4, 244, 9, 0, 0, [], [], []),
  (0, 30, 0, 0, 0, 0, [([0], [(1, [0]), (1, [2])]), ([], [])], [], [])]
set_option maxRecDepth 100000 in
theorem sz_s924_0 : sy_seg sz_E sz_T sz_RU [] sz_c924 sz_u924 ri_m_X11_figures 13 none sz_h924_0 = true := by decide +kernel
set_option maxRecDepth 100000 in
noncomputable def sz_h924_1 : List sy_Hn := [(0, 31, 0, 0, 0, 0, [], [], []),
  (0, 31, 0, 0, 0, 0, [], [], []),
  (0, 31, 0, 0, 0, 0, [], [], []),
  (0, 31, 0, 0, 0, 0, [], [], []),
  (0, 31, 1, 0, 0, 0, [([4], [(1, [0]), (1, [2])]), ([4], [(1, [0]), (1, [1])])], [], []),
  (0, 31, 0, 0, 0, 0, [], [], []),
  (0, 31, 0, 0, 0, 0, [], [], []),
  (0, 31, 0, 0, 0, 0, [], [], []),
  (0, 31, 0, 0, 0, 0, [], [], []),
  (0, 31, 1, 0, 0, 0, [([5], [(1, [0]), (1, [2])]), ([5], [(1, [0]), (1, [1])])], [], []),
  (0, 31, 0, 0, 0, 0, [], [], []),
  (0, 31, 0, 0, 0, 0, [], [], []),
  (0, 31, 0, 0, 0, 0, [], [], []),
  (0, 31, 0, 0, 0, 0, [], [], []),
  (0, 31, 1, 0, 0, 0, [([6], [(1, [0]), (1, [2])]), ([6], [(1, [0]), (1, [1])])], [], []),
  (0, 30, 0, 0, 0, 0, [([7], [(1, [0]), (1, [2])]), ([], [(1, [0]), (1, [1])])], [], []),
  (0, 30, 0, 0, 0, 0, [([11], [(1, [0]), (1, [2])]), ([], [(1, [0]), (1, [1])])], [], [])]
set_option maxRecDepth 100000 in
theorem sz_s924_1 : sy_seg sz_E sz_T sz_RU [] sz_c924 sz_u924 ri_m_X11_figures 275 (some ((5, [(0, (3, .inr 244, .inl 0)), (1, (0, .inl 1, .inl 0)), (2, (0, .inl 0, .inl 0)), (3, (0, .inl 8, .inl 0)), (4, (0, .inr 0, .inl 0)), (5, (0, .inr 1, .inl 0))], ([(0, 400), (0, 400), ((-2147483648), 2147483647), (0, 400)], []), [((244, 8), (0, .inr 2, .inl 0)), ((244, 9), (0, .inr 3, .inl 0))], [], [(400, []), ((-1), [2])]))) sz_h924_1 = true := by decide +kernel
theorem sz_ok924 (xs : Nat → Value) (L : Nat) : sy_Cok (sz_env xs L) sz_T sz_RU sz_c924 := sy_chk_ok (CT := []) (CU := sz_u924) (M := ri_m_X11_figures) (fun _ h => absurd h List.not_mem_nil) rfl ⟨_, _, sz_s924_0⟩ (List.forall_mem_cons.mpr ⟨⟨_, _, sz_s924_1⟩, fun _ h => absurd h List.not_mem_nil⟩)

/-! X11_number [244, 0, 8] -/
set_option maxRecDepth 100000 in
noncomputable def sz_c925 : sy_Ct := (269, 2, 47, [(3, .inr 244, .inl 0), (0, .inl 0, .inl 0), (0, .inl 8, .inl 0)], ([], []), [], [], [(244, 8, 8), (244, 10, 10), (244, 13, 13)], [(.inl (some (0, .inl 0, .inl 0)), 0, 0, ([], []), [], []), (.inl (some (0, .inl 1, .inl 0)), 0, 0, ([(0, 8)], [[(8, []), ((-1), [0])], [(1, [0]), (0, [])]]), [((244, 13), (0, .inr 0, .inl 0))], [])])
set_option maxRecDepth 100000 in
noncomputable def sz_u925 : List sy_Cut := []
set_option maxRecDepth 100000 in
noncomputable def sz_h925_0 : List sy_Hn := [(2, 20, 0, 0, 0, 0, [], [], []),
  (5, 20, 1, 0, 0, 0, [], [], []),
  (0, 31, 0, 0, 0, 0, [], [], []),
  (0, 31, 1, 0, 0, 0, [([0], [(1, [0]), (1, [2])]), ([0], [(1, [0]), (1, [1])])], [], [])]
set_option maxRecDepth 100000 in
theorem sz_s925_0 : sy_seg sz_E sz_T sz_RU [sz_c262, sz_c924] sz_c925 sz_u925 ri_m_X11_number 18 none sz_h925_0 = true := by decide +kernel
theorem sz_ok925 (xs : Nat → Value) (L : Nat) : sy_Cok (sz_env xs L) sz_T sz_RU sz_c925 := sy_chk_ok (CT := [sz_c262, sz_c924]) (CU := sz_u925) (M := ri_m_X11_number) (List.forall_mem_cons.mpr ⟨sz_ok262 xs L, List.forall_mem_cons.mpr ⟨sz_ok924 xs L, fun _ h => absurd h List.not_mem_nil⟩⟩) rfl ⟨_, _, sz_s925_0⟩ (fun _ h => absurd h List.not_mem_nil)

/-! X11_mayBe [244, 1000046, 8, 0, 23] -/
set_option maxRecDepth 100000 in
noncomputable def sz_c926 : sy_Ct := (268, 6, 129, [(3, .inr 244, .inl 0), (3, .inr 1000046, .inl 0), (0, .inl 8, .inl 0), (0, .inr 0, .inl 0), (0, .inl 23, .inl 0)], ([(0, 3)], []), [], [], [(244, 8, 8), (244, 10, 10), (244, 13, 13), (245, 28, 28), (245, 105, 105), (245, 182, 182), (245, 259, 259)], [(.inl (some (0, .inr 1, .inl 0)), 0, 0, ([(0, 1), (0, 3)], []), [], [])])
set_option maxRecDepth 100000 in
noncomputable def sz_u926 : List sy_Cut := []
set_option maxRecDepth 100000 in
noncomputable def sz_h926_0 : List sy_Hn := [(3, 20, 0, 0, 0, 0, [], [], []),
  (5, 20, 1, 0, 0, 0, [], [], []),
  (0, 31, 0, 0, 0, 0, [], [], []),
  (16, 1, 0, 0, 0, 0, [], [], []),
  (0, 31, 0, 0, 0, 0, [], [], []),
  (0, 1, 0, 0, 1, 0, [], [], []),
  (0, 31, 0, 0, 0, 0, [], [], []),
  (0, 1, 0, 0, 2, 0, [], [], []),
  (0, 31, 0, 0, 0, 0, [], [], []),
  (0, 31, 0, 0, 0, 0, [], [], []),
  (0, 31, 0, 0, 0, 0, [], [], [])]
set_option maxRecDepth 100000 in
theorem sz_s926_0 : sy_seg sz_E sz_T sz_RU [sz_c923, sz_c925] sz_c926 sz_u926 ri_m_X11_mayBe 88 none sz_h926_0 = true := by decide +kernel
theorem sz_ok926 (xs : Nat → Value) (L : Nat) : sy_Cok (sz_env xs L) sz_T sz_RU sz_c926 := sy_chk_ok (CT := [sz_c923, sz_c925]) (CU := sz_u926) (M := ri_m_X11_mayBe) (List.forall_mem_cons.mpr ⟨sz_ok923 xs L, List.forall_mem_cons.mpr ⟨sz_ok925 xs L, fun _ h => absurd h List.not_mem_nil⟩⟩) rfl ⟨_, _, sz_s926_0⟩ (fun _ h => absurd h List.not_mem_nil)

/-! X11_isWord [244, 1000047] -/
set_option maxRecDepth 100000 in
noncomputable def sz_c927 : sy_Ct := (210, 4, 85, [(3, .inr 244, .inl 0), (3, .inr 1000047, .inl 0)], ([], []), [], [], [], [(.inl (some (0, .inr 0, .inl 0)), 0, 0, ([(0, 1)], []), [], [])])
set_option maxRecDepth 100000 in
noncomputable def sz_u927 : List sy_Cut := []
set_option maxRecDepth 100000 in
noncomputable def sz_h927_0 : List sy_Hn := [(0, 31, 0, 0, 0, 0, [], [], []),
  (30, 3, 3, 0, 0, 399, [([3], [(1, [0]), (1, [1])]), ([0, 2], [(1, [0]), (1, [6]), (1, [8]), (1, [2]), (1, [3])])], [], []),
  (0, 31, 0, 0, 0, 0, [], [], []),
  (30, 3, 8, 0, 1, 399, [([8], [(1, [0]), (1, [1])]), ([0, 2], [(1, [0]), (1, [6]), (1, [12]), (1, [2]), (1, [3])])], [], []),
  (0, 31, 0, 0, 0, 0, [], [], []),
  (30, 3, 13, 0, 2, 399, [([13], [(1, [0]), (1, [1])]), ([0, 2], [(1, [0]), (1, [6]), (1, [16]), (1, [2]), (1, [3])])], [], []),
  (0, 31, 0, 0, 0, 0, [], [], []),
  (30, 3, 18, 0, 3, 399, [([18], [(1, [0]), (1, [1])]), ([0, 2], [(1, [0]), (1, [6]), (1, [20]), (1, [2]), (1, [3])])], [], []),
  (0, 31, 0, 0, 0, 0, [], [], []),
  (0, 31, 0, 0, 0, 0, [], [], [])]
set_option maxRecDepth 100000 in
theorem sz_s927_0 : sy_seg sz_E sz_T sz_RU [] sz_c927 sz_u927 ri_m_X11_isWord 402 none sz_h927_0 = true := by decide +kernel
theorem sz_ok927 (xs : Nat → Value) (L : Nat) : sy_Cok (sz_env xs L) sz_T sz_RU sz_c927 := sy_chk_ok (CT := []) (CU := sz_u927) (M := ri_m_X11_isWord) (fun _ h => absurd h List.not_mem_nil) rfl ⟨_, _, sz_s927_0⟩ (fun _ h => absurd h List.not_mem_nil)

/-! X11_passes [244, 1000047] -/
set_option maxRecDepth 100000 in
noncomputable def sz_c928 : sy_Ct := (270, 5, 108, [(3, .inr 244, .inl 0), (3, .inr 1000047, .inl 0)], ([], []), [], [], [(244, 8, 8), (244, 10, 10)], [(.inl (some (0, .inr 0, .inl 0)), 0, 0, ([(0, 1)], []), [], [])])
set_option maxRecDepth 100000 in
noncomputable def sz_u928 : List sy_Cut := []
set_option maxRecDepth 100000 in
noncomputable def sz_h928_0 : List sy_Hn := [(2, 20, 0, 0, 0, 0, [], [], []),
  (3, 20, 1, 0, 0, 0, [], [], []),
  (0, 31, 0, 0, 0, 0, [], [], []),
  (0, 31, 0, 0, 0, 0, [], [], [])]
set_option maxRecDepth 100000 in
theorem sz_s928_0 : sy_seg sz_E sz_T sz_RU [sz_c263, sz_c927] sz_c928 sz_u928 ri_m_X11_passes 23 none sz_h928_0 = true := by decide +kernel
theorem sz_ok928 (xs : Nat → Value) (L : Nat) : sy_Cok (sz_env xs L) sz_T sz_RU sz_c928 := sy_chk_ok (CT := [sz_c263, sz_c927]) (CU := sz_u928) (M := ri_m_X11_passes) (List.forall_mem_cons.mpr ⟨sz_ok263 xs L, List.forall_mem_cons.mpr ⟨sz_ok927 xs L, fun _ h => absurd h List.not_mem_nil⟩⟩) rfl ⟨_, _, sz_s928_0⟩ (fun _ h => absurd h List.not_mem_nil)

/-! X11_mayBe [244, 1000047, 256, 0, 24] -/
set_option maxRecDepth 100000 in
noncomputable def sz_c929 : sy_Ct := (268, 6, 129, [(3, .inr 244, .inl 0), (3, .inr 1000047, .inl 0), (0, .inl 256, .inl 0), (0, .inr 0, .inl 0), (0, .inl 24, .inl 0)], ([(0, 3)], []), [], [], [(244, 8, 8), (244, 10, 10), (244, 13, 13), (245, 29, 29), (245, 106, 106), (245, 183, 183), (245, 260, 260)], [(.inl (some (0, .inr 1, .inl 0)), 0, 0, ([(0, 1), (0, 3)], []), [], [])])
set_option maxRecDepth 100000 in
noncomputable def sz_u929 : List sy_Cut := []
set_option maxRecDepth 100000 in
noncomputable def sz_h929_0 : List sy_Hn := [(3, 20, 1, 0, 0, 0, [], [], []),
  (5, 20, 0, 0, 0, 0, [], [], []),
  (0, 31, 0, 0, 0, 0, [], [], []),
  (16, 1, 0, 0, 0, 0, [], [], []),
  (0, 31, 0, 0, 0, 0, [], [], []),
  (0, 1, 0, 0, 1, 0, [], [], []),
  (0, 31, 0, 0, 0, 0, [], [], []),
  (0, 1, 0, 0, 2, 0, [], [], []),
  (0, 31, 0, 0, 0, 0, [], [], []),
  (0, 31, 0, 0, 0, 0, [], [], []),
  (0, 31, 0, 0, 0, 0, [], [], [])]
set_option maxRecDepth 100000 in
theorem sz_s929_0 : sy_seg sz_E sz_T sz_RU [sz_c917, sz_c928] sz_c929 sz_u929 ri_m_X11_mayBe 88 none sz_h929_0 = true := by decide +kernel
theorem sz_ok929 (xs : Nat → Value) (L : Nat) : sy_Cok (sz_env xs L) sz_T sz_RU sz_c929 := sy_chk_ok (CT := [sz_c917, sz_c928]) (CU := sz_u929) (M := ri_m_X11_mayBe) (List.forall_mem_cons.mpr ⟨sz_ok917 xs L, List.forall_mem_cons.mpr ⟨sz_ok928 xs L, fun _ h => absurd h List.not_mem_nil⟩⟩) rfl ⟨_, _, sz_s929_0⟩ (fun _ h => absurd h List.not_mem_nil)

/-! X11_isWord [244, 1000048] -/
set_option maxRecDepth 100000 in
noncomputable def sz_c930 : sy_Ct := (210, 4, 85, [(3, .inr 244, .inl 0), (3, .inr 1000048, .inl 0)], ([], []), [], [], [], [(.inl (some (0, .inr 0, .inl 0)), 0, 0, ([(0, 1)], []), [], [])])
set_option maxRecDepth 100000 in
noncomputable def sz_u930 : List sy_Cut := []
set_option maxRecDepth 100000 in
noncomputable def sz_h930_0 : List sy_Hn := [(0, 31, 0, 0, 0, 0, [], [], []),
  (30, 3, 3, 0, 0, 399, [([3], [(1, [0]), (1, [1])]), ([0, 2], [(1, [0]), (1, [6]), (1, [8]), (1, [2]), (1, [3])])], [], []),
  (0, 31, 0, 0, 0, 0, [], [], []),
  (30, 3, 8, 0, 1, 399, [([8], [(1, [0]), (1, [1])]), ([0, 2], [(1, [0]), (1, [6]), (1, [12]), (1, [2]), (1, [3])])], [], []),
  (0, 31, 0, 0, 0, 0, [], [], []),
  (30, 3, 13, 0, 2, 399, [([13], [(1, [0]), (1, [1])]), ([0, 2], [(1, [0]), (1, [6]), (1, [16]), (1, [2]), (1, [3])])], [], []),
  (0, 31, 0, 0, 0, 0, [], [], []),
  (30, 3, 18, 0, 3, 399, [([18], [(1, [0]), (1, [1])]), ([0, 2], [(1, [0]), (1, [6]), (1, [20]), (1, [2]), (1, [3])])], [], []),
  (0, 31, 0, 0, 0, 0, [], [], []),
  (30, 3, 23, 0, 4, 399, [([23], [(1, [0]), (1, [1])]), ([0, 2], [(1, [0]), (1, [6]), (1, [24]), (1, [2]), (1, [3])])], [], []),
  (0, 31, 0, 0, 0, 0, [], [], []),
  (0, 31, 0, 0, 0, 0, [], [], [])]
set_option maxRecDepth 100000 in
theorem sz_s930_0 : sy_seg sz_E sz_T sz_RU [] sz_c930 sz_u930 ri_m_X11_isWord 487 none sz_h930_0 = true := by decide +kernel
theorem sz_ok930 (xs : Nat → Value) (L : Nat) : sy_Cok (sz_env xs L) sz_T sz_RU sz_c930 := sy_chk_ok (CT := []) (CU := sz_u930) (M := ri_m_X11_isWord) (fun _ h => absurd h List.not_mem_nil) rfl ⟨_, _, sz_s930_0⟩ (fun _ h => absurd h List.not_mem_nil)

/-! X11_passes [244, 1000048] -/
set_option maxRecDepth 100000 in
noncomputable def sz_c931 : sy_Ct := (270, 5, 108, [(3, .inr 244, .inl 0), (3, .inr 1000048, .inl 0)], ([], []), [], [], [(244, 8, 8), (244, 10, 10)], [(.inl (some (0, .inr 0, .inl 0)), 0, 0, ([(0, 1)], []), [], [])])
set_option maxRecDepth 100000 in
noncomputable def sz_u931 : List sy_Cut := []
set_option maxRecDepth 100000 in
noncomputable def sz_h931_0 : List sy_Hn := [(2, 20, 0, 0, 0, 0, [], [], []),
  (3, 20, 1, 0, 0, 0, [], [], []),
  (0, 31, 0, 0, 0, 0, [], [], []),
  (0, 31, 0, 0, 0, 0, [], [], [])]
set_option maxRecDepth 100000 in
theorem sz_s931_0 : sy_seg sz_E sz_T sz_RU [sz_c263, sz_c930] sz_c931 sz_u931 ri_m_X11_passes 23 none sz_h931_0 = true := by decide +kernel
theorem sz_ok931 (xs : Nat → Value) (L : Nat) : sy_Cok (sz_env xs L) sz_T sz_RU sz_c931 := sy_chk_ok (CT := [sz_c263, sz_c930]) (CU := sz_u931) (M := ri_m_X11_passes) (List.forall_mem_cons.mpr ⟨sz_ok263 xs L, List.forall_mem_cons.mpr ⟨sz_ok930 xs L, fun _ h => absurd h List.not_mem_nil⟩⟩) rfl ⟨_, _, sz_s931_0⟩ (fun _ h => absurd h List.not_mem_nil)

/-! X11_figures [244, 1, 0, 99] -/
set_option maxRecDepth 100000 in
noncomputable def sz_c932 : sy_Ct := (302, 1, 22, [(3, .inr 244, .inl 0), (0, .inl 1, .inl 0), (0, .inl 0, .inl 0), (0, .inl 99, .inl 0)], ([], []), [], [], [(244, 8, 8), (244, 13, 13)], [(.inl (some (0, .inl 0, .inl 0)), 0, 0, ([], []), [], []), (.inl (some (0, .inl 1, .inl 0)), 0, 0, ([(0, 100)], [[(99, []), ((-1), [0])], [(1, [0]), (0, [])]]), [((244, 13), (0, .inr 0, .inl 0))], [])])
set_option maxRecDepth 100000 in
noncomputable def sz_u932 : List sy_Cut := [(5, [(0, (3, .inr 244, .inl 0)), (1, (0, .inl 1, .inl 0)), (2, (0, .inl 0, .inl 0)), (3, (0, .inl 99, .inl 0)), (4, (0, .inr 0, .inl 0)), (5, (0, .inr 1, .inl 0))], ([(0, 400), (0, 400), ((-2147483648), 2147483647), (0, 400)], []), [((244, 8), (0, .inr 2, .inl 0)), ((244, 9), (0, .inr 3, .inl 0))], [], [(400, []), ((-1), [2])])]
set_option maxRecDepth 100000 in
noncomputable def sz_h932_0 : List sy_Hn := [(5, 4, 244, 9, 0, 0, [], [], []),
  (0, 30, 0, 0, 0, 0, [([0], [(1, [0]), (1, [2])]), ([], [])], [], [])]
set_option maxRecDepth 100000 in
theorem sz_s932_0 : sy_seg sz_E sz_T sz_RU [] sz_c932 sz_u932 ri_m_X11_figures 13 none sz_h932_0 = true := by decide +kernel
set_option maxRecDepth 100000 in
noncomputable def sz_h932_1 : List sy_Hn := [(0, 31, 0, 0, 0, 0, [], [], []),
  (0, 31, 0, 0, 0, 0, [], [], []),
  (0, 31, 0, 0, 0, 0, [], [], []),
  (0, 31, 0, 0, 0, 0, [], [], []),
  (0, 31, 1, 0, 0, 0, [([4], [(1, [0]), (1, [2])]), ([4], [(1, [0]), (1, [1])])], [], []),
  (0, 31, 0, 0, 0, 0, [], [], []),
  (0, 31, 0, 0, 0, 0, [], [], []),
  (0, 31, 0, 0, 0, 0, [], [], []),
  (0, 31, 0, 0, 0, 0, [], [], []),
  (0, 31, 1, 0, 0, 0, [([5], [(1, [0]), (1, [2])]), ([5], [(1, [0]), (1, [1])])], [], []),
  (0, 31, 0, 0, 0, 0, [], [], []),
  (0, 31, 0, 0, 0, 0, [], [], []),
  (0, 31, 0, 0, 0, 0, [], [], []),
  (0, 31, 0, 0, 0, 0, [], [], []),
  (0, 31, 1, 0, 0, 0, [([6], [(1, [0]), (1, [2])]), ([6], [(1, [0]), (1, [1])])], [], []),
  (0, 30, 0, 0, 0, 0, [([7], [(1, [0]), (1, [2])]), ([], [(1, [0]), (1, [1])])], [], []),
  (0, 30, 0, 0, 0, 0, [([11], [(1, [0]), (1, [2])]), ([], [(1, [0]), (1, [1])])], [], [])]
set_option maxRecDepth 100000 in
theorem sz_s932_1 : sy_seg sz_E sz_T sz_RU [] sz_c932 sz_u932 ri_m_X11_figures 275 (some ((5, [(0, (3, .inr 244, .inl 0)), (1, (0, .inl 1, .inl 0)), (2, (0, .inl 0, .inl 0)), (3, (0, .inl 99, .inl 0)), (4, (0, .inr 0, .inl 0)), (5, (0, .inr 1, .inl 0))], ([(0, 400), (0, 400), ((-2147483648), 2147483647), (0, 400)], []), [((244, 8), (0, .inr 2, .inl 0)), ((244, 9), (0, .inr 3, .inl 0))], [], [(400, []), ((-1), [2])]))) sz_h932_1 = true := by decide +kernel
theorem sz_ok932 (xs : Nat → Value) (L : Nat) : sy_Cok (sz_env xs L) sz_T sz_RU sz_c932 := sy_chk_ok (CT := []) (CU := sz_u932) (M := ri_m_X11_figures) (fun _ h => absurd h List.not_mem_nil) rfl ⟨_, _, sz_s932_0⟩ (List.forall_mem_cons.mpr ⟨⟨_, _, sz_s932_1⟩, fun _ h => absurd h List.not_mem_nil⟩)

/-! X11_number [244, 0, 99] -/
set_option maxRecDepth 100000 in
noncomputable def sz_c933 : sy_Ct := (269, 2, 47, [(3, .inr 244, .inl 0), (0, .inl 0, .inl 0), (0, .inl 99, .inl 0)], ([], []), [], [], [(244, 8, 8), (244, 10, 10), (244, 13, 13)], [(.inl (some (0, .inl 0, .inl 0)), 0, 0, ([], []), [], []), (.inl (some (0, .inl 1, .inl 0)), 0, 0, ([(0, 100)], [[(99, []), ((-1), [0])], [(1, [0]), (0, [])]]), [((244, 13), (0, .inr 0, .inl 0))], [])])
set_option maxRecDepth 100000 in
noncomputable def sz_u933 : List sy_Cut := []
set_option maxRecDepth 100000 in
noncomputable def sz_h933_0 : List sy_Hn := [(2, 20, 0, 0, 0, 0, [], [], []),
  (5, 20, 1, 0, 0, 0, [], [], []),
  (0, 31, 0, 0, 0, 0, [], [], []),
  (0, 31, 1, 0, 0, 0, [([], [(1, [0]), (1, [2])]), ([0], [(1, [0]), (1, [1])])], [], [])]
set_option maxRecDepth 100000 in
theorem sz_s933_0 : sy_seg sz_E sz_T sz_RU [sz_c262, sz_c932] sz_c933 sz_u933 ri_m_X11_number 18 none sz_h933_0 = true := by decide +kernel
theorem sz_ok933 (xs : Nat → Value) (L : Nat) : sy_Cok (sz_env xs L) sz_T sz_RU sz_c933 := sy_chk_ok (CT := [sz_c262, sz_c932]) (CU := sz_u933) (M := ri_m_X11_number) (List.forall_mem_cons.mpr ⟨sz_ok262 xs L, List.forall_mem_cons.mpr ⟨sz_ok932 xs L, fun _ h => absurd h List.not_mem_nil⟩⟩) rfl ⟨_, _, sz_s933_0⟩ (fun _ h => absurd h List.not_mem_nil)

/-! X11_mayBe [244, 1000048, 99, 0, 25] -/
set_option maxRecDepth 100000 in
noncomputable def sz_c934 : sy_Ct := (268, 6, 129, [(3, .inr 244, .inl 0), (3, .inr 1000048, .inl 0), (0, .inl 99, .inl 0), (0, .inr 0, .inl 0), (0, .inl 25, .inl 0)], ([(0, 3)], []), [], [], [(244, 8, 8), (244, 10, 10), (244, 13, 13), (245, 30, 30), (245, 107, 107), (245, 184, 184), (245, 261, 261)], [(.inl (some (0, .inr 1, .inl 0)), 0, 0, ([(0, 1), (0, 3)], []), [], [])])
set_option maxRecDepth 100000 in
noncomputable def sz_u934 : List sy_Cut := []
set_option maxRecDepth 100000 in
noncomputable def sz_h934_0 : List sy_Hn := [(3, 20, 0, 0, 0, 0, [], [], []),
  (5, 20, 1, 0, 0, 0, [], [], []),
  (0, 31, 0, 0, 0, 0, [], [], []),
  (16, 1, 0, 0, 0, 0, [], [], []),
  (0, 31, 0, 0, 0, 0, [], [], []),
  (0, 1, 0, 0, 1, 0, [], [], []),
  (0, 31, 0, 0, 0, 0, [], [], []),
  (0, 1, 0, 0, 2, 0, [], [], []),
  (0, 31, 0, 0, 0, 0, [], [], []),
  (0, 31, 0, 0, 0, 0, [], [], []),
  (0, 31, 0, 0, 0, 0, [], [], [])]
set_option maxRecDepth 100000 in
theorem sz_s934_0 : sy_seg sz_E sz_T sz_RU [sz_c931, sz_c933] sz_c934 sz_u934 ri_m_X11_mayBe 88 none sz_h934_0 = true := by decide +kernel
theorem sz_ok934 (xs : Nat → Value) (L : Nat) : sy_Cok (sz_env xs L) sz_T sz_RU sz_c934 := sy_chk_ok (CT := [sz_c931, sz_c933]) (CU := sz_u934) (M := ri_m_X11_mayBe) (List.forall_mem_cons.mpr ⟨sz_ok931 xs L, List.forall_mem_cons.mpr ⟨sz_ok933 xs L, fun _ h => absurd h List.not_mem_nil⟩⟩) rfl ⟨_, _, sz_s934_0⟩ (fun _ h => absurd h List.not_mem_nil)

/-! X11_isWord [244, 1000049] -/
set_option maxRecDepth 100000 in
noncomputable def sz_c935 : sy_Ct := (210, 4, 85, [(3, .inr 244, .inl 0), (3, .inr 1000049, .inl 0)], ([], []), [], [], [], [(.inl (some (0, .inr 0, .inl 0)), 0, 0, ([(0, 1)], []), [], [])])
set_option maxRecDepth 100000 in
noncomputable def sz_u935 : List sy_Cut := []
set_option maxRecDepth 100000 in
noncomputable def sz_h935_0 : List sy_Hn := [(0, 31, 0, 0, 0, 0, [], [], []),
  (30, 3, 3, 0, 0, 399, [([3], [(1, [0]), (1, [1])]), ([0, 2], [(1, [0]), (1, [6]), (1, [8]), (1, [2]), (1, [3])])], [], []),
  (0, 31, 0, 0, 0, 0, [], [], []),
  (30, 3, 8, 0, 1, 399, [([8], [(1, [0]), (1, [1])]), ([0, 2], [(1, [0]), (1, [6]), (1, [12]), (1, [2]), (1, [3])])], [], []),
  (0, 31, 0, 0, 0, 0, [], [], []),
  (30, 3, 13, 0, 2, 399, [([13], [(1, [0]), (1, [1])]), ([0, 2], [(1, [0]), (1, [6]), (1, [16]), (1, [2]), (1, [3])])], [], []),
  (0, 31, 0, 0, 0, 0, [], [], []),
  (30, 3, 18, 0, 3, 399, [([18], [(1, [0]), (1, [1])]), ([0, 2], [(1, [0]), (1, [6]), (1, [20]), (1, [2]), (1, [3])])], [], []),
  (0, 31, 0, 0, 0, 0, [], [], []),
  (0, 31, 0, 0, 0, 0, [], [], [])]
set_option maxRecDepth 100000 in
theorem sz_s935_0 : sy_seg sz_E sz_T sz_RU [] sz_c935 sz_u935 ri_m_X11_isWord 402 none sz_h935_0 = true := by decide +kernel
theorem sz_ok935 (xs : Nat → Value) (L : Nat) : sy_Cok (sz_env xs L) sz_T sz_RU sz_c935 := sy_chk_ok (CT := []) (CU := sz_u935) (M := ri_m_X11_isWord) (fun _ h => absurd h List.not_mem_nil) rfl ⟨_, _, sz_s935_0⟩ (fun _ h => absurd h List.not_mem_nil)

/-! X11_passes [244, 1000049] -/
set_option maxRecDepth 100000 in
noncomputable def sz_c936 : sy_Ct := (270, 5, 108, [(3, .inr 244, .inl 0), (3, .inr 1000049, .inl 0)], ([], []), [], [], [(244, 8, 8), (244, 10, 10)], [(.inl (some (0, .inr 0, .inl 0)), 0, 0, ([(0, 1)], []), [], [])])
set_option maxRecDepth 100000 in
noncomputable def sz_u936 : List sy_Cut := []
set_option maxRecDepth 100000 in
noncomputable def sz_h936_0 : List sy_Hn := [(2, 20, 0, 0, 0, 0, [], [], []),
  (3, 20, 1, 0, 0, 0, [], [], []),
  (0, 31, 0, 0, 0, 0, [], [], []),
  (0, 31, 0, 0, 0, 0, [], [], [])]
set_option maxRecDepth 100000 in
theorem sz_s936_0 : sy_seg sz_E sz_T sz_RU [sz_c263, sz_c935] sz_c936 sz_u936 ri_m_X11_passes 23 none sz_h936_0 = true := by decide +kernel
theorem sz_ok936 (xs : Nat → Value) (L : Nat) : sy_Cok (sz_env xs L) sz_T sz_RU sz_c936 := sy_chk_ok (CT := [sz_c263, sz_c935]) (CU := sz_u936) (M := ri_m_X11_passes) (List.forall_mem_cons.mpr ⟨sz_ok263 xs L, List.forall_mem_cons.mpr ⟨sz_ok935 xs L, fun _ h => absurd h List.not_mem_nil⟩⟩) rfl ⟨_, _, sz_s936_0⟩ (fun _ h => absurd h List.not_mem_nil)

/-! X11_mayBe [244, 1000049, 99, 0, 26] -/
set_option maxRecDepth 100000 in
noncomputable def sz_c937 : sy_Ct := (268, 6, 129, [(3, .inr 244, .inl 0), (3, .inr 1000049, .inl 0), (0, .inl 99, .inl 0), (0, .inr 0, .inl 0), (0, .inl 26, .inl 0)], ([(0, 3)], []), [], [], [(244, 8, 8), (244, 10, 10), (244, 13, 13), (245, 31, 31), (245, 108, 108), (245, 185, 185), (245, 262, 262)], [(.inl (some (0, .inr 1, .inl 0)), 0, 0, ([(0, 1), (0, 3)], []), [], [])])
set_option maxRecDepth 100000 in
noncomputable def sz_u937 : List sy_Cut := []
set_option maxRecDepth 100000 in
noncomputable def sz_h937_0 : List sy_Hn := [(3, 20, 1, 0, 0, 0, [], [], []),
  (5, 20, 0, 0, 0, 0, [], [], []),
  (0, 31, 0, 0, 0, 0, [], [], []),
  (16, 1, 0, 0, 0, 0, [], [], []),
  (0, 31, 0, 0, 0, 0, [], [], []),
  (0, 1, 0, 0, 1, 0, [], [], []),
  (0, 31, 0, 0, 0, 0, [], [], []),
  (0, 1, 0, 0, 2, 0, [], [], []),
  (0, 31, 0, 0, 0, 0, [], [], []),
  (0, 31, 0, 0, 0, 0, [], [], []),
  (0, 31, 0, 0, 0, 0, [], [], [])]
set_option maxRecDepth 100000 in
theorem sz_s937_0 : sy_seg sz_E sz_T sz_RU [sz_c933, sz_c936] sz_c937 sz_u937 ri_m_X11_mayBe 88 none sz_h937_0 = true := by decide +kernel
theorem sz_ok937 (xs : Nat → Value) (L : Nat) : sy_Cok (sz_env xs L) sz_T sz_RU sz_c937 := sy_chk_ok (CT := [sz_c933, sz_c936]) (CU := sz_u937) (M := ri_m_X11_mayBe) (List.forall_mem_cons.mpr ⟨sz_ok933 xs L, List.forall_mem_cons.mpr ⟨sz_ok936 xs L, fun _ h => absurd h List.not_mem_nil⟩⟩) rfl ⟨_, _, sz_s937_0⟩ (fun _ h => absurd h List.not_mem_nil)

/-! X11_readLaw [244] -/
set_option maxRecDepth 100000 in
noncomputable def sz_c938 : sy_Ct := (212, 7, 153, [(3, .inr 244, .inl 0)], ([], []), [], [], [(244, 8, 8), (244, 10, 10), (244, 13, 13), (245, 26, 31), (245, 103, 108), (245, 180, 185), (245, 257, 262)], [(.inl (some (0, .inr 0, .inl 0)), 0, 0, ([(0, 1)], []), [], [])])
set_option maxRecDepth 100000 in
noncomputable def sz_u938 : List sy_Cut := []
set_option maxRecDepth 100000 in
noncomputable def sz_h938_0 : List sy_Hn := [(13, 20, 0, 0, 0, 0, [], [], []),
  (0, 31, 0, 0, 0, 0, [], [], []),
  (10, 20, 1, 0, 0, 0, [], [], []),
  (0, 31, 0, 0, 0, 0, [], [], []),
  (6, 20, 2, 0, 0, 0, [], [], []),
  (0, 31, 0, 0, 0, 0, [], [], []),
  (6, 20, 3, 0, 0, 0, [], [], []),
  (0, 31, 0, 0, 0, 0, [], [], []),
  (6, 20, 4, 0, 0, 0, [], [], []),
  (0, 31, 0, 0, 0, 0, [], [], []),
  (6, 20, 5, 0, 0, 0, [], [], []),
  (0, 31, 0, 0, 0, 0, [], [], []),
  (6, 20, 6, 0, 0, 0, [], [], []),
  (0, 31, 0, 0, 0, 0, [], [], []),
  (0, 31, 0, 0, 0, 0, [], [], [])]
set_option maxRecDepth 100000 in
theorem sz_s938_0 : sy_seg sz_E sz_T sz_RU [sz_c761, sz_c918, sz_c921, sz_c926, sz_c929, sz_c934, sz_c937] sz_c938 sz_u938 ri_m_X11_readLaw 97 none sz_h938_0 = true := by decide +kernel
theorem sz_ok938 (xs : Nat → Value) (L : Nat) : sy_Cok (sz_env xs L) sz_T sz_RU sz_c938 := sy_chk_ok (CT := [sz_c761, sz_c918, sz_c921, sz_c926, sz_c929, sz_c934, sz_c937]) (CU := sz_u938) (M := ri_m_X11_readLaw) (List.forall_mem_cons.mpr ⟨sz_ok761 xs L, List.forall_mem_cons.mpr ⟨sz_ok918 xs L, List.forall_mem_cons.mpr ⟨sz_ok921 xs L, List.forall_mem_cons.mpr ⟨sz_ok926 xs L, List.forall_mem_cons.mpr ⟨sz_ok929 xs L, List.forall_mem_cons.mpr ⟨sz_ok934 xs L, List.forall_mem_cons.mpr ⟨sz_ok937 xs L, fun _ h => absurd h List.not_mem_nil⟩⟩⟩⟩⟩⟩⟩) rfl ⟨_, _, sz_s938_0⟩ (fun _ h => absurd h List.not_mem_nil)

/-! X11_isWord [244, 1000034] -/
set_option maxRecDepth 100000 in
noncomputable def sz_c939 : sy_Ct := (210, 4, 85, [(3, .inr 244, .inl 0), (3, .inr 1000034, .inl 0)], ([], []), [], [], [], [(.inl (some (0, .inr 0, .inl 0)), 0, 0, ([(0, 1)], []), [], [])])
set_option maxRecDepth 100000 in
noncomputable def sz_u939 : List sy_Cut := []
set_option maxRecDepth 100000 in
noncomputable def sz_h939_0 : List sy_Hn := [(0, 31, 0, 0, 0, 0, [], [], []),
  (30, 3, 3, 0, 0, 399, [([3], [(1, [0]), (1, [1])]), ([0, 2], [(1, [0]), (1, [6]), (1, [8]), (1, [2]), (1, [3])])], [], []),
  (0, 31, 0, 0, 0, 0, [], [], []),
  (30, 3, 8, 0, 1, 399, [([8], [(1, [0]), (1, [1])]), ([0, 2], [(1, [0]), (1, [6]), (1, [12]), (1, [2]), (1, [3])])], [], []),
  (0, 31, 0, 0, 0, 0, [], [], []),
  (30, 3, 13, 0, 2, 399, [([13], [(1, [0]), (1, [1])]), ([0, 2], [(1, [0]), (1, [6]), (1, [16]), (1, [2]), (1, [3])])], [], []),
  (0, 31, 0, 0, 0, 0, [], [], []),
  (0, 31, 0, 0, 0, 0, [], [], [])]
set_option maxRecDepth 100000 in
theorem sz_s939_0 : sy_seg sz_E sz_T sz_RU [] sz_c939 sz_u939 ri_m_X11_isWord 317 none sz_h939_0 = true := by decide +kernel
theorem sz_ok939 (xs : Nat → Value) (L : Nat) : sy_Cok (sz_env xs L) sz_T sz_RU sz_c939 := sy_chk_ok (CT := []) (CU := sz_u939) (M := ri_m_X11_isWord) (fun _ h => absurd h List.not_mem_nil) rfl ⟨_, _, sz_s939_0⟩ (fun _ h => absurd h List.not_mem_nil)

/-! X11_isWord [244, 1000035] -/
set_option maxRecDepth 100000 in
noncomputable def sz_c940 : sy_Ct := (210, 4, 85, [(3, .inr 244, .inl 0), (3, .inr 1000035, .inl 0)], ([], []), [], [], [], [(.inl (some (0, .inr 0, .inl 0)), 0, 0, ([(0, 1)], []), [], [])])
set_option maxRecDepth 100000 in
noncomputable def sz_u940 : List sy_Cut := []
set_option maxRecDepth 100000 in
noncomputable def sz_h940_0 : List sy_Hn := [(0, 31, 0, 0, 0, 0, [], [], []),
  (30, 3, 3, 0, 0, 399, [([3], [(1, [0]), (1, [1])]), ([0, 2], [(1, [0]), (1, [6]), (1, [8]), (1, [2]), (1, [3])])], [], []),
  (0, 31, 0, 0, 0, 0, [], [], []),
  (30, 3, 8, 0, 1, 399, [([8], [(1, [0]), (1, [1])]), ([0, 2], [(1, [0]), (1, [6]), (1, [12]), (1, [2]), (1, [3])])], [], []),
  (0, 31, 0, 0, 0, 0, [], [], []),
  (30, 3, 13, 0, 2, 399, [([13], [(1, [0]), (1, [1])]), ([0, 2], [(1, [0]), (1, [6]), (1, [16]), (1, [2]), (1, [3])])], [], []),
  (0, 31, 0, 0, 0, 0, [], [], []),
  (30, 3, 18, 0, 3, 399, [([18], [(1, [0]), (1, [1])]), ([0, 2], [(1, [0]), (1, [6]), (1, [20]), (1, [2]), (1, [3])])], [], []),
  (0, 31, 0, 0, 0, 0, [], [], []),
  (30, 3, 23, 0, 4, 399, [([23], [(1, [0]), (1, [1])]), ([0, 2], [(1, [0]), (1, [6]), (1, [24]), (1, [2]), (1, [3])])], [], []),
  (0, 31, 0, 0, 0, 0, [], [], []),
  (0, 31, 0, 0, 0, 0, [], [], [])]
set_option maxRecDepth 100000 in
theorem sz_s940_0 : sy_seg sz_E sz_T sz_RU [] sz_c940 sz_u940 ri_m_X11_isWord 487 none sz_h940_0 = true := by decide +kernel
theorem sz_ok940 (xs : Nat → Value) (L : Nat) : sy_Cok (sz_env xs L) sz_T sz_RU sz_c940 := sy_chk_ok (CT := []) (CU := sz_u940) (M := ri_m_X11_isWord) (fun _ h => absurd h List.not_mem_nil) rfl ⟨_, _, sz_s940_0⟩ (fun _ h => absurd h List.not_mem_nil)

/-! X11_isWord [244, 1000036] -/
set_option maxRecDepth 100000 in
noncomputable def sz_c941 : sy_Ct := (210, 4, 85, [(3, .inr 244, .inl 0), (3, .inr 1000036, .inl 0)], ([], []), [], [], [], [(.inl (some (0, .inr 0, .inl 0)), 0, 0, ([(0, 1)], []), [], [])])
set_option maxRecDepth 100000 in
noncomputable def sz_u941 : List sy_Cut := []
set_option maxRecDepth 100000 in
noncomputable def sz_h941_0 : List sy_Hn := [(0, 31, 0, 0, 0, 0, [], [], []),
  (30, 3, 3, 0, 0, 399, [([3], [(1, [0]), (1, [1])]), ([0, 2], [(1, [0]), (1, [6]), (1, [8]), (1, [2]), (1, [3])])], [], []),
  (0, 31, 0, 0, 0, 0, [], [], []),
  (30, 3, 8, 0, 1, 399, [([8], [(1, [0]), (1, [1])]), ([0, 2], [(1, [0]), (1, [6]), (1, [12]), (1, [2]), (1, [3])])], [], []),
  (0, 31, 0, 0, 0, 0, [], [], []),
  (30, 3, 13, 0, 2, 399, [([13], [(1, [0]), (1, [1])]), ([0, 2], [(1, [0]), (1, [6]), (1, [16]), (1, [2]), (1, [3])])], [], []),
  (0, 31, 0, 0, 0, 0, [], [], []),
  (30, 3, 18, 0, 3, 399, [([18], [(1, [0]), (1, [1])]), ([0, 2], [(1, [0]), (1, [6]), (1, [20]), (1, [2]), (1, [3])])], [], []),
  (0, 31, 0, 0, 0, 0, [], [], []),
  (0, 31, 0, 0, 0, 0, [], [], [])]
set_option maxRecDepth 100000 in
theorem sz_s941_0 : sy_seg sz_E sz_T sz_RU [] sz_c941 sz_u941 ri_m_X11_isWord 402 none sz_h941_0 = true := by decide +kernel
theorem sz_ok941 (xs : Nat → Value) (L : Nat) : sy_Cok (sz_env xs L) sz_T sz_RU sz_c941 := sy_chk_ok (CT := []) (CU := sz_u941) (M := ri_m_X11_isWord) (fun _ h => absurd h List.not_mem_nil) rfl ⟨_, _, sz_s941_0⟩ (fun _ h => absurd h List.not_mem_nil)

/-! X11_readKind [244] -/
set_option maxRecDepth 100000 in
noncomputable def sz_c942 : sy_Ct := (264, 5, 108, [(3, .inr 244, .inl 0)], ([], []), [], [], [(244, 8, 8), (244, 10, 10), (244, 13, 13)], [(.inl (some (0, .inl 0, .inl 0)), 0, 0, ([], []), [], []), (.inl (some (0, .inl 1, .inl 0)), 0, 0, ([(0, 2)], [[(2, []), ((-1), [0])], [(1, [0])]]), [((244, 13), (0, .inr 0, .inl 0))], [])])
set_option maxRecDepth 100000 in
noncomputable def sz_u942 : List sy_Cut := []
set_option maxRecDepth 100000 in
noncomputable def sz_h942_0 : List sy_Hn := [(2, 20, 0, 0, 0, 0, [], [], []),
  (4, 20, 1, 0, 0, 0, [], [], []),
  (4, 20, 2, 0, 0, 0, [], [], []),
  (4, 20, 3, 0, 0, 0, [], [], []),
  (0, 31, 0, 0, 0, 0, [], [], []),
  (0, 31, 1, 0, 0, 0, [([], [(1, [0])]), ([], [(1, [0])])], [], []),
  (0, 31, 1, 0, 0, 0, [([], [(1, [0])]), ([], [(1, [0])])], [], []),
  (0, 31, 1, 0, 0, 0, [([], [(1, [0])]), ([], [(1, [0])])], [], [])]
set_option maxRecDepth 100000 in
theorem sz_s942_0 : sy_seg sz_E sz_T sz_RU [sz_c263, sz_c939, sz_c940, sz_c941] sz_c942 sz_u942 ri_m_X11_readKind 66 none sz_h942_0 = true := by decide +kernel
theorem sz_ok942 (xs : Nat → Value) (L : Nat) : sy_Cok (sz_env xs L) sz_T sz_RU sz_c942 := sy_chk_ok (CT := [sz_c263, sz_c939, sz_c940, sz_c941]) (CU := sz_u942) (M := ri_m_X11_readKind) (List.forall_mem_cons.mpr ⟨sz_ok263 xs L, List.forall_mem_cons.mpr ⟨sz_ok939 xs L, List.forall_mem_cons.mpr ⟨sz_ok940 xs L, List.forall_mem_cons.mpr ⟨sz_ok941 xs L, fun _ h => absurd h List.not_mem_nil⟩⟩⟩⟩) rfl ⟨_, _, sz_s942_0⟩ (fun _ h => absurd h List.not_mem_nil)

/-! X11_isWord [244, 1000037] -/
set_option maxRecDepth 100000 in
noncomputable def sz_c943 : sy_Ct := (210, 4, 85, [(3, .inr 244, .inl 0), (3, .inr 1000037, .inl 0)], ([], []), [], [], [], [(.inl (some (0, .inr 0, .inl 0)), 0, 0, ([(0, 1)], []), [], [])])
set_option maxRecDepth 100000 in
noncomputable def sz_u943 : List sy_Cut := []
set_option maxRecDepth 100000 in
noncomputable def sz_h943_0 : List sy_Hn := [(0, 31, 0, 0, 0, 0, [], [], []),
  (30, 3, 3, 0, 0, 399, [([3], [(1, [0]), (1, [1])]), ([0, 2], [(1, [0]), (1, [6]), (1, [8]), (1, [2]), (1, [3])])], [], []),
  (0, 31, 0, 0, 0, 0, [], [], []),
  (30, 3, 8, 0, 1, 399, [([8], [(1, [0]), (1, [1])]), ([0, 2], [(1, [0]), (1, [6]), (1, [12]), (1, [2]), (1, [3])])], [], []),
  (0, 31, 0, 0, 0, 0, [], [], []),
  (30, 3, 13, 0, 2, 399, [([13], [(1, [0]), (1, [1])]), ([0, 2], [(1, [0]), (1, [6]), (1, [16]), (1, [2]), (1, [3])])], [], []),
  (0, 31, 0, 0, 0, 0, [], [], []),
  (30, 3, 18, 0, 3, 399, [([18], [(1, [0]), (1, [1])]), ([0, 2], [(1, [0]), (1, [6]), (1, [20]), (1, [2]), (1, [3])])], [], []),
  (0, 31, 0, 0, 0, 0, [], [], []),
  (0, 31, 0, 0, 0, 0, [], [], [])]
set_option maxRecDepth 100000 in
theorem sz_s943_0 : sy_seg sz_E sz_T sz_RU [] sz_c943 sz_u943 ri_m_X11_isWord 402 none sz_h943_0 = true := by decide +kernel
theorem sz_ok943 (xs : Nat → Value) (L : Nat) : sy_Cok (sz_env xs L) sz_T sz_RU sz_c943 := sy_chk_ok (CT := []) (CU := sz_u943) (M := ri_m_X11_isWord) (fun _ h => absurd h List.not_mem_nil) rfl ⟨_, _, sz_s943_0⟩ (fun _ h => absurd h List.not_mem_nil)

/-! X11_must [244, 1000037] -/
set_option maxRecDepth 100000 in
noncomputable def sz_c944 : sy_Ct := (266, 5, 108, [(3, .inr 244, .inl 0), (3, .inr 1000037, .inl 0)], ([], []), [], [], [(244, 8, 8), (244, 10, 10)], [(.inl (some (0, .inr 0, .inl 0)), 0, 0, ([(0, 1)], []), [], [])])
set_option maxRecDepth 100000 in
noncomputable def sz_u944 : List sy_Cut := []
set_option maxRecDepth 100000 in
noncomputable def sz_h944_0 : List sy_Hn := [(2, 20, 0, 0, 0, 0, [], [], []),
  (3, 20, 1, 0, 0, 0, [], [], []),
  (0, 31, 0, 0, 0, 0, [], [], [])]
set_option maxRecDepth 100000 in
theorem sz_s944_0 : sy_seg sz_E sz_T sz_RU [sz_c263, sz_c943] sz_c944 sz_u944 ri_m_X11_must 14 none sz_h944_0 = true := by decide +kernel
theorem sz_ok944 (xs : Nat → Value) (L : Nat) : sy_Cok (sz_env xs L) sz_T sz_RU sz_c944 := sy_chk_ok (CT := [sz_c263, sz_c943]) (CU := sz_u944) (M := ri_m_X11_must) (List.forall_mem_cons.mpr ⟨sz_ok263 xs L, List.forall_mem_cons.mpr ⟨sz_ok943 xs L, fun _ h => absurd h List.not_mem_nil⟩⟩) rfl ⟨_, _, sz_s944_0⟩ (fun _ h => absurd h List.not_mem_nil)

/-! X11_behind [244, 1000037, 0, 999] -/
set_option maxRecDepth 100000 in
noncomputable def sz_c945 : sy_Ct := (265, 6, 129, [(3, .inr 244, .inl 0), (3, .inr 1000037, .inl 0), (0, .inl 0, .inl 0), (0, .inl 999, .inl 0)], ([], []), [], [], [(244, 8, 8), (244, 10, 10), (244, 13, 13)], [(.inl (some (0, .inl 0, .inl 0)), 0, 0, ([], []), [], []), (.inl (some (0, .inl 1, .inl 0)), 0, 0, ([(0, 999)], [[(999, []), ((-1), [0])], [(1, [0]), (0, [])]]), [((244, 13), (0, .inr 0, .inl 0))], [])])
set_option maxRecDepth 100000 in
noncomputable def sz_u945 : List sy_Cut := []
set_option maxRecDepth 100000 in
noncomputable def sz_h945_0 : List sy_Hn := [(3, 20, 1, 0, 0, 0, [], [], []),
  (0, 31, 0, 0, 0, 0, [], [], []),
  (4, 20, 0, 0, 0, 0, [], [], []),
  (0, 31, 0, 0, 0, 0, [], [], []),
  (0, 31, 1, 0, 0, 0, [([1], [(1, [0]), (1, [2])]), ([1], [(1, [0]), (1, [1])])], [], [])]
set_option maxRecDepth 100000 in
theorem sz_s945_0 : sy_seg sz_E sz_T sz_RU [sz_c854, sz_c944] sz_c945 sz_u945 ri_m_X11_behind 27 none sz_h945_0 = true := by decide +kernel
theorem sz_ok945 (xs : Nat → Value) (L : Nat) : sy_Cok (sz_env xs L) sz_T sz_RU sz_c945 := sy_chk_ok (CT := [sz_c854, sz_c944]) (CU := sz_u945) (M := ri_m_X11_behind) (List.forall_mem_cons.mpr ⟨sz_ok854 xs L, List.forall_mem_cons.mpr ⟨sz_ok944 xs L, fun _ h => absurd h List.not_mem_nil⟩⟩) rfl ⟨_, _, sz_s945_0⟩ (fun _ h => absurd h List.not_mem_nil)

/-! X11_isWord [244, 1000038] -/
set_option maxRecDepth 100000 in
noncomputable def sz_c946 : sy_Ct := (210, 4, 85, [(3, .inr 244, .inl 0), (3, .inr 1000038, .inl 0)], ([], []), [], [], [], [(.inl (some (0, .inr 0, .inl 0)), 0, 0, ([(0, 1)], []), [], [])])
set_option maxRecDepth 100000 in
noncomputable def sz_u946 : List sy_Cut := []
set_option maxRecDepth 100000 in
noncomputable def sz_h946_0 : List sy_Hn := [(0, 31, 0, 0, 0, 0, [], [], []),
  (30, 3, 3, 0, 0, 399, [([3], [(1, [0]), (1, [1])]), ([0, 2], [(1, [0]), (1, [6]), (1, [8]), (1, [2]), (1, [3])])], [], []),
  (0, 31, 0, 0, 0, 0, [], [], []),
  (30, 3, 8, 0, 1, 399, [([8], [(1, [0]), (1, [1])]), ([0, 2], [(1, [0]), (1, [6]), (1, [12]), (1, [2]), (1, [3])])], [], []),
  (0, 31, 0, 0, 0, 0, [], [], []),
  (30, 3, 13, 0, 2, 399, [([13], [(1, [0]), (1, [1])]), ([0, 2], [(1, [0]), (1, [6]), (1, [16]), (1, [2]), (1, [3])])], [], []),
  (0, 31, 0, 0, 0, 0, [], [], []),
  (0, 31, 0, 0, 0, 0, [], [], [])]
set_option maxRecDepth 100000 in
theorem sz_s946_0 : sy_seg sz_E sz_T sz_RU [] sz_c946 sz_u946 ri_m_X11_isWord 317 none sz_h946_0 = true := by decide +kernel
theorem sz_ok946 (xs : Nat → Value) (L : Nat) : sy_Cok (sz_env xs L) sz_T sz_RU sz_c946 := sy_chk_ok (CT := []) (CU := sz_u946) (M := ri_m_X11_isWord) (fun _ h => absurd h List.not_mem_nil) rfl ⟨_, _, sz_s946_0⟩ (fun _ h => absurd h List.not_mem_nil)

/-! X11_must [244, 1000038] -/
set_option maxRecDepth 100000 in
noncomputable def sz_c947 : sy_Ct := (266, 5, 108, [(3, .inr 244, .inl 0), (3, .inr 1000038, .inl 0)], ([], []), [], [], [(244, 8, 8), (244, 10, 10)], [(.inl (some (0, .inr 0, .inl 0)), 0, 0, ([(0, 1)], []), [], [])])
set_option maxRecDepth 100000 in
noncomputable def sz_u947 : List sy_Cut := []
set_option maxRecDepth 100000 in
noncomputable def sz_h947_0 : List sy_Hn := [(2, 20, 0, 0, 0, 0, [], [], []),
  (3, 20, 1, 0, 0, 0, [], [], []),
  (0, 31, 0, 0, 0, 0, [], [], [])]
set_option maxRecDepth 100000 in
theorem sz_s947_0 : sy_seg sz_E sz_T sz_RU [sz_c263, sz_c946] sz_c947 sz_u947 ri_m_X11_must 14 none sz_h947_0 = true := by decide +kernel
theorem sz_ok947 (xs : Nat → Value) (L : Nat) : sy_Cok (sz_env xs L) sz_T sz_RU sz_c947 := sy_chk_ok (CT := [sz_c263, sz_c946]) (CU := sz_u947) (M := ri_m_X11_must) (List.forall_mem_cons.mpr ⟨sz_ok263 xs L, List.forall_mem_cons.mpr ⟨sz_ok946 xs L, fun _ h => absurd h List.not_mem_nil⟩⟩) rfl ⟨_, _, sz_s947_0⟩ (fun _ h => absurd h List.not_mem_nil)

/-! X11_behind [244, 1000038, 0, 8] -/
set_option maxRecDepth 100000 in
noncomputable def sz_c948 : sy_Ct := (265, 6, 129, [(3, .inr 244, .inl 0), (3, .inr 1000038, .inl 0), (0, .inl 0, .inl 0), (0, .inl 8, .inl 0)], ([], []), [], [], [(244, 8, 8), (244, 10, 10), (244, 13, 13)], [(.inl (some (0, .inl 0, .inl 0)), 0, 0, ([], []), [], []), (.inl (some (0, .inl 1, .inl 0)), 0, 0, ([(0, 8)], [[(8, []), ((-1), [0])], [(1, [0]), (0, [])]]), [((244, 13), (0, .inr 0, .inl 0))], [])])
set_option maxRecDepth 100000 in
noncomputable def sz_u948 : List sy_Cut := []
set_option maxRecDepth 100000 in
noncomputable def sz_h948_0 : List sy_Hn := [(3, 20, 1, 0, 0, 0, [], [], []),
  (0, 31, 0, 0, 0, 0, [], [], []),
  (4, 20, 0, 0, 0, 0, [], [], []),
  (0, 31, 0, 0, 0, 0, [], [], []),
  (0, 31, 1, 0, 0, 0, [([1], [(1, [0]), (1, [2])]), ([1], [(1, [0]), (1, [1])])], [], [])]
set_option maxRecDepth 100000 in
theorem sz_s948_0 : sy_seg sz_E sz_T sz_RU [sz_c925, sz_c947] sz_c948 sz_u948 ri_m_X11_behind 27 none sz_h948_0 = true := by decide +kernel
theorem sz_ok948 (xs : Nat → Value) (L : Nat) : sy_Cok (sz_env xs L) sz_T sz_RU sz_c948 := sy_chk_ok (CT := [sz_c925, sz_c947]) (CU := sz_u948) (M := ri_m_X11_behind) (List.forall_mem_cons.mpr ⟨sz_ok925 xs L, List.forall_mem_cons.mpr ⟨sz_ok947 xs L, fun _ h => absurd h List.not_mem_nil⟩⟩) rfl ⟨_, _, sz_s948_0⟩ (fun _ h => absurd h List.not_mem_nil)

/-! X11_isWord [244, 1000039] -/
set_option maxRecDepth 100000 in
noncomputable def sz_c949 : sy_Ct := (210, 4, 85, [(3, .inr 244, .inl 0), (3, .inr 1000039, .inl 0)], ([], []), [], [], [], [(.inl (some (0, .inr 0, .inl 0)), 0, 0, ([(0, 1)], []), [], [])])
set_option maxRecDepth 100000 in
noncomputable def sz_u949 : List sy_Cut := []
set_option maxRecDepth 100000 in
noncomputable def sz_h949_0 : List sy_Hn := [(0, 31, 0, 0, 0, 0, [], [], []),
  (30, 3, 3, 0, 0, 399, [([3], [(1, [0]), (1, [1])]), ([0, 2], [(1, [0]), (1, [6]), (1, [8]), (1, [2]), (1, [3])])], [], []),
  (0, 31, 0, 0, 0, 0, [], [], []),
  (30, 3, 8, 0, 1, 399, [([8], [(1, [0]), (1, [1])]), ([0, 2], [(1, [0]), (1, [6]), (1, [12]), (1, [2]), (1, [3])])], [], []),
  (0, 31, 0, 0, 0, 0, [], [], []),
  (30, 3, 13, 0, 2, 399, [([13], [(1, [0]), (1, [1])]), ([0, 2], [(1, [0]), (1, [6]), (1, [16]), (1, [2]), (1, [3])])], [], []),
  (0, 31, 0, 0, 0, 0, [], [], []),
  (0, 31, 0, 0, 0, 0, [], [], [])]
set_option maxRecDepth 100000 in
theorem sz_s949_0 : sy_seg sz_E sz_T sz_RU [] sz_c949 sz_u949 ri_m_X11_isWord 317 none sz_h949_0 = true := by decide +kernel
theorem sz_ok949 (xs : Nat → Value) (L : Nat) : sy_Cok (sz_env xs L) sz_T sz_RU sz_c949 := sy_chk_ok (CT := []) (CU := sz_u949) (M := ri_m_X11_isWord) (fun _ h => absurd h List.not_mem_nil) rfl ⟨_, _, sz_s949_0⟩ (fun _ h => absurd h List.not_mem_nil)

/-! X11_must [244, 1000039] -/
set_option maxRecDepth 100000 in
noncomputable def sz_c950 : sy_Ct := (266, 5, 108, [(3, .inr 244, .inl 0), (3, .inr 1000039, .inl 0)], ([], []), [], [], [(244, 8, 8), (244, 10, 10)], [(.inl (some (0, .inr 0, .inl 0)), 0, 0, ([(0, 1)], []), [], [])])
set_option maxRecDepth 100000 in
noncomputable def sz_u950 : List sy_Cut := []
set_option maxRecDepth 100000 in
noncomputable def sz_h950_0 : List sy_Hn := [(2, 20, 0, 0, 0, 0, [], [], []),
  (3, 20, 1, 0, 0, 0, [], [], []),
  (0, 31, 0, 0, 0, 0, [], [], [])]
set_option maxRecDepth 100000 in
theorem sz_s950_0 : sy_seg sz_E sz_T sz_RU [sz_c263, sz_c949] sz_c950 sz_u950 ri_m_X11_must 14 none sz_h950_0 = true := by decide +kernel
theorem sz_ok950 (xs : Nat → Value) (L : Nat) : sy_Cok (sz_env xs L) sz_T sz_RU sz_c950 := sy_chk_ok (CT := [sz_c263, sz_c949]) (CU := sz_u950) (M := ri_m_X11_must) (List.forall_mem_cons.mpr ⟨sz_ok263 xs L, List.forall_mem_cons.mpr ⟨sz_ok949 xs L, fun _ h => absurd h List.not_mem_nil⟩⟩) rfl ⟨_, _, sz_s950_0⟩ (fun _ h => absurd h List.not_mem_nil)

/-! X11_figures [244, 1, -9999, 9999] -/
set_option maxRecDepth 100000 in
noncomputable def sz_c951 : sy_Ct := (302, 1, 22, [(3, .inr 244, .inl 0), (0, .inl 1, .inl 0), (0, .inl (-9999), .inl 0), (0, .inl 9999, .inl 0)], ([], []), [], [], [(244, 8, 8), (244, 13, 13)], [(.inl (some (0, .inl 0, .inl 0)), 0, 0, ([], []), [], []), (.inl (some (0, .inl 1, .inl 0)), 0, 0, ([((-9999), 9999)], [[(9999, []), ((-1), [0])], [(1, [0]), (9999, [])]]), [((244, 13), (0, .inr 0, .inl 0))], [])])
set_option maxRecDepth 100000 in
noncomputable def sz_u951 : List sy_Cut := [(5, [(0, (3, .inr 244, .inl 0)), (1, (0, .inl 1, .inl 0)), (2, (0, .inl (-9999), .inl 0)), (3, (0, .inl 9999, .inl 0)), (4, (0, .inr 0, .inl 0)), (5, (0, .inr 1, .inl 0))], ([(0, 400), (0, 400), ((-2147483648), 2147483647), (0, 400)], []), [((244, 8), (0, .inr 2, .inl 0)), ((244, 9), (0, .inr 3, .inl 0))], [], [(400, []), ((-1), [2])])]
set_option maxRecDepth 100000 in
noncomputable def sz_h951_0 : List sy_Hn := [(5, 4, 244, 9, 0, 0, [], [], []),
  (0, 30, 0, 0, 0, 0, [([0], [(1, [0]), (1, [2])]), ([], [])], [], [])]
set_option maxRecDepth 100000 in
theorem sz_s951_0 : sy_seg sz_E sz_T sz_RU [] sz_c951 sz_u951 ri_m_X11_figures 13 none sz_h951_0 = true := by decide +kernel
set_option maxRecDepth 100000 in
noncomputable def sz_h951_1 : List sy_Hn := [(0, 31, 0, 0, 0, 0, [], [], []),
  (0, 31, 0, 0, 0, 0, [], [], []),
  (0, 31, 0, 0, 0, 0, [], [], []),
  (0, 31, 0, 0, 0, 0, [], [], []),
  (0, 31, 1, 0, 0, 0, [([4], [(1, [0]), (1, [2])]), ([4], [(1, [0]), (1, [1])])], [], []),
  (0, 31, 0, 0, 0, 0, [], [], []),
  (0, 31, 0, 0, 0, 0, [], [], []),
  (0, 31, 0, 0, 0, 0, [], [], []),
  (0, 31, 0, 0, 0, 0, [], [], []),
  (0, 31, 1, 0, 0, 0, [([5], [(1, [0]), (1, [2])]), ([5], [(1, [0]), (1, [1])])], [], []),
  (0, 31, 0, 0, 0, 0, [], [], []),
  (0, 31, 0, 0, 0, 0, [], [], []),
  (0, 31, 0, 0, 0, 0, [], [], []),
  (0, 31, 0, 0, 0, 0, [], [], []),
  (0, 31, 1, 0, 0, 0, [([6], [(1, [0]), (1, [2])]), ([6], [(1, [0]), (1, [1])])], [], []),
  (0, 30, 0, 0, 0, 0, [([7], [(1, [0]), (1, [2])]), ([], [(1, [0]), (1, [1])])], [], []),
  (0, 30, 0, 0, 0, 0, [([11], [(1, [0]), (1, [2])]), ([], [(1, [0]), (1, [1])])], [], [])]
set_option maxRecDepth 100000 in
theorem sz_s951_1 : sy_seg sz_E sz_T sz_RU [] sz_c951 sz_u951 ri_m_X11_figures 275 (some ((5, [(0, (3, .inr 244, .inl 0)), (1, (0, .inl 1, .inl 0)), (2, (0, .inl (-9999), .inl 0)), (3, (0, .inl 9999, .inl 0)), (4, (0, .inr 0, .inl 0)), (5, (0, .inr 1, .inl 0))], ([(0, 400), (0, 400), ((-2147483648), 2147483647), (0, 400)], []), [((244, 8), (0, .inr 2, .inl 0)), ((244, 9), (0, .inr 3, .inl 0))], [], [(400, []), ((-1), [2])]))) sz_h951_1 = true := by decide +kernel
theorem sz_ok951 (xs : Nat → Value) (L : Nat) : sy_Cok (sz_env xs L) sz_T sz_RU sz_c951 := sy_chk_ok (CT := []) (CU := sz_u951) (M := ri_m_X11_figures) (fun _ h => absurd h List.not_mem_nil) rfl ⟨_, _, sz_s951_0⟩ (List.forall_mem_cons.mpr ⟨⟨_, _, sz_s951_1⟩, fun _ h => absurd h List.not_mem_nil⟩)

/-! X11_figures [244, -1, -9999, 9999] -/
set_option maxRecDepth 100000 in
noncomputable def sz_c952 : sy_Ct := (302, 1, 22, [(3, .inr 244, .inl 0), (0, .inl (-1), .inl 0), (0, .inl (-9999), .inl 0), (0, .inl 9999, .inl 0)], ([], []), [], [], [(244, 8, 8), (244, 13, 13)], [(.inl (some (0, .inl 0, .inl 0)), 0, 0, ([], []), [], []), (.inl (some (0, .inl 1, .inl 0)), 0, 0, ([((-9999), 9999)], [[(9999, []), ((-1), [0])], [(1, [0]), (9999, [])]]), [((244, 13), (0, .inr 0, .inl 0))], [])])
set_option maxRecDepth 100000 in
noncomputable def sz_u952 : List sy_Cut := [(5, [(0, (3, .inr 244, .inl 0)), (1, (0, .inl (-1), .inl 0)), (2, (0, .inl (-9999), .inl 0)), (3, (0, .inl 9999, .inl 0)), (4, (0, .inr 0, .inl 0)), (5, (0, .inr 1, .inl 0))], ([(0, 400), (0, 400), ((-2147483648), 2147483647), (0, 400)], []), [((244, 8), (0, .inr 2, .inl 0)), ((244, 9), (0, .inr 3, .inl 0))], [], [(400, []), ((-1), [2])])]
set_option maxRecDepth 100000 in
noncomputable def sz_h952_0 : List sy_Hn := [(5, 4, 244, 9, 0, 0, [], [], []),
  (0, 30, 0, 0, 0, 0, [([0], [(1, [0]), (1, [2])]), ([], [])], [], [])]
set_option maxRecDepth 100000 in
theorem sz_s952_0 : sy_seg sz_E sz_T sz_RU [] sz_c952 sz_u952 ri_m_X11_figures 13 none sz_h952_0 = true := by decide +kernel
set_option maxRecDepth 100000 in
noncomputable def sz_h952_1 : List sy_Hn := [(0, 31, 0, 0, 0, 0, [], [], []),
  (0, 31, 0, 0, 0, 0, [], [], []),
  (0, 31, 0, 0, 0, 0, [], [], []),
  (0, 31, 0, 0, 0, 0, [], [], []),
  (0, 31, 1, 0, 0, 0, [([4], [(1, [0]), (1, [2])]), ([4], [(1, [0]), (1, [1])])], [], []),
  (0, 31, 0, 0, 0, 0, [], [], []),
  (0, 31, 0, 0, 0, 0, [], [], []),
  (0, 31, 0, 0, 0, 0, [], [], []),
  (0, 31, 0, 0, 0, 0, [], [], []),
  (0, 31, 1, 0, 0, 0, [([5], [(1, [0]), (1, [2])]), ([5], [(1, [0]), (1, [1])])], [], []),
  (0, 31, 0, 0, 0, 0, [], [], []),
  (0, 31, 0, 0, 0, 0, [], [], []),
  (0, 31, 0, 0, 0, 0, [], [], []),
  (0, 31, 0, 0, 0, 0, [], [], []),
  (0, 31, 1, 0, 0, 0, [([6], [(1, [0]), (1, [2])]), ([6], [(1, [0]), (1, [1])])], [], []),
  (0, 30, 0, 0, 0, 0, [([7], [(1, [0]), (1, [2])]), ([], [(1, [0]), (1, [1])])], [], []),
  (0, 30, 0, 0, 0, 0, [([11], [(1, [0]), (1, [2])]), ([], [(1, [0]), (1, [1])])], [], [])]
set_option maxRecDepth 100000 in
theorem sz_s952_1 : sy_seg sz_E sz_T sz_RU [] sz_c952 sz_u952 ri_m_X11_figures 275 (some ((5, [(0, (3, .inr 244, .inl 0)), (1, (0, .inl (-1), .inl 0)), (2, (0, .inl (-9999), .inl 0)), (3, (0, .inl 9999, .inl 0)), (4, (0, .inr 0, .inl 0)), (5, (0, .inr 1, .inl 0))], ([(0, 400), (0, 400), ((-2147483648), 2147483647), (0, 400)], []), [((244, 8), (0, .inr 2, .inl 0)), ((244, 9), (0, .inr 3, .inl 0))], [], [(400, []), ((-1), [2])]))) sz_h952_1 = true := by decide +kernel
theorem sz_ok952 (xs : Nat → Value) (L : Nat) : sy_Cok (sz_env xs L) sz_T sz_RU sz_c952 := sy_chk_ok (CT := []) (CU := sz_u952) (M := ri_m_X11_figures) (fun _ h => absurd h List.not_mem_nil) rfl ⟨_, _, sz_s952_0⟩ (List.forall_mem_cons.mpr ⟨⟨_, _, sz_s952_1⟩, fun _ h => absurd h List.not_mem_nil⟩)

/-! X11_signed [244, -9999, 9999] -/
set_option maxRecDepth 100000 in
noncomputable def sz_c953 : sy_Ct := (267, 2, 47, [(3, .inr 244, .inl 0), (0, .inl (-9999), .inl 0), (0, .inl 9999, .inl 0)], ([], []), [], [], [(244, 8, 8), (244, 10, 10), (244, 13, 13)], [(.inl (some (0, .inl 0, .inl 0)), 0, 0, ([], []), [], []), (.inl (some (0, .inl 1, .inl 0)), 0, 0, ([((-9999), 9999)], [[(9999, []), ((-1), [0])], [(1, [0]), (9999, [])]]), [((244, 13), (0, .inr 0, .inl 0))], [])])
set_option maxRecDepth 100000 in
noncomputable def sz_u953 : List sy_Cut := []
set_option maxRecDepth 100000 in
noncomputable def sz_h953_0 : List sy_Hn := [(2, 20, 0, 0, 0, 0, [], [], []),
  (29, 20, 1, 0, 0, 0, [], [], []),
  (0, 31, 0, 0, 0, 0, [], [], []),
  (0, 31, 1, 0, 0, 0, [([3], [(1, [0]), (1, [2])]), ([3], [(1, [0]), (1, [1])])], [], []),
  (27, 20, 1, 0, 0, 0, [], [], []),
  (0, 31, 0, 0, 0, 0, [], [], []),
  (0, 31, 1, 0, 0, 0, [([4], [(1, [0]), (1, [2])]), ([4], [(1, [0]), (1, [1])])], [], []),
  (27, 20, 1, 0, 0, 0, [], [], []),
  (0, 31, 0, 0, 0, 0, [], [], []),
  (0, 31, 1, 0, 0, 0, [([5], [(1, [0]), (1, [2])]), ([5], [(1, [0]), (1, [1])])], [], []),
  (39, 20, 2, 0, 0, 0, [], [], []),
  (0, 31, 0, 0, 0, 0, [], [], []),
  (0, 31, 1, 0, 0, 0, [([5], [(1, [0]), (1, [2])]), ([5], [(1, [0]), (1, [1])])], [], []),
  (22, 20, 2, 0, 0, 0, [], [], []),
  (0, 31, 0, 0, 0, 0, [], [], []),
  (0, 31, 1, 0, 0, 0, [([6], [(1, [0]), (1, [2])]), ([6], [(1, [0]), (1, [1])])], [], []),
  (22, 20, 2, 0, 0, 0, [], [], []),
  (0, 31, 0, 0, 0, 0, [], [], []),
  (0, 31, 1, 0, 0, 0, [([7], [(1, [0]), (1, [2])]), ([7], [(1, [0]), (1, [1])])], [], []),
  (12, 20, 2, 0, 0, 0, [], [], []),
  (0, 31, 0, 0, 0, 0, [], [], []),
  (0, 31, 1, 0, 0, 0, [([7], [(1, [0]), (1, [2])]), ([7], [(1, [0]), (1, [1])])], [], [])]
set_option maxRecDepth 100000 in
theorem sz_s953_0 : sy_seg sz_E sz_T sz_RU [sz_c262, sz_c951, sz_c952] sz_c953 sz_u953 ri_m_X11_signed 221 none sz_h953_0 = true := by decide +kernel
theorem sz_ok953 (xs : Nat → Value) (L : Nat) : sy_Cok (sz_env xs L) sz_T sz_RU sz_c953 := sy_chk_ok (CT := [sz_c262, sz_c951, sz_c952]) (CU := sz_u953) (M := ri_m_X11_signed) (List.forall_mem_cons.mpr ⟨sz_ok262 xs L, List.forall_mem_cons.mpr ⟨sz_ok951 xs L, List.forall_mem_cons.mpr ⟨sz_ok952 xs L, fun _ h => absurd h List.not_mem_nil⟩⟩⟩) rfl ⟨_, _, sz_s953_0⟩ (fun _ h => absurd h List.not_mem_nil)

/-! X11_isWord [244, 1000040] -/
set_option maxRecDepth 100000 in
noncomputable def sz_c954 : sy_Ct := (210, 4, 85, [(3, .inr 244, .inl 0), (3, .inr 1000040, .inl 0)], ([], []), [], [], [], [(.inl (some (0, .inr 0, .inl 0)), 0, 0, ([(0, 1)], []), [], [])])
set_option maxRecDepth 100000 in
noncomputable def sz_u954 : List sy_Cut := []
set_option maxRecDepth 100000 in
noncomputable def sz_h954_0 : List sy_Hn := [(0, 31, 0, 0, 0, 0, [], [], []),
  (30, 3, 3, 0, 0, 399, [([3], [(1, [0]), (1, [1])]), ([0, 2], [(1, [0]), (1, [6]), (1, [8]), (1, [2]), (1, [3])])], [], []),
  (0, 31, 0, 0, 0, 0, [], [], []),
  (30, 3, 8, 0, 1, 399, [([8], [(1, [0]), (1, [1])]), ([0, 2], [(1, [0]), (1, [6]), (1, [12]), (1, [2]), (1, [3])])], [], []),
  (0, 31, 0, 0, 0, 0, [], [], []),
  (30, 3, 13, 0, 2, 399, [([13], [(1, [0]), (1, [1])]), ([0, 2], [(1, [0]), (1, [6]), (1, [16]), (1, [2]), (1, [3])])], [], []),
  (0, 31, 0, 0, 0, 0, [], [], []),
  (30, 3, 18, 0, 3, 399, [([18], [(1, [0]), (1, [1])]), ([0, 2], [(1, [0]), (1, [6]), (1, [20]), (1, [2]), (1, [3])])], [], []),
  (0, 31, 0, 0, 0, 0, [], [], []),
  (0, 31, 0, 0, 0, 0, [], [], [])]
set_option maxRecDepth 100000 in
theorem sz_s954_0 : sy_seg sz_E sz_T sz_RU [] sz_c954 sz_u954 ri_m_X11_isWord 402 none sz_h954_0 = true := by decide +kernel
theorem sz_ok954 (xs : Nat → Value) (L : Nat) : sy_Cok (sz_env xs L) sz_T sz_RU sz_c954 := sy_chk_ok (CT := []) (CU := sz_u954) (M := ri_m_X11_isWord) (fun _ h => absurd h List.not_mem_nil) rfl ⟨_, _, sz_s954_0⟩ (fun _ h => absurd h List.not_mem_nil)

/-! X11_must [244, 1000040] -/
set_option maxRecDepth 100000 in
noncomputable def sz_c955 : sy_Ct := (266, 5, 108, [(3, .inr 244, .inl 0), (3, .inr 1000040, .inl 0)], ([], []), [], [], [(244, 8, 8), (244, 10, 10)], [(.inl (some (0, .inr 0, .inl 0)), 0, 0, ([(0, 1)], []), [], [])])
set_option maxRecDepth 100000 in
noncomputable def sz_u955 : List sy_Cut := []
set_option maxRecDepth 100000 in
noncomputable def sz_h955_0 : List sy_Hn := [(2, 20, 0, 0, 0, 0, [], [], []),
  (3, 20, 1, 0, 0, 0, [], [], []),
  (0, 31, 0, 0, 0, 0, [], [], [])]
set_option maxRecDepth 100000 in
theorem sz_s955_0 : sy_seg sz_E sz_T sz_RU [sz_c263, sz_c954] sz_c955 sz_u955 ri_m_X11_must 14 none sz_h955_0 = true := by decide +kernel
theorem sz_ok955 (xs : Nat → Value) (L : Nat) : sy_Cok (sz_env xs L) sz_T sz_RU sz_c955 := sy_chk_ok (CT := [sz_c263, sz_c954]) (CU := sz_u955) (M := ri_m_X11_must) (List.forall_mem_cons.mpr ⟨sz_ok263 xs L, List.forall_mem_cons.mpr ⟨sz_ok954 xs L, fun _ h => absurd h List.not_mem_nil⟩⟩) rfl ⟨_, _, sz_s955_0⟩ (fun _ h => absurd h List.not_mem_nil)

/-! X11_figures [244, 1, 0, 9999] -/
set_option maxRecDepth 100000 in
noncomputable def sz_c956 : sy_Ct := (302, 1, 22, [(3, .inr 244, .inl 0), (0, .inl 1, .inl 0), (0, .inr 0, .inl 0), (0, .inl 9999, .inl 0)], ([((-9999), 61600)], []), [], [], [(244, 8, 8), (244, 13, 13)], [(.inl (some (0, .inl 0, .inl 0)), 0, 0, ([((-9999), 61600)], []), [], []), (.inl (some (0, .inl 1, .inl 0)), 0, 0, ([((-9999), 9999), ((-9999), 61600)], [[(9999, []), ((-1), [1])], [(1, [1]), ((-1), [0])]]), [((244, 13), (0, .inr 1, .inl 0))], [])])
set_option maxRecDepth 100000 in
noncomputable def sz_u956 : List sy_Cut := [(5, [(0, (3, .inr 244, .inl 0)), (1, (0, .inl 1, .inl 0)), (2, (0, .inr 0, .inl 0)), (3, (0, .inl 9999, .inl 0)), (4, (0, .inr 1, .inl 0)), (5, (0, .inr 2, .inl 0))], ([(0, 400), (0, 400), ((-2147483648), 2147483647), (0, 400), ((-9999), 61600)], []), [((244, 8), (0, .inr 3, .inl 0)), ((244, 9), (0, .inr 4, .inl 0))], [], [(400, []), ((-1), [3])])]
set_option maxRecDepth 100000 in
noncomputable def sz_h956_0 : List sy_Hn := [(5, 4, 244, 9, 0, 0, [], [], []),
  (0, 30, 0, 0, 0, 0, [([1], [(1, [0]), (1, [2])]), ([], [])], [], [])]
set_option maxRecDepth 100000 in
theorem sz_s956_0 : sy_seg sz_E sz_T sz_RU [] sz_c956 sz_u956 ri_m_X11_figures 13 none sz_h956_0 = true := by decide +kernel
set_option maxRecDepth 100000 in
noncomputable def sz_h956_1 : List sy_Hn := [(0, 31, 0, 0, 0, 0, [], [], []),
  (0, 31, 0, 0, 0, 0, [], [], []),
  (0, 31, 0, 0, 0, 0, [], [], []),
  (0, 31, 0, 0, 0, 0, [], [], []),
  (0, 31, 1, 0, 0, 0, [([5], [(1, [0]), (1, [2])]), ([], [(1, [0]), (1, [1])])], [], []),
  (0, 31, 0, 0, 0, 0, [], [], []),
  (0, 31, 0, 0, 0, 0, [], [], []),
  (0, 31, 0, 0, 0, 0, [], [], []),
  (0, 31, 0, 0, 0, 0, [], [], []),
  (0, 31, 1, 0, 0, 0, [([6], [(1, [0]), (1, [2])]), ([], [(1, [0]), (1, [1])])], [], []),
  (0, 31, 0, 0, 0, 0, [], [], []),
  (0, 31, 0, 0, 0, 0, [], [], []),
  (0, 31, 0, 0, 0, 0, [], [], []),
  (0, 31, 0, 0, 0, 0, [], [], []),
  (0, 31, 1, 0, 0, 0, [([7], [(1, [0]), (1, [2])]), ([], [(1, [0]), (1, [1])])], [], []),
  (0, 30, 0, 0, 0, 0, [([8], [(1, [0]), (1, [2])]), ([], [(1, [0]), (1, [1])])], [], []),
  (0, 30, 0, 0, 0, 0, [([12], [(1, [0]), (1, [2])]), ([], [(1, [0]), (1, [1])])], [], [])]
set_option maxRecDepth 100000 in
theorem sz_s956_1 : sy_seg sz_E sz_T sz_RU [] sz_c956 sz_u956 ri_m_X11_figures 275 (some ((5, [(0, (3, .inr 244, .inl 0)), (1, (0, .inl 1, .inl 0)), (2, (0, .inr 0, .inl 0)), (3, (0, .inl 9999, .inl 0)), (4, (0, .inr 1, .inl 0)), (5, (0, .inr 2, .inl 0))], ([(0, 400), (0, 400), ((-2147483648), 2147483647), (0, 400), ((-9999), 61600)], []), [((244, 8), (0, .inr 3, .inl 0)), ((244, 9), (0, .inr 4, .inl 0))], [], [(400, []), ((-1), [3])]))) sz_h956_1 = true := by decide +kernel
theorem sz_ok956 (xs : Nat → Value) (L : Nat) : sy_Cok (sz_env xs L) sz_T sz_RU sz_c956 := sy_chk_ok (CT := []) (CU := sz_u956) (M := ri_m_X11_figures) (fun _ h => absurd h List.not_mem_nil) rfl ⟨_, _, sz_s956_0⟩ (List.forall_mem_cons.mpr ⟨⟨_, _, sz_s956_1⟩, fun _ h => absurd h List.not_mem_nil⟩)

/-! X11_figures [244, -1, 0, 9999] -/
set_option maxRecDepth 100000 in
noncomputable def sz_c957 : sy_Ct := (302, 1, 22, [(3, .inr 244, .inl 0), (0, .inl (-1), .inl 0), (0, .inr 0, .inl 0), (0, .inl 9999, .inl 0)], ([((-9999), 61600)], []), [], [], [(244, 8, 8), (244, 13, 13)], [(.inl (some (0, .inl 0, .inl 0)), 0, 0, ([((-9999), 61600)], []), [], []), (.inl (some (0, .inl 1, .inl 0)), 0, 0, ([((-9999), 9999), ((-9999), 61600)], [[(9999, []), ((-1), [1])], [(1, [1]), ((-1), [0])]]), [((244, 13), (0, .inr 1, .inl 0))], [])])
set_option maxRecDepth 100000 in
noncomputable def sz_u957 : List sy_Cut := [(5, [(0, (3, .inr 244, .inl 0)), (1, (0, .inl (-1), .inl 0)), (2, (0, .inr 0, .inl 0)), (3, (0, .inl 9999, .inl 0)), (4, (0, .inr 1, .inl 0)), (5, (0, .inr 2, .inl 0))], ([(0, 400), (0, 400), ((-2147483648), 2147483647), (0, 400), ((-9999), 61600)], []), [((244, 8), (0, .inr 3, .inl 0)), ((244, 9), (0, .inr 4, .inl 0))], [], [(400, []), ((-1), [3])])]
set_option maxRecDepth 100000 in
noncomputable def sz_h957_0 : List sy_Hn := [(5, 4, 244, 9, 0, 0, [], [], []),
  (0, 30, 0, 0, 0, 0, [([1], [(1, [0]), (1, [2])]), ([], [])], [], [])]
set_option maxRecDepth 100000 in
theorem sz_s957_0 : sy_seg sz_E sz_T sz_RU [] sz_c957 sz_u957 ri_m_X11_figures 13 none sz_h957_0 = true := by decide +kernel
set_option maxRecDepth 100000 in
noncomputable def sz_h957_1 : List sy_Hn := [(0, 31, 0, 0, 0, 0, [], [], []),
  (0, 31, 0, 0, 0, 0, [], [], []),
  (0, 31, 0, 0, 0, 0, [], [], []),
  (0, 31, 0, 0, 0, 0, [], [], []),
  (0, 31, 1, 0, 0, 0, [([5], [(1, [0]), (1, [2])]), ([], [(1, [0]), (1, [1])])], [], []),
  (0, 31, 0, 0, 0, 0, [], [], []),
  (0, 31, 0, 0, 0, 0, [], [], []),
  (0, 31, 0, 0, 0, 0, [], [], []),
  (0, 31, 0, 0, 0, 0, [], [], []),
  (0, 31, 1, 0, 0, 0, [([6], [(1, [0]), (1, [2])]), ([], [(1, [0]), (1, [1])])], [], []),
  (0, 31, 0, 0, 0, 0, [], [], []),
  (0, 31, 0, 0, 0, 0, [], [], []),
  (0, 31, 0, 0, 0, 0, [], [], []),
  (0, 31, 0, 0, 0, 0, [], [], []),
  (0, 31, 1, 0, 0, 0, [([7], [(1, [0]), (1, [2])]), ([], [(1, [0]), (1, [1])])], [], []),
  (0, 30, 0, 0, 0, 0, [([8], [(1, [0]), (1, [2])]), ([], [(1, [0]), (1, [1])])], [], []),
  (0, 30, 0, 0, 0, 0, [([12], [(1, [0]), (1, [2])]), ([], [(1, [0]), (1, [1])])], [], [])]
set_option maxRecDepth 100000 in
theorem sz_s957_1 : sy_seg sz_E sz_T sz_RU [] sz_c957 sz_u957 ri_m_X11_figures 275 (some ((5, [(0, (3, .inr 244, .inl 0)), (1, (0, .inl (-1), .inl 0)), (2, (0, .inr 0, .inl 0)), (3, (0, .inl 9999, .inl 0)), (4, (0, .inr 1, .inl 0)), (5, (0, .inr 2, .inl 0))], ([(0, 400), (0, 400), ((-2147483648), 2147483647), (0, 400), ((-9999), 61600)], []), [((244, 8), (0, .inr 3, .inl 0)), ((244, 9), (0, .inr 4, .inl 0))], [], [(400, []), ((-1), [3])]))) sz_h957_1 = true := by decide +kernel
theorem sz_ok957 (xs : Nat → Value) (L : Nat) : sy_Cok (sz_env xs L) sz_T sz_RU sz_c957 := sy_chk_ok (CT := []) (CU := sz_u957) (M := ri_m_X11_figures) (fun _ h => absurd h List.not_mem_nil) rfl ⟨_, _, sz_s957_0⟩ (List.forall_mem_cons.mpr ⟨⟨_, _, sz_s957_1⟩, fun _ h => absurd h List.not_mem_nil⟩)

/-! X11_signed [244, 0, 9999] -/
set_option maxRecDepth 100000 in
noncomputable def sz_c958 : sy_Ct := (267, 2, 47, [(3, .inr 244, .inl 0), (0, .inr 0, .inl 0), (0, .inl 9999, .inl 0)], ([((-9999), 61600)], []), [], [], [(244, 8, 8), (244, 10, 10), (244, 13, 13)], [(.inl (some (0, .inl 0, .inl 0)), 0, 0, ([((-9999), 61600)], []), [], []), (.inl (some (0, .inl 1, .inl 0)), 0, 0, ([((-9999), 9999), ((-9999), 61600)], [[(9999, []), ((-1), [1])], [(1, [1]), ((-1), [0])]]), [((244, 13), (0, .inr 1, .inl 0))], [])])
set_option maxRecDepth 100000 in
noncomputable def sz_u958 : List sy_Cut := []
set_option maxRecDepth 100000 in
noncomputable def sz_h958_0 : List sy_Hn := [(2, 20, 0, 0, 0, 0, [], [], []),
  (29, 20, 1, 0, 0, 0, [], [], []),
  (0, 31, 0, 0, 0, 0, [], [], []),
  (0, 31, 1, 0, 0, 0, [([4], [(1, [0]), (1, [2])]), ([], [(1, [0]), (1, [1])])], [], []),
  (27, 20, 1, 0, 0, 0, [], [], []),
  (0, 31, 0, 0, 0, 0, [], [], []),
  (0, 31, 1, 0, 0, 0, [([5], [(1, [0]), (1, [2])]), ([], [(1, [0]), (1, [1])])], [], []),
  (27, 20, 1, 0, 0, 0, [], [], []),
  (0, 31, 0, 0, 0, 0, [], [], []),
  (0, 31, 1, 0, 0, 0, [([6], [(1, [0]), (1, [2])]), ([], [(1, [0]), (1, [1])])], [], []),
  (39, 20, 2, 0, 0, 0, [], [], []),
  (0, 31, 0, 0, 0, 0, [], [], []),
  (0, 31, 1, 0, 0, 0, [([6], [(1, [0]), (1, [2])]), ([], [(1, [0]), (1, [1])])], [], []),
  (22, 20, 2, 0, 0, 0, [], [], []),
  (0, 31, 0, 0, 0, 0, [], [], []),
  (0, 31, 1, 0, 0, 0, [([7], [(1, [0]), (1, [2])]), ([], [(1, [0]), (1, [1])])], [], []),
  (22, 20, 2, 0, 0, 0, [], [], []),
  (0, 31, 0, 0, 0, 0, [], [], []),
  (0, 31, 1, 0, 0, 0, [([8], [(1, [0]), (1, [2])]), ([], [(1, [0]), (1, [1])])], [], []),
  (12, 20, 2, 0, 0, 0, [], [], []),
  (0, 31, 0, 0, 0, 0, [], [], []),
  (0, 31, 1, 0, 0, 0, [([8], [(1, [0]), (1, [2])]), ([], [(1, [0]), (1, [1])])], [], [])]
set_option maxRecDepth 100000 in
theorem sz_s958_0 : sy_seg sz_E sz_T sz_RU [sz_c262, sz_c956, sz_c957] sz_c958 sz_u958 ri_m_X11_signed 221 none sz_h958_0 = true := by decide +kernel
theorem sz_ok958 (xs : Nat → Value) (L : Nat) : sy_Cok (sz_env xs L) sz_T sz_RU sz_c958 := sy_chk_ok (CT := [sz_c262, sz_c956, sz_c957]) (CU := sz_u958) (M := ri_m_X11_signed) (List.forall_mem_cons.mpr ⟨sz_ok262 xs L, List.forall_mem_cons.mpr ⟨sz_ok956 xs L, List.forall_mem_cons.mpr ⟨sz_ok957 xs L, fun _ h => absurd h List.not_mem_nil⟩⟩⟩) rfl ⟨_, _, sz_s958_0⟩ (fun _ h => absurd h List.not_mem_nil)

/-! X11_isWord [244, 1000041] -/
set_option maxRecDepth 100000 in
noncomputable def sz_c959 : sy_Ct := (210, 4, 85, [(3, .inr 244, .inl 0), (3, .inr 1000041, .inl 0)], ([], []), [], [], [], [(.inl (some (0, .inr 0, .inl 0)), 0, 0, ([(0, 1)], []), [], [])])
set_option maxRecDepth 100000 in
noncomputable def sz_u959 : List sy_Cut := []
set_option maxRecDepth 100000 in
noncomputable def sz_h959_0 : List sy_Hn := [(0, 31, 0, 0, 0, 0, [], [], []),
  (30, 3, 3, 0, 0, 399, [([3], [(1, [0]), (1, [1])]), ([0, 2], [(1, [0]), (1, [6]), (1, [8]), (1, [2]), (1, [3])])], [], []),
  (0, 31, 0, 0, 0, 0, [], [], []),
  (30, 3, 8, 0, 1, 399, [([8], [(1, [0]), (1, [1])]), ([0, 2], [(1, [0]), (1, [6]), (1, [12]), (1, [2]), (1, [3])])], [], []),
  (0, 31, 0, 0, 0, 0, [], [], []),
  (30, 3, 13, 0, 2, 399, [([13], [(1, [0]), (1, [1])]), ([0, 2], [(1, [0]), (1, [6]), (1, [16]), (1, [2]), (1, [3])])], [], []),
  (0, 31, 0, 0, 0, 0, [], [], []),
  (30, 3, 18, 0, 3, 399, [([18], [(1, [0]), (1, [1])]), ([0, 2], [(1, [0]), (1, [6]), (1, [20]), (1, [2]), (1, [3])])], [], []),
  (0, 31, 0, 0, 0, 0, [], [], []),
  (0, 31, 0, 0, 0, 0, [], [], [])]
set_option maxRecDepth 100000 in
theorem sz_s959_0 : sy_seg sz_E sz_T sz_RU [] sz_c959 sz_u959 ri_m_X11_isWord 402 none sz_h959_0 = true := by decide +kernel
theorem sz_ok959 (xs : Nat → Value) (L : Nat) : sy_Cok (sz_env xs L) sz_T sz_RU sz_c959 := sy_chk_ok (CT := []) (CU := sz_u959) (M := ri_m_X11_isWord) (fun _ h => absurd h List.not_mem_nil) rfl ⟨_, _, sz_s959_0⟩ (fun _ h => absurd h List.not_mem_nil)

/-! X11_passes [244, 1000041] -/
set_option maxRecDepth 100000 in
noncomputable def sz_c960 : sy_Ct := (270, 5, 108, [(3, .inr 244, .inl 0), (3, .inr 1000041, .inl 0)], ([], []), [], [], [(244, 8, 8), (244, 10, 10)], [(.inl (some (0, .inr 0, .inl 0)), 0, 0, ([(0, 1)], []), [], [])])
set_option maxRecDepth 100000 in
noncomputable def sz_u960 : List sy_Cut := []
set_option maxRecDepth 100000 in
noncomputable def sz_h960_0 : List sy_Hn := [(2, 20, 0, 0, 0, 0, [], [], []),
  (3, 20, 1, 0, 0, 0, [], [], []),
  (0, 31, 0, 0, 0, 0, [], [], []),
  (0, 31, 0, 0, 0, 0, [], [], [])]
set_option maxRecDepth 100000 in
theorem sz_s960_0 : sy_seg sz_E sz_T sz_RU [sz_c263, sz_c959] sz_c960 sz_u960 ri_m_X11_passes 23 none sz_h960_0 = true := by decide +kernel
theorem sz_ok960 (xs : Nat → Value) (L : Nat) : sy_Cok (sz_env xs L) sz_T sz_RU sz_c960 := sy_chk_ok (CT := [sz_c263, sz_c959]) (CU := sz_u960) (M := ri_m_X11_passes) (List.forall_mem_cons.mpr ⟨sz_ok263 xs L, List.forall_mem_cons.mpr ⟨sz_ok959 xs L, fun _ h => absurd h List.not_mem_nil⟩⟩) rfl ⟨_, _, sz_s960_0⟩ (fun _ h => absurd h List.not_mem_nil)

/-! X11_isWord [244, 1000042] -/
set_option maxRecDepth 100000 in
noncomputable def sz_c961 : sy_Ct := (210, 4, 85, [(3, .inr 244, .inl 0), (3, .inr 1000042, .inl 0)], ([], []), [], [], [], [(.inl (some (0, .inr 0, .inl 0)), 0, 0, ([(0, 1)], []), [], [])])
set_option maxRecDepth 100000 in
noncomputable def sz_u961 : List sy_Cut := []
set_option maxRecDepth 100000 in
noncomputable def sz_h961_0 : List sy_Hn := [(0, 31, 0, 0, 0, 0, [], [], []),
  (30, 3, 3, 0, 0, 399, [([3], [(1, [0]), (1, [1])]), ([0, 2], [(1, [0]), (1, [6]), (1, [8]), (1, [2]), (1, [3])])], [], []),
  (0, 31, 0, 0, 0, 0, [], [], []),
  (30, 3, 8, 0, 1, 399, [([8], [(1, [0]), (1, [1])]), ([0, 2], [(1, [0]), (1, [6]), (1, [12]), (1, [2]), (1, [3])])], [], []),
  (0, 31, 0, 0, 0, 0, [], [], []),
  (0, 31, 0, 0, 0, 0, [], [], [])]
set_option maxRecDepth 100000 in
theorem sz_s961_0 : sy_seg sz_E sz_T sz_RU [] sz_c961 sz_u961 ri_m_X11_isWord 232 none sz_h961_0 = true := by decide +kernel
theorem sz_ok961 (xs : Nat → Value) (L : Nat) : sy_Cok (sz_env xs L) sz_T sz_RU sz_c961 := sy_chk_ok (CT := []) (CU := sz_u961) (M := ri_m_X11_isWord) (fun _ h => absurd h List.not_mem_nil) rfl ⟨_, _, sz_s961_0⟩ (fun _ h => absurd h List.not_mem_nil)

/-! X11_passes [244, 1000042] -/
set_option maxRecDepth 100000 in
noncomputable def sz_c962 : sy_Ct := (270, 5, 108, [(3, .inr 244, .inl 0), (3, .inr 1000042, .inl 0)], ([], []), [], [], [(244, 8, 8), (244, 10, 10)], [(.inl (some (0, .inr 0, .inl 0)), 0, 0, ([(0, 1)], []), [], [])])
set_option maxRecDepth 100000 in
noncomputable def sz_u962 : List sy_Cut := []
set_option maxRecDepth 100000 in
noncomputable def sz_h962_0 : List sy_Hn := [(2, 20, 0, 0, 0, 0, [], [], []),
  (3, 20, 1, 0, 0, 0, [], [], []),
  (0, 31, 0, 0, 0, 0, [], [], []),
  (0, 31, 0, 0, 0, 0, [], [], [])]
set_option maxRecDepth 100000 in
theorem sz_s962_0 : sy_seg sz_E sz_T sz_RU [sz_c263, sz_c961] sz_c962 sz_u962 ri_m_X11_passes 23 none sz_h962_0 = true := by decide +kernel
theorem sz_ok962 (xs : Nat → Value) (L : Nat) : sy_Cok (sz_env xs L) sz_T sz_RU sz_c962 := sy_chk_ok (CT := [sz_c263, sz_c961]) (CU := sz_u962) (M := ri_m_X11_passes) (List.forall_mem_cons.mpr ⟨sz_ok263 xs L, List.forall_mem_cons.mpr ⟨sz_ok961 xs L, fun _ h => absurd h List.not_mem_nil⟩⟩) rfl ⟨_, _, sz_s962_0⟩ (fun _ h => absurd h List.not_mem_nil)

/-! X11_figures [244, 1, 0, -1] -/
set_option maxRecDepth 100000 in
noncomputable def sz_c963 : sy_Ct := (302, 1, 22, [(3, .inr 244, .inl 0), (0, .inl 1, .inl 0), (0, .inl 0, .inl 0), (0, .inl (-1), .inl 0)], ([], []), [], [], [(244, 8, 8), (244, 13, 13)], [(.inl (some (0, .inl 0, .inl 0)), 0, 0, ([], []), [], [])])
set_option maxRecDepth 100000 in
noncomputable def sz_u963 : List sy_Cut := [(5, [(0, (3, .inr 244, .inl 0)), (1, (0, .inl 1, .inl 0)), (2, (0, .inl 0, .inl 0)), (3, (0, .inl (-1), .inl 0)), (4, (0, .inr 0, .inl 0)), (5, (0, .inr 1, .inl 0))], ([(0, 400), (0, 400), ((-2147483648), 2147483647), (0, 400)], []), [((244, 8), (0, .inr 2, .inl 0)), ((244, 9), (0, .inr 3, .inl 0))], [], [(400, []), ((-1), [2])])]
set_option maxRecDepth 100000 in
noncomputable def sz_h963_0 : List sy_Hn := [(5, 4, 244, 9, 0, 0, [], [], []),
  (0, 30, 0, 0, 0, 0, [([0], [(1, [0]), (1, [2])]), ([], [])], [], [])]
set_option maxRecDepth 100000 in
theorem sz_s963_0 : sy_seg sz_E sz_T sz_RU [] sz_c963 sz_u963 ri_m_X11_figures 13 none sz_h963_0 = true := by decide +kernel
set_option maxRecDepth 100000 in
noncomputable def sz_h963_1 : List sy_Hn := [(0, 31, 0, 0, 0, 0, [], [], []),
  (0, 31, 0, 0, 0, 0, [], [], []),
  (0, 31, 0, 0, 0, 0, [], [], []),
  (0, 31, 0, 0, 0, 0, [], [], []),
  (0, 31, 0, 0, 0, 0, [], [], []),
  (0, 31, 0, 0, 0, 0, [], [], []),
  (0, 31, 0, 0, 0, 0, [], [], []),
  (0, 31, 0, 0, 0, 0, [], [], []),
  (0, 31, 0, 0, 0, 0, [], [], []),
  (0, 31, 0, 0, 0, 0, [], [], []),
  (0, 31, 0, 0, 0, 0, [], [], []),
  (0, 31, 0, 0, 0, 0, [], [], []),
  (0, 30, 0, 0, 0, 0, [([7], [(1, [0]), (1, [2])]), ([], [(1, [0]), (1, [1])])], [], []),
  (0, 30, 0, 0, 0, 0, [([11], [(1, [0]), (1, [2])]), ([], [(1, [0]), (1, [1])])], [], [])]
set_option maxRecDepth 100000 in
theorem sz_s963_1 : sy_seg sz_E sz_T sz_RU [] sz_c963 sz_u963 ri_m_X11_figures 251 (some ((5, [(0, (3, .inr 244, .inl 0)), (1, (0, .inl 1, .inl 0)), (2, (0, .inl 0, .inl 0)), (3, (0, .inl (-1), .inl 0)), (4, (0, .inr 0, .inl 0)), (5, (0, .inr 1, .inl 0))], ([(0, 400), (0, 400), ((-2147483648), 2147483647), (0, 400)], []), [((244, 8), (0, .inr 2, .inl 0)), ((244, 9), (0, .inr 3, .inl 0))], [], [(400, []), ((-1), [2])]))) sz_h963_1 = true := by decide +kernel
theorem sz_ok963 (xs : Nat → Value) (L : Nat) : sy_Cok (sz_env xs L) sz_T sz_RU sz_c963 := sy_chk_ok (CT := []) (CU := sz_u963) (M := ri_m_X11_figures) (fun _ h => absurd h List.not_mem_nil) rfl ⟨_, _, sz_s963_0⟩ (List.forall_mem_cons.mpr ⟨⟨_, _, sz_s963_1⟩, fun _ h => absurd h List.not_mem_nil⟩)

/-! X11_number [244, 0, -1] -/
set_option maxRecDepth 100000 in
noncomputable def sz_c964 : sy_Ct := (269, 2, 47, [(3, .inr 244, .inl 0), (0, .inl 0, .inl 0), (0, .inl (-1), .inl 0)], ([], []), [], [], [(244, 8, 8), (244, 10, 10), (244, 13, 13)], [(.inl (some (0, .inl 0, .inl 0)), 0, 0, ([], []), [], [])])
set_option maxRecDepth 100000 in
noncomputable def sz_u964 : List sy_Cut := []
set_option maxRecDepth 100000 in
noncomputable def sz_h964_0 : List sy_Hn := [(2, 20, 0, 0, 0, 0, [], [], []),
  (5, 20, 1, 0, 0, 0, [], [], []),
  (0, 31, 0, 0, 0, 0, [], [], [])]
set_option maxRecDepth 100000 in
theorem sz_s964_0 : sy_seg sz_E sz_T sz_RU [sz_c262, sz_c963] sz_c964 sz_u964 ri_m_X11_number 16 none sz_h964_0 = true := by decide +kernel
theorem sz_ok964 (xs : Nat → Value) (L : Nat) : sy_Cok (sz_env xs L) sz_T sz_RU sz_c964 := sy_chk_ok (CT := [sz_c262, sz_c963]) (CU := sz_u964) (M := ri_m_X11_number) (List.forall_mem_cons.mpr ⟨sz_ok262 xs L, List.forall_mem_cons.mpr ⟨sz_ok963 xs L, fun _ h => absurd h List.not_mem_nil⟩⟩) rfl ⟨_, _, sz_s964_0⟩ (fun _ h => absurd h List.not_mem_nil)

/-! X11_figures [244, 1, 0, 0] -/
set_option maxRecDepth 100000 in
noncomputable def sz_c965 : sy_Ct := (302, 1, 22, [(3, .inr 244, .inl 0), (0, .inl 1, .inl 0), (0, .inl 0, .inl 0), (0, .inl 0, .inl 0)], ([], []), [], [], [(244, 8, 8), (244, 13, 13)], [(.inl (some (0, .inl 0, .inl 0)), 0, 0, ([], []), [], []), (.inl (some (0, .inl 1, .inl 0)), 0, 0, ([(0, 0)], [[(0, []), ((-1), [0])], [(1, [0]), (0, [])]]), [((244, 13), (0, .inr 0, .inl 0))], [])])
set_option maxRecDepth 100000 in
noncomputable def sz_u965 : List sy_Cut := [(5, [(0, (3, .inr 244, .inl 0)), (1, (0, .inl 1, .inl 0)), (2, (0, .inl 0, .inl 0)), (3, (0, .inl 0, .inl 0)), (4, (0, .inr 0, .inl 0)), (5, (0, .inr 1, .inl 0))], ([(0, 400), (0, 400), ((-2147483648), 2147483647), (0, 400)], []), [((244, 8), (0, .inr 2, .inl 0)), ((244, 9), (0, .inr 3, .inl 0))], [], [(400, []), ((-1), [2])])]
set_option maxRecDepth 100000 in
noncomputable def sz_h965_0 : List sy_Hn := [(5, 4, 244, 9, 0, 0, [], [], []),
  (0, 30, 0, 0, 0, 0, [([0], [(1, [0]), (1, [2])]), ([], [])], [], [])]
set_option maxRecDepth 100000 in
theorem sz_s965_0 : sy_seg sz_E sz_T sz_RU [] sz_c965 sz_u965 ri_m_X11_figures 13 none sz_h965_0 = true := by decide +kernel
set_option maxRecDepth 100000 in
noncomputable def sz_h965_1 : List sy_Hn := [(0, 31, 0, 0, 0, 0, [], [], []),
  (0, 31, 0, 0, 0, 0, [], [], []),
  (0, 31, 0, 0, 0, 0, [], [], []),
  (0, 31, 0, 0, 0, 0, [], [], []),
  (0, 31, 1, 0, 0, 0, [([4], [(1, [0]), (1, [2])]), ([4], [(1, [0]), (1, [1])])], [], []),
  (0, 31, 0, 0, 0, 0, [], [], []),
  (0, 31, 0, 0, 0, 0, [], [], []),
  (0, 31, 0, 0, 0, 0, [], [], []),
  (0, 31, 0, 0, 0, 0, [], [], []),
  (0, 31, 1, 0, 0, 0, [([5], [(1, [0]), (1, [2])]), ([5], [(1, [0]), (1, [1])])], [], []),
  (0, 31, 0, 0, 0, 0, [], [], []),
  (0, 31, 0, 0, 0, 0, [], [], []),
  (0, 31, 0, 0, 0, 0, [], [], []),
  (0, 31, 0, 0, 0, 0, [], [], []),
  (0, 31, 1, 0, 0, 0, [([6], [(1, [0]), (1, [2])]), ([6], [(1, [0]), (1, [1])])], [], []),
  (0, 30, 0, 0, 0, 0, [([7], [(1, [0]), (1, [2])]), ([], [(1, [0]), (1, [1])])], [], []),
  (0, 30, 0, 0, 0, 0, [([11], [(1, [0]), (1, [2])]), ([], [(1, [0]), (1, [1])])], [], [])]
set_option maxRecDepth 100000 in
theorem sz_s965_1 : sy_seg sz_E sz_T sz_RU [] sz_c965 sz_u965 ri_m_X11_figures 275 (some ((5, [(0, (3, .inr 244, .inl 0)), (1, (0, .inl 1, .inl 0)), (2, (0, .inl 0, .inl 0)), (3, (0, .inl 0, .inl 0)), (4, (0, .inr 0, .inl 0)), (5, (0, .inr 1, .inl 0))], ([(0, 400), (0, 400), ((-2147483648), 2147483647), (0, 400)], []), [((244, 8), (0, .inr 2, .inl 0)), ((244, 9), (0, .inr 3, .inl 0))], [], [(400, []), ((-1), [2])]))) sz_h965_1 = true := by decide +kernel
theorem sz_ok965 (xs : Nat → Value) (L : Nat) : sy_Cok (sz_env xs L) sz_T sz_RU sz_c965 := sy_chk_ok (CT := []) (CU := sz_u965) (M := ri_m_X11_figures) (fun _ h => absurd h List.not_mem_nil) rfl ⟨_, _, sz_s965_0⟩ (List.forall_mem_cons.mpr ⟨⟨_, _, sz_s965_1⟩, fun _ h => absurd h List.not_mem_nil⟩)

/-! X11_number [244, 0, 0] -/
set_option maxRecDepth 100000 in
noncomputable def sz_c966 : sy_Ct := (269, 2, 47, [(3, .inr 244, .inl 0), (0, .inl 0, .inl 0), (0, .inl 0, .inl 0)], ([], []), [], [], [(244, 8, 8), (244, 10, 10), (244, 13, 13)], [(.inl (some (0, .inl 0, .inl 0)), 0, 0, ([], []), [], []), (.inl (some (0, .inl 1, .inl 0)), 0, 0, ([(0, 0)], [[(0, []), ((-1), [0])], [(1, [0]), (0, [])]]), [((244, 13), (0, .inr 0, .inl 0))], [])])
set_option maxRecDepth 100000 in
noncomputable def sz_u966 : List sy_Cut := []
set_option maxRecDepth 100000 in
noncomputable def sz_h966_0 : List sy_Hn := [(2, 20, 0, 0, 0, 0, [], [], []),
  (5, 20, 1, 0, 0, 0, [], [], []),
  (0, 31, 0, 0, 0, 0, [], [], []),
  (0, 31, 1, 0, 0, 0, [([0], [(1, [0]), (1, [2])]), ([0], [(1, [0]), (1, [1])])], [], [])]
set_option maxRecDepth 100000 in
theorem sz_s966_0 : sy_seg sz_E sz_T sz_RU [sz_c262, sz_c965] sz_c966 sz_u966 ri_m_X11_number 18 none sz_h966_0 = true := by decide +kernel
theorem sz_ok966 (xs : Nat → Value) (L : Nat) : sy_Cok (sz_env xs L) sz_T sz_RU sz_c966 := sy_chk_ok (CT := [sz_c262, sz_c965]) (CU := sz_u966) (M := ri_m_X11_number) (List.forall_mem_cons.mpr ⟨sz_ok262 xs L, List.forall_mem_cons.mpr ⟨sz_ok965 xs L, fun _ h => absurd h List.not_mem_nil⟩⟩) rfl ⟨_, _, sz_s966_0⟩ (fun _ h => absurd h List.not_mem_nil)

/-! X11_figures [244, 1, 0, 1] -/
set_option maxRecDepth 100000 in
noncomputable def sz_c967 : sy_Ct := (302, 1, 22, [(3, .inr 244, .inl 0), (0, .inl 1, .inl 0), (0, .inl 0, .inl 0), (0, .inl 1, .inl 0)], ([], []), [], [], [(244, 8, 8), (244, 13, 13)], [(.inl (some (0, .inl 0, .inl 0)), 0, 0, ([], []), [], []), (.inl (some (0, .inl 1, .inl 0)), 0, 0, ([(0, 1)], [[(1, []), ((-1), [0])], [(1, [0]), (0, [])]]), [((244, 13), (0, .inr 0, .inl 0))], [])])
set_option maxRecDepth 100000 in
noncomputable def sz_u967 : List sy_Cut := [(5, [(0, (3, .inr 244, .inl 0)), (1, (0, .inl 1, .inl 0)), (2, (0, .inl 0, .inl 0)), (3, (0, .inl 1, .inl 0)), (4, (0, .inr 0, .inl 0)), (5, (0, .inr 1, .inl 0))], ([(0, 400), (0, 400), ((-2147483648), 2147483647), (0, 400)], []), [((244, 8), (0, .inr 2, .inl 0)), ((244, 9), (0, .inr 3, .inl 0))], [], [(400, []), ((-1), [2])])]
set_option maxRecDepth 100000 in
noncomputable def sz_h967_0 : List sy_Hn := [(5, 4, 244, 9, 0, 0, [], [], []),
  (0, 30, 0, 0, 0, 0, [([0], [(1, [0]), (1, [2])]), ([], [])], [], [])]
set_option maxRecDepth 100000 in
theorem sz_s967_0 : sy_seg sz_E sz_T sz_RU [] sz_c967 sz_u967 ri_m_X11_figures 13 none sz_h967_0 = true := by decide +kernel
set_option maxRecDepth 100000 in
noncomputable def sz_h967_1 : List sy_Hn := [(0, 31, 0, 0, 0, 0, [], [], []),
  (0, 31, 0, 0, 0, 0, [], [], []),
  (0, 31, 0, 0, 0, 0, [], [], []),
  (0, 31, 0, 0, 0, 0, [], [], []),
  (0, 31, 1, 0, 0, 0, [([4], [(1, [0]), (1, [2])]), ([4], [(1, [0]), (1, [1])])], [], []),
  (0, 31, 0, 0, 0, 0, [], [], []),
  (0, 31, 0, 0, 0, 0, [], [], []),
  (0, 31, 0, 0, 0, 0, [], [], []),
  (0, 31, 0, 0, 0, 0, [], [], []),
  (0, 31, 1, 0, 0, 0, [([5], [(1, [0]), (1, [2])]), ([5], [(1, [0]), (1, [1])])], [], []),
  (0, 31, 0, 0, 0, 0, [], [], []),
  (0, 31, 0, 0, 0, 0, [], [], []),
  (0, 31, 0, 0, 0, 0, [], [], []),
  (0, 31, 0, 0, 0, 0, [], [], []),
  (0, 31, 1, 0, 0, 0, [([6], [(1, [0]), (1, [2])]), ([6], [(1, [0]), (1, [1])])], [], []),
  (0, 30, 0, 0, 0, 0, [([7], [(1, [0]), (1, [2])]), ([], [(1, [0]), (1, [1])])], [], []),
  (0, 30, 0, 0, 0, 0, [([11], [(1, [0]), (1, [2])]), ([], [(1, [0]), (1, [1])])], [], [])]
set_option maxRecDepth 100000 in
theorem sz_s967_1 : sy_seg sz_E sz_T sz_RU [] sz_c967 sz_u967 ri_m_X11_figures 275 (some ((5, [(0, (3, .inr 244, .inl 0)), (1, (0, .inl 1, .inl 0)), (2, (0, .inl 0, .inl 0)), (3, (0, .inl 1, .inl 0)), (4, (0, .inr 0, .inl 0)), (5, (0, .inr 1, .inl 0))], ([(0, 400), (0, 400), ((-2147483648), 2147483647), (0, 400)], []), [((244, 8), (0, .inr 2, .inl 0)), ((244, 9), (0, .inr 3, .inl 0))], [], [(400, []), ((-1), [2])]))) sz_h967_1 = true := by decide +kernel
theorem sz_ok967 (xs : Nat → Value) (L : Nat) : sy_Cok (sz_env xs L) sz_T sz_RU sz_c967 := sy_chk_ok (CT := []) (CU := sz_u967) (M := ri_m_X11_figures) (fun _ h => absurd h List.not_mem_nil) rfl ⟨_, _, sz_s967_0⟩ (List.forall_mem_cons.mpr ⟨⟨_, _, sz_s967_1⟩, fun _ h => absurd h List.not_mem_nil⟩)

/-! X11_number [244, 0, 1] -/
set_option maxRecDepth 100000 in
noncomputable def sz_c968 : sy_Ct := (269, 2, 47, [(3, .inr 244, .inl 0), (0, .inl 0, .inl 0), (0, .inl 1, .inl 0)], ([], []), [], [], [(244, 8, 8), (244, 10, 10), (244, 13, 13)], [(.inl (some (0, .inl 0, .inl 0)), 0, 0, ([], []), [], []), (.inl (some (0, .inl 1, .inl 0)), 0, 0, ([(0, 1)], [[(1, []), ((-1), [0])], [(1, [0]), (0, [])]]), [((244, 13), (0, .inr 0, .inl 0))], [])])
set_option maxRecDepth 100000 in
noncomputable def sz_u968 : List sy_Cut := []
set_option maxRecDepth 100000 in
noncomputable def sz_h968_0 : List sy_Hn := [(2, 20, 0, 0, 0, 0, [], [], []),
  (5, 20, 1, 0, 0, 0, [], [], []),
  (0, 31, 0, 0, 0, 0, [], [], []),
  (0, 31, 1, 0, 0, 0, [([0], [(1, [0]), (1, [2])]), ([0], [(1, [0]), (1, [1])])], [], [])]
set_option maxRecDepth 100000 in
theorem sz_s968_0 : sy_seg sz_E sz_T sz_RU [sz_c262, sz_c967] sz_c968 sz_u968 ri_m_X11_number 18 none sz_h968_0 = true := by decide +kernel
theorem sz_ok968 (xs : Nat → Value) (L : Nat) : sy_Cok (sz_env xs L) sz_T sz_RU sz_c968 := sy_chk_ok (CT := [sz_c262, sz_c967]) (CU := sz_u968) (M := ri_m_X11_number) (List.forall_mem_cons.mpr ⟨sz_ok262 xs L, List.forall_mem_cons.mpr ⟨sz_ok967 xs L, fun _ h => absurd h List.not_mem_nil⟩⟩) rfl ⟨_, _, sz_s968_0⟩ (fun _ h => absurd h List.not_mem_nil)

/-! X11_figures [244, 1, 0, 2] -/
set_option maxRecDepth 100000 in
noncomputable def sz_c969 : sy_Ct := (302, 1, 22, [(3, .inr 244, .inl 0), (0, .inl 1, .inl 0), (0, .inl 0, .inl 0), (0, .inl 2, .inl 0)], ([], []), [], [], [(244, 8, 8), (244, 13, 13)], [(.inl (some (0, .inl 0, .inl 0)), 0, 0, ([], []), [], []), (.inl (some (0, .inl 1, .inl 0)), 0, 0, ([(0, 2)], [[(2, []), ((-1), [0])], [(1, [0]), (0, [])]]), [((244, 13), (0, .inr 0, .inl 0))], [])])
set_option maxRecDepth 100000 in
noncomputable def sz_u969 : List sy_Cut := [(5, [(0, (3, .inr 244, .inl 0)), (1, (0, .inl 1, .inl 0)), (2, (0, .inl 0, .inl 0)), (3, (0, .inl 2, .inl 0)), (4, (0, .inr 0, .inl 0)), (5, (0, .inr 1, .inl 0))], ([(0, 400), (0, 400), ((-2147483648), 2147483647), (0, 400)], []), [((244, 8), (0, .inr 2, .inl 0)), ((244, 9), (0, .inr 3, .inl 0))], [], [(400, []), ((-1), [2])])]
set_option maxRecDepth 100000 in
noncomputable def sz_h969_0 : List sy_Hn := [(5, 4, 244, 9, 0, 0, [], [], []),
  (0, 30, 0, 0, 0, 0, [([0], [(1, [0]), (1, [2])]), ([], [])], [], [])]
set_option maxRecDepth 100000 in
theorem sz_s969_0 : sy_seg sz_E sz_T sz_RU [] sz_c969 sz_u969 ri_m_X11_figures 13 none sz_h969_0 = true := by decide +kernel
set_option maxRecDepth 100000 in
noncomputable def sz_h969_1 : List sy_Hn := [(0, 31, 0, 0, 0, 0, [], [], []),
  (0, 31, 0, 0, 0, 0, [], [], []),
  (0, 31, 0, 0, 0, 0, [], [], []),
  (0, 31, 0, 0, 0, 0, [], [], []),
  (0, 31, 1, 0, 0, 0, [([4], [(1, [0]), (1, [2])]), ([4], [(1, [0]), (1, [1])])], [], []),
  (0, 31, 0, 0, 0, 0, [], [], []),
  (0, 31, 0, 0, 0, 0, [], [], []),
  (0, 31, 0, 0, 0, 0, [], [], []),
  (0, 31, 0, 0, 0, 0, [], [], []),
  (0, 31, 1, 0, 0, 0, [([5], [(1, [0]), (1, [2])]), ([5], [(1, [0]), (1, [1])])], [], []),
  (0, 31, 0, 0, 0, 0, [], [], []),
  (0, 31, 0, 0, 0, 0, [], [], []),
  (0, 31, 0, 0, 0, 0, [], [], []),
  (0, 31, 0, 0, 0, 0, [], [], []),
  (0, 31, 1, 0, 0, 0, [([6], [(1, [0]), (1, [2])]), ([6], [(1, [0]), (1, [1])])], [], []),
  (0, 30, 0, 0, 0, 0, [([7], [(1, [0]), (1, [2])]), ([], [(1, [0]), (1, [1])])], [], []),
  (0, 30, 0, 0, 0, 0, [([11], [(1, [0]), (1, [2])]), ([], [(1, [0]), (1, [1])])], [], [])]
set_option maxRecDepth 100000 in
theorem sz_s969_1 : sy_seg sz_E sz_T sz_RU [] sz_c969 sz_u969 ri_m_X11_figures 275 (some ((5, [(0, (3, .inr 244, .inl 0)), (1, (0, .inl 1, .inl 0)), (2, (0, .inl 0, .inl 0)), (3, (0, .inl 2, .inl 0)), (4, (0, .inr 0, .inl 0)), (5, (0, .inr 1, .inl 0))], ([(0, 400), (0, 400), ((-2147483648), 2147483647), (0, 400)], []), [((244, 8), (0, .inr 2, .inl 0)), ((244, 9), (0, .inr 3, .inl 0))], [], [(400, []), ((-1), [2])]))) sz_h969_1 = true := by decide +kernel
theorem sz_ok969 (xs : Nat → Value) (L : Nat) : sy_Cok (sz_env xs L) sz_T sz_RU sz_c969 := sy_chk_ok (CT := []) (CU := sz_u969) (M := ri_m_X11_figures) (fun _ h => absurd h List.not_mem_nil) rfl ⟨_, _, sz_s969_0⟩ (List.forall_mem_cons.mpr ⟨⟨_, _, sz_s969_1⟩, fun _ h => absurd h List.not_mem_nil⟩)

/-! X11_number [244, 0, 2] -/
set_option maxRecDepth 100000 in
noncomputable def sz_c970 : sy_Ct := (269, 2, 47, [(3, .inr 244, .inl 0), (0, .inl 0, .inl 0), (0, .inl 2, .inl 0)], ([], []), [], [], [(244, 8, 8), (244, 10, 10), (244, 13, 13)], [(.inl (some (0, .inl 0, .inl 0)), 0, 0, ([], []), [], []), (.inl (some (0, .inl 1, .inl 0)), 0, 0, ([(0, 2)], [[(2, []), ((-1), [0])], [(1, [0]), (0, [])]]), [((244, 13), (0, .inr 0, .inl 0))], [])])
set_option maxRecDepth 100000 in
noncomputable def sz_u970 : List sy_Cut := []
set_option maxRecDepth 100000 in
noncomputable def sz_h970_0 : List sy_Hn := [(2, 20, 0, 0, 0, 0, [], [], []),
  (5, 20, 1, 0, 0, 0, [], [], []),
  (0, 31, 0, 0, 0, 0, [], [], []),
  (0, 31, 1, 0, 0, 0, [([0], [(1, [0]), (1, [2])]), ([0], [(1, [0]), (1, [1])])], [], [])]
set_option maxRecDepth 100000 in
theorem sz_s970_0 : sy_seg sz_E sz_T sz_RU [sz_c262, sz_c969] sz_c970 sz_u970 ri_m_X11_number 18 none sz_h970_0 = true := by decide +kernel
theorem sz_ok970 (xs : Nat → Value) (L : Nat) : sy_Cok (sz_env xs L) sz_T sz_RU sz_c970 := sy_chk_ok (CT := [sz_c262, sz_c969]) (CU := sz_u970) (M := ri_m_X11_number) (List.forall_mem_cons.mpr ⟨sz_ok262 xs L, List.forall_mem_cons.mpr ⟨sz_ok969 xs L, fun _ h => absurd h List.not_mem_nil⟩⟩) rfl ⟨_, _, sz_s970_0⟩ (fun _ h => absurd h List.not_mem_nil)
