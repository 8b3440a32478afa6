/-! ===== the survey: contracts 190 to 218 ===== -/
/-! X11_isGained [244, 0, 0, 1, 9999] -/
set_option maxRecDepth 100000 in
noncomputable def sz_c190 : sy_Ct := (109, 5, 116, [(3, .inr 244, .inl 0), (0, .inl 0, .inl 0), (1, .inr 0, .inl 0), (1, .inr 1, .inl 0), (1, .inl 9999, .inl 0)], ([(0, 9999), (0, 9999)], []), [], [], [(245, 33, 35), (245, 37, 39), (245, 41, 43), (245, 54, 54)], [(.inl none, 0, 0, ([(0, 9999), (0, 9999)], []), [], [])])
set_option maxRecDepth 100000 in
noncomputable def sz_u190 : List sy_Cut := []
set_option maxRecDepth 100000 in
noncomputable def sz_h190_0 : List sy_Hn := [(69, 1, 4, 0, 0, 0, [], [], []),
  (277, 20, 0, 0, 0, 0, [], [], []),
  (0, 31, 0, 0, 0, 0, [], [], []),
  (0, 1, 4, 0, 1, 0, [], [], []),
  (277, 20, 0, 0, 0, 0, [], [], []),
  (0, 31, 0, 0, 0, 0, [], [], []),
  (277, 20, 0, 0, 0, 0, [], [], []),
  (0, 31, 0, 0, 0, 0, [], [], [])]
set_option maxRecDepth 100000 in
theorem sz_s190_0 : sy_seg sz_E sz_T sz_RU [sz_c178] sz_c190 sz_u190 ri_m_X11_isGained 918 none sz_h190_0 = true := by decide +kernel
theorem sz_ok190 (xs : Nat → Value) (L : Nat) : sy_Cok (sz_env xs L) sz_T sz_RU sz_c190 := sy_chk_ok (CT := [sz_c178]) (CU := sz_u190) (M := ri_m_X11_isGained) (List.forall_mem_cons.mpr ⟨sz_ok178 xs L, fun _ h => absurd h List.not_mem_nil⟩) rfl ⟨_, _, sz_s190_0⟩ (fun _ h => absurd h List.not_mem_nil)

/-! X11_isGained [244, 0, 0, 9999, 1] -/
set_option maxRecDepth 100000 in
noncomputable def sz_c191 : sy_Ct := (109, 5, 116, [(3, .inr 244, .inl 0), (0, .inl 0, .inl 0), (1, .inr 0, .inl 0), (1, .inl 9999, .inl 0), (1, .inr 1, .inl 0)], ([(0, 9999), (0, 9999)], []), [], [], [(245, 33, 35), (245, 37, 39), (245, 41, 43), (245, 54, 54)], [(.inl none, 0, 0, ([(0, 9999), (0, 9999)], []), [], [])])
set_option maxRecDepth 100000 in
noncomputable def sz_u191 : List sy_Cut := []
set_option maxRecDepth 100000 in
noncomputable def sz_h191_0 : List sy_Hn := [(69, 1, 4, 0, 0, 0, [], [], []),
  (277, 20, 0, 0, 0, 0, [], [], []),
  (0, 31, 0, 0, 0, 0, [], [], []),
  (0, 1, 4, 0, 1, 0, [], [], []),
  (277, 20, 0, 0, 0, 0, [], [], []),
  (0, 31, 0, 0, 0, 0, [], [], []),
  (277, 20, 0, 0, 0, 0, [], [], []),
  (0, 31, 0, 0, 0, 0, [], [], [])]
set_option maxRecDepth 100000 in
theorem sz_s191_0 : sy_seg sz_E sz_T sz_RU [sz_c178] sz_c191 sz_u191 ri_m_X11_isGained 918 none sz_h191_0 = true := by decide +kernel
theorem sz_ok191 (xs : Nat → Value) (L : Nat) : sy_Cok (sz_env xs L) sz_T sz_RU sz_c191 := sy_chk_ok (CT := [sz_c178]) (CU := sz_u191) (M := ri_m_X11_isGained) (List.forall_mem_cons.mpr ⟨sz_ok178 xs L, fun _ h => absurd h List.not_mem_nil⟩) rfl ⟨_, _, sz_s191_0⟩ (fun _ h => absurd h List.not_mem_nil)

/-! X11_isGained [244, 0, 0, 9999, 9999] -/
set_option maxRecDepth 100000 in
noncomputable def sz_c192 : sy_Ct := (109, 5, 116, [(3, .inr 244, .inl 0), (0, .inl 0, .inl 0), (1, .inr 0, .inl 0), (1, .inl 9999, .inl 0), (1, .inl 9999, .inl 0)], ([(0, 9999)], []), [], [], [(245, 33, 35), (245, 37, 39), (245, 41, 43), (245, 54, 54)], [(.inl none, 0, 0, ([(0, 9999)], []), [], [])])
set_option maxRecDepth 100000 in
noncomputable def sz_u192 : List sy_Cut := []
set_option maxRecDepth 100000 in
noncomputable def sz_h192_0 : List sy_Hn := [(69, 1, 3, 0, 0, 0, [], [], []),
  (277, 20, 0, 0, 0, 0, [], [], []),
  (0, 31, 0, 0, 0, 0, [], [], []),
  (0, 1, 3, 0, 1, 0, [], [], []),
  (277, 20, 0, 0, 0, 0, [], [], []),
  (0, 31, 0, 0, 0, 0, [], [], []),
  (277, 20, 0, 0, 0, 0, [], [], []),
  (0, 31, 0, 0, 0, 0, [], [], [])]
set_option maxRecDepth 100000 in
theorem sz_s192_0 : sy_seg sz_E sz_T sz_RU [sz_c178] sz_c192 sz_u192 ri_m_X11_isGained 918 none sz_h192_0 = true := by decide +kernel
theorem sz_ok192 (xs : Nat → Value) (L : Nat) : sy_Cok (sz_env xs L) sz_T sz_RU sz_c192 := sy_chk_ok (CT := [sz_c178]) (CU := sz_u192) (M := ri_m_X11_isGained) (List.forall_mem_cons.mpr ⟨sz_ok178 xs L, fun _ h => absurd h List.not_mem_nil⟩) rfl ⟨_, _, sz_s192_0⟩ (fun _ h => absurd h List.not_mem_nil)

/-! X11_isGained [244, 0, 0, 1, 0] -/
set_option maxRecDepth 100000 in
noncomputable def sz_c193 : sy_Ct := (109, 5, 116, [(3, .inr 244, .inl 0), (0, .inl 0, .inl 0), (1, .inr 0, .inl 0), (1, .inr 1, .inl 0), (1, .inl 0, .inl 0)], ([(0, 9999), (0, 9999)], []), [], [], [(245, 33, 35), (245, 37, 39), (245, 41, 43), (245, 54, 54)], [(.inl none, 0, 0, ([(0, 9999), (0, 9999)], []), [], [])])
set_option maxRecDepth 100000 in
noncomputable def sz_u193 : List sy_Cut := []
set_option maxRecDepth 100000 in
noncomputable def sz_h193_0 : List sy_Hn := [(69, 1, 4, 0, 0, 0, [], [], []),
  (277, 20, 0, 0, 0, 0, [], [], []),
  (0, 31, 0, 0, 0, 0, [], [], []),
  (0, 1, 4, 0, 1, 0, [], [], []),
  (277, 20, 0, 0, 0, 0, [], [], []),
  (0, 31, 0, 0, 0, 0, [], [], []),
  (277, 20, 0, 0, 0, 0, [], [], []),
  (0, 31, 0, 0, 0, 0, [], [], [])]
set_option maxRecDepth 100000 in
theorem sz_s193_0 : sy_seg sz_E sz_T sz_RU [sz_c178] sz_c193 sz_u193 ri_m_X11_isGained 918 none sz_h193_0 = true := by decide +kernel
theorem sz_ok193 (xs : Nat → Value) (L : Nat) : sy_Cok (sz_env xs L) sz_T sz_RU sz_c193 := sy_chk_ok (CT := [sz_c178]) (CU := sz_u193) (M := ri_m_X11_isGained) (List.forall_mem_cons.mpr ⟨sz_ok178 xs L, fun _ h => absurd h List.not_mem_nil⟩) rfl ⟨_, _, sz_s193_0⟩ (fun _ h => absurd h List.not_mem_nil)

/-! X11_isGained [244, 0, 0, 9999, 0] -/
set_option maxRecDepth 100000 in
noncomputable def sz_c194 : sy_Ct := (109, 5, 116, [(3, .inr 244, .inl 0), (0, .inl 0, .inl 0), (1, .inr 0, .inl 0), (1, .inl 9999, .inl 0), (1, .inl 0, .inl 0)], ([(0, 9999)], []), [], [], [(245, 33, 35), (245, 37, 39), (245, 41, 43), (245, 54, 54)], [(.inl none, 0, 0, ([(0, 9999)], []), [], [])])
set_option maxRecDepth 100000 in
noncomputable def sz_u194 : List sy_Cut := []
set_option maxRecDepth 100000 in
noncomputable def sz_h194_0 : List sy_Hn := [(69, 1, 3, 0, 0, 0, [], [], []),
  (277, 20, 0, 0, 0, 0, [], [], []),
  (0, 31, 0, 0, 0, 0, [], [], []),
  (0, 1, 3, 0, 1, 0, [], [], []),
  (277, 20, 0, 0, 0, 0, [], [], []),
  (0, 31, 0, 0, 0, 0, [], [], []),
  (277, 20, 0, 0, 0, 0, [], [], []),
  (0, 31, 0, 0, 0, 0, [], [], [])]
set_option maxRecDepth 100000 in
theorem sz_s194_0 : sy_seg sz_E sz_T sz_RU [sz_c178] sz_c194 sz_u194 ri_m_X11_isGained 918 none sz_h194_0 = true := by decide +kernel
theorem sz_ok194 (xs : Nat → Value) (L : Nat) : sy_Cok (sz_env xs L) sz_T sz_RU sz_c194 := sy_chk_ok (CT := [sz_c178]) (CU := sz_u194) (M := ri_m_X11_isGained) (List.forall_mem_cons.mpr ⟨sz_ok178 xs L, fun _ h => absurd h List.not_mem_nil⟩) rfl ⟨_, _, sz_s194_0⟩ (fun _ h => absurd h List.not_mem_nil)

/-! X11_isGained [244, 1, 0, 1, 9999] -/
set_option maxRecDepth 100000 in
noncomputable def sz_c195 : sy_Ct := (109, 5, 116, [(3, .inr 244, .inl 0), (0, .inl 1, .inl 0), (1, .inr 0, .inl 0), (1, .inr 1, .inl 0), (1, .inl 9999, .inl 0)], ([(0, 9999), (0, 9999)], []), [], [], [(245, 110, 112), (245, 114, 116), (245, 118, 120), (245, 131, 131)], [(.inl none, 0, 0, ([(0, 9999), (0, 9999)], []), [], [])])
set_option maxRecDepth 100000 in
noncomputable def sz_u195 : List sy_Cut := []
set_option maxRecDepth 100000 in
noncomputable def sz_h195_0 : List sy_Hn := [(69, 1, 4, 0, 0, 0, [], [], []),
  (277, 20, 0, 0, 0, 0, [], [], []),
  (0, 31, 0, 0, 0, 0, [], [], []),
  (0, 1, 4, 0, 1, 0, [], [], []),
  (277, 20, 0, 0, 0, 0, [], [], []),
  (0, 31, 0, 0, 0, 0, [], [], []),
  (277, 20, 0, 0, 0, 0, [], [], []),
  (0, 31, 0, 0, 0, 0, [], [], [])]
set_option maxRecDepth 100000 in
theorem sz_s195_0 : sy_seg sz_E sz_T sz_RU [sz_c180] sz_c195 sz_u195 ri_m_X11_isGained 918 none sz_h195_0 = true := by decide +kernel
theorem sz_ok195 (xs : Nat → Value) (L : Nat) : sy_Cok (sz_env xs L) sz_T sz_RU sz_c195 := sy_chk_ok (CT := [sz_c180]) (CU := sz_u195) (M := ri_m_X11_isGained) (List.forall_mem_cons.mpr ⟨sz_ok180 xs L, fun _ h => absurd h List.not_mem_nil⟩) rfl ⟨_, _, sz_s195_0⟩ (fun _ h => absurd h List.not_mem_nil)

/-! X11_isGained [244, 1, 0, 9999, 1] -/
set_option maxRecDepth 100000 in
noncomputable def sz_c196 : sy_Ct := (109, 5, 116, [(3, .inr 244, .inl 0), (0, .inl 1, .inl 0), (1, .inr 0, .inl 0), (1, .inl 9999, .inl 0), (1, .inr 1, .inl 0)], ([(0, 9999), (0, 9999)], []), [], [], [(245, 110, 112), (245, 114, 116), (245, 118, 120), (245, 131, 131)], [(.inl none, 0, 0, ([(0, 9999), (0, 9999)], []), [], [])])
set_option maxRecDepth 100000 in
noncomputable def sz_u196 : List sy_Cut := []
set_option maxRecDepth 100000 in
noncomputable def sz_h196_0 : List sy_Hn := [(69, 1, 4, 0, 0, 0, [], [], []),
  (277, 20, 0, 0, 0, 0, [], [], []),
  (0, 31, 0, 0, 0, 0, [], [], []),
  (0, 1, 4, 0, 1, 0, [], [], []),
  (277, 20, 0, 0, 0, 0, [], [], []),
  (0, 31, 0, 0, 0, 0, [], [], []),
  (277, 20, 0, 0, 0, 0, [], [], []),
  (0, 31, 0, 0, 0, 0, [], [], [])]
set_option maxRecDepth 100000 in
theorem sz_s196_0 : sy_seg sz_E sz_T sz_RU [sz_c180] sz_c196 sz_u196 ri_m_X11_isGained 918 none sz_h196_0 = true := by decide +kernel
theorem sz_ok196 (xs : Nat → Value) (L : Nat) : sy_Cok (sz_env xs L) sz_T sz_RU sz_c196 := sy_chk_ok (CT := [sz_c180]) (CU := sz_u196) (M := ri_m_X11_isGained) (List.forall_mem_cons.mpr ⟨sz_ok180 xs L, fun _ h => absurd h List.not_mem_nil⟩) rfl ⟨_, _, sz_s196_0⟩ (fun _ h => absurd h List.not_mem_nil)

/-! X11_isGained [244, 1, 0, 9999, 9999] -/
set_option maxRecDepth 100000 in
noncomputable def sz_c197 : sy_Ct := (109, 5, 116, [(3, .inr 244, .inl 0), (0, .inl 1, .inl 0), (1, .inr 0, .inl 0), (1, .inl 9999, .inl 0), (1, .inl 9999, .inl 0)], ([(0, 9999)], []), [], [], [(245, 110, 112), (245, 114, 116), (245, 118, 120), (245, 131, 131)], [(.inl none, 0, 0, ([(0, 9999)], []), [], [])])
set_option maxRecDepth 100000 in
noncomputable def sz_u197 : List sy_Cut := []
set_option maxRecDepth 100000 in
noncomputable def sz_h197_0 : List sy_Hn := [(69, 1, 3, 0, 0, 0, [], [], []),
  (277, 20, 0, 0, 0, 0, [], [], []),
  (0, 31, 0, 0, 0, 0, [], [], []),
  (0, 1, 3, 0, 1, 0, [], [], []),
  (277, 20, 0, 0, 0, 0, [], [], []),
  (0, 31, 0, 0, 0, 0, [], [], []),
  (277, 20, 0, 0, 0, 0, [], [], []),
  (0, 31, 0, 0, 0, 0, [], [], [])]
set_option maxRecDepth 100000 in
theorem sz_s197_0 : sy_seg sz_E sz_T sz_RU [sz_c180] sz_c197 sz_u197 ri_m_X11_isGained 918 none sz_h197_0 = true := by decide +kernel
theorem sz_ok197 (xs : Nat → Value) (L : Nat) : sy_Cok (sz_env xs L) sz_T sz_RU sz_c197 := sy_chk_ok (CT := [sz_c180]) (CU := sz_u197) (M := ri_m_X11_isGained) (List.forall_mem_cons.mpr ⟨sz_ok180 xs L, fun _ h => absurd h List.not_mem_nil⟩) rfl ⟨_, _, sz_s197_0⟩ (fun _ h => absurd h List.not_mem_nil)

/-! X11_isGained [244, 1, 0, 1, 0] -/
set_option maxRecDepth 100000 in
noncomputable def sz_c198 : sy_Ct := (109, 5, 116, [(3, .inr 244, .inl 0), (0, .inl 1, .inl 0), (1, .inr 0, .inl 0), (1, .inr 1, .inl 0), (1, .inl 0, .inl 0)], ([(0, 9999), (0, 9999)], []), [], [], [(245, 110, 112), (245, 114, 116), (245, 118, 120), (245, 131, 131)], [(.inl none, 0, 0, ([(0, 9999), (0, 9999)], []), [], [])])
set_option maxRecDepth 100000 in
noncomputable def sz_u198 : List sy_Cut := []
set_option maxRecDepth 100000 in
noncomputable def sz_h198_0 : List sy_Hn := [(69, 1, 4, 0, 0, 0, [], [], []),
  (277, 20, 0, 0, 0, 0, [], [], []),
  (0, 31, 0, 0, 0, 0, [], [], []),
  (0, 1, 4, 0, 1, 0, [], [], []),
  (277, 20, 0, 0, 0, 0, [], [], []),
  (0, 31, 0, 0, 0, 0, [], [], []),
  (277, 20, 0, 0, 0, 0, [], [], []),
  (0, 31, 0, 0, 0, 0, [], [], [])]
set_option maxRecDepth 100000 in
theorem sz_s198_0 : sy_seg sz_E sz_T sz_RU [sz_c180] sz_c198 sz_u198 ri_m_X11_isGained 918 none sz_h198_0 = true := by decide +kernel
theorem sz_ok198 (xs : Nat → Value) (L : Nat) : sy_Cok (sz_env xs L) sz_T sz_RU sz_c198 := sy_chk_ok (CT := [sz_c180]) (CU := sz_u198) (M := ri_m_X11_isGained) (List.forall_mem_cons.mpr ⟨sz_ok180 xs L, fun _ h => absurd h List.not_mem_nil⟩) rfl ⟨_, _, sz_s198_0⟩ (fun _ h => absurd h List.not_mem_nil)

/-! X11_isGained [244, 1, 0, 9999, 0] -/
set_option maxRecDepth 100000 in
noncomputable def sz_c199 : sy_Ct := (109, 5, 116, [(3, .inr 244, .inl 0), (0, .inl 1, .inl 0), (1, .inr 0, .inl 0), (1, .inl 9999, .inl 0), (1, .inl 0, .inl 0)], ([(0, 9999)], []), [], [], [(245, 110, 112), (245, 114, 116), (245, 118, 120), (245, 131, 131)], [(.inl none, 0, 0, ([(0, 9999)], []), [], [])])
set_option maxRecDepth 100000 in
noncomputable def sz_u199 : List sy_Cut := []
set_option maxRecDepth 100000 in
noncomputable def sz_h199_0 : List sy_Hn := [(69, 1, 3, 0, 0, 0, [], [], []),
  (277, 20, 0, 0, 0, 0, [], [], []),
  (0, 31, 0, 0, 0, 0, [], [], []),
  (0, 1, 3, 0, 1, 0, [], [], []),
  (277, 20, 0, 0, 0, 0, [], [], []),
  (0, 31, 0, 0, 0, 0, [], [], []),
  (277, 20, 0, 0, 0, 0, [], [], []),
  (0, 31, 0, 0, 0, 0, [], [], [])]
set_option maxRecDepth 100000 in
theorem sz_s199_0 : sy_seg sz_E sz_T sz_RU [sz_c180] sz_c199 sz_u199 ri_m_X11_isGained 918 none sz_h199_0 = true := by decide +kernel
theorem sz_ok199 (xs : Nat → Value) (L : Nat) : sy_Cok (sz_env xs L) sz_T sz_RU sz_c199 := sy_chk_ok (CT := [sz_c180]) (CU := sz_u199) (M := ri_m_X11_isGained) (List.forall_mem_cons.mpr ⟨sz_ok180 xs L, fun _ h => absurd h List.not_mem_nil⟩) rfl ⟨_, _, sz_s199_0⟩ (fun _ h => absurd h List.not_mem_nil)

/-! X11_isGained [244, 2, 0, 1, 9999] -/
set_option maxRecDepth 100000 in
noncomputable def sz_c200 : sy_Ct := (109, 5, 116, [(3, .inr 244, .inl 0), (0, .inl 2, .inl 0), (1, .inr 0, .inl 0), (1, .inr 1, .inl 0), (1, .inl 9999, .inl 0)], ([(0, 9999), (0, 9999)], []), [], [], [(245, 187, 189), (245, 191, 193), (245, 195, 197), (245, 208, 208)], [(.inl none, 0, 0, ([(0, 9999), (0, 9999)], []), [], [])])
set_option maxRecDepth 100000 in
noncomputable def sz_u200 : List sy_Cut := []
set_option maxRecDepth 100000 in
noncomputable def sz_h200_0 : List sy_Hn := [(69, 1, 4, 0, 0, 0, [], [], []),
  (277, 20, 0, 0, 0, 0, [], [], []),
  (0, 31, 0, 0, 0, 0, [], [], []),
  (0, 1, 4, 0, 1, 0, [], [], []),
  (277, 20, 0, 0, 0, 0, [], [], []),
  (0, 31, 0, 0, 0, 0, [], [], []),
  (277, 20, 0, 0, 0, 0, [], [], []),
  (0, 31, 0, 0, 0, 0, [], [], [])]
set_option maxRecDepth 100000 in
theorem sz_s200_0 : sy_seg sz_E sz_T sz_RU [sz_c182] sz_c200 sz_u200 ri_m_X11_isGained 918 none sz_h200_0 = true := by decide +kernel
theorem sz_ok200 (xs : Nat → Value) (L : Nat) : sy_Cok (sz_env xs L) sz_T sz_RU sz_c200 := sy_chk_ok (CT := [sz_c182]) (CU := sz_u200) (M := ri_m_X11_isGained) (List.forall_mem_cons.mpr ⟨sz_ok182 xs L, fun _ h => absurd h List.not_mem_nil⟩) rfl ⟨_, _, sz_s200_0⟩ (fun _ h => absurd h List.not_mem_nil)

/-! X11_isGained [244, 2, 0, 9999, 1] -/
set_option maxRecDepth 100000 in
noncomputable def sz_c201 : sy_Ct := (109, 5, 116, [(3, .inr 244, .inl 0), (0, .inl 2, .inl 0), (1, .inr 0, .inl 0), (1, .inl 9999, .inl 0), (1, .inr 1, .inl 0)], ([(0, 9999), (0, 9999)], []), [], [], [(245, 187, 189), (245, 191, 193), (245, 195, 197), (245, 208, 208)], [(.inl none, 0, 0, ([(0, 9999), (0, 9999)], []), [], [])])
set_option maxRecDepth 100000 in
noncomputable def sz_u201 : List sy_Cut := []
set_option maxRecDepth 100000 in
noncomputable def sz_h201_0 : List sy_Hn := [(69, 1, 4, 0, 0, 0, [], [], []),
  (277, 20, 0, 0, 0, 0, [], [], []),
  (0, 31, 0, 0, 0, 0, [], [], []),
  (0, 1, 4, 0, 1, 0, [], [], []),
  (277, 20, 0, 0, 0, 0, [], [], []),
  (0, 31, 0, 0, 0, 0, [], [], []),
  (277, 20, 0, 0, 0, 0, [], [], []),
  (0, 31, 0, 0, 0, 0, [], [], [])]
set_option maxRecDepth 100000 in
theorem sz_s201_0 : sy_seg sz_E sz_T sz_RU [sz_c182] sz_c201 sz_u201 ri_m_X11_isGained 918 none sz_h201_0 = true := by decide +kernel
theorem sz_ok201 (xs : Nat → Value) (L : Nat) : sy_Cok (sz_env xs L) sz_T sz_RU sz_c201 := sy_chk_ok (CT := [sz_c182]) (CU := sz_u201) (M := ri_m_X11_isGained) (List.forall_mem_cons.mpr ⟨sz_ok182 xs L, fun _ h => absurd h List.not_mem_nil⟩) rfl ⟨_, _, sz_s201_0⟩ (fun _ h => absurd h List.not_mem_nil)

/-! X11_isGained [244, 2, 0, 9999, 9999] -/
set_option maxRecDepth 100000 in
noncomputable def sz_c202 : sy_Ct := (109, 5, 116, [(3, .inr 244, .inl 0), (0, .inl 2, .inl 0), (1, .inr 0, .inl 0), (1, .inl 9999, .inl 0), (1, .inl 9999, .inl 0)], ([(0, 9999)], []), [], [], [(245, 187, 189), (245, 191, 193), (245, 195, 197), (245, 208, 208)], [(.inl none, 0, 0, ([(0, 9999)], []), [], [])])
set_option maxRecDepth 100000 in
noncomputable def sz_u202 : List sy_Cut := []
set_option maxRecDepth 100000 in
noncomputable def sz_h202_0 : List sy_Hn := [(69, 1, 3, 0, 0, 0, [], [], []),
  (277, 20, 0, 0, 0, 0, [], [], []),
  (0, 31, 0, 0, 0, 0, [], [], []),
  (0, 1, 3, 0, 1, 0, [], [], []),
  (277, 20, 0, 0, 0, 0, [], [], []),
  (0, 31, 0, 0, 0, 0, [], [], []),
  (277, 20, 0, 0, 0, 0, [], [], []),
  (0, 31, 0, 0, 0, 0, [], [], [])]
set_option maxRecDepth 100000 in
theorem sz_s202_0 : sy_seg sz_E sz_T sz_RU [sz_c182] sz_c202 sz_u202 ri_m_X11_isGained 918 none sz_h202_0 = true := by decide +kernel
theorem sz_ok202 (xs : Nat → Value) (L : Nat) : sy_Cok (sz_env xs L) sz_T sz_RU sz_c202 := sy_chk_ok (CT := [sz_c182]) (CU := sz_u202) (M := ri_m_X11_isGained) (List.forall_mem_cons.mpr ⟨sz_ok182 xs L, fun _ h => absurd h List.not_mem_nil⟩) rfl ⟨_, _, sz_s202_0⟩ (fun _ h => absurd h List.not_mem_nil)

/-! X11_isGained [244, 2, 0, 1, 0] -/
set_option maxRecDepth 100000 in
noncomputable def sz_c203 : sy_Ct := (109, 5, 116, [(3, .inr 244, .inl 0), (0, .inl 2, .inl 0), (1, .inr 0, .inl 0), (1, .inr 1, .inl 0), (1, .inl 0, .inl 0)], ([(0, 9999), (0, 9999)], []), [], [], [(245, 187, 189), (245, 191, 193), (245, 195, 197), (245, 208, 208)], [(.inl none, 0, 0, ([(0, 9999), (0, 9999)], []), [], [])])
set_option maxRecDepth 100000 in
noncomputable def sz_u203 : List sy_Cut := []
set_option maxRecDepth 100000 in
noncomputable def sz_h203_0 : List sy_Hn := [(69, 1, 4, 0, 0, 0, [], [], []),
  (277, 20, 0, 0, 0, 0, [], [], []),
  (0, 31, 0, 0, 0, 0, [], [], []),
  (0, 1, 4, 0, 1, 0, [], [], []),
  (277, 20, 0, 0, 0, 0, [], [], []),
  (0, 31, 0, 0, 0, 0, [], [], []),
  (277, 20, 0, 0, 0, 0, [], [], []),
  (0, 31, 0, 0, 0, 0, [], [], [])]
set_option maxRecDepth 100000 in
theorem sz_s203_0 : sy_seg sz_E sz_T sz_RU [sz_c182] sz_c203 sz_u203 ri_m_X11_isGained 918 none sz_h203_0 = true := by decide +kernel
theorem sz_ok203 (xs : Nat → Value) (L : Nat) : sy_Cok (sz_env xs L) sz_T sz_RU sz_c203 := sy_chk_ok (CT := [sz_c182]) (CU := sz_u203) (M := ri_m_X11_isGained) (List.forall_mem_cons.mpr ⟨sz_ok182 xs L, fun _ h => absurd h List.not_mem_nil⟩) rfl ⟨_, _, sz_s203_0⟩ (fun _ h => absurd h List.not_mem_nil)

/-! X11_isGained [244, 2, 0, 9999, 0] -/
set_option maxRecDepth 100000 in
noncomputable def sz_c204 : sy_Ct := (109, 5, 116, [(3, .inr 244, .inl 0), (0, .inl 2, .inl 0), (1, .inr 0, .inl 0), (1, .inl 9999, .inl 0), (1, .inl 0, .inl 0)], ([(0, 9999)], []), [], [], [(245, 187, 189), (245, 191, 193), (245, 195, 197), (245, 208, 208)], [(.inl none, 0, 0, ([(0, 9999)], []), [], [])])
set_option maxRecDepth 100000 in
noncomputable def sz_u204 : List sy_Cut := []
set_option maxRecDepth 100000 in
noncomputable def sz_h204_0 : List sy_Hn := [(69, 1, 3, 0, 0, 0, [], [], []),
  (277, 20, 0, 0, 0, 0, [], [], []),
  (0, 31, 0, 0, 0, 0, [], [], []),
  (0, 1, 3, 0, 1, 0, [], [], []),
  (277, 20, 0, 0, 0, 0, [], [], []),
  (0, 31, 0, 0, 0, 0, [], [], []),
  (277, 20, 0, 0, 0, 0, [], [], []),
  (0, 31, 0, 0, 0, 0, [], [], [])]
set_option maxRecDepth 100000 in
theorem sz_s204_0 : sy_seg sz_E sz_T sz_RU [sz_c182] sz_c204 sz_u204 ri_m_X11_isGained 918 none sz_h204_0 = true := by decide +kernel
theorem sz_ok204 (xs : Nat → Value) (L : Nat) : sy_Cok (sz_env xs L) sz_T sz_RU sz_c204 := sy_chk_ok (CT := [sz_c182]) (CU := sz_u204) (M := ri_m_X11_isGained) (List.forall_mem_cons.mpr ⟨sz_ok182 xs L, fun _ h => absurd h List.not_mem_nil⟩) rfl ⟨_, _, sz_s204_0⟩ (fun _ h => absurd h List.not_mem_nil)

/-! X11_isGained [244, 3, 0, 1, 9999] -/
set_option maxRecDepth 100000 in
noncomputable def sz_c205 : sy_Ct := (109, 5, 116, [(3, .inr 244, .inl 0), (0, .inl 3, .inl 0), (1, .inr 0, .inl 0), (1, .inr 1, .inl 0), (1, .inl 9999, .inl 0)], ([(0, 9999), (0, 9999)], []), [], [], [(245, 264, 266), (245, 268, 270), (245, 272, 274), (245, 285, 285)], [(.inl none, 0, 0, ([(0, 9999), (0, 9999)], []), [], [])])
set_option maxRecDepth 100000 in
noncomputable def sz_u205 : List sy_Cut := []
set_option maxRecDepth 100000 in
noncomputable def sz_h205_0 : List sy_Hn := [(69, 1, 4, 0, 0, 0, [], [], []),
  (277, 20, 0, 0, 0, 0, [], [], []),
  (0, 31, 0, 0, 0, 0, [], [], []),
  (0, 1, 4, 0, 1, 0, [], [], []),
  (277, 20, 0, 0, 0, 0, [], [], []),
  (0, 31, 0, 0, 0, 0, [], [], []),
  (277, 20, 0, 0, 0, 0, [], [], []),
  (0, 31, 0, 0, 0, 0, [], [], [])]
set_option maxRecDepth 100000 in
theorem sz_s205_0 : sy_seg sz_E sz_T sz_RU [sz_c184] sz_c205 sz_u205 ri_m_X11_isGained 918 none sz_h205_0 = true := by decide +kernel
theorem sz_ok205 (xs : Nat → Value) (L : Nat) : sy_Cok (sz_env xs L) sz_T sz_RU sz_c205 := sy_chk_ok (CT := [sz_c184]) (CU := sz_u205) (M := ri_m_X11_isGained) (List.forall_mem_cons.mpr ⟨sz_ok184 xs L, fun _ h => absurd h List.not_mem_nil⟩) rfl ⟨_, _, sz_s205_0⟩ (fun _ h => absurd h List.not_mem_nil)

/-! X11_isGained [244, 3, 0, 9999, 1] -/
set_option maxRecDepth 100000 in
noncomputable def sz_c206 : sy_Ct := (109, 5, 116, [(3, .inr 244, .inl 0), (0, .inl 3, .inl 0), (1, .inr 0, .inl 0), (1, .inl 9999, .inl 0), (1, .inr 1, .inl 0)], ([(0, 9999), (0, 9999)], []), [], [], [(245, 264, 266), (245, 268, 270), (245, 272, 274), (245, 285, 285)], [(.inl none, 0, 0, ([(0, 9999), (0, 9999)], []), [], [])])
set_option maxRecDepth 100000 in
noncomputable def sz_u206 : List sy_Cut := []
set_option maxRecDepth 100000 in
noncomputable def sz_h206_0 : List sy_Hn := [(69, 1, 4, 0, 0, 0, [], [], []),
  (277, 20, 0, 0, 0, 0, [], [], []),
  (0, 31, 0, 0, 0, 0, [], [], []),
  (0, 1, 4, 0, 1, 0, [], [], []),
  (277, 20, 0, 0, 0, 0, [], [], []),
  (0, 31, 0, 0, 0, 0, [], [], []),
  (277, 20, 0, 0, 0, 0, [], [], []),
  (0, 31, 0, 0, 0, 0, [], [], [])]
set_option maxRecDepth 100000 in
theorem sz_s206_0 : sy_seg sz_E sz_T sz_RU [sz_c184] sz_c206 sz_u206 ri_m_X11_isGained 918 none sz_h206_0 = true := by decide +kernel
theorem sz_ok206 (xs : Nat → Value) (L : Nat) : sy_Cok (sz_env xs L) sz_T sz_RU sz_c206 := sy_chk_ok (CT := [sz_c184]) (CU := sz_u206) (M := ri_m_X11_isGained) (List.forall_mem_cons.mpr ⟨sz_ok184 xs L, fun _ h => absurd h List.not_mem_nil⟩) rfl ⟨_, _, sz_s206_0⟩ (fun _ h => absurd h List.not_mem_nil)

/-! X11_isGained [244, 3, 0, 9999, 9999] -/
set_option maxRecDepth 100000 in
noncomputable def sz_c207 : sy_Ct := (109, 5, 116, [(3, .inr 244, .inl 0), (0, .inl 3, .inl 0), (1, .inr 0, .inl 0), (1, .inl 9999, .inl 0), (1, .inl 9999, .inl 0)], ([(0, 9999)], []), [], [], [(245, 264, 266), (245, 268, 270), (245, 272, 274), (245, 285, 285)], [(.inl none, 0, 0, ([(0, 9999)], []), [], [])])
set_option maxRecDepth 100000 in
noncomputable def sz_u207 : List sy_Cut := []
set_option maxRecDepth 100000 in
noncomputable def sz_h207_0 : List sy_Hn := [(69, 1, 3, 0, 0, 0, [], [], []),
  (277, 20, 0, 0, 0, 0, [], [], []),
  (0, 31, 0, 0, 0, 0, [], [], []),
  (0, 1, 3, 0, 1, 0, [], [], []),
  (277, 20, 0, 0, 0, 0, [], [], []),
  (0, 31, 0, 0, 0, 0, [], [], []),
  (277, 20, 0, 0, 0, 0, [], [], []),
  (0, 31, 0, 0, 0, 0, [], [], [])]
set_option maxRecDepth 100000 in
theorem sz_s207_0 : sy_seg sz_E sz_T sz_RU [sz_c184] sz_c207 sz_u207 ri_m_X11_isGained 918 none sz_h207_0 = true := by decide +kernel
theorem sz_ok207 (xs : Nat → Value) (L : Nat) : sy_Cok (sz_env xs L) sz_T sz_RU sz_c207 := sy_chk_ok (CT := [sz_c184]) (CU := sz_u207) (M := ri_m_X11_isGained) (List.forall_mem_cons.mpr ⟨sz_ok184 xs L, fun _ h => absurd h List.not_mem_nil⟩) rfl ⟨_, _, sz_s207_0⟩ (fun _ h => absurd h List.not_mem_nil)

/-! X11_isGained [244, 3, 0, 1, 0] -/
set_option maxRecDepth 100000 in
noncomputable def sz_c208 : sy_Ct := (109, 5, 116, [(3, .inr 244, .inl 0), (0, .inl 3, .inl 0), (1, .inr 0, .inl 0), (1, .inr 1, .inl 0), (1, .inl 0, .inl 0)], ([(0, 9999), (0, 9999)], []), [], [], [(245, 264, 266), (245, 268, 270), (245, 272, 274), (245, 285, 285)], [(.inl none, 0, 0, ([(0, 9999), (0, 9999)], []), [], [])])
set_option maxRecDepth 100000 in
noncomputable def sz_u208 : List sy_Cut := []
set_option maxRecDepth 100000 in
noncomputable def sz_h208_0 : List sy_Hn := [(69, 1, 4, 0, 0, 0, [], [], []),
  (277, 20, 0, 0, 0, 0, [], [], []),
  (0, 31, 0, 0, 0, 0, [], [], []),
  (0, 1, 4, 0, 1, 0, [], [], []),
  (277, 20, 0, 0, 0, 0, [], [], []),
  (0, 31, 0, 0, 0, 0, [], [], []),
  (277, 20, 0, 0, 0, 0, [], [], []),
  (0, 31, 0, 0, 0, 0, [], [], [])]
set_option maxRecDepth 100000 in
theorem sz_s208_0 : sy_seg sz_E sz_T sz_RU [sz_c184] sz_c208 sz_u208 ri_m_X11_isGained 918 none sz_h208_0 = true := by decide +kernel
theorem sz_ok208 (xs : Nat → Value) (L : Nat) : sy_Cok (sz_env xs L) sz_T sz_RU sz_c208 := sy_chk_ok (CT := [sz_c184]) (CU := sz_u208) (M := ri_m_X11_isGained) (List.forall_mem_cons.mpr ⟨sz_ok184 xs L, fun _ h => absurd h List.not_mem_nil⟩) rfl ⟨_, _, sz_s208_0⟩ (fun _ h => absurd h List.not_mem_nil)

/-! X11_isGained [244, 3, 0, 9999, 0] -/
set_option maxRecDepth 100000 in
noncomputable def sz_c209 : sy_Ct := (109, 5, 116, [(3, .inr 244, .inl 0), (0, .inl 3, .inl 0), (1, .inr 0, .inl 0), (1, .inl 9999, .inl 0), (1, .inl 0, .inl 0)], ([(0, 9999)], []), [], [], [(245, 264, 266), (245, 268, 270), (245, 272, 274), (245, 285, 285)], [(.inl none, 0, 0, ([(0, 9999)], []), [], [])])
set_option maxRecDepth 100000 in
noncomputable def sz_u209 : List sy_Cut := []
set_option maxRecDepth 100000 in
noncomputable def sz_h209_0 : List sy_Hn := [(69, 1, 3, 0, 0, 0, [], [], []),
  (277, 20, 0, 0, 0, 0, [], [], []),
  (0, 31, 0, 0, 0, 0, [], [], []),
  (0, 1, 3, 0, 1, 0, [], [], []),
  (277, 20, 0, 0, 0, 0, [], [], []),
  (0, 31, 0, 0, 0, 0, [], [], []),
  (277, 20, 0, 0, 0, 0, [], [], []),
  (0, 31, 0, 0, 0, 0, [], [], [])]
set_option maxRecDepth 100000 in
theorem sz_s209_0 : sy_seg sz_E sz_T sz_RU [sz_c184] sz_c209 sz_u209 ri_m_X11_isGained 918 none sz_h209_0 = true := by decide +kernel
theorem sz_ok209 (xs : Nat → Value) (L : Nat) : sy_Cok (sz_env xs L) sz_T sz_RU sz_c209 := sy_chk_ok (CT := [sz_c184]) (CU := sz_u209) (M := ri_m_X11_isGained) (List.forall_mem_cons.mpr ⟨sz_ok184 xs L, fun _ h => absurd h List.not_mem_nil⟩) rfl ⟨_, _, sz_s209_0⟩ (fun _ h => absurd h List.not_mem_nil)

/-! X11_tune [244, 0, 1] -/
set_option maxRecDepth 100000 in
noncomputable def sz_c210 : sy_Ct := (42, 6, 146, [(3, .inr 244, .inl 0), (0, .inr 0, .inl 0), (0, .inr 1, .inl 0)], ([((-2147483648), 2147483647), ((-2147483648), 2147483647)], []), [], [], [(244, 0, 0), (245, 33, 35), (245, 37, 39), (245, 41, 43), (245, 54, 54), (245, 110, 112), (245, 114, 116), (245, 118, 120), (245, 131, 131), (245, 187, 189), (245, 191, 193), (245, 195, 197), (245, 208, 208), (245, 264, 266), (245, 268, 270), (245, 272, 274), (245, 285, 285)], [(.inl (some (0, .inr 2, .inl 0)), 0, 0, ([(0, 9999), ((-2147483648), 2147483647), ((-2147483648), 2147483647)], []), [], [])])
set_option maxRecDepth 100000 in
noncomputable def sz_u210 : List sy_Cut := []
set_option maxRecDepth 100000 in
noncomputable def sz_h210_0 : List sy_Hn := [(0, 31, 0, 0, 0, 0, [], [], []),
  (0, 31, 0, 0, 0, 0, [], [], []),
  (0, 31, 0, 0, 0, 0, [], [], []),
  (0, 31, 0, 0, 0, 0, [], [], []),
  (25, 1, 0, 0, 0, 0, [], [], []),
  (74, 5, 6, 0, 0, 0, [], [], []),
  (0, 7, 0, 0, 0, 0, [([3], [(1, [2]), (1, [9]), (1, [0])])], [], []),
  (0, 7, 0, 0, 0, 0, [([4], [(1, [2]), (1, [0])])], [], []),
  (0, 3, 5, 0, 1, 240, [([], [(1, [0]), (1, [1])]), ([5], [(1, [0]), (1, [2])])], [], []),
  (43, 20, 0, 0, 0, 0, [], [], []),
  (0, 31, 0, 0, 0, 0, [], [], []),
  (4, 20, 4, 0, 0, 0, [], [], []),
  (0, 31, 0, 0, 0, 0, [], [], []),
  (13, 20, 5, 0, 0, 0, [], [], []),
  (0, 31, 0, 0, 0, 0, [], [], []),
  (4, 20, 6, 0, 0, 0, [], [], []),
  (0, 31, 0, 0, 0, 0, [], [], []),
  (16, 5, 6, 0, 0, 0, [], [], []),
  (0, 7, 0, 0, 0, 0, [([3], [(1, [2]), (1, [13]), (1, [0])])], [], []),
  (0, 7, 0, 0, 0, 0, [([4], [(1, [2]), (1, [0])])], [], []),
  (0, 3, 9, 0, 1, 1200, [([], [(1, [0]), (1, [2]), (5, [1])]), ([9], [(1, [0]), (1, [2])])], [], []),
  (41, 20, 7, 0, 0, 0, [], [], []),
  (0, 31, 0, 0, 0, 0, [], [], []),
  (13, 20, 8, 0, 0, 0, [], [], []),
  (0, 31, 0, 0, 0, 0, [], [], []),
  (14, 5, 6, 0, 0, 0, [], [], []),
  (0, 7, 0, 0, 0, 0, [([3], [(1, [2]), (1, [11]), (1, [0])])], [], []),
  (0, 7, 0, 0, 0, 0, [([4], [(1, [2]), (1, [0])])], [], []),
  (0, 3, 5, 0, 1, 240, [([], [(1, [0]), (1, [1])]), ([5], [(1, [0]), (1, [2])])], [], []),
  (41, 20, 0, 0, 0, 0, [], [], []),
  (0, 31, 0, 0, 0, 0, [], [], []),
  (4, 20, 4, 0, 0, 0, [], [], []),
  (0, 31, 0, 0, 0, 0, [], [], []),
  (13, 20, 5, 0, 0, 0, [], [], []),
  (0, 31, 0, 0, 0, 0, [], [], []),
  (4, 20, 6, 0, 0, 0, [], [], []),
  (0, 31, 0, 0, 0, 0, [], [], []),
  (0, 31, 0, 0, 0, 0, [], [], []),
  (0, 1, 0, 0, 1, 0, [], [], []),
  (74, 5, 15, 0, 0, 0, [], [], []),
  (0, 7, 0, 0, 0, 0, [([0], [(1, [2]), (1, [9]), (1, [7]), (1, [0])])], [], []),
  (0, 7, 0, 0, 0, 0, [([4], [(1, [2]), (1, [0])])], [], []),
  (0, 3, 5, 0, 1, 240, [([], [(1, [0]), (1, [1])]), ([5], [(1, [0]), (1, [2])])], [], []),
  (43, 20, 1, 0, 0, 0, [], [], []),
  (0, 31, 0, 0, 0, 0, [], [], []),
  (4, 20, 9, 0, 0, 0, [], [], []),
  (0, 31, 0, 0, 0, 0, [], [], []),
  (13, 20, 10, 0, 0, 0, [], [], []),
  (0, 31, 0, 0, 0, 0, [], [], []),
  (4, 20, 11, 0, 0, 0, [], [], []),
  (0, 31, 0, 0, 0, 0, [], [], []),
  (16, 5, 15, 0, 0, 0, [], [], []),
  (0, 7, 0, 0, 0, 0, [([0], [(1, [2]), (1, [13]), (1, [11]), (1, [0])])], [], []),
  (0, 7, 0, 0, 0, 0, [([4], [(1, [2]), (1, [0])])], [], []),
  (0, 3, 9, 0, 1, 1200, [([], [(1, [0]), (1, [2]), (5, [1])]), ([9], [(1, [0]), (1, [2])])], [], []),
  (41, 20, 12, 0, 0, 0, [], [], []),
  (0, 31, 0, 0, 0, 0, [], [], []),
  (13, 20, 13, 0, 0, 0, [], [], []),
  (0, 31, 0, 0, 0, 0, [], [], []),
  (14, 5, 15, 0, 0, 0, [], [], []),
  (0, 7, 0, 0, 0, 0, [([0], [(1, [2]), (1, [11]), (1, [9]), (1, [0])])], [], []),
  (0, 7, 0, 0, 0, 0, [([4], [(1, [2]), (1, [0])])], [], []),
  (0, 3, 5, 0, 1, 240, [([], [(1, [0]), (1, [1])]), ([5], [(1, [0]), (1, [2])])], [], []),
  (41, 20, 1, 0, 0, 0, [], [], []),
  (0, 31, 0, 0, 0, 0, [], [], []),
  (4, 20, 9, 0, 0, 0, [], [], []),
  (0, 31, 0, 0, 0, 0, [], [], []),
  (13, 20, 10, 0, 0, 0, [], [], []),
  (0, 31, 0, 0, 0, 0, [], [], []),
  (4, 20, 11, 0, 0, 0, [], [], []),
  (0, 31, 0, 0, 0, 0, [], [], []),
  (0, 31, 0, 0, 0, 0, [], [], []),
  (0, 1, 0, 0, 2, 0, [], [], []),
  (74, 5, 24, 0, 0, 0, [], [], []),
  (0, 7, 0, 0, 0, 0, [([0], [(1, [2]), (1, [9]), (1, [7]), (1, [0])])], [], []),
  (0, 7, 0, 0, 0, 0, [([4], [(1, [2]), (1, [0])])], [], []),
  (0, 3, 5, 0, 1, 240, [([], [(1, [0]), (1, [1])]), ([5], [(1, [0]), (1, [2])])], [], []),
  (43, 20, 2, 0, 0, 0, [], [], []),
  (0, 31, 0, 0, 0, 0, [], [], []),
  (4, 20, 14, 0, 0, 0, [], [], []),
  (0, 31, 0, 0, 0, 0, [], [], []),
  (13, 20, 15, 0, 0, 0, [], [], []),
  (0, 31, 0, 0, 0, 0, [], [], []),
  (4, 20, 16, 0, 0, 0, [], [], []),
  (0, 31, 0, 0, 0, 0, [], [], []),
  (16, 5, 24, 0, 0, 0, [], [], []),
  (0, 7, 0, 0, 0, 0, [([0], [(1, [2]), (1, [13]), (1, [11]), (1, [0])])], [], []),
  (0, 7, 0, 0, 0, 0, [([4], [(1, [2]), (1, [0])])], [], []),
  (0, 3, 9, 0, 1, 1200, [([], [(1, [0]), (1, [2]), (5, [1])]), ([9], [(1, [0]), (1, [2])])], [], []),
  (41, 20, 17, 0, 0, 0, [], [], []),
  (0, 31, 0, 0, 0, 0, [], [], []),
  (13, 20, 18, 0, 0, 0, [], [], []),
  (0, 31, 0, 0, 0, 0, [], [], []),
  (14, 5, 24, 0, 0, 0, [], [], []),
  (0, 7, 0, 0, 0, 0, [([0], [(1, [2]), (1, [11]), (1, [9]), (1, [0])])], [], []),
  (0, 7, 0, 0, 0, 0, [([4], [(1, [2]), (1, [0])])], [], []),
  (0, 3, 5, 0, 1, 240, [([], [(1, [0]), (1, [1])]), ([5], [(1, [0]), (1, [2])])], [], []),
  (41, 20, 2, 0, 0, 0, [], [], []),
  (0, 31, 0, 0, 0, 0, [], [], []),
  (4, 20, 14, 0, 0, 0, [], [], []),
  (0, 31, 0, 0, 0, 0, [], [], []),
  (13, 20, 15, 0, 0, 0, [], [], []),
  (0, 31, 0, 0, 0, 0, [], [], []),
  (4, 20, 16, 0, 0, 0, [], [], []),
  (0, 31, 0, 0, 0, 0, [], [], []),
  (0, 31, 0, 0, 0, 0, [], [], []),
  (74, 5, 33, 0, 0, 0, [], [], []),
  (0, 7, 0, 0, 0, 0, [([0], [(1, [2]), (1, [9]), (1, [7]), (1, [0])])], [], []),
  (0, 7, 0, 0, 0, 0, [([4], [(1, [2]), (1, [0])])], [], []),
  (0, 3, 5, 0, 1, 240, [([], [(1, [0]), (1, [1])]), ([5], [(1, [0]), (1, [2])])], [], []),
  (43, 20, 3, 0, 0, 0, [], [], []),
  (0, 31, 0, 0, 0, 0, [], [], []),
  (4, 20, 19, 0, 0, 0, [], [], []),
  (0, 31, 0, 0, 0, 0, [], [], []),
  (13, 20, 20, 0, 0, 0, [], [], []),
  (0, 31, 0, 0, 0, 0, [], [], []),
  (4, 20, 21, 0, 0, 0, [], [], []),
  (0, 31, 0, 0, 0, 0, [], [], []),
  (16, 5, 33, 0, 0, 0, [], [], []),
  (0, 7, 0, 0, 0, 0, [([0], [(1, [2]), (1, [13]), (1, [11]), (1, [0])])], [], []),
  (0, 7, 0, 0, 0, 0, [([4], [(1, [2]), (1, [0])])], [], []),
  (0, 3, 9, 0, 1, 1200, [([], [(1, [0]), (1, [2]), (5, [1])]), ([9], [(1, [0]), (1, [2])])], [], []),
  (41, 20, 22, 0, 0, 0, [], [], []),
  (0, 31, 0, 0, 0, 0, [], [], []),
  (13, 20, 23, 0, 0, 0, [], [], []),
  (0, 31, 0, 0, 0, 0, [], [], []),
  (14, 5, 33, 0, 0, 0, [], [], []),
  (0, 7, 0, 0, 0, 0, [([0], [(1, [2]), (1, [11]), (1, [9]), (1, [0])])], [], []),
  (0, 7, 0, 0, 0, 0, [([4], [(1, [2]), (1, [0])])], [], []),
  (0, 3, 5, 0, 1, 240, [([], [(1, [0]), (1, [1])]), ([5], [(1, [0]), (1, [2])])], [], []),
  (41, 20, 3, 0, 0, 0, [], [], []),
  (0, 31, 0, 0, 0, 0, [], [], []),
  (4, 20, 19, 0, 0, 0, [], [], []),
  (0, 31, 0, 0, 0, 0, [], [], []),
  (13, 20, 20, 0, 0, 0, [], [], []),
  (0, 31, 0, 0, 0, 0, [], [], []),
  (4, 20, 21, 0, 0, 0, [], [], []),
  (0, 31, 0, 0, 0, 0, [], [], []),
  (0, 31, 0, 0, 0, 0, [], [], [])]
set_option maxRecDepth 100000 in
theorem sz_s210_0 : sy_seg sz_E sz_T sz_RU [sz_c179, sz_c181, sz_c183, sz_c185, sz_c190, sz_c191, sz_c192, sz_c193, sz_c194, sz_c195, sz_c196, sz_c197, sz_c198, sz_c199, sz_c200, sz_c201, sz_c202, sz_c203, sz_c204, sz_c205, sz_c206, sz_c207, sz_c208, sz_c209] sz_c210 sz_u210 ri_m_X11_tune 1960 none sz_h210_0 = true := by decide +kernel
theorem sz_ok210 (xs : Nat → Value) (L : Nat) : sy_Cok (sz_env xs L) sz_T sz_RU sz_c210 := sy_chk_ok (CT := [sz_c179, sz_c181, sz_c183, sz_c185, sz_c190, sz_c191, sz_c192, sz_c193, sz_c194, sz_c195, sz_c196, sz_c197, sz_c198, sz_c199, sz_c200, sz_c201, sz_c202, sz_c203, sz_c204, sz_c205, sz_c206, sz_c207, sz_c208, sz_c209]) (CU := sz_u210) (M := ri_m_X11_tune) (List.forall_mem_cons.mpr ⟨sz_ok179 xs L, List.forall_mem_cons.mpr ⟨sz_ok181 xs L, List.forall_mem_cons.mpr ⟨sz_ok183 xs L, List.forall_mem_cons.mpr ⟨sz_ok185 xs L, List.forall_mem_cons.mpr ⟨sz_ok190 xs L, List.forall_mem_cons.mpr ⟨sz_ok191 xs L, List.forall_mem_cons.mpr ⟨sz_ok192 xs L, List.forall_mem_cons.mpr ⟨sz_ok193 xs L, List.forall_mem_cons.mpr ⟨sz_ok194 xs L, List.forall_mem_cons.mpr ⟨sz_ok195 xs L, List.forall_mem_cons.mpr ⟨sz_ok196 xs L, List.forall_mem_cons.mpr ⟨sz_ok197 xs L, List.forall_mem_cons.mpr ⟨sz_ok198 xs L, List.forall_mem_cons.mpr ⟨sz_ok199 xs L, List.forall_mem_cons.mpr ⟨sz_ok200 xs L, List.forall_mem_cons.mpr ⟨sz_ok201 xs L, List.forall_mem_cons.mpr ⟨sz_ok202 xs L, List.forall_mem_cons.mpr ⟨sz_ok203 xs L, List.forall_mem_cons.mpr ⟨sz_ok204 xs L, List.forall_mem_cons.mpr ⟨sz_ok205 xs L, List.forall_mem_cons.mpr ⟨sz_ok206 xs L, List.forall_mem_cons.mpr ⟨sz_ok207 xs L, List.forall_mem_cons.mpr ⟨sz_ok208 xs L, List.forall_mem_cons.mpr ⟨sz_ok209 xs L, fun _ h => absurd h List.not_mem_nil⟩⟩⟩⟩⟩⟩⟩⟩⟩⟩⟩⟩⟩⟩⟩⟩⟩⟩⟩⟩⟩⟩⟩⟩) rfl ⟨_, _, sz_s210_0⟩ (fun _ h => absurd h List.not_mem_nil)

/-! X11_isFollowing [244, 1] -/
set_option maxRecDepth 100000 in
noncomputable def sz_c211 : sy_Ct := (144, 3, 65, [(3, .inr 244, .inl 0), (0, .inl 1, .inl 0)], ([(1, 4)], []), [((245, 0), (1, .inr 0, .inl 0))], [], [], [(.inl (some (0, .inl 1, .inl 0)), 0, 0, ([(3, 4)], []), [((245, 166), (1, .inl 1, .inl 0))], []), (.inl (some (0, .inl 1, .inl 0)), 0, 0, ([(4, 4)], []), [((245, 243), (1, .inl 1, .inl 0))], []), (.inl (some (0, .inl 0, .inl 0)), 0, 0, ([(1, 4)], []), [], [])])
set_option maxRecDepth 100000 in
noncomputable def sz_u211 : List sy_Cut := []
set_option maxRecDepth 100000 in
noncomputable def sz_h211_0 : List sy_Hn := [(0, 31, 2, 0, 0, 0, [], [], []),
  (0, 31, 2, 0, 0, 0, [], [], []),
  (0, 31, 2, 0, 0, 0, [], [], []),
  (0, 31, 2, 0, 0, 0, [], [], []),
  (0, 31, 2, 0, 0, 0, [], [], []),
  (0, 31, 2, 0, 0, 0, [], [], []),
  (0, 31, 2, 0, 0, 0, [], [], []),
  (0, 31, 0, 0, 0, 0, [], [], []),
  (0, 31, 0, 0, 0, 0, [], [], []),
  (0, 31, 0, 0, 0, 0, [], [], []),
  (0, 31, 0, 0, 0, 0, [], [], []),
  (0, 31, 0, 0, 0, 0, [], [], []),
  (0, 31, 2, 0, 0, 0, [], [], []),
  (0, 31, 0, 0, 0, 0, [], [], []),
  (0, 31, 0, 0, 0, 0, [], [], []),
  (0, 31, 0, 0, 0, 0, [], [], []),
  (0, 31, 0, 0, 0, 0, [], [], []),
  (0, 31, 0, 0, 0, 0, [], [], []),
  (0, 31, 2, 0, 0, 0, [], [], []),
  (0, 31, 2, 0, 0, 0, [], [], []),
  (0, 31, 2, 0, 0, 0, [], [], []),
  (0, 31, 2, 0, 0, 0, [], [], []),
  (0, 31, 1, 0, 0, 0, [], [], []),
  (0, 31, 1, 0, 0, 0, [], [], []),
  (0, 31, 2, 0, 0, 0, [], [], []),
  (0, 31, 2, 0, 0, 0, [], [], []),
  (0, 31, 2, 0, 0, 0, [], [], []),
  (0, 31, 2, 0, 0, 0, [], [], []),
  (0, 31, 0, 0, 0, 0, [], [], []),
  (0, 31, 0, 0, 0, 0, [], [], []),
  (0, 31, 0, 0, 0, 0, [], [], []),
  (0, 31, 0, 0, 0, 0, [], [], []),
  (0, 31, 0, 0, 0, 0, [], [], []),
  (0, 31, 2, 0, 0, 0, [], [], []),
  (0, 31, 0, 0, 0, 0, [], [], []),
  (0, 31, 0, 0, 0, 0, [], [], []),
  (0, 31, 0, 0, 0, 0, [], [], []),
  (0, 31, 0, 0, 0, 0, [], [], []),
  (0, 31, 0, 0, 0, 0, [], [], []),
  (0, 31, 2, 0, 0, 0, [], [], []),
  (0, 31, 2, 0, 0, 0, [], [], []),
  (0, 31, 2, 0, 0, 0, [], [], []),
  (0, 31, 2, 0, 0, 0, [], [], []),
  (0, 31, 1, 0, 0, 0, [], [], []),
  (0, 31, 1, 0, 0, 0, [], [], []),
  (0, 31, 2, 0, 0, 0, [], [], []),
  (0, 31, 2, 0, 0, 0, [], [], []),
  (0, 31, 2, 0, 0, 0, [], [], [])]
set_option maxRecDepth 100000 in
theorem sz_s211_0 : sy_seg sz_E sz_T sz_RU [] sz_c211 sz_u211 ri_m_X11_isFollowing 2152 none sz_h211_0 = true := by decide +kernel
theorem sz_ok211 (xs : Nat → Value) (L : Nat) : sy_Cok (sz_env xs L) sz_T sz_RU sz_c211 := sy_chk_ok (CT := []) (CU := sz_u211) (M := ri_m_X11_isFollowing) (fun _ h => absurd h List.not_mem_nil) rfl ⟨_, _, sz_s211_0⟩ (fun _ h => absurd h List.not_mem_nil)

/-! X11_isFollowing [244, 2] -/
set_option maxRecDepth 100000 in
noncomputable def sz_c212 : sy_Ct := (144, 3, 65, [(3, .inr 244, .inl 0), (0, .inl 2, .inl 0)], ([(1, 4)], []), [((245, 0), (1, .inr 0, .inl 0))], [], [], [(.inl (some (0, .inl 1, .inl 0)), 0, 0, ([(4, 4)], []), [((245, 243), (1, .inl 2, .inl 0))], []), (.inl (some (0, .inl 0, .inl 0)), 0, 0, ([(1, 4)], []), [], [])])
set_option maxRecDepth 100000 in
noncomputable def sz_u212 : List sy_Cut := []
set_option maxRecDepth 100000 in
noncomputable def sz_h212_0 : List sy_Hn := [(0, 31, 1, 0, 0, 0, [], [], []),
  (0, 31, 1, 0, 0, 0, [], [], []),
  (0, 31, 1, 0, 0, 0, [], [], []),
  (0, 31, 1, 0, 0, 0, [], [], []),
  (0, 31, 1, 0, 0, 0, [], [], []),
  (0, 31, 0, 0, 0, 0, [], [], []),
  (0, 31, 0, 0, 0, 0, [], [], []),
  (0, 31, 1, 0, 0, 0, [], [], []),
  (0, 31, 1, 0, 0, 0, [], [], []),
  (0, 31, 1, 0, 0, 0, [], [], []),
  (0, 31, 0, 0, 0, 0, [], [], []),
  (0, 31, 0, 0, 0, 0, [], [], []),
  (0, 31, 1, 0, 0, 0, [], [], []),
  (0, 31, 1, 0, 0, 0, [], [], [])]
set_option maxRecDepth 100000 in
theorem sz_s212_0 : sy_seg sz_E sz_T sz_RU [] sz_c212 sz_u212 ri_m_X11_isFollowing 744 none sz_h212_0 = true := by decide +kernel
theorem sz_ok212 (xs : Nat → Value) (L : Nat) : sy_Cok (sz_env xs L) sz_T sz_RU sz_c212 := sy_chk_ok (CT := []) (CU := sz_u212) (M := ri_m_X11_isFollowing) (fun _ h => absurd h List.not_mem_nil) rfl ⟨_, _, sz_s212_0⟩ (fun _ h => absurd h List.not_mem_nil)

/-! X11_isFollowing [244, 3] -/
set_option maxRecDepth 100000 in
noncomputable def sz_c213 : sy_Ct := (144, 3, 65, [(3, .inr 244, .inl 0), (0, .inl 3, .inl 0)], ([(1, 4)], []), [((245, 0), (1, .inr 0, .inl 0))], [], [], [(.inl (some (0, .inl 0, .inl 0)), 0, 0, ([(1, 4)], []), [], [])])
set_option maxRecDepth 100000 in
noncomputable def sz_u213 : List sy_Cut := []
set_option maxRecDepth 100000 in
noncomputable def sz_h213_0 : List sy_Hn := [(0, 31, 0, 0, 0, 0, [], [], []),
  (0, 31, 0, 0, 0, 0, [], [], []),
  (0, 31, 0, 0, 0, 0, [], [], []),
  (0, 31, 0, 0, 0, 0, [], [], [])]
set_option maxRecDepth 100000 in
theorem sz_s213_0 : sy_seg sz_E sz_T sz_RU [] sz_c213 sz_u213 ri_m_X11_isFollowing 244 none sz_h213_0 = true := by decide +kernel
theorem sz_ok213 (xs : Nat → Value) (L : Nat) : sy_Cok (sz_env xs L) sz_T sz_RU sz_c213 := sy_chk_ok (CT := []) (CU := sz_u213) (M := ri_m_X11_isFollowing) (fun _ h => absurd h List.not_mem_nil) rfl ⟨_, _, sz_s213_0⟩ (fun _ h => absurd h List.not_mem_nil)

/-! X11_which [244, 0] -/
set_option maxRecDepth 100000 in
noncomputable def sz_c214 : sy_Ct := (64, 4, 88, [(3, .inr 244, .inl 0), (0, .inr 0, .inl 0)], ([((-2147483648), 2147483647)], []), [], [], [(244, 0, 0)], [(.inl (some (0, .inr 1, .inl 0)), 0, 0, ([((-2147483648), 2147483647), ((-2147483648), 2147483647)], []), [], [])])
set_option maxRecDepth 100000 in
noncomputable def sz_u214 : List sy_Cut := [(21, [(0, (3, .inr 244, .inl 0)), (1, (0, .inr 0, .inl 0)), (2, (0, .inr 1, .inl 0)), (3, (0, .inr 2, .inl 0))], ([(0, 4), ((-2147483648), 2147483647), (0, 8)], []), [], [], [(4, []), ((-1), [2])])]
set_option maxRecDepth 100000 in
noncomputable def sz_h214_0 : List sy_Hn := [(0, 31, 0, 0, 0, 0, [], [], []),
  (0, 31, 0, 0, 0, 0, [], [], []),
  (0, 30, 0, 0, 0, 0, [([], [(1, [0])]), ([], [])], [], [])]
set_option maxRecDepth 100000 in
theorem sz_s214_0 : sy_seg sz_E sz_T sz_RU [sz_c9, sz_c211, sz_c212, sz_c213] sz_c214 sz_u214 ri_m_X11_which 73 none sz_h214_0 = true := by decide +kernel
set_option maxRecDepth 100000 in
noncomputable def sz_h214_1 : List sy_Hn := [(0, 31, 0, 0, 0, 0, [], [], []),
  (17, 1, 2, 0, 0, 0, [], [], []),
  (1, 20, 0, 0, 0, 0, [], [], []),
  (0, 30, 0, 0, 0, 0, [([], [(1, [0])]), ([2], [(1, [0]), (1, [2])])], [], []),
  (0, 30, 0, 0, 0, 0, [([], [(1, [0])]), ([2], [(1, [0]), (1, [2])])], [], []),
  (0, 30, 0, 0, 0, 0, [([], [(1, [0])]), ([2], [(1, [0]), (1, [2])])], [], []),
  (0, 30, 0, 0, 0, 0, [([], [(1, [0])]), ([2], [(1, [0]), (1, [2])])], [], []),
  (0, 1, 2, 0, 1, 0, [], [], []),
  (1, 20, 1, 0, 0, 0, [], [], []),
  (0, 30, 0, 0, 0, 0, [([], [(1, [0])]), ([2], [(1, [0]), (1, [2])])], [], []),
  (0, 30, 0, 0, 0, 0, [([], [(1, [0])]), ([2], [(1, [0]), (1, [2])])], [], []),
  (0, 30, 0, 0, 0, 0, [([], [(1, [0])]), ([2], [(1, [0]), (1, [2])])], [], []),
  (0, 1, 2, 0, 2, 0, [], [], []),
  (1, 20, 2, 0, 0, 0, [], [], []),
  (0, 30, 0, 0, 0, 0, [([], [(1, [0])]), ([2], [(1, [0]), (1, [2])])], [], []),
  (0, 30, 0, 0, 0, 0, [([], [(1, [0])]), ([2], [(1, [0]), (1, [2])])], [], []),
  (1, 20, 3, 0, 0, 0, [], [], []),
  (0, 30, 0, 0, 0, 0, [([], [(1, [0])]), ([2], [(1, [0]), (1, [2])])], [], []),
  (12, 1, 2, 0, 0, 0, [], [], []),
  (0, 30, 0, 0, 0, 0, [([], [(1, [0])]), ([2], [(1, [0]), (1, [2])])], [], []),
  (0, 30, 0, 0, 0, 0, [([], [(1, [0])]), ([2], [(1, [0]), (1, [2])])], [], []),
  (0, 1, 2, 0, 1, 0, [], [], []),
  (0, 30, 0, 0, 0, 0, [([], [(1, [0])]), ([2], [(1, [0]), (1, [2])])], [], []),
  (0, 30, 0, 0, 0, 0, [([], [(1, [0])]), ([2], [(1, [0]), (1, [2])])], [], []),
  (0, 1, 2, 0, 2, 0, [], [], []),
  (0, 30, 0, 0, 0, 0, [([], [(1, [0])]), ([2], [(1, [0]), (1, [2])])], [], []),
  (0, 30, 0, 0, 0, 0, [([], [(1, [0])]), ([2], [(1, [0]), (1, [2])])], [], []),
  (0, 30, 0, 0, 0, 0, [([], [(1, [0])]), ([2], [(1, [0]), (1, [2])])], [], []),
  (0, 30, 0, 0, 0, 0, [([], [(1, [0])]), ([2], [(1, [0]), (1, [2])])], [], []),
  (12, 1, 2, 0, 0, 0, [], [], []),
  (0, 30, 0, 0, 0, 0, [([], [(1, [0])]), ([2], [(1, [0]), (1, [2])])], [], []),
  (0, 30, 0, 0, 0, 0, [([], [(1, [0])]), ([2], [(1, [0]), (1, [2])])], [], []),
  (0, 1, 2, 0, 1, 0, [], [], []),
  (0, 30, 0, 0, 0, 0, [([], [(1, [0])]), ([2], [(1, [0]), (1, [2])])], [], []),
  (0, 30, 0, 0, 0, 0, [([], [(1, [0])]), ([2], [(1, [0]), (1, [2])])], [], []),
  (0, 1, 2, 0, 2, 0, [], [], []),
  (0, 30, 0, 0, 0, 0, [([], [(1, [0])]), ([2], [(1, [0]), (1, [2])])], [], []),
  (0, 30, 0, 0, 0, 0, [([], [(1, [0])]), ([2], [(1, [0]), (1, [2])])], [], []),
  (0, 30, 0, 0, 0, 0, [([], [(1, [0])]), ([2], [(1, [0]), (1, [2])])], [], []),
  (0, 30, 0, 0, 0, 0, [([], [(1, [0])]), ([2], [(1, [0]), (1, [2])])], [], []),
  (12, 1, 2, 0, 0, 0, [], [], []),
  (0, 30, 0, 0, 0, 0, [([], [(1, [0])]), ([2], [(1, [0]), (1, [2])])], [], []),
  (0, 30, 0, 0, 0, 0, [([], [(1, [0])]), ([2], [(1, [0]), (1, [2])])], [], []),
  (0, 1, 2, 0, 1, 0, [], [], []),
  (0, 30, 0, 0, 0, 0, [([], [(1, [0])]), ([2], [(1, [0]), (1, [2])])], [], []),
  (0, 30, 0, 0, 0, 0, [([], [(1, [0])]), ([2], [(1, [0]), (1, [2])])], [], []),
  (0, 1, 2, 0, 2, 0, [], [], []),
  (0, 30, 0, 0, 0, 0, [([], [(1, [0])]), ([2], [(1, [0]), (1, [2])])], [], []),
  (0, 30, 0, 0, 0, 0, [([], [(1, [0])]), ([2], [(1, [0]), (1, [2])])], [], []),
  (0, 30, 0, 0, 0, 0, [([], [(1, [0])]), ([2], [(1, [0]), (1, [2])])], [], []),
  (0, 30, 0, 0, 0, 0, [([], [(1, [0])]), ([2], [(1, [0]), (1, [2])])], [], []),
  (12, 1, 2, 0, 0, 0, [], [], []),
  (0, 30, 0, 0, 0, 0, [([], [(1, [0])]), ([2], [(1, [0]), (1, [2])])], [], []),
  (0, 30, 0, 0, 0, 0, [([], [(1, [0])]), ([2], [(1, [0]), (1, [2])])], [], []),
  (0, 1, 2, 0, 1, 0, [], [], []),
  (0, 30, 0, 0, 0, 0, [([], [(1, [0])]), ([2], [(1, [0]), (1, [2])])], [], []),
  (0, 30, 0, 0, 0, 0, [([], [(1, [0])]), ([2], [(1, [0]), (1, [2])])], [], []),
  (0, 1, 2, 0, 2, 0, [], [], []),
  (0, 30, 0, 0, 0, 0, [([], [(1, [0])]), ([2], [(1, [0]), (1, [2])])], [], []),
  (0, 30, 0, 0, 0, 0, [([], [(1, [0])]), ([2], [(1, [0]), (1, [2])])], [], []),
  (0, 30, 0, 0, 0, 0, [([], [(1, [0])]), ([2], [(1, [0]), (1, [2])])], [], []),
  (0, 30, 0, 0, 0, 0, [([], [(1, [0])]), ([2], [(1, [0]), (1, [2])])], [], []),
  (16, 1, 2, 0, 0, 0, [], [], []),
  (0, 30, 0, 0, 0, 0, [([], [(1, [0])]), ([2], [(1, [0]), (1, [2])])], [], []),
  (0, 30, 0, 0, 0, 0, [([], [(1, [0])]), ([2], [(1, [0]), (1, [2])])], [], []),
  (0, 30, 0, 0, 0, 0, [([], [(1, [0])]), ([2], [(1, [0]), (1, [2])])], [], []),
  (0, 1, 2, 0, 1, 0, [], [], []),
  (0, 30, 0, 0, 0, 0, [([], [(1, [0])]), ([2], [(1, [0]), (1, [2])])], [], []),
  (0, 30, 0, 0, 0, 0, [([], [(1, [0])]), ([2], [(1, [0]), (1, [2])])], [], []),
  (0, 30, 0, 0, 0, 0, [([], [(1, [0])]), ([2], [(1, [0]), (1, [2])])], [], []),
  (0, 1, 2, 0, 2, 0, [], [], []),
  (0, 30, 0, 0, 0, 0, [([], [(1, [0])]), ([2], [(1, [0]), (1, [2])])], [], []),
  (0, 30, 0, 0, 0, 0, [([], [(1, [0])]), ([2], [(1, [0]), (1, [2])])], [], []),
  (0, 30, 0, 0, 0, 0, [([], [(1, [0])]), ([2], [(1, [0]), (1, [2])])], [], []),
  (0, 30, 0, 0, 0, 0, [([], [(1, [0])]), ([2], [(1, [0]), (1, [2])])], [], []),
  (0, 30, 0, 0, 0, 0, [([], [(1, [0])]), ([2], [(1, [0]), (1, [2])])], [], []),
  (0, 30, 0, 0, 0, 0, [([], [(1, [0])]), ([2], [(1, [0]), (1, [2])])], [], [])]
set_option maxRecDepth 100000 in
theorem sz_s214_1 : sy_seg sz_E sz_T sz_RU [sz_c9, sz_c211, sz_c212, sz_c213] sz_c214 sz_u214 ri_m_X11_which 1123 (some ((21, [(0, (3, .inr 244, .inl 0)), (1, (0, .inr 0, .inl 0)), (2, (0, .inr 1, .inl 0)), (3, (0, .inr 2, .inl 0))], ([(0, 4), ((-2147483648), 2147483647), (0, 8)], []), [], [], [(4, []), ((-1), [2])]))) sz_h214_1 = true := by decide +kernel
theorem sz_ok214 (xs : Nat → Value) (L : Nat) : sy_Cok (sz_env xs L) sz_T sz_RU sz_c214 := sy_chk_ok (CT := [sz_c9, sz_c211, sz_c212, sz_c213]) (CU := sz_u214) (M := ri_m_X11_which) (List.forall_mem_cons.mpr ⟨sz_ok9 xs L, List.forall_mem_cons.mpr ⟨sz_ok211 xs L, List.forall_mem_cons.mpr ⟨sz_ok212 xs L, List.forall_mem_cons.mpr ⟨sz_ok213 xs L, fun _ h => absurd h List.not_mem_nil⟩⟩⟩⟩) rfl ⟨_, _, sz_s214_0⟩ (List.forall_mem_cons.mpr ⟨⟨_, _, sz_s214_1⟩, fun _ h => absurd h List.not_mem_nil⟩)

/-! X11_event [244, 0, 1] -/
set_option maxRecDepth 100000 in
noncomputable def sz_c215 : sy_Ct := (66, 1, 22, [(3, .inr 244, .inl 0), (0, .inr 0, .inl 0), (0, .inr 1, .inl 0)], ([((-2147483648), 2147483647), ((-2147483648), 2147483647)], []), [], [], [(244, 0, 0)], [(.inl (some (0, .inr 2, .inl 0)), 0, 0, ([((-2147483648), 2147483647), ((-2147483648), 2147483647), ((-2147483648), 2147483647)], []), [], [])])
set_option maxRecDepth 100000 in
noncomputable def sz_u215 : List sy_Cut := []
set_option maxRecDepth 100000 in
noncomputable def sz_h215_0 : List sy_Hn := [(0, 31, 0, 0, 0, 0, [], [], []),
  (0, 31, 0, 0, 0, 0, [], [], []),
  (0, 31, 0, 0, 0, 0, [], [], []),
  (0, 31, 0, 0, 0, 0, [], [], []),
  (0, 31, 0, 0, 0, 0, [], [], [])]
set_option maxRecDepth 100000 in
theorem sz_s215_0 : sy_seg sz_E sz_T sz_RU [] sz_c215 sz_u215 ri_m_X11_event 129 none sz_h215_0 = true := by decide +kernel
theorem sz_ok215 (xs : Nat → Value) (L : Nat) : sy_Cok (sz_env xs L) sz_T sz_RU sz_c215 := sy_chk_ok (CT := []) (CU := sz_u215) (M := ri_m_X11_event) (fun _ h => absurd h List.not_mem_nil) rfl ⟨_, _, sz_s215_0⟩ (fun _ h => absurd h List.not_mem_nil)

/-! X11_log [244, 0, 1] -/
set_option maxRecDepth 100000 in
noncomputable def sz_c216 : sy_Ct := (68, 1, 22, [(3, .inr 244, .inl 0), (0, .inr 0, .inl 0), (0, .inr 1, .inl 0)], ([((-2147483648), 2147483647), ((-2147483648), 2147483647)], []), [], [], [(244, 0, 0)], [(.inl (some (0, .inr 2, .inl 0)), 0, 0, ([((-2147483648), 2147483647), ((-2147483648), 2147483647), ((-2147483648), 2147483647)], []), [], [])])
set_option maxRecDepth 100000 in
noncomputable def sz_u216 : List sy_Cut := []
set_option maxRecDepth 100000 in
noncomputable def sz_h216_0 : List sy_Hn := [(0, 31, 0, 0, 0, 0, [], [], []),
  (0, 31, 0, 0, 0, 0, [], [], []),
  (0, 31, 0, 0, 0, 0, [], [], []),
  (0, 31, 0, 0, 0, 0, [], [], []),
  (0, 31, 0, 0, 0, 0, [], [], [])]
set_option maxRecDepth 100000 in
theorem sz_s216_0 : sy_seg sz_E sz_T sz_RU [] sz_c216 sz_u216 ri_m_X11_log 113 none sz_h216_0 = true := by decide +kernel
theorem sz_ok216 (xs : Nat → Value) (L : Nat) : sy_Cok (sz_env xs L) sz_T sz_RU sz_c216 := sy_chk_ok (CT := []) (CU := sz_u216) (M := ri_m_X11_log) (fun _ h => absurd h List.not_mem_nil) rfl ⟨_, _, sz_s216_0⟩ (fun _ h => absurd h List.not_mem_nil)

/-! X11_ticks [244, 0] -/
set_option maxRecDepth 100000 in
noncomputable def sz_c217 : sy_Ct := (26, 9, 208, [(3, .inr 244, .inl 0), (0, .inr 0, .inl 0)], ([((-2147483648), 2147483647)], []), [], [], [(244, 0, 0), (245, 2, 4), (245, 9, 9), (245, 13, 14), (245, 16, 18), (245, 20, 24), (245, 52, 70), (245, 72, 77), (245, 80, 81), (245, 86, 86), (245, 90, 91), (245, 93, 95), (245, 97, 101), (245, 129, 147), (245, 149, 154), (245, 157, 158), (245, 163, 163), (245, 167, 168), (245, 170, 172), (245, 174, 178), (245, 206, 224), (245, 226, 231), (245, 234, 235), (245, 240, 240), (245, 244, 245), (245, 247, 249), (245, 251, 255), (245, 283, 301), (245, 303, 308), (245, 311, 584), (251, 0, 3)], [(.inl (some (0, .inr 1, .inl 0)), 0, 0, ([((-2147483648), 2147483647), ((-2147483648), 2147483647)], []), [], [])])
set_option maxRecDepth 100000 in
noncomputable def sz_u217 : List sy_Cut := [(21, [(0, (3, .inr 244, .inl 0)), (1, (0, .inr 0, .inl 0)), (2, (0, .inr 1, .inl 0)), (3, (0, .inr 2, .inl 0))], ([(0, 60), ((-2147483648), 2147483647), (1, 60)], []), [], [], [(60, []), ((-1), [2])])]
set_option maxRecDepth 100000 in
noncomputable def sz_h217_0 : List sy_Hn := [(0, 31, 0, 0, 0, 0, [], [], []),
  (0, 31, 0, 0, 0, 0, [], [], []),
  (0, 30, 0, 0, 0, 0, [([], [(1, [0])]), ([], [])], [], [])]
set_option maxRecDepth 100000 in
theorem sz_s217_0 : sy_seg sz_E sz_T sz_RU [sz_c142] sz_c217 sz_u217 ri_m_X11_ticks 73 none sz_h217_0 = true := by decide +kernel
set_option maxRecDepth 100000 in
noncomputable def sz_h217_1 : List sy_Hn := [(0, 31, 0, 0, 0, 0, [], [], []),
  (4, 20, 0, 0, 0, 0, [], [], []),
  (0, 30, 0, 0, 0, 0, [([5], [(1, [0]), (1, [2])]), ([], [(1, [0]), (1, [1])])], [], [])]
set_option maxRecDepth 100000 in
theorem sz_s217_1 : sy_seg sz_E sz_T sz_RU [sz_c142] sz_c217 sz_u217 ri_m_X11_ticks 22 (some ((21, [(0, (3, .inr 244, .inl 0)), (1, (0, .inr 0, .inl 0)), (2, (0, .inr 1, .inl 0)), (3, (0, .inr 2, .inl 0))], ([(0, 60), ((-2147483648), 2147483647), (1, 60)], []), [], [], [(60, []), ((-1), [2])]))) sz_h217_1 = true := by decide +kernel
theorem sz_ok217 (xs : Nat → Value) (L : Nat) : sy_Cok (sz_env xs L) sz_T sz_RU sz_c217 := sy_chk_ok (CT := [sz_c142]) (CU := sz_u217) (M := ri_m_X11_ticks) (List.forall_mem_cons.mpr ⟨sz_ok142 xs L, fun _ h => absurd h List.not_mem_nil⟩) rfl ⟨_, _, sz_s217_0⟩ (List.forall_mem_cons.mpr ⟨⟨_, _, sz_s217_1⟩, fun _ h => absurd h List.not_mem_nil⟩)

/-! X11_goesOn [244, 1] -/
set_option maxRecDepth 100000 in
noncomputable def sz_c218 : sy_Ct := (117, 8, 192, [(3, .inr 244, .inl 0), (0, .inl 1, .inl 0)], ([], []), [], [], [(245, 2, 2), (245, 4, 4), (245, 13, 14), (245, 16, 18), (245, 20, 21), (245, 23, 24), (245, 52, 70), (245, 72, 77), (245, 80, 81), (245, 90, 91), (245, 93, 95), (245, 97, 98), (245, 100, 101), (245, 129, 147), (245, 149, 154), (245, 157, 158), (245, 167, 168), (245, 170, 172), (245, 174, 175), (245, 177, 178), (245, 206, 224), (245, 226, 231), (245, 234, 235), (245, 244, 245), (245, 247, 249), (245, 251, 252), (245, 254, 255), (245, 283, 301), (245, 303, 308), (245, 311, 312), (245, 345, 584), (251, 0, 3)], [(.inl none, 0, 0, ([], []), [], [])])
set_option maxRecDepth 100000 in
noncomputable def sz_u218 : List sy_Cut := [(2, [(0, (3, .inr 244, .inl 0)), (1, (0, .inl 1, .inl 0)), (2, (0, .inr 0, .inl 0))], ([(0, 1)], []), [], [], [(1, []), ((-1), [0])])]
set_option maxRecDepth 100000 in
noncomputable def sz_h218_0 : List sy_Hn := [(0, 30, 0, 0, 0, 0, [([], [(1, [0])]), ([], [])], [], [])]
set_option maxRecDepth 100000 in
theorem sz_s218_0 : sy_seg sz_E sz_T sz_RU [sz_c84] sz_c218 sz_u218 ri_m_X11_goesOn 9 none sz_h218_0 = true := by decide +kernel
set_option maxRecDepth 100000 in
noncomputable def sz_h218_1 : List sy_Hn := [(0, 31, 0, 0, 0, 0, [], [], []),
  (3, 20, 0, 0, 0, 0, [], [], []),
  (0, 30, 0, 0, 0, 0, [([], [(1, [0])]), ([0], [(1, [0]), (1, [2])])], [], [])]
set_option maxRecDepth 100000 in
theorem sz_s218_1 : sy_seg sz_E sz_T sz_RU [sz_c84] sz_c218 sz_u218 ri_m_X11_goesOn 19 (some ((2, [(0, (3, .inr 244, .inl 0)), (1, (0, .inl 1, .inl 0)), (2, (0, .inr 0, .inl 0))], ([(0, 1)], []), [], [], [(1, []), ((-1), [0])]))) sz_h218_1 = true := by decide +kernel
theorem sz_ok218 (xs : Nat → Value) (L : Nat) : sy_Cok (sz_env xs L) sz_T sz_RU sz_c218 := sy_chk_ok (CT := [sz_c84]) (CU := sz_u218) (M := ri_m_X11_goesOn) (List.forall_mem_cons.mpr ⟨sz_ok84 xs L, fun _ h => absurd h List.not_mem_nil⟩) rfl ⟨_, _, sz_s218_0⟩ (List.forall_mem_cons.mpr ⟨⟨_, _, sz_s218_1⟩, fun _ h => absurd h List.not_mem_nil⟩)
