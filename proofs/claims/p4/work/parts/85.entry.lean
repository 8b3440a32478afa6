/-! ===== the law, from its entry ===== -/
section SYN
variable {E : sy_env} {d bud : Nat} {M : ri_M} {nxt : List ri_Op} {pc : Nat} {lv : ri_L} {st : List Value} {w : List ri_E} {nc ns fr : Nat} {P : ri_Out → Prop} {i : Instr} {a b : Nat} {v : Value} {ts : List Nat}
theorem sn_ev18 (ha : (E.2.2.2.2.2.2.2.1 w.length && Nat.blt w.length 1000000) = true) (h : sy_Ev E d bud M nxt (pc + 3) lv (.ref w.length :: st) (w ++ [.inr (a, E.2.2.1 a)]) (nc + 1) (ns + b) fr P) : sy_Ev E d bud M ((pc, 18, i, a, b, v, ts) :: nxt) pc lv st w nc ns fr P := by
  obtain ⟨n, out, h1, h2⟩ := h
  refine sy_ev_of (n := n) (out := out) ?_ h2
  unfold sy_ex ri_exec
  try dsimp only
  rw [ha]
  exact h1
theorem sn_ev19 (ha : (E.2.2.2.2.2.2.2.1 w.length && Nat.blt w.length 1000000) = true) {z : Nat × List Value × List ri_E} (hz : ri_newa a v st w = some z) (h : sy_Ev E d bud M nxt (pc + 2) lv z.2.1 z.2.2 (nc + 1) (ns + z.1) fr P) : sy_Ev E d bud M ((pc, 19, i, a, b, v, ts) :: nxt) pc lv st w nc ns fr P := by
  obtain ⟨n, out, h1, h2⟩ := h
  refine sy_ev_of (n := n) (out := out) ?_ h2
  unfold sy_ex ri_exec
  try dsimp only
  rw [ha, hz]
  exact h1
theorem sn_ev_ini {M2 : ri_M} {As rest : List Value} {q : Nat} (hM : E.1[a]? = some M2) (hsp : ri_split M2.2.2.2.2.1 [] st = some (As, .ref q :: rest)) (h1 : 1 ≤ d) (h2 : 19 + M2.2.2.1 ≤ bud) (h3 : ri_cat rest ≤ 8) (h4 : (lg_sl (.ref q :: As)).length ≤ M2.2.2.1)
    (h : sy_Ev E (d - 1) (bud - (19 + M2.2.2.1)) M2 M2.2.2.2.2.2 0 (lv_args 0 (.ref q :: As)) [] w 0 0 fr (sy_after E (d, bud, M, nxt, pc, lv, rest, nc, ns, none) P)) : sy_Ev E d bud M ((pc, 4, i, a, 2, v, ts) :: nxt) pc lv st w nc ns fr P := by
  obtain ⟨n, out, h5, h6⟩ := sy_ev_in h1 h2 h3 h4 none h
  refine sy_ev_of (n := n) (out := out) ?_ h6
  unfold sy_ex ri_exec
  try dsimp only
  unfold ri_call
  rw [ri_nth_eq, hM]
  dsimp only
  rw [hsp]
  exact h5
end SYN
theorem sn_newa1 (w : List ri_E) : ri_newa 1 (.long 0) [.int (Int32.ofInt 1)] w = some (1, [.ref w.length], w ++ [.inl (1, [.long 0])]) := by
  unfold ri_newa
  dsimp only
  have e : (Int32.ofInt 1).toNatClampNeg = 1 := by decide +kernel
  have e2 : (!decide (Int32.ofInt 1 < 0)) = true := by decide +kernel
  rw [e, e2]
  rfl
theorem sn_e1 : (sf_ow sf_o1).1 = 244 := (sf_is_ok sf_o1_is).2.1
theorem sn_e2 : (sf_ow sf_o2).1 = 265 := (sf_is_ok sf_o2_is).2.1
theorem sn_wA : rf_wa sf_wA = [.inr (10, ri_df0 10)] := by
  have h := rf_wp_eq (x := .inr (10, ri_df0 10)) (w := sf_w0) rfl
  rw [sf_w0_eq] at h
  exact h
theorem sn_wB : rf_wa sf_wB = rf_wa (sf_ow sf_o1) ++ [.inr (11, ri_df0 11)] := rf_wp_eq (x := .inr (11, ri_df0 11)) (w := sf_ow sf_o1) (by rw [sn_e1]; rfl)
theorem sn_wC : rf_wa sf_wC = rf_wa (sf_ow sf_o2) ++ [.inl (1, [.long 0])] := rf_wp_eq (x := .inl (1, .inl [.long 0])) (w := sf_ow sf_o2) (by rw [sn_e2]; rfl)
theorem sn_l1 : (rf_wa (sf_ow sf_o1)).length = 244 := rf_wa_len.trans sn_e1
theorem sn_l2 : (rf_wa (sf_ow sf_o2)).length = 265 := rf_wa_len.trans sn_e2
theorem sn_l3 : (rf_wa sf_wC).length = 266 := by rw [sn_wC, List.length_append, sn_l2]; rfl
/-- an end of the law -/
def sn_P (out : ri_Out) : Prop := out.1 = .inl (some (.int 1)) ∧ out.2.2.2.2.1 = [] ∧ out.2.2.1 ≤ 601024 ∧ out.2.2.2.1 ≤ 7293034
section SNL
variable (xs : Nat → Value) (L : Nat)
theorem sn_g13 (hxs : ∀ j : Nat, ∃ x : Int32, xs j = .int x) (hL : L ≤ 3072) (N S : Nat) (hN : N ≤ 3000) (hS : S ≤ 600000) : sy_Ev (sz_env xs L) 15 568 ri_m_L_law (ri_m_L_law.2.2.2.2.2.drop 13) 23 [(4, .int (Int32.ofInt 0)), (3, .ref 265), (2, .ref 244), (1, .ref 0), (0, .ref 1000000)] [] (rf_wa sf_wC) N S 0 sn_P := by
  obtain ⟨n, out, e1, e2, e3, e4, e5⟩ := sz_loop xs L hxs hL 512 0 (by omega) (by omega) [(4, .int (Int32.ofInt 0)), (3, .ref 265), (2, .ref 244), (1, .ref 0), (0, .ref 1000000)] (rf_wa sf_wC) 0 15 568 (by omega) (by omega)
    ⟨rfl, rfl, rfl, rfl, rfl, sn_l3, sf_tw, sf_ru, 0, 0, 0, 0, ⟨by decide, by decide⟩, ⟨by decide, by decide⟩, ⟨by decide, by decide⟩, ⟨by decide, by decide⟩, sg_hok⟩
  have e4' : out.2.2.1 ≤ 512 * 1 := e4
  have e5' : out.2.2.2.1 ≤ 512 * 6 := e5
  have h7 : sy_Ev (sz_env xs L) 15 568 ri_m_L_law (ri_m_L_law.2.2.2.2.2.drop 13) 23 [(4, .int (Int32.ofInt 0)), (3, .ref 265), (2, .ref 244), (1, .ref 0), (0, .ref 1000000)] [] (rf_wa sf_wC) 0 0 0 (fun out => sn_P (rs_o N S out)) := by
    refine ⟨n, out, e1, e2, e3, ?_, ?_⟩
    · show N + out.2.2.1 ≤ 601024
      omega
    · show S + out.2.2.2.1 ≤ 7293034
      omega
  exact sy_ev_sh N S h7
theorem sn_g8 (hxs : ∀ j : Nat, ∃ x : Int32, xs j = .int x) (hL : L ≤ 3072) (N S : Nat) (hN : N ≤ 2000) (hS : S ≤ 500000) : sy_Ev (sz_env xs L) 15 568 ri_m_L_law ((16, 0, .iconst 1, 0, 0, .null, []) :: (17, 19, .newarray .long, 1, 0, .long 0, []) :: (19, 0, .astore_n 3, 0, 0, .null, []) :: (20, 0, .iconst 0, 0, 0, .null, []) :: (21, 0, .istore 4, 0, 0, .null, []) :: ri_m_L_law.2.2.2.2.2.drop 13) 16 [(2, .ref 244), (1, .ref 0), (0, .ref 1000000)] [] (rf_wa (sf_ow sf_o2)) N S 0 sn_P := by
  refine sy_ev_tk (j := 0) (p2 := 17) (l2 := [(2, .ref 244), (1, .ref 0), (0, .ref 1000000)]) (s2 := [.int (Int32.ofInt 1)]) rfl rfl (Or.inl rfl) ?_
  refine sn_ev19 (z := (1, [.ref (rf_wa (sf_ow sf_o2)).length], rf_wa (sf_ow sf_o2) ++ [.inl (1, [.long 0])])) (by rw [sn_l2]; rfl) (sn_newa1 _) ?_
  dsimp only
  rw [sn_l2, ← sn_wC]
  refine sy_ev_tk (j := 0) (p2 := 20) (l2 := [(3, .ref 265), (2, .ref 244), (1, .ref 0), (0, .ref 1000000)]) (s2 := []) rfl rfl (Or.inl rfl) ?_
  refine sy_ev_tk (j := 0) (p2 := 21) (l2 := [(3, .ref 265), (2, .ref 244), (1, .ref 0), (0, .ref 1000000)]) (s2 := [.int (Int32.ofInt 0)]) rfl rfl (Or.inl rfl) ?_
  refine sy_ev_tk (j := 0) (p2 := 23) (l2 := [(4, .int (Int32.ofInt 0)), (3, .ref 265), (2, .ref 244), (1, .ref 0), (0, .ref 1000000)]) (s2 := []) rfl rfl (Or.inl rfl) ?_
  exact sn_g13 xs L hxs hL _ _ (by omega) (by omega)
theorem sn_r1 : sy_rr (sz_env xs L) 4000 14 (568 - (19 + ri_m_X10_init.2.2.1)) ri_m_X10_init ri_m_X10_init.2.2.2.2.2 0 [(0, .ref 0)] [] (rf_wa sf_wA) 0 0 0 = some (.inl none, rf_wa (sf_ow sf_o1), sf_onc sf_o1, sf_ons sf_o1, [], 0) := sf_any xs L (n := 4000) (d := 14) (bud := 568 - (19 + ri_m_X10_init.2.2.1)) (q := 0) (len := 244) (M := ri_m_X10_init) (w := sf_wA) (sf_hMs 1 _ rfl rfl) sf_o1_is
theorem sn_r2 : sy_rr (sz_env xs L) 4000 14 (568 - (19 + ri_m_X11_init.2.2.1)) ri_m_X11_init ri_m_X11_init.2.2.2.2.2 0 [(0, .ref 244)] [] (rf_wa sf_wB) 0 0 0 = some (.inl none, rf_wa (sf_ow sf_o2), sf_onc sf_o2, sf_ons sf_o2, [], 0) := sf_any xs L (n := 4000) (d := 14) (bud := 568 - (19 + ri_m_X11_init.2.2.1)) (q := 244) (len := 265) (M := ri_m_X11_init) (w := sf_wB) (sf_hMs 2 _ rfl rfl) sf_o2_is
theorem sn_g4 (hxs : ∀ j : Nat, ∃ x : Int32, xs j = .int x) (hL : L ≤ 3072) (N S : Nat) (hN : N ≤ 600) (hS : S ≤ 210000) : sy_Ev (sz_env xs L) 15 568 ri_m_L_law ((8, 18, .new 115, 11, 30, .null, []) :: (11, 0, .dup, 0, 0, .null, []) :: (12, 4, .invokespecial 117, 2, 2, .null, []) :: (15, 0, .astore_n 2, 0, 0, .null, []) :: (16, 0, .iconst 1, 0, 0, .null, []) :: (17, 19, .newarray .long, 1, 0, .long 0, []) :: (19, 0, .astore_n 3, 0, 0, .null, []) :: (20, 0, .iconst 0, 0, 0, .null, []) :: (21, 0, .istore 4, 0, 0, .null, []) :: ri_m_L_law.2.2.2.2.2.drop 13) 8 [(1, .ref 0), (0, .ref 1000000)] [] (rf_wa (sf_ow sf_o1)) N S 0 sn_P := by
  have b2 := (sf_is_ok sf_o2_is).2.2
  refine sn_ev18 (by rw [sn_l1]; rfl) ?_
  rw [sn_l1]
  show sy_Ev (sz_env xs L) 15 568 ri_m_L_law _ 11 [(1, .ref 0), (0, .ref 1000000)] [.ref 244] (rf_wa (sf_ow sf_o1) ++ [.inr (11, ri_df0 11)]) (N + 1) (S + 30) 0 sn_P
  rw [← sn_wB]
  refine sy_ev_tk (j := 0) (p2 := 12) (l2 := [(1, .ref 0), (0, .ref 1000000)]) (s2 := [.ref 244, .ref 244]) rfl rfl (Or.inl rfl) ?_
  refine sn_ev_ini (M2 := ri_m_X11_init) (As := []) (q := 244) (rest := [.ref 244]) rfl rfl (by omega) (Nat.le_of_ble_eq_true rfl) (Nat.le_of_ble_eq_true rfl) (Nat.le_of_ble_eq_true rfl) ⟨4000, _, sn_r2 xs L, rfl, ?_⟩
  show sy_Ev (sz_env xs L) 15 568 ri_m_L_law _ 15 [(1, .ref 0), (0, .ref 1000000)] [.ref 244] (rf_wa (sf_ow sf_o2)) (N + 1 + sf_onc sf_o2) (S + 30 + sf_ons sf_o2) 0 sn_P
  refine sy_ev_tk (j := 0) (p2 := 16) (l2 := [(2, .ref 244), (1, .ref 0), (0, .ref 1000000)]) (s2 := []) rfl rfl (Or.inl rfl) ?_
  exact sn_g8 xs L hxs hL _ _ (by omega) (by omega)
set_option maxRecDepth 100000 in
theorem sn_ops : ri_m_L_law.2.2.2.2.2 = (0, 18, .new 8, 10, 8, .null, []) :: (3, 0, .dup, 0, 0, .null, []) :: (4, 4, .invokespecial 114, 1, 2, .null, []) :: (7, 0, .astore_n 1, 0, 0, .null, []) :: (8, 18, .new 115, 11, 30, .null, []) :: (11, 0, .dup, 0, 0, .null, []) :: (12, 4, .invokespecial 117, 2, 2, .null, []) :: (15, 0, .astore_n 2, 0, 0, .null, []) :: (16, 0, .iconst 1, 0, 0, .null, []) :: (17, 19, .newarray .long, 1, 0, .long 0, []) :: (19, 0, .astore_n 3, 0, 0, .null, []) :: (20, 0, .iconst 0, 0, 0, .null, []) :: (21, 0, .istore 4, 0, 0, .null, []) :: ri_m_L_law.2.2.2.2.2.drop 13 := by
  rw [← ri_drop_eq]; rfl
/-- the law, in any script of so many words, answers 1 -/
theorem sn_law (hxs : ∀ j : Nat, ∃ x : Int32, xs j = .int x) (hL : L ≤ 3072) : sy_Ev (sz_env xs L) 15 568 ri_m_L_law ri_m_L_law.2.2.2.2.2 0 [(0, .ref 1000000)] [] [] 0 0 0 sn_P := by
  have b1 := (sf_is_ok sf_o1_is).2.2
  have key : sy_Ev (sz_env xs L) 15 568 ri_m_L_law ((0, 18, .new 8, 10, 8, .null, []) :: (3, 0, .dup, 0, 0, .null, []) :: (4, 4, .invokespecial 114, 1, 2, .null, []) :: (7, 0, .astore_n 1, 0, 0, .null, []) :: (8, 18, .new 115, 11, 30, .null, []) :: (11, 0, .dup, 0, 0, .null, []) :: (12, 4, .invokespecial 117, 2, 2, .null, []) :: (15, 0, .astore_n 2, 0, 0, .null, []) :: (16, 0, .iconst 1, 0, 0, .null, []) :: (17, 19, .newarray .long, 1, 0, .long 0, []) :: (19, 0, .astore_n 3, 0, 0, .null, []) :: (20, 0, .iconst 0, 0, 0, .null, []) :: (21, 0, .istore 4, 0, 0, .null, []) :: ri_m_L_law.2.2.2.2.2.drop 13) 0 [(0, .ref 1000000)] [] [] 0 0 0 sn_P := by
    refine sn_ev18 rfl ?_
    show sy_Ev (sz_env xs L) 15 568 ri_m_L_law _ 3 [(0, .ref 1000000)] [.ref 0] [.inr (10, ri_df0 10)] 1 8 0 sn_P
    rw [← sn_wA]
    refine sy_ev_tk (j := 0) (p2 := 4) (l2 := [(0, .ref 1000000)]) (s2 := [.ref 0, .ref 0]) rfl rfl (Or.inl rfl) ?_
    refine sn_ev_ini (M2 := ri_m_X10_init) (As := []) (q := 0) (rest := [.ref 0]) rfl rfl (by omega) (Nat.le_of_ble_eq_true rfl) (Nat.le_of_ble_eq_true rfl) (Nat.le_of_ble_eq_true rfl) ⟨4000, _, sn_r1 xs L, rfl, ?_⟩
    show sy_Ev (sz_env xs L) 15 568 ri_m_L_law _ 7 [(0, .ref 1000000)] [.ref 0] (rf_wa (sf_ow sf_o1)) (1 + sf_onc sf_o1) (8 + sf_ons sf_o1) 0 sn_P
    refine sy_ev_tk (j := 0) (p2 := 8) (l2 := [(1, .ref 0), (0, .ref 1000000)]) (s2 := []) rfl rfl (Or.inl rfl) ?_
    exact sn_g4 xs L hxs hL _ _ (by omega) (by omega)
  obtain ⟨n, out, h1, h2⟩ := key
  exact ⟨n, out, by rw [sn_ops]; exact h1, h2⟩
end SNL
