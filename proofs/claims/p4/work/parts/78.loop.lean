/-! ===== the law's loop, of this program ===== -/
set_option maxRecDepth 100000 in
theorem sz_op13 : ri_m_L_law.2.2.2.2.2.drop 13 = (23, 0, .iload 4, 0, 0, .null, []) :: (25, 0, .aload_n 0, 0, 0, .null, []) :: (26, 25, .arraylength, 0, 0, .null, []) :: (27, 0, .bipush 6, 0, 0, .null, []) :: (29, 17, .isub, 2, 9999, .null, []) :: (30, 17, .if_icmp .gt 1585, 2, 9999, .null, [997]) :: ri_drop ri_m_L_law.2.2.2.2.2 19 := by
  rw [← ri_drop_eq]; rfl
set_option maxRecDepth 100000 in
theorem sz_opE : ri_m_L_law.2.2.2.2.2.drop 997 = [(1615, 0, .iconst 1, 0, 0, .null, []), (1616, 16, .ireturn, 0, 0, .null, [])] := by
  rw [← ri_drop_eq]; rfl
theorem sz_loop (xs : Nat → Value) (L : Nat) (hxs : ∀ j : Nat, ∃ x : Int32, xs j = .int x) (hL : L ≤ 3072) : ∀ k i : Nat, i ≤ 3072 → L < i + 6 * k + 6 → ∀ (lvc : ri_L) (w : List ri_E) (fr d bud : Nat), 12 ≤ d → 263 ≤ bud → sl_hd2 sz_T sz_RU (1, 1) (244, 7) (59, 3) (115, 3) (0, 4) (244, 5) 58 249 sz_GL 0 244 265 266 i lvc w → sy_Ev (sz_env xs L) d bud ri_m_L_law (ri_m_L_law.2.2.2.2.2.drop 13) 23 lvc [] w 0 0 fr (sl_fin (1, 6) k) := by
  obtain ⟨hs, h⟩ := sz_law2
  exact sl_loop2 (E := sz_env xs L) (own := sz_own) (T := sz_T) (RU := sz_RU) (CT := sz_CTL) (PC := sz_PCL) (C := sz_cL) (M := ri_m_L_law) (cb := (1, 6)) (n9 := 266) sz_hT sz_hdj (sz_okP xs L) (sz_okL xs L) rfl sz_op13 sz_opE rfl hxs hL rfl h
