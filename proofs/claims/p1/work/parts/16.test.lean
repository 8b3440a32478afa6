set_option maxRecDepth 100000 in
theorem ri_t1 : (ri_run ri_Ms0 ri_ty0 ri_df0 ri_tyL0 (fun _ => 3) (fun _ => 0) 0 true [] 3000 10 500 ri_m_X0_init ri_m_X0_init.2.2.2.2.2 0 [(0, .ref 0)] [] [.inr (0, ri_df0 0)] 0 0 0).isSome = true := by decide +kernel
set_option maxRecDepth 100000 in
theorem ri_t2 : (ri_run ri_Ms0 ri_ty0 ri_df0 ri_tyL0 (fun _ => 3) (fun _ => 0) 0 true [] 3000 10 500 ri_m_X0_init ri_m_X0_init.2.2.2.2.2 0 [(0, .ref 0)] [] [.inr (0, ri_df0 0)] 0 0 0).map (fun o => (o.2.1.length, o.2.2.1)) = some (56, 55) := by decide +kernel
