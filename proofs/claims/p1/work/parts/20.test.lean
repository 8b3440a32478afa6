/-- a path -/
noncomputable def rg_run (L : Nat) (xs : Nat → Value) (orc : List (Bool ⊕ Int32)) (fuel : Nat) : Option rf_Out := rq_run ri_Ms0 ri_ty0 ri_df0 ri_tyL0 ri_exl0 xs L rg_al orc fuel 15 570 ri_m_L_law ri_m_L_law.2.2.2.2.2 0 [(0, .ref 1000000)] [] rg_w0 0 0 6
def rg_xs (k : Nat) : Value := .float (UInt32.ofNat k)
def rg_x1 (v : Int32) (k : Nat) : Value := bif Nat.beq k 1 then .int v else .float (UInt32.ofNat k)
def rg_full : rg_I := (-2147483648, 2147483647, false)
/-- what is known, as a list: the number, between these two, not 0 -/
def rg_R (l : List (Nat × rg_I)) (k : Nat) : rg_I := match l with
  | [] => rg_full
  | q :: r => bif Nat.beq q.1 k then q.2 else rg_R r k
set_option maxRecDepth 1000000 in
theorem rg_t144 : rg_end (rg_R [(6, 25, 25, false)]) (rg_run 6 (rg_x1 0) [.inl false, .inl false, .inl false, .inl false, .inl false, .inl false, .inl false, .inr 25] 17240) = true := by decide +kernel
set_option maxRecDepth 1000000 in
theorem rg_t275 : rg_end (rg_R [(6, 29, 29, false)]) (rg_run 6 (rg_x1 60) [.inl false, .inl false, .inl false, .inl false, .inl false, .inl false, .inl false, .inr 29] 22558) = true := by decide +kernel
