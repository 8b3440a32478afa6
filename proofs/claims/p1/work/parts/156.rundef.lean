/-! ===== a path of the law: its run ===== -/
noncomputable def rg_run (L : Nat) (xs : Nat → Value) (orc : List (Bool ⊕ Int32)) (fuel : Nat) : Option rf_Out := rv_run ri_Ms0 ri_ty0 ri_df0 ri_tyL0 ri_exl0 xs L rg_al orc fuel 15 570 ri_m_L_law ri_m_L_law.2.2.2.2.2 0 [(0, .ref 1000000)] [] rg_w0 0 0 6
def rg_xs (k : Nat) : Value := .float (UInt32.ofNat k)
def rg_x1 (v : Int32) (k : Nat) : Value := bif Nat.beq k 1 then .int v else .float (UInt32.ofNat k)
