/-! ===== the reckoner, part 16: the same, quicker still ===== -/
noncomputable def rv_n (x : Int32) : Nat := x.toUInt32.toNat
noncomputable def rv_b (x : Int32) : Nat := Nat.mod (Nat.add x.toUInt32.toNat 2147483648) 4294967296
theorem rv_toInt (x : Int32) : x.toInt = if x.toUInt32.toNat < 2147483648 then (x.toUInt32.toNat : Int) else (x.toUInt32.toNat : Int) - 4294967296 := by
  have h : x.toInt = x.toBitVec.toInt := rfl
  have e : x.toBitVec.toNat = x.toUInt32.toNat := rfl
  rw [h, BitVec.toInt_eq_toNat_cond, e]
  by_cases c : x.toUInt32.toNat < 2147483648
  · rw [if_pos (by omega), if_pos c]
  · rw [if_neg (by omega), if_neg c]
    rfl
theorem rv_small (x : Int32) : x.toUInt32.toNat < 4294967296 := x.toUInt32.toNat_lt
theorem rv_b_eq (x : Int32) : (rv_b x : Int) = x.toInt + 2147483648 := by
  have e : rv_b x = (x.toUInt32.toNat + 2147483648) % 4294967296 := rfl
  have h := rv_small x
  rw [e, rv_toInt]
  by_cases c : x.toUInt32.toNat < 2147483648
  · rw [if_pos c]
    omega
  · rw [if_neg c]
    omega
theorem rv_lt (x y : Int32) : decide (x < y) = Nat.ble (Nat.succ (rv_b x)) (rv_b y) := by
  have hx := rv_b_eq x
  have hy := rv_b_eq y
  cases hb : Nat.ble (Nat.succ (rv_b x)) (rv_b y) with
  | true =>
    have h9 : Nat.succ (rv_b x) ≤ rv_b y := Nat.le_of_ble_eq_true hb
    exact decide_eq_true (Int32.lt_iff_toInt_lt.mpr (by omega))
  | false =>
    refine decide_eq_false (fun h => ?_)
    have h9 := Int32.lt_iff_toInt_lt.mp h
    rw [show Nat.ble (Nat.succ (rv_b x)) (rv_b y) = true from Nat.ble_eq_true_of_le (show Nat.succ (rv_b x) ≤ rv_b y by omega)] at hb
    cases hb
theorem rv_le (x y : Int32) : decide (x ≤ y) = Nat.ble (rv_b x) (rv_b y) := by
  have hx := rv_b_eq x
  have hy := rv_b_eq y
  cases hb : Nat.ble (rv_b x) (rv_b y) with
  | true =>
    have h9 : rv_b x ≤ rv_b y := Nat.le_of_ble_eq_true hb
    exact decide_eq_true (Int32.le_iff_toInt_le.mpr (by omega))
  | false =>
    refine decide_eq_false (fun h => ?_)
    have h9 := Int32.le_iff_toInt_le.mp h
    rw [show Nat.ble (rv_b x) (rv_b y) = true from Nat.ble_eq_true_of_le (by omega)] at hb
    cases hb
theorem rv_eq (x y : Int32) : decide (x = y) = Nat.beq (rv_b x) (rv_b y) := by
  have hx := rv_b_eq x
  have hy := rv_b_eq y
  cases hb : Nat.beq (rv_b x) (rv_b y) with
  | true =>
    have h9 : rv_b x = rv_b y := Nat.eq_of_beq_eq_true hb
    exact decide_eq_true (Int32.toInt_inj.mp (by omega))
  | false =>
    refine decide_eq_false (fun h => ?_)
    subst h
    rw [Nat.beq_refl] at hb
    cases hb
noncomputable def rv_cnd (c : Jvm.ClassFile.Cond) (x y : Int32) : Bool := match c with
  | .eq => Nat.beq (rv_b x) (rv_b y)
  | .ne => !Nat.beq (rv_b x) (rv_b y)
  | .lt => Nat.ble (Nat.succ (rv_b x)) (rv_b y)
  | .ge => Nat.ble (rv_b y) (rv_b x)
  | .gt => Nat.ble (Nat.succ (rv_b y)) (rv_b x)
  | .le => Nat.ble (rv_b x) (rv_b y)
theorem rv_cnd_eq (c : Jvm.ClassFile.Cond) (x y : Int32) : rv_cnd c x y = ri_cnd c x y := by
  cases c with
  | eq => exact (rv_eq x y).symm
  | ne =>
    show (!Nat.beq (rv_b x) (rv_b y)) = !decide (x = y)
    rw [rv_eq]
  | lt => exact (rv_lt x y).symm
  | ge => exact (rv_le y x).symm
  | gt => exact (rv_lt y x).symm
  | le => exact (rv_le x y).symm
theorem rv_neg (i : Int32) : decide (i < 0) = !Nat.ble (Nat.succ (rv_n i)) 2147483648 := by
  have h := rv_toInt i
  have e : rv_n i = i.toUInt32.toNat := rfl
  cases hb : Nat.ble (Nat.succ (rv_n i)) 2147483648 with
  | true =>
    have h9 : Nat.succ (rv_n i) ≤ 2147483648 := Nat.le_of_ble_eq_true hb
    rw [if_pos (by omega)] at h
    exact decide_eq_false (fun q => by have := Int32.lt_iff_toInt_lt.mp q; rw [h] at this; exact absurd this (by show ¬ (_ < (0 : Int)); omega))
  | false =>
    by_cases c : i.toUInt32.toNat < 2147483648
    · rw [show Nat.ble (Nat.succ (rv_n i)) 2147483648 = true from Nat.ble_eq_true_of_le (by omega)] at hb
      cases hb
    · rw [if_neg c] at h
      have hs := rv_small i
      exact decide_eq_true (Int32.lt_iff_toInt_lt.mpr (by rw [h]; show _ < (0 : Int); omega))
theorem rv_ix {i : Int32} (h : Nat.ble (Nat.succ (rv_n i)) 2147483648 = true) : i.toNatClampNeg = rv_n i := by
  have h9 : Nat.succ (rv_n i) ≤ 2147483648 := Nat.le_of_ble_eq_true h
  have e : rv_n i = i.toUInt32.toNat := rfl
  have hq : i.toNatClampNeg = i.toInt.toNat := rfl
  rw [hq, rv_toInt, if_pos (by omega), e]
  omega
/-- places of the frame, kept by a recursor -/
noncomputable def rv_flt (f : Nat × Value → Bool) (lv : ri_L) : ri_L := List.rec [] (fun q _ ih => @Bool.rec (fun _ => ri_L) ih (q :: ih) (f q)) lv
theorem rv_flt_eq {f g : Nat × Value → Bool} (h : ∀ q, f q = g q) : ∀ lv : ri_L, rv_flt f lv = lv.filter g
  | [] => rfl
  | q :: r => by
    show @Bool.rec (fun _ => ri_L) (rv_flt f r) (q :: rv_flt f r) (f q) = _
    rw [List.filter_cons, rv_flt_eq h r, h q]
    cases g q <;> rfl
noncomputable def rv_c2 (v : Value) : Bool := match v with
  | .long _ => true
  | .double _ => true
  | _ => false
theorem rv_c2_eq (v : Value) : rv_c2 v = (v.category == 2) := by cases v <;> rfl
noncomputable def rv_f1 (i : Nat) (q : Nat × Value) : Bool := @Bool.rec (fun _ => Bool) (@Bool.rec (fun _ => Bool) true (@Bool.rec (fun _ => Bool) true false (rv_c2 q.2)) (Nat.beq (Nat.succ q.1) i)) false (Nat.beq q.1 i)
theorem rv_beq (a b : Nat) : (a == b) = Nat.beq a b := by
  cases h : Nat.beq a b with
  | true =>
    rw [Nat.eq_of_beq_eq_true h]
    exact beq_self_eq_true _
  | false => exact beq_eq_false_iff_ne.mpr (fun e => by rw [e, Nat.beq_refl] at h; cases h)
theorem rv_f1_eq (i : Nat) (q : Nat × Value) : rv_f1 i q = ri_f1 i q := by
  unfold rv_f1 ri_f1
  rw [← rv_c2_eq, rv_beq, rv_beq]
  show _ = (!Nat.beq q.1 i && !(Nat.beq (Nat.succ q.1) i && rv_c2 q.2))
  cases Nat.beq q.1 i <;> cases Nat.beq (Nat.succ q.1) i <;> cases rv_c2 q.2 <;> rfl
noncomputable def rv_s1 (i : Nat) (v : Value) (lv : ri_L) : ri_L := (i, v) :: rv_flt (rv_f1 i) lv
theorem rv_s1_eq (i : Nat) (v : Value) (lv : ri_L) : rv_s1 i v lv = ri_s1 i v lv := congrArg (List.cons (i, v)) (rv_flt_eq (rv_f1_eq i) lv)
/-- arrays: the index as a natural -/
noncomputable def rv_ald (tyL : List FieldType) (g : FieldType → Bool) (st : List Value) (w : rf_W) : Option (List Value) := match st with
  | .int i :: .ref q :: r => (match rf_wn w q with
    | some (.inl a) => (match ri_nth tyL a.1 with
      | some ty => ri_ok (g ty && Nat.ble (Nat.succ (rv_n i)) 2147483648) (match rf_vn a.2 (rv_n i) with
        | some v => some (v :: r)
        | none => none)
      | none => none)
    | _ => none)
  | _ => none
theorem rv_ald_eq (tyL : List FieldType) (g : FieldType → Bool) (st : List Value) (w : rf_W) : rv_ald tyL g st w = rf_ald tyL g st w := by
  unfold rv_ald rf_ald
  split
  · rename_i i q r
    dsimp only
    cases rf_wn w q with
    | none => rfl
    | some x =>
      cases x with
      | inr o => rfl
      | inl a =>
        dsimp only
        cases ri_nth tyL a.1 with
        | none => rfl
        | some ty =>
          dsimp only
          rw [rv_neg, Bool.not_not]
          cases hb : Nat.ble (Nat.succ (rv_n i)) 2147483648 with
          | true =>
            rw [rv_ix hb]
            rfl
          | false =>
            rw [Bool.and_false]
            rfl
  · rename_i h9
    split
    · exact (h9 _ _ _ rfl).elim
    · rfl
noncomputable def rv_ast (tyL : List FieldType) (g : FieldType → Value → Option Value) (st : List Value) (w : rf_W) : Option (List Value × rf_W) := match st with
  | x :: .int i :: .ref q :: r => (match rf_wn w q with
    | some (.inl a) => (match ri_nth tyL a.1 with
      | some ty => (match g ty x with
        | some v => ri_ok (Nat.ble (Nat.succ (rv_n i)) 2147483648) (match rf_vn a.2 (rv_n i) with
          | some _ => ri_ok (rf_vk a.2 && rf_wk w) (some (r, rf_wu (.inl (a.1, rf_vu v a.2 (rv_n i))) w q))
          | none => none)
        | none => none)
      | none => none)
    | _ => none)
  | _ => none
theorem rv_ast_eq (tyL : List FieldType) (g : FieldType → Value → Option Value) (st : List Value) (w : rf_W) : rv_ast tyL g st w = rf_ast tyL g st w := by
  unfold rv_ast rf_ast
  split
  · rename_i x i q r
    dsimp only
    cases rf_wn w q with
    | none => rfl
    | some y =>
      cases y with
      | inr o => rfl
      | inl a =>
        dsimp only
        cases ri_nth tyL a.1 with
        | none => rfl
        | some ty =>
          dsimp only
          cases g ty x with
          | none => rfl
          | some v =>
            dsimp only
            rw [rv_neg, Bool.not_not]
            cases hb : Nat.ble (Nat.succ (rv_n i)) 2147483648 with
            | true =>
              rw [rv_ix hb]
              rfl
            | false => rfl
  · rename_i h9
    split
    · exact (h9 _ _ _ _ rfl).elim
    · rfl
noncomputable def rv_p_istore (i : Nat) (nL pc : Nat) (lv : ri_L) (st : List Value) : Option ri_R := ri_v1 st (fun v r => ri_ok (Nat.blt (i) nL) (some (0, pc + 2, rv_s1 i v lv, r)))
theorem rv_p_istore_eq (i : Nat) : rv_p_istore i = rq_p_istore i := by
  funext nL pc lv st
  unfold rv_p_istore rq_p_istore
  simp only [rv_s1_eq, rv_cnd_eq]
noncomputable def rv_p_istore_n (i : Fin 4) (nL pc : Nat) (lv : ri_L) (st : List Value) : Option ri_R := ri_v1 st (fun v r => ri_ok (Nat.blt (i.val) nL) (some (0, pc + 1, rv_s1 i.val v lv, r)))
theorem rv_p_istore_n_eq (i : Fin 4) : rv_p_istore_n i = rq_p_istore_n i := by
  funext nL pc lv st
  unfold rv_p_istore_n rq_p_istore_n
  simp only [rv_s1_eq, rv_cnd_eq]
noncomputable def rv_p_astore (i : Nat) (nL pc : Nat) (lv : ri_L) (st : List Value) : Option ri_R := ri_r1 st (fun x r => ri_ok (Nat.blt i nL) (some (0, pc + 2, rv_s1 i (.ref x) lv, r))) (fun r => ri_ok (Nat.blt i nL) (some (0, pc + 2, rv_s1 i .null lv, r)))
theorem rv_p_astore_eq (i : Nat) : rv_p_astore i = rq_p_astore i := by
  funext nL pc lv st
  unfold rv_p_astore rq_p_astore
  simp only [rv_s1_eq, rv_cnd_eq]
noncomputable def rv_p_astore_n (i : Fin 4) (nL pc : Nat) (lv : ri_L) (st : List Value) : Option ri_R := ri_r1 st (fun x r => ri_ok (Nat.blt i.val nL) (some (0, pc + 1, rv_s1 i.val (.ref x) lv, r))) (fun r => ri_ok (Nat.blt i.val nL) (some (0, pc + 1, rv_s1 i.val .null lv, r)))
theorem rv_p_astore_n_eq (i : Fin 4) : rv_p_astore_n i = rq_p_astore_n i := by
  funext nL pc lv st
  unfold rv_p_astore_n rq_p_astore_n
  simp only [rv_s1_eq, rv_cnd_eq]
noncomputable def rv_p_iinc (i : Nat) (n : Int) (nL pc : Nat) (lv : ri_L) (st : List Value) : Option ri_R := ri_gi (ri_get i lv) (fun x => ri_ok (Nat.blt i nL) (some (0, pc + 3, rv_s1 i (.int (x + Int32.ofInt n)) lv, st)))
theorem rv_p_iinc_eq (i : Nat) (n : Int) : rv_p_iinc i n = rq_p_iinc i n := by
  funext nL pc lv st
  unfold rv_p_iinc rq_p_iinc
  simp only [rv_s1_eq, rv_cnd_eq]
noncomputable def rv_p_ifCond (c9 : Jvm.ClassFile.Cond) (off : Int) (nL pc : Nat) (lv : ri_L) (st : List Value) : Option ri_R := ri_i1 st (fun x r => ri_br (rv_cnd c9 x 0) pc off (pc + 3) lv r)
theorem rv_p_ifCond_eq (c9 : Jvm.ClassFile.Cond) (off : Int) : rv_p_ifCond c9 off = rq_p_ifCond c9 off := by
  funext nL pc lv st
  unfold rv_p_ifCond rq_p_ifCond
  simp only [rv_s1_eq, rv_cnd_eq]
noncomputable def rv_p_if_icmp (c9 : Jvm.ClassFile.Cond) (off : Int) (nL pc : Nat) (lv : ri_L) (st : List Value) : Option ri_R := ri_i2 st (fun y x r => ri_br (rv_cnd c9 x y) pc off (pc + 3) lv r)
theorem rv_p_if_icmp_eq (c9 : Jvm.ClassFile.Cond) (off : Int) : rv_p_if_icmp c9 off = rq_p_if_icmp c9 off := by
  funext nL pc lv st
  unfold rv_p_if_icmp rq_p_if_icmp
  simp only [rv_s1_eq, rv_cnd_eq]
noncomputable def rv_of (i : Instr) : Option rq_P := match i with
  | .iconst n => some (rq_p_iconst n)
  | .bipush n => some (rq_p_bipush n)
  | .sipush n => some (rq_p_sipush n)
  | .lconst n => some (rq_p_lconst n)
  | .aconst_null => some (rq_p_aconst_null)
  | .dconst n => some (rq_p_dconst n)
  | .iload i => some (rq_p_iload i)
  | .iload_n i => some (rq_p_iload_n i)
  | .istore i => some (rv_p_istore i)
  | .istore_n i => some (rv_p_istore_n i)
  | .lload i => some (rq_p_lload i)
  | .lload_n i => some (rq_p_lload_n i)
  | .dload i => some (rq_p_dload i)
  | .dload_n i => some (rq_p_dload_n i)
  | .aload i => some (rq_p_aload i)
  | .aload_n i => some (rq_p_aload_n i)
  | .lstore i => some (rq_p_lstore i)
  | .lstore_n i => some (rq_p_lstore_n i)
  | .dstore i => some (rq_p_dstore i)
  | .dstore_n i => some (rq_p_dstore_n i)
  | .astore i => some (rv_p_astore i)
  | .astore_n i => some (rv_p_astore_n i)
  | .iinc i n => some (rv_p_iinc i n)
  | .iadd => some (rq_p_iadd)
  | .isub => some (rq_p_isub)
  | .imul => some (rq_p_imul)
  | .iand => some (rq_p_iand)
  | .ior => some (rq_p_ior)
  | .ixor => some (rq_p_ixor)
  | .ishl => some (rq_p_ishl)
  | .ishr => some (rq_p_ishr)
  | .iushr => some (rq_p_iushr)
  | .ladd => some (rq_p_ladd)
  | .lsub => some (rq_p_lsub)
  | .lmul => some (rq_p_lmul)
  | .land => some (rq_p_land)
  | .lor => some (rq_p_lor)
  | .lxor => some (rq_p_lxor)
  | .lshl => some (rq_p_lshl)
  | .lshr => some (rq_p_lshr)
  | .lushr => some (rq_p_lushr)
  | .idiv => some (rq_p_idiv)
  | .irem => some (rq_p_irem)
  | .ldiv => some (rq_p_ldiv)
  | .lrem => some (rq_p_lrem)
  | .ineg => some (rq_p_ineg)
  | .lneg => some (rq_p_lneg)
  | .i2l => some (rq_p_i2l)
  | .l2i => some (rq_p_l2i)
  | .i2b => some (rq_p_i2b)
  | .i2s => some (rq_p_i2s)
  | .i2c => some (rq_p_i2c)
  | .i2d => some (rq_p_i2d)
  | .l2d => some (rq_p_l2d)
  | .d2i => some (rq_p_d2i)
  | .d2l => some (rq_p_d2l)
  | .dneg => some (rq_p_dneg)
  | .dadd => some (rq_p_dadd)
  | .dsub => some (rq_p_dsub)
  | .dmul => some (rq_p_dmul)
  | .ddiv => some (rq_p_ddiv)
  | .dcmp op => some (rq_p_dcmp op)
  | .lcmp => some (rq_p_lcmp)
  | .dup => some (rq_p_dup)
  | .pop => some (rq_p_pop)
  | .dup_x1 => some (rq_p_dup_x1)
  | .dup2 => some (rq_p_dup2)
  | .goto off => some (rq_p_goto off)
  | .ifCond c9 off => some (rv_p_ifCond c9 off)
  | .if_icmp c9 off => some (rv_p_if_icmp c9 off)
  | .ifnonnull off => some (rq_p_ifnonnull off)
  | .ifnull off => some (rq_p_ifnull off)
  | .tableswitch dflt lo hi offs => some (rq_p_tableswitch dflt lo hi offs)
  | _ => none
theorem rv_of_eq (i : Instr) : rv_of i = rq_of i := by
  cases i <;> first
  | exact congrArg some (rv_p_istore_eq _)
  | exact congrArg some (rv_p_istore_n_eq _)
  | exact congrArg some (rv_p_astore_eq _)
  | exact congrArg some (rv_p_astore_n_eq _)
  | exact congrArg some (rv_p_iinc_eq _ _)
  | exact congrArg some (rv_p_ifCond_eq _ _)
  | exact congrArg some (rv_p_if_icmp_eq _ _)
  | rfl
noncomputable def rv_x5 (tyL : List FieldType) (ih : rf_K) (d bud : Nat) (M : ri_M) (nxt : List ri_Op) (lv : ri_L) (st : List Value) (w : rf_W) (nc ns fr pc : Nat) : Option rf_Out := (match rv_ald tyL ri_tI st w with
    | some st => ih d bud M nxt (pc + 1) lv st w nc ns fr
    | none => none)
theorem rv_x5_eq (tyL : List FieldType) : rv_x5 tyL = rq_x5 tyL := by
  funext ih d bud M nxt lv st w nc ns fr pc
  unfold rv_x5 rq_x5
  simp only [rv_ald_eq, rv_ast_eq]
  rfl
noncomputable def rv_x6 (tyL : List FieldType) (ih : rf_K) (d bud : Nat) (M : ri_M) (nxt : List ri_Op) (lv : ri_L) (st : List Value) (w : rf_W) (nc ns fr pc : Nat) : Option rf_Out := (match rv_ast tyL ri_gI st w with
    | some z => ih d bud M nxt (pc + 1) lv z.1 z.2 nc ns fr
    | none => none)
theorem rv_x6_eq (tyL : List FieldType) : rv_x6 tyL = rq_x6 tyL := by
  funext ih d bud M nxt lv st w nc ns fr pc
  unfold rv_x6 rq_x6
  simp only [rv_ald_eq, rv_ast_eq]
  rfl
noncomputable def rv_x7 (tyL : List FieldType) (ih : rf_K) (d bud : Nat) (M : ri_M) (nxt : List ri_Op) (lv : ri_L) (st : List Value) (w : rf_W) (nc ns fr pc : Nat) : Option rf_Out := (match rv_ald tyL ri_tL st w with
    | some st => ih d bud M nxt (pc + 1) lv st w nc ns fr
    | none => none)
theorem rv_x7_eq (tyL : List FieldType) : rv_x7 tyL = rq_x7 tyL := by
  funext ih d bud M nxt lv st w nc ns fr pc
  unfold rv_x7 rq_x7
  simp only [rv_ald_eq, rv_ast_eq]
  rfl
noncomputable def rv_x8 (tyL : List FieldType) (ih : rf_K) (d bud : Nat) (M : ri_M) (nxt : List ri_Op) (lv : ri_L) (st : List Value) (w : rf_W) (nc ns fr pc : Nat) : Option rf_Out := (match rv_ast tyL ri_gL st w with
    | some z => ih d bud M nxt (pc + 1) lv z.1 z.2 nc ns fr
    | none => none)
theorem rv_x8_eq (tyL : List FieldType) : rv_x8 tyL = rq_x8 tyL := by
  funext ih d bud M nxt lv st w nc ns fr pc
  unfold rv_x8 rq_x8
  simp only [rv_ald_eq, rv_ast_eq]
  rfl
noncomputable def rv_x9 (tyL : List FieldType) (ih : rf_K) (d bud : Nat) (M : ri_M) (nxt : List ri_Op) (lv : ri_L) (st : List Value) (w : rf_W) (nc ns fr pc : Nat) : Option rf_Out := (match rv_ald tyL ri_tD st w with
    | some st => ih d bud M nxt (pc + 1) lv st w nc ns fr
    | none => none)
theorem rv_x9_eq (tyL : List FieldType) : rv_x9 tyL = rq_x9 tyL := by
  funext ih d bud M nxt lv st w nc ns fr pc
  unfold rv_x9 rq_x9
  simp only [rv_ald_eq, rv_ast_eq]
  rfl
noncomputable def rv_x10 (tyL : List FieldType) (ih : rf_K) (d bud : Nat) (M : ri_M) (nxt : List ri_Op) (lv : ri_L) (st : List Value) (w : rf_W) (nc ns fr pc : Nat) : Option rf_Out := (match rv_ast tyL ri_gD st w with
    | some z => ih d bud M nxt (pc + 1) lv z.1 z.2 nc ns fr
    | none => none)
theorem rv_x10_eq (tyL : List FieldType) : rv_x10 tyL = rq_x10 tyL := by
  funext ih d bud M nxt lv st w nc ns fr pc
  unfold rv_x10 rq_x10
  simp only [rv_ald_eq, rv_ast_eq]
  rfl
noncomputable def rv_x11 (tyL : List FieldType) (ih : rf_K) (d bud : Nat) (M : ri_M) (nxt : List ri_Op) (lv : ri_L) (st : List Value) (w : rf_W) (nc ns fr pc : Nat) : Option rf_Out := (match rv_ald tyL ri_tA st w with
    | some st => ih d bud M nxt (pc + 1) lv st w nc ns fr
    | none => none)
theorem rv_x11_eq (tyL : List FieldType) : rv_x11 tyL = rq_x11 tyL := by
  funext ih d bud M nxt lv st w nc ns fr pc
  unfold rv_x11 rq_x11
  simp only [rv_ald_eq, rv_ast_eq]
  rfl
noncomputable def rv_x12 (tyL : List FieldType) (ih : rf_K) (d bud : Nat) (M : ri_M) (nxt : List ri_Op) (lv : ri_L) (st : List Value) (w : rf_W) (nc ns fr pc : Nat) : Option rf_Out := (match rv_ald tyL ri_tB st w with
    | some st => ih d bud M nxt (pc + 1) lv st w nc ns fr
    | none => none)
theorem rv_x12_eq (tyL : List FieldType) : rv_x12 tyL = rq_x12 tyL := by
  funext ih d bud M nxt lv st w nc ns fr pc
  unfold rv_x12 rq_x12
  simp only [rv_ald_eq, rv_ast_eq]
  rfl
noncomputable def rv_x13 (tyL : List FieldType) (ih : rf_K) (d bud : Nat) (M : ri_M) (nxt : List ri_Op) (lv : ri_L) (st : List Value) (w : rf_W) (nc ns fr pc : Nat) : Option rf_Out := (match rv_ast tyL ri_gB st w with
    | some z => ih d bud M nxt (pc + 1) lv z.1 z.2 nc ns fr
    | none => none)
theorem rv_x13_eq (tyL : List FieldType) : rv_x13 tyL = rq_x13 tyL := by
  funext ih d bud M nxt lv st w nc ns fr pc
  unfold rv_x13 rq_x13
  simp only [rv_ald_eq, rv_ast_eq]
  rfl
noncomputable def rv_x27 (tyL : List FieldType) (ih : rf_K) (d bud : Nat) (M : ri_M) (nxt : List ri_Op) (lv : ri_L) (st : List Value) (w : rf_W) (nc ns fr pc : Nat) : Option rf_Out := bif ri_conc 1 st then (match rv_ast tyL ri_gB st w with
      | some z => ih d bud M nxt (pc + 1) lv z.1 z.2 nc ns fr
      | none => none)
    else (match rv_ast tyL (ri_gU fr) st w with
      | some z => rf_more [(.i2b, ri_top st, .int 0, fr, true)] (ih d bud M nxt (pc + 1) lv z.1 z.2 nc ns (fr + 1))
      | none => none)
theorem rv_x27_eq (tyL : List FieldType) : rv_x27 tyL = rq_x27 tyL := by
  funext ih d bud M nxt lv st w nc ns fr pc
  unfold rv_x27 rq_x27
  simp only [rv_ald_eq, rv_ast_eq]
  rfl
section RVD
variable (Ms : List ri_M) (ty : Nat → Nat → FieldType) (df : Nat → List Value) (tyL : List FieldType) (exl : Nat → Nat) (xs : Nat → Value) (L : Nat) (al : Nat → Bool) (orc : List (Bool ⊕ Int32))
noncomputable def rv_op (κ : Nat) (i : Instr) (a b : Nat) (v : Value) (ts : List Nat) : Option rq_S := match κ with
  | 0 => (match rv_of i with | some P => some (rq_x0 P ts) | none => none)
  | 1 => some (rq_x1 a b)
  | 2 => some (rq_x2 ty a b)
  | 3 => some (rq_x3 i v)
  | 4 => some (rq_x4 Ms al a b ts)
  | 5 => some (rv_x5 tyL)
  | 6 => some (rv_x6 tyL)
  | 7 => some (rv_x7 tyL)
  | 8 => some (rv_x8 tyL)
  | 9 => some (rv_x9 tyL)
  | 10 => some (rv_x10 tyL)
  | 11 => some (rv_x11 tyL)
  | 12 => some (rv_x12 tyL)
  | 13 => some (rv_x13 tyL)
  | 14 => some (rq_x14 a b)
  | 15 => some (rq_x15 tyL)
  | 16 => some (rq_x16 i)
  | 17 => (match rv_of i with | some P => some (rq_x17 orc P i a ts) | none => some (rq_x17 orc (fun _ _ _ _ => none) i a ts))
  | 18 => some (rq_x18 df al a b)
  | 19 => some (rq_x19 al a v)
  | 20 => some (rq_x20 al a)
  | 21 => some (rq_x21)
  | 22 => some (rq_x22 tyL)
  | 23 => some (rq_x23 exl a)
  | 24 => some (rq_x24 xs L)
  | 25 => some (rq_x25 L)
  | 26 => some (rq_x26 al a b)
  | 27 => some (rv_x27 tyL)
  | 28 => some (rq_x28 tyL orc a b v ts)
  | _ => none
theorem rv_op_eq (i : Instr) (a b : Nat) (v : Value) (ts : List Nat) : ∀ κ : Nat, rv_op Ms ty df tyL exl xs L al orc κ i a b v ts = rq_op Ms ty df tyL exl xs L al orc κ i a b v ts
  | 0 => by
    show (match rv_of i with | some P => some (rq_x0 P ts) | none => none) = (match rq_of i with | some P => some (rq_x0 P ts) | none => none)
    rw [rv_of_eq]
  | 1 => rfl
  | 2 => rfl
  | 3 => rfl
  | 4 => rfl
  | 5 => congrArg some (rv_x5_eq tyL)
  | 6 => congrArg some (rv_x6_eq tyL)
  | 7 => congrArg some (rv_x7_eq tyL)
  | 8 => congrArg some (rv_x8_eq tyL)
  | 9 => congrArg some (rv_x9_eq tyL)
  | 10 => congrArg some (rv_x10_eq tyL)
  | 11 => congrArg some (rv_x11_eq tyL)
  | 12 => congrArg some (rv_x12_eq tyL)
  | 13 => congrArg some (rv_x13_eq tyL)
  | 14 => rfl
  | 15 => rfl
  | 16 => rfl
  | 17 => by
    show (match rv_of i with | some P => some (rq_x17 orc P i a ts) | none => some (rq_x17 orc (fun _ _ _ _ => none) i a ts)) = (match rq_of i with | some P => some (rq_x17 orc P i a ts) | none => some (rq_x17 orc (fun _ _ _ _ => none) i a ts))
    rw [rv_of_eq]
  | 18 => rfl
  | 19 => rfl
  | 20 => rfl
  | 21 => rfl
  | 22 => rfl
  | 23 => rfl
  | 24 => rfl
  | 25 => rfl
  | 26 => rfl
  | 27 => congrArg some (rv_x27_eq tyL)
  | 28 => rfl
  | _ + 29 => rfl
noncomputable def rv_run (fuel : Nat) : rf_K := Nat.rec (fun _ _ _ _ _ _ _ _ _ _ _ => none) (fun _ ih d bud M cur pc lv st w nc ns fr => @List.rec ri_Op (fun _ => Option rf_Out) none (fun o nxt _ => @Bool.rec (fun _ => Option rf_Out) none (@Option.rec rq_S (fun _ => Option rf_Out) none (fun S => S ih d bud M nxt lv st w nc ns fr o.1) (rv_op Ms ty df tyL exl xs L al orc o.2.1 o.2.2.1 o.2.2.2.1 o.2.2.2.2.1 o.2.2.2.2.2.1 o.2.2.2.2.2.2)) (Nat.beq o.1 pc)) cur) fuel
theorem rv_run_eq : ∀ fuel : Nat, rv_run Ms ty df tyL exl xs L al orc fuel = rq_run Ms ty df tyL exl xs L al orc fuel
  | 0 => rfl
  | n + 1 => by
    funext d bud M cur pc lv st w nc ns fr
    cases cur with
    | nil => rfl
    | cons o nxt =>
      show @Bool.rec (fun _ => Option rf_Out) none (@Option.rec rq_S (fun _ => Option rf_Out) none (fun S => S (rv_run Ms ty df tyL exl xs L al orc n) d bud M nxt lv st w nc ns fr o.1) (rv_op Ms ty df tyL exl xs L al orc o.2.1 o.2.2.1 o.2.2.2.1 o.2.2.2.2.1 o.2.2.2.2.2.1 o.2.2.2.2.2.2)) (Nat.beq o.1 pc) = @Bool.rec (fun _ => Option rf_Out) none (@Option.rec rq_S (fun _ => Option rf_Out) none (fun S => S (rq_run Ms ty df tyL exl xs L al orc n) d bud M nxt lv st w nc ns fr pc) (rq_op Ms ty df tyL exl xs L al orc o.2.1 o.2.2.1 o.2.2.2.1 o.2.2.2.2.1 o.2.2.2.2.2.1 o.2.2.2.2.2.2)) (Nat.beq o.1 pc)
      rw [rv_run_eq n, rv_op_eq]
      cases hb : Nat.beq o.1 pc with
      | false => rfl
      | true => rw [Nat.eq_of_beq_eq_true hb]
end RVD
