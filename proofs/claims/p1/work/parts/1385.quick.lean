/-! ===== the reckoner, part 15b: the same, each step a constant of its own ===== -/
abbrev rq_P : Type := Nat → Nat → ri_L → List Value → Option ri_R
noncomputable def rq_p_iconst (n : Int) (nL pc : Nat) (lv : ri_L) (st : List Value) : Option ri_R := some (0, pc + 1, lv, .int (Int32.ofInt n) :: st)
noncomputable def rq_p_bipush (n : Int) (nL pc : Nat) (lv : ri_L) (st : List Value) : Option ri_R := some (0, pc + 2, lv, .int (Int8.ofInt n).toInt32 :: st)
noncomputable def rq_p_sipush (n : Int) (nL pc : Nat) (lv : ri_L) (st : List Value) : Option ri_R := some (0, pc + 3, lv, .int (Int16.ofInt n).toInt32 :: st)
noncomputable def rq_p_lconst (n : Fin 2) (nL pc : Nat) (lv : ri_L) (st : List Value) : Option ri_R := some (0, pc + 1, lv, .long (Int64.ofNat (n : Nat)) :: st)
noncomputable def rq_p_aconst_null (nL pc : Nat) (lv : ri_L) (st : List Value) : Option ri_R := some (0, pc + 1, lv, .null :: st)
noncomputable def rq_p_dconst (n : Fin 2) (nL pc : Nat) (lv : ri_L) (st : List Value) : Option ri_R := ri_ok (Nat.beq n.val 0) (some (0, pc + 1, lv, .double FP.dconst0 :: st))
noncomputable def rq_p_iload (i : Nat) (nL pc : Nat) (lv : ri_L) (st : List Value) : Option ri_R := ri_gv (ri_get i lv) (fun v => some (0, pc + 2, lv, v :: st))
noncomputable def rq_p_iload_n (i : Fin 4) (nL pc : Nat) (lv : ri_L) (st : List Value) : Option ri_R := ri_gv (ri_get i.val lv) (fun v => some (0, pc + 1, lv, v :: st))
noncomputable def rq_p_istore (i : Nat) (nL pc : Nat) (lv : ri_L) (st : List Value) : Option ri_R := ri_v1 st (fun v r => ri_ok (Nat.blt (i) nL) (some (0, pc + 2, ri_s1 i v lv, r)))
noncomputable def rq_p_istore_n (i : Fin 4) (nL pc : Nat) (lv : ri_L) (st : List Value) : Option ri_R := ri_v1 st (fun v r => ri_ok (Nat.blt (i.val) nL) (some (0, pc + 1, ri_s1 i.val v lv, r)))
noncomputable def rq_p_lload (i : Nat) (nL pc : Nat) (lv : ri_L) (st : List Value) : Option ri_R := ri_gl (ri_get i lv) (fun x => some (0, pc + 2, lv, .long x :: st))
noncomputable def rq_p_lload_n (i : Fin 4) (nL pc : Nat) (lv : ri_L) (st : List Value) : Option ri_R := ri_gl (ri_get i.val lv) (fun x => some (0, pc + 1, lv, .long x :: st))
noncomputable def rq_p_dload (i : Nat) (nL pc : Nat) (lv : ri_L) (st : List Value) : Option ri_R := ri_gd (ri_get i lv) (fun x => some (0, pc + 2, lv, .double x :: st))
noncomputable def rq_p_dload_n (i : Fin 4) (nL pc : Nat) (lv : ri_L) (st : List Value) : Option ri_R := ri_gd (ri_get i.val lv) (fun x => some (0, pc + 1, lv, .double x :: st))
noncomputable def rq_p_aload (i : Nat) (nL pc : Nat) (lv : ri_L) (st : List Value) : Option ri_R := ri_gr (ri_get i lv) (fun x => some (0, pc + 2, lv, .ref x :: st)) (some (0, pc + 2, lv, .null :: st))
noncomputable def rq_p_aload_n (i : Fin 4) (nL pc : Nat) (lv : ri_L) (st : List Value) : Option ri_R := ri_gr (ri_get i.val lv) (fun x => some (0, pc + 1, lv, .ref x :: st)) (some (0, pc + 1, lv, .null :: st))
noncomputable def rq_p_lstore (i : Nat) (nL pc : Nat) (lv : ri_L) (st : List Value) : Option ri_R := ri_l1 st (fun x r => ri_ok (Nat.blt (i + 1) nL) (some (0, pc + 2, ri_s2 i (.long x) lv, r)))
noncomputable def rq_p_lstore_n (i : Fin 4) (nL pc : Nat) (lv : ri_L) (st : List Value) : Option ri_R := ri_l1 st (fun x r => ri_ok (Nat.blt (i.val + 1) nL) (some (0, pc + 1, ri_s2 i.val (.long x) lv, r)))
noncomputable def rq_p_dstore (i : Nat) (nL pc : Nat) (lv : ri_L) (st : List Value) : Option ri_R := ri_d1 st (fun x r => ri_ok (Nat.blt (i + 1) nL) (some (0, pc + 2, ri_s2 i (.double x) lv, r)))
noncomputable def rq_p_dstore_n (i : Fin 4) (nL pc : Nat) (lv : ri_L) (st : List Value) : Option ri_R := ri_d1 st (fun x r => ri_ok (Nat.blt (i.val + 1) nL) (some (0, pc + 1, ri_s2 i.val (.double x) lv, r)))
noncomputable def rq_p_astore (i : Nat) (nL pc : Nat) (lv : ri_L) (st : List Value) : Option ri_R := ri_r1 st (fun x r => ri_ok (Nat.blt i nL) (some (0, pc + 2, ri_s1 i (.ref x) lv, r))) (fun r => ri_ok (Nat.blt i nL) (some (0, pc + 2, ri_s1 i .null lv, r)))
noncomputable def rq_p_astore_n (i : Fin 4) (nL pc : Nat) (lv : ri_L) (st : List Value) : Option ri_R := ri_r1 st (fun x r => ri_ok (Nat.blt i.val nL) (some (0, pc + 1, ri_s1 i.val (.ref x) lv, r))) (fun r => ri_ok (Nat.blt i.val nL) (some (0, pc + 1, ri_s1 i.val .null lv, r)))
noncomputable def rq_p_iinc (i : Nat) (n : Int) (nL pc : Nat) (lv : ri_L) (st : List Value) : Option ri_R := ri_gi (ri_get i lv) (fun x => ri_ok (Nat.blt i nL) (some (0, pc + 3, ri_s1 i (.int (x + Int32.ofInt n)) lv, st)))
noncomputable def rq_p_iadd (nL pc : Nat) (lv : ri_L) (st : List Value) : Option ri_R := ri_i2 st (fun y x r => some (0, pc + 1, lv, .int (x + y) :: r))
noncomputable def rq_p_isub (nL pc : Nat) (lv : ri_L) (st : List Value) : Option ri_R := ri_i2 st (fun y x r => some (0, pc + 1, lv, .int (x - y) :: r))
noncomputable def rq_p_imul (nL pc : Nat) (lv : ri_L) (st : List Value) : Option ri_R := ri_i2 st (fun y x r => some (0, pc + 1, lv, .int (x * y) :: r))
noncomputable def rq_p_iand (nL pc : Nat) (lv : ri_L) (st : List Value) : Option ri_R := ri_i2 st (fun y x r => some (0, pc + 1, lv, .int (x &&& y) :: r))
noncomputable def rq_p_ior (nL pc : Nat) (lv : ri_L) (st : List Value) : Option ri_R := ri_i2 st (fun y x r => some (0, pc + 1, lv, .int (x ||| y) :: r))
noncomputable def rq_p_ixor (nL pc : Nat) (lv : ri_L) (st : List Value) : Option ri_R := ri_i2 st (fun y x r => some (0, pc + 1, lv, .int (x ^^^ y) :: r))
noncomputable def rq_p_ishl (nL pc : Nat) (lv : ri_L) (st : List Value) : Option ri_R := ri_i2 st (fun y x r => some (0, pc + 1, lv, .int (x <<< (y &&& 31)) :: r))
noncomputable def rq_p_ishr (nL pc : Nat) (lv : ri_L) (st : List Value) : Option ri_R := ri_i2 st (fun y x r => some (0, pc + 1, lv, .int (x >>> (y &&& 31)) :: r))
noncomputable def rq_p_iushr (nL pc : Nat) (lv : ri_L) (st : List Value) : Option ri_R := ri_i2 st (fun y x r => some (0, pc + 1, lv, .int ((x.toUInt32 >>> (y.toUInt32 &&& Int32.toUInt32 31)).toInt32) :: r))
noncomputable def rq_p_ladd (nL pc : Nat) (lv : ri_L) (st : List Value) : Option ri_R := ri_l2 st (fun y x r => some (0, pc + 1, lv, .long (x + y) :: r))
noncomputable def rq_p_lsub (nL pc : Nat) (lv : ri_L) (st : List Value) : Option ri_R := ri_l2 st (fun y x r => some (0, pc + 1, lv, .long (x - y) :: r))
noncomputable def rq_p_lmul (nL pc : Nat) (lv : ri_L) (st : List Value) : Option ri_R := ri_l2 st (fun y x r => some (0, pc + 1, lv, .long (x * y) :: r))
noncomputable def rq_p_land (nL pc : Nat) (lv : ri_L) (st : List Value) : Option ri_R := ri_l2 st (fun y x r => some (0, pc + 1, lv, .long (x &&& y) :: r))
noncomputable def rq_p_lor (nL pc : Nat) (lv : ri_L) (st : List Value) : Option ri_R := ri_l2 st (fun y x r => some (0, pc + 1, lv, .long (x ||| y) :: r))
noncomputable def rq_p_lxor (nL pc : Nat) (lv : ri_L) (st : List Value) : Option ri_R := ri_l2 st (fun y x r => some (0, pc + 1, lv, .long (x ^^^ y) :: r))
noncomputable def rq_p_lshl (nL pc : Nat) (lv : ri_L) (st : List Value) : Option ri_R := ri_il st (fun y x r => some (0, pc + 1, lv, .long (x <<< (y.toInt64 &&& 63)) :: r))
noncomputable def rq_p_lshr (nL pc : Nat) (lv : ri_L) (st : List Value) : Option ri_R := ri_il st (fun y x r => some (0, pc + 1, lv, .long (x >>> (y.toInt64 &&& 63)) :: r))
noncomputable def rq_p_lushr (nL pc : Nat) (lv : ri_L) (st : List Value) : Option ri_R := ri_il st (fun y x r => some (0, pc + 1, lv, .long ((x.toUInt64 >>> (y.toInt64.toUInt64 &&& Int64.toUInt64 63)).toInt64) :: r))
noncomputable def rq_p_idiv (nL pc : Nat) (lv : ri_L) (st : List Value) : Option ri_R := ri_i2 st (fun y x r => ri_ok (!decide (y = 0)) (some (0, pc + 1, lv, .int (x / y) :: r)))
noncomputable def rq_p_irem (nL pc : Nat) (lv : ri_L) (st : List Value) : Option ri_R := ri_i2 st (fun y x r => ri_ok (!decide (y = 0)) (some (0, pc + 1, lv, .int (x - x / y * y) :: r)))
noncomputable def rq_p_ldiv (nL pc : Nat) (lv : ri_L) (st : List Value) : Option ri_R := ri_l2 st (fun y x r => ri_ok (!decide (y = 0)) (some (0, pc + 1, lv, .long (x / y) :: r)))
noncomputable def rq_p_lrem (nL pc : Nat) (lv : ri_L) (st : List Value) : Option ri_R := ri_l2 st (fun y x r => ri_ok (!decide (y = 0)) (some (0, pc + 1, lv, .long (x - x / y * y) :: r)))
noncomputable def rq_p_ineg (nL pc : Nat) (lv : ri_L) (st : List Value) : Option ri_R := ri_i1 st (fun x r => some (0, pc + 1, lv, .int (-x) :: r))
noncomputable def rq_p_lneg (nL pc : Nat) (lv : ri_L) (st : List Value) : Option ri_R := ri_l1 st (fun x r => some (0, pc + 1, lv, .long (-x) :: r))
noncomputable def rq_p_i2l (nL pc : Nat) (lv : ri_L) (st : List Value) : Option ri_R := ri_i1 st (fun x r => some (0, pc + 1, lv, .long (x.toInt64) :: r))
noncomputable def rq_p_l2i (nL pc : Nat) (lv : ri_L) (st : List Value) : Option ri_R := ri_l1 st (fun x r => some (0, pc + 1, lv, .int (x.toInt32) :: r))
noncomputable def rq_p_i2b (nL pc : Nat) (lv : ri_L) (st : List Value) : Option ri_R := ri_i1 st (fun x r => some (0, pc + 1, lv, .int (x.toInt8.toInt32) :: r))
noncomputable def rq_p_i2s (nL pc : Nat) (lv : ri_L) (st : List Value) : Option ri_R := ri_i1 st (fun x r => some (0, pc + 1, lv, .int (x.toInt16.toInt32) :: r))
noncomputable def rq_p_i2c (nL pc : Nat) (lv : ri_L) (st : List Value) : Option ri_R := ri_i1 st (fun x r => some (0, pc + 1, lv, .int ((x.toUInt32 % 65536).toInt32) :: r))
noncomputable def rq_p_i2d (nL pc : Nat) (lv : ri_L) (st : List Value) : Option ri_R := ri_i1 st (fun x r => some (0, pc + 1, lv, .double (FP.i2d x) :: r))
noncomputable def rq_p_l2d (nL pc : Nat) (lv : ri_L) (st : List Value) : Option ri_R := ri_l1 st (fun x r => some (0, pc + 1, lv, .double (FP.l2d x) :: r))
noncomputable def rq_p_d2i (nL pc : Nat) (lv : ri_L) (st : List Value) : Option ri_R := ri_d1 st (fun x r => some (0, pc + 1, lv, .int (FP.d2i x) :: r))
noncomputable def rq_p_d2l (nL pc : Nat) (lv : ri_L) (st : List Value) : Option ri_R := ri_d1 st (fun x r => some (0, pc + 1, lv, .long (FP.d2l x) :: r))
noncomputable def rq_p_dneg (nL pc : Nat) (lv : ri_L) (st : List Value) : Option ri_R := ri_d1 st (fun x r => some (0, pc + 1, lv, .double (FP.dneg x) :: r))
noncomputable def rq_p_dadd (nL pc : Nat) (lv : ri_L) (st : List Value) : Option ri_R := ri_d2 st (fun y x r => ri_ok (ri_n64 (FP.dadd x y)) (some (0, pc + 1, lv, .double (FP.dadd x y) :: r)))
noncomputable def rq_p_dsub (nL pc : Nat) (lv : ri_L) (st : List Value) : Option ri_R := ri_d2 st (fun y x r => ri_ok (ri_n64 (FP.dsub x y)) (some (0, pc + 1, lv, .double (FP.dsub x y) :: r)))
noncomputable def rq_p_dmul (nL pc : Nat) (lv : ri_L) (st : List Value) : Option ri_R := ri_d2 st (fun y x r => ri_ok (ri_n64 (FP.dmul x y)) (some (0, pc + 1, lv, .double (FP.dmul x y) :: r)))
noncomputable def rq_p_ddiv (nL pc : Nat) (lv : ri_L) (st : List Value) : Option ri_R := ri_d2 st (fun y x r => ri_ok (ri_n64 (FP.ddiv x y)) (some (0, pc + 1, lv, .double (FP.ddiv x y) :: r)))
noncomputable def rq_p_dcmp (op : Jvm.ClassFile.CmpOp) (nL pc : Nat) (lv : ri_L) (st : List Value) : Option ri_R := ri_d2 st (fun y x r => some (0, pc + 1, lv, .int (Op.cmpValue (FP.dcmp x y) op) :: r))
noncomputable def rq_p_lcmp (nL pc : Nat) (lv : ri_L) (st : List Value) : Option ri_R := ri_l2 st (fun y x r => some (0, pc + 1, lv, .int (lg_cmp x y) :: r))
noncomputable def rq_p_dup (nL pc : Nat) (lv : ri_L) (st : List Value) : Option ri_R := ri_c1 st (fun v r => some (0, pc + 1, lv, v :: v :: r))
noncomputable def rq_p_pop (nL pc : Nat) (lv : ri_L) (st : List Value) : Option ri_R := ri_c1 st (fun v r => some (0, pc + 1, lv, r))
noncomputable def rq_p_dup_x1 (nL pc : Nat) (lv : ri_L) (st : List Value) : Option ri_R := ri_c1 st (fun v r => ri_c1 r (fun u r => some (0, pc + 1, lv, v :: u :: v :: r)))
noncomputable def rq_p_dup2 (nL pc : Nat) (lv : ri_L) (st : List Value) : Option ri_R := (match st with | v :: r => bif Nat.beq v.category 2 then some (0, pc + 1, lv, v :: v :: r) else ri_c1 (v :: r) (fun v r => ri_c1 r (fun u r => some (0, pc + 1, lv, v :: u :: v :: u :: r))) | [] => none)
noncomputable def rq_p_goto (off : Int) (nL pc : Nat) (lv : ri_L) (st : List Value) : Option ri_R := ri_tg pc off 1 lv st
noncomputable def rq_p_ifCond (c9 : Jvm.ClassFile.Cond) (off : Int) (nL pc : Nat) (lv : ri_L) (st : List Value) : Option ri_R := ri_i1 st (fun x r => ri_br (ri_cnd c9 x 0) pc off (pc + 3) lv r)
noncomputable def rq_p_if_icmp (c9 : Jvm.ClassFile.Cond) (off : Int) (nL pc : Nat) (lv : ri_L) (st : List Value) : Option ri_R := ri_i2 st (fun y x r => ri_br (ri_cnd c9 x y) pc off (pc + 3) lv r)
noncomputable def rq_p_ifnonnull (off : Int) (nL pc : Nat) (lv : ri_L) (st : List Value) : Option ri_R := ri_r1 st (fun _ r => ri_tg pc off 1 lv r) (fun r => some (0, pc + 3, lv, r))
noncomputable def rq_p_ifnull (off : Int) (nL pc : Nat) (lv : ri_L) (st : List Value) : Option ri_R := ri_r1 st (fun _ r => some (0, pc + 3, lv, r)) (fun r => ri_tg pc off 1 lv r)
noncomputable def rq_p_tableswitch (dflt : Int) (lo : Int) (hi : Int) (offs : Array Int) (nL pc : Nat) (lv : ri_L) (st : List Value) : Option ri_R := ri_i1 st (fun x r => bif decide (x.toInt < lo) || decide (hi < x.toInt) then ri_tg pc dflt 1 lv r else (match offs[(x.toInt - lo).toNat]? with | some off => ri_tg pc off ((x.toInt - lo).toNat + 2) lv r | none => none))
noncomputable def rq_of (i : Instr) : Option rq_P := match i with
  | .iconst n => some (rq_p_iconst n)
  | .bipush n => some (rq_p_bipush n)
  | .sipush n => some (rq_p_sipush n)
  | .lconst n => some (rq_p_lconst n)
  | .aconst_null => some (rq_p_aconst_null)
  | .dconst n => some (rq_p_dconst n)
  | .iload i => some (rq_p_iload i)
  | .iload_n i => some (rq_p_iload_n i)
  | .istore i => some (rq_p_istore i)
  | .istore_n i => some (rq_p_istore_n i)
  | .lload i => some (rq_p_lload i)
  | .lload_n i => some (rq_p_lload_n i)
  | .dload i => some (rq_p_dload i)
  | .dload_n i => some (rq_p_dload_n i)
  | .aload i => some (rq_p_aload i)
  | .aload_n i => some (rq_p_aload_n i)
  | .lstore i => some (rq_p_lstore i)
  | .lstore_n i => some (rq_p_lstore_n i)
  | .dstore i => some (rq_p_dstore i)
  | .dstore_n i => some (rq_p_dstore_n i)
  | .astore i => some (rq_p_astore i)
  | .astore_n i => some (rq_p_astore_n i)
  | .iinc i n => some (rq_p_iinc i n)
  | .iadd => some (rq_p_iadd)
  | .isub => some (rq_p_isub)
  | .imul => some (rq_p_imul)
  | .iand => some (rq_p_iand)
  | .ior => some (rq_p_ior)
  | .ixor => some (rq_p_ixor)
  | .ishl => some (rq_p_ishl)
  | .ishr => some (rq_p_ishr)
  | .iushr => some (rq_p_iushr)
  | .ladd => some (rq_p_ladd)
  | .lsub => some (rq_p_lsub)
  | .lmul => some (rq_p_lmul)
  | .land => some (rq_p_land)
  | .lor => some (rq_p_lor)
  | .lxor => some (rq_p_lxor)
  | .lshl => some (rq_p_lshl)
  | .lshr => some (rq_p_lshr)
  | .lushr => some (rq_p_lushr)
  | .idiv => some (rq_p_idiv)
  | .irem => some (rq_p_irem)
  | .ldiv => some (rq_p_ldiv)
  | .lrem => some (rq_p_lrem)
  | .ineg => some (rq_p_ineg)
  | .lneg => some (rq_p_lneg)
  | .i2l => some (rq_p_i2l)
  | .l2i => some (rq_p_l2i)
  | .i2b => some (rq_p_i2b)
  | .i2s => some (rq_p_i2s)
  | .i2c => some (rq_p_i2c)
  | .i2d => some (rq_p_i2d)
  | .l2d => some (rq_p_l2d)
  | .d2i => some (rq_p_d2i)
  | .d2l => some (rq_p_d2l)
  | .dneg => some (rq_p_dneg)
  | .dadd => some (rq_p_dadd)
  | .dsub => some (rq_p_dsub)
  | .dmul => some (rq_p_dmul)
  | .ddiv => some (rq_p_ddiv)
  | .dcmp op => some (rq_p_dcmp op)
  | .lcmp => some (rq_p_lcmp)
  | .dup => some (rq_p_dup)
  | .pop => some (rq_p_pop)
  | .dup_x1 => some (rq_p_dup_x1)
  | .dup2 => some (rq_p_dup2)
  | .goto off => some (rq_p_goto off)
  | .ifCond c9 off => some (rq_p_ifCond c9 off)
  | .if_icmp c9 off => some (rq_p_if_icmp c9 off)
  | .ifnonnull off => some (rq_p_ifnonnull off)
  | .ifnull off => some (rq_p_ifnull off)
  | .tableswitch dflt lo hi offs => some (rq_p_tableswitch dflt lo hi offs)
  | _ => none
theorem rq_of_eq (i : Instr) (nL pc : Nat) (lv : ri_L) (st : List Value) : (match rq_of i with | some P => P nL pc lv st | none => none) = ri_pure nL i pc lv st := by cases i <;> rfl
abbrev rq_S : Type := rf_K → Nat → Nat → ri_M → List ri_Op → ri_L → List Value → rf_W → Nat → Nat → Nat → Nat → Option rf_Out
noncomputable def rq_x0  (P : rq_P) (ts : List Nat) (ih : rf_K) (d bud : Nat) (M : ri_M) (nxt : List ri_Op) (lv : ri_L) (st : List Value) (w : rf_W) (nc ns fr pc : Nat) : Option rf_Out := (match P M.2.2.1 pc lv st with
    | some z => ih d bud M (ri_next M nxt ts z.1) z.2.1 z.2.2.1 z.2.2.2 w nc ns fr
    | none => none)
noncomputable def rq_x1  (a : Nat) (b : Nat) (ih : rf_K) (d bud : Nat) (M : ri_M) (nxt : List ri_Op) (lv : ri_L) (st : List Value) (w : rf_W) (nc ns fr pc : Nat) : Option rf_Out := (match rf_getf a b st w with
    | some st => ih d bud M nxt (pc + 3) lv st w nc ns fr
    | none => none)
noncomputable def rq_x2 (ty : Nat → Nat → FieldType) (a : Nat) (b : Nat) (ih : rf_K) (d bud : Nat) (M : ri_M) (nxt : List ri_Op) (lv : ri_L) (st : List Value) (w : rf_W) (nc ns fr pc : Nat) : Option rf_Out := (match rf_putf (ty a b) a b st w with
    | some z => ih d bud M nxt (pc + 3) lv z.1 z.2 nc ns fr
    | none => none)
noncomputable def rq_x3  (i : Instr) (v : Value) (ih : rf_K) (d bud : Nat) (M : ri_M) (nxt : List ri_Op) (lv : ri_L) (st : List Value) (w : rf_W) (nc ns fr pc : Nat) : Option rf_Out := ih d bud M nxt (pc + ri_len i) lv (v :: st) w nc ns fr
noncomputable def rq_x4 (Ms : List ri_M) (al : Nat → Bool) (a : Nat) (b : Nat) (ts : List Nat) (ih : rf_K) (d bud : Nat) (M : ri_M) (nxt : List ri_Op) (lv : ri_L) (st : List Value) (w : rf_W) (nc ns fr pc : Nat) : Option rf_Out := rf_call Ms al ih d bud M nxt pc lv st w nc ns fr a b ts
noncomputable def rq_x5 (tyL : List FieldType)  (ih : rf_K) (d bud : Nat) (M : ri_M) (nxt : List ri_Op) (lv : ri_L) (st : List Value) (w : rf_W) (nc ns fr pc : Nat) : Option rf_Out := (match rf_ald tyL ri_tI st w with
    | some st => ih d bud M nxt (pc + 1) lv st w nc ns fr
    | none => none)
noncomputable def rq_x6 (tyL : List FieldType)  (ih : rf_K) (d bud : Nat) (M : ri_M) (nxt : List ri_Op) (lv : ri_L) (st : List Value) (w : rf_W) (nc ns fr pc : Nat) : Option rf_Out := (match rf_ast tyL ri_gI st w with
    | some z => ih d bud M nxt (pc + 1) lv z.1 z.2 nc ns fr
    | none => none)
noncomputable def rq_x7 (tyL : List FieldType)  (ih : rf_K) (d bud : Nat) (M : ri_M) (nxt : List ri_Op) (lv : ri_L) (st : List Value) (w : rf_W) (nc ns fr pc : Nat) : Option rf_Out := (match rf_ald tyL ri_tL st w with
    | some st => ih d bud M nxt (pc + 1) lv st w nc ns fr
    | none => none)
noncomputable def rq_x8 (tyL : List FieldType)  (ih : rf_K) (d bud : Nat) (M : ri_M) (nxt : List ri_Op) (lv : ri_L) (st : List Value) (w : rf_W) (nc ns fr pc : Nat) : Option rf_Out := (match rf_ast tyL ri_gL st w with
    | some z => ih d bud M nxt (pc + 1) lv z.1 z.2 nc ns fr
    | none => none)
noncomputable def rq_x9 (tyL : List FieldType)  (ih : rf_K) (d bud : Nat) (M : ri_M) (nxt : List ri_Op) (lv : ri_L) (st : List Value) (w : rf_W) (nc ns fr pc : Nat) : Option rf_Out := (match rf_ald tyL ri_tD st w with
    | some st => ih d bud M nxt (pc + 1) lv st w nc ns fr
    | none => none)
noncomputable def rq_x10 (tyL : List FieldType)  (ih : rf_K) (d bud : Nat) (M : ri_M) (nxt : List ri_Op) (lv : ri_L) (st : List Value) (w : rf_W) (nc ns fr pc : Nat) : Option rf_Out := (match rf_ast tyL ri_gD st w with
    | some z => ih d bud M nxt (pc + 1) lv z.1 z.2 nc ns fr
    | none => none)
noncomputable def rq_x11 (tyL : List FieldType)  (ih : rf_K) (d bud : Nat) (M : ri_M) (nxt : List ri_Op) (lv : ri_L) (st : List Value) (w : rf_W) (nc ns fr pc : Nat) : Option rf_Out := (match rf_ald tyL ri_tA st w with
    | some st => ih d bud M nxt (pc + 1) lv st w nc ns fr
    | none => none)
noncomputable def rq_x12 (tyL : List FieldType)  (ih : rf_K) (d bud : Nat) (M : ri_M) (nxt : List ri_Op) (lv : ri_L) (st : List Value) (w : rf_W) (nc ns fr pc : Nat) : Option rf_Out := (match rf_ald tyL ri_tB st w with
    | some st => ih d bud M nxt (pc + 1) lv st w nc ns fr
    | none => none)
noncomputable def rq_x13 (tyL : List FieldType)  (ih : rf_K) (d bud : Nat) (M : ri_M) (nxt : List ri_Op) (lv : ri_L) (st : List Value) (w : rf_W) (nc ns fr pc : Nat) : Option rf_Out := (match rf_ast tyL ri_gB st w with
    | some z => ih d bud M nxt (pc + 1) lv z.1 z.2 nc ns fr
    | none => none)
noncomputable def rq_x14  (a : Nat) (b : Nat) (ih : rf_K) (d bud : Nat) (M : ri_M) (nxt : List ri_Op) (lv : ri_L) (st : List Value) (w : rf_W) (nc ns fr pc : Nat) : Option rf_Out := (match rf_aast a b st w with
    | some z => ih d bud M nxt (pc + 1) lv z.1 z.2 nc ns fr
    | none => none)
noncomputable def rq_x15 (tyL : List FieldType)  (ih : rf_K) (d bud : Nat) (M : ri_M) (nxt : List ri_Op) (lv : ri_L) (st : List Value) (w : rf_W) (nc ns fr pc : Nat) : Option rf_Out := (match rf_alen tyL st w with
    | some st => ih d bud M nxt (pc + 1) lv st w nc ns fr
    | none => none)
noncomputable def rq_x16  (i : Instr) (ih : rf_K) (d bud : Nat) (M : ri_M) (nxt : List ri_Op) (lv : ri_L) (st : List Value) (w : rf_W) (nc ns fr pc : Nat) : Option rf_Out := rf_ret M i st w nc ns fr
noncomputable def rq_x17 (orc : List (Bool ⊕ Int32)) (P : rq_P) (i : Instr) (a : Nat) (ts : List Nat) (ih : rf_K) (d bud : Nat) (M : ri_M) (nxt : List ri_Op) (lv : ri_L) (st : List Value) (w : rf_W) (nc ns fr pc : Nat) : Option rf_Out := bif ri_conc a st then (match P M.2.2.1 pc lv st with
      | some z => ih d bud M (ri_next M nxt ts z.1) z.2.1 z.2.2.1 z.2.2.2 w nc ns fr
      | none => none)
    else (match ri_sym M.2.2.1 (ri_nth orc fr) fr i pc lv st with
      | some z => rf_more [z.2.2] (ih d bud M (ri_next M nxt ts z.1.1) z.1.2.1 z.1.2.2.1 z.1.2.2.2 w nc ns z.2.1)
      | none => none)
noncomputable def rq_x18 (df : Nat → List Value) (al : Nat → Bool) (a : Nat) (b : Nat) (ih : rf_K) (d bud : Nat) (M : ri_M) (nxt : List ri_Op) (lv : ri_L) (st : List Value) (w : rf_W) (nc ns fr pc : Nat) : Option rf_Out := ri_ok (al w.1 && Nat.blt w.1 1024) (ih d bud M nxt (pc + 3) lv (.ref w.1 :: st) (rf_wp w (.inr (a, df a))) (nc + 1) (ns + b) fr)
noncomputable def rq_x19 (al : Nat → Bool) (a : Nat) (v : Value) (ih : rf_K) (d bud : Nat) (M : ri_M) (nxt : List ri_Op) (lv : ri_L) (st : List Value) (w : rf_W) (nc ns fr pc : Nat) : Option rf_Out := ri_ok (al w.1 && Nat.blt w.1 1024) (match rf_newa a v st w with
    | some z => ih d bud M nxt (pc + 2) lv z.2.1 z.2.2 (nc + 1) (ns + z.1) fr
    | none => none)
noncomputable def rq_x20 (al : Nat → Bool) (a : Nat) (ih : rf_K) (d bud : Nat) (M : ri_M) (nxt : List ri_Op) (lv : ri_L) (st : List Value) (w : rf_W) (nc ns fr pc : Nat) : Option rf_Out := ri_ok (al w.1 && Nat.blt w.1 1024) (match rf_newa a .null st w with
    | some z => ih d bud M nxt (pc + 3) lv z.2.1 z.2.2 (nc + 1) (ns + z.1) fr
    | none => none)
noncomputable def rq_x21   (ih : rf_K) (d bud : Nat) (M : ri_M) (nxt : List ri_Op) (lv : ri_L) (st : List Value) (w : rf_W) (nc ns fr pc : Nat) : Option rf_Out := (match st with
    | .ref _ :: r => ri_ok (Nat.ble 1 d && Nat.ble (ri_cat r + 12) bud) (ih d bud M nxt (pc + 3) lv r w nc ns fr)
    | _ => none)
noncomputable def rq_x22 (tyL : List FieldType)  (ih : rf_K) (d bud : Nat) (M : ri_M) (nxt : List ri_Op) (lv : ri_L) (st : List Value) (w : rf_W) (nc ns fr pc : Nat) : Option rf_Out := ri_ok (Nat.ble 1 d) (match rf_acopy tyL bud st w with
    | some z => ih d bud M nxt (pc + 3) lv z.1 z.2 nc ns fr
    | none => none)
noncomputable def rq_x23 (exl : Nat → Nat) (a : Nat) (ih : rf_K) (d bud : Nat) (M : ri_M) (nxt : List ri_Op) (lv : ri_L) (st : List Value) (w : rf_W) (nc ns fr pc : Nat) : Option rf_Out := ri_ok (Nat.ble (exl a + 4) d && Nat.ble (ri_cat st + (13 * (exl a + 1) + 42)) bud) (some (.inr a, w, nc + 1, ns + 6, [], fr))
noncomputable def rq_x24 (xs : Nat → Value) (L : Nat)  (ih : rf_K) (d bud : Nat) (M : ri_M) (nxt : List ri_Op) (lv : ri_L) (st : List Value) (w : rf_W) (nc ns fr pc : Nat) : Option rf_Out := (match st with
    | .int j :: .ref q :: r => ri_ok (Nat.beq q 1000000 && (!decide (j < 0) && Nat.blt j.toNatClampNeg L)) (ih d bud M nxt (pc + 1) lv (xs j.toNatClampNeg :: r) w nc ns fr)
    | _ => none)
noncomputable def rq_x25 (L : Nat)  (ih : rf_K) (d bud : Nat) (M : ri_M) (nxt : List ri_Op) (lv : ri_L) (st : List Value) (w : rf_W) (nc ns fr pc : Nat) : Option rf_Out := (match st with
    | .ref q :: r => ri_ok (Nat.beq q 1000000) (ih d bud M nxt (pc + 1) lv (.int (Int32.ofNat L) :: r) w nc ns fr)
    | _ => none)
noncomputable def rq_x26 (al : Nat → Bool) (a : Nat) (b : Nat) (ih : rf_K) (d bud : Nat) (M : ri_M) (nxt : List ri_Op) (lv : ri_L) (st : List Value) (w : rf_W) (nc ns fr pc : Nat) : Option rf_Out := ri_ok (al w.1) (match rf_mna a b st w with
    | some z => ri_ok (rf_wk z.2.2.2) (ih d bud M nxt (pc + 4) lv z.2.2.1 z.2.2.2 (nc + (1 + z.1)) (ns + (z.1 + z.1 * z.2.1)) fr)
    | none => none)
noncomputable def rq_x27 (tyL : List FieldType)  (ih : rf_K) (d bud : Nat) (M : ri_M) (nxt : List ri_Op) (lv : ri_L) (st : List Value) (w : rf_W) (nc ns fr pc : Nat) : Option rf_Out := bif ri_conc 1 st then (match rf_ast tyL ri_gB st w with
      | some z => ih d bud M nxt (pc + 1) lv z.1 z.2 nc ns fr
      | none => none)
    else (match rf_ast tyL (ri_gU fr) st w with
      | some z => rf_more [(.i2b, ri_top st, .int 0, fr, true)] (ih d bud M nxt (pc + 1) lv z.1 z.2 nc ns (fr + 1))
      | none => none)
noncomputable def rq_x28 (tyL : List FieldType) (orc : List (Bool ⊕ Int32)) (a : Nat) (b : Nat) (v : Value) (ts : List Nat) (ih : rf_K) (d bud : Nat) (M : ri_M) (nxt : List ri_Op) (lv : ri_L) (st : List Value) (w : rf_W) (nc ns fr pc : Nat) : Option rf_Out := (match rf_lc tyL a b lv st w with
    | some z => (match ri_nth orc fr with
      | some (.inl g) => (match v with
        | .ref t => rf_more [(.lcmp, z.1, .long z.2.1, 0, g)] (ih d bud M (ri_next M nxt ts (bif g then 1 else 2)) (bif g then t else pc + 11) lv z.2.2 w nc ns (fr + 1))
        | _ => none)
      | _ => none)
    | none => none)
section RQD
variable (Ms : List ri_M) (ty : Nat → Nat → FieldType) (df : Nat → List Value) (tyL : List FieldType) (exl : Nat → Nat) (xs : Nat → Value) (L : Nat) (al : Nat → Bool) (orc : List (Bool ⊕ Int32))
noncomputable def rq_op (κ : Nat) (i : Instr) (a b : Nat) (v : Value) (ts : List Nat) : Option rq_S := match κ with
  | 0 => (match rq_of i with | some P => some (rq_x0 P ts) | none => none)
  | 1 => some (rq_x1 a b)
  | 2 => some (rq_x2 ty a b)
  | 3 => some (rq_x3 i v)
  | 4 => some (rq_x4 Ms al a b ts)
  | 5 => some (rq_x5 tyL)
  | 6 => some (rq_x6 tyL)
  | 7 => some (rq_x7 tyL)
  | 8 => some (rq_x8 tyL)
  | 9 => some (rq_x9 tyL)
  | 10 => some (rq_x10 tyL)
  | 11 => some (rq_x11 tyL)
  | 12 => some (rq_x12 tyL)
  | 13 => some (rq_x13 tyL)
  | 14 => some (rq_x14 a b)
  | 15 => some (rq_x15 tyL)
  | 16 => some (rq_x16 i)
  | 17 => (match rq_of i with | some P => some (rq_x17 orc P i a ts) | none => some (rq_x17 orc (fun _ _ _ _ => none) i a ts))
  | 18 => some (rq_x18 df al a b)
  | 19 => some (rq_x19 al a v)
  | 20 => some (rq_x20 al a)
  | 21 => some (rq_x21)
  | 22 => some (rq_x22 tyL)
  | 23 => some (rq_x23 exl a)
  | 24 => some (rq_x24 xs L)
  | 25 => some (rq_x25 L)
  | 26 => some (rq_x26 al a b)
  | 27 => some (rq_x27 tyL)
  | 28 => some (rq_x28 tyL orc a b v ts)
  | _ => none
theorem rq_op_ok (ih : rf_K) (d bud : Nat) (M : ri_M) (nxt : List ri_Op) (lv : ri_L) (st : List Value) (w : rf_W) (nc ns fr pc : Nat) (i : Instr) (a b : Nat) (v : Value) (ts : List Nat) : ∀ κ : Nat, (match rq_op Ms ty df tyL exl xs L al orc κ i a b v ts with | some S => S ih d bud M nxt lv st w nc ns fr pc | none => none) = rf_exec Ms ty df tyL exl xs L al orc ih d bud M nxt lv st w nc ns fr pc κ i a b v ts
  | 0 => by
    show _ = (match ri_pure M.2.2.1 i pc lv st with
      | some z => ih d bud M (ri_next M nxt ts z.1) z.2.1 z.2.2.1 z.2.2.2 w nc ns fr
      | none => none)
    rw [← rq_of_eq]
    show (match (match rq_of i with | some P => some (rq_x0 P ts) | none => none) with | some S => S ih d bud M nxt lv st w nc ns fr pc | none => none) = _
    cases rq_of i <;> rfl
  | 1 => rfl
  | 2 => rfl
  | 3 => rfl
  | 4 => rfl
  | 5 => rfl
  | 6 => rfl
  | 7 => rfl
  | 8 => rfl
  | 9 => rfl
  | 10 => rfl
  | 11 => rfl
  | 12 => rfl
  | 13 => rfl
  | 14 => rfl
  | 15 => rfl
  | 16 => rfl
  | 17 => by
    show _ = (bif ri_conc a st then (match ri_pure M.2.2.1 i pc lv st with
      | some z => ih d bud M (ri_next M nxt ts z.1) z.2.1 z.2.2.1 z.2.2.2 w nc ns fr
      | none => none)
    else (match ri_sym M.2.2.1 (ri_nth orc fr) fr i pc lv st with
      | some z => rf_more [z.2.2] (ih d bud M (ri_next M nxt ts z.1.1) z.1.2.1 z.1.2.2.1 z.1.2.2.2 w nc ns z.2.1)
      | none => none))
    rw [← rq_of_eq]
    show (match (match rq_of i with | some P => some (rq_x17 orc P i a ts) | none => some (rq_x17 orc (fun _ _ _ _ => none) i a ts)) with | some S => S ih d bud M nxt lv st w nc ns fr pc | none => none) = _
    cases rq_of i <;> rfl
  | 18 => rfl
  | 19 => rfl
  | 20 => rfl
  | 21 => rfl
  | 22 => rfl
  | 23 => rfl
  | 24 => rfl
  | 25 => rfl
  | 26 => rfl
  | 27 => rfl
  | 28 => rfl
  | _ + 29 => rfl
noncomputable def rq_run (fuel : Nat) : rf_K := Nat.rec (fun _ _ _ _ _ _ _ _ _ _ _ => none) (fun _ ih d bud M cur pc lv st w nc ns fr => @List.rec ri_Op (fun _ => Option rf_Out) none (fun o nxt _ => @Bool.rec (fun _ => Option rf_Out) none (@Option.rec rq_S (fun _ => Option rf_Out) none (fun S => S ih d bud M nxt lv st w nc ns fr pc) (rq_op Ms ty df tyL exl xs L al orc o.2.1 o.2.2.1 o.2.2.2.1 o.2.2.2.2.1 o.2.2.2.2.2.1 o.2.2.2.2.2.2)) (Nat.beq o.1 pc)) cur) fuel
theorem rq_run_eq : ∀ fuel : Nat, rq_run Ms ty df tyL exl xs L al orc fuel = rf_run Ms ty df tyL exl xs L al orc fuel
  | 0 => rfl
  | n + 1 => by
    funext d bud M cur pc lv st w nc ns fr
    cases cur with
    | nil => rfl
    | cons o nxt =>
      show @Bool.rec (fun _ => Option rf_Out) none (@Option.rec rq_S (fun _ => Option rf_Out) none (fun S => S (rq_run Ms ty df tyL exl xs L al orc n) d bud M nxt lv st w nc ns fr pc) (rq_op Ms ty df tyL exl xs L al orc o.2.1 o.2.2.1 o.2.2.2.1 o.2.2.2.2.1 o.2.2.2.2.2.1 o.2.2.2.2.2.2)) (Nat.beq o.1 pc) = ri_ok (Nat.beq o.1 pc) (rf_exec Ms ty df tyL exl xs L al orc (rf_run Ms ty df tyL exl xs L al orc n) d bud M nxt lv st w nc ns fr pc o.2.1 o.2.2.1 o.2.2.2.1 o.2.2.2.2.1 o.2.2.2.2.2.1 o.2.2.2.2.2.2)
      rw [rq_run_eq n, ← rq_op_ok]
      generalize rq_op Ms ty df tyL exl xs L al orc o.2.1 o.2.2.1 o.2.2.2.1 o.2.2.2.2.1 o.2.2.2.2.2.1 o.2.2.2.2.2.2 = X
      cases X <;> rfl
end RQD
