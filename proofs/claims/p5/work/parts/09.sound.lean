/-! ===== the reckoner, part 7: what it reckons, the machine does ===== -/
theorem ri_args_v (ad : Nat → Nat) : ∀ (vs : List Value) (i : Nat), lv_args i (vs.map (ri_v ad)) = ri_lr ad (lv_args i vs)
  | [], _ => rfl
  | v :: vs, i => by
    show (i, ri_v ad v) :: lv_args (if (ri_v ad v).category = 2 then i + 2 else i + 1) (vs.map (ri_v ad)) = (i, ri_v ad v) :: ri_lr ad (lv_args (if v.category = 2 then i + 2 else i + 1) vs)
    rw [ri_v_cat, ri_args_v ad vs]
theorem ri_sl_v (ad : Nat → Nat) : ∀ vs : List Value, (lg_sl (vs.map (ri_v ad))).length = (lg_sl vs).length
  | [] => rfl
  | v :: vs => by
    have e1 : lg_sl ((v :: vs).map (ri_v ad)) = (if (ri_v ad v).category = 2 then [Slot.val (ri_v ad v), .second] else [.val (ri_v ad v)]) ++ lg_sl (vs.map (ri_v ad)) := rfl
    have e2 : lg_sl (v :: vs) = (if v.category = 2 then [Slot.val v, .second] else [.val v]) ++ lg_sl vs := rfl
    rw [e1, e2, List.length_append, List.length_append, ri_sl_v ad vs, ri_v_cat]
    by_cases h : v.category = 2 <;> simp [h]
theorem ri_cat_v (ad : Nat → Nat) (st : List Value) : ((st.map (ri_v ad)).map fun v => v.category).sum = ri_cat st := by
  unfold ri_cat
  rw [List.map_map]
  congr 1
  exact List.map_congr_left (fun v _ => ri_v_cat ad v)
/-- the words of a method -/
def ri_mok (WG : List Jvm.Cond) (hh : MethodName → List (Nat × Nat × Nat × Nat)) (M : ri_M) : Prop := hh M.1 = [] ∧ plainFor M.1 = true ∧ Jvm.Cond.code M.1 M.2.1 M.2.2.1 M.2.2.2.1 ∈ WG ∧ Jvm.Cond.initialized M.1.cls ∈ WG ∧ (M.1.cls ≠ "java/lang/invoke/MethodHandle" ∧ M.1.cls ≠ "java/lang/invoke/VarHandle") ∧ (parseMethodDescriptor M.1.desc).map (fun d => d.parameters.length) = some M.2.2.2.2.1
/-- the words of a method with handlers -/
def ri_mokH (WG : List Jvm.Cond) (hh : MethodName → List (Nat × Nat × Nat × Nat)) (M : ri_M) : Prop := plainName M.1.cls = true ∧ Jvm.Cond.codeWith M.1 M.2.1 M.2.2.1 M.2.2.2.1 (hh M.1) ∈ WG ∧ Jvm.Cond.initialized M.1.cls ∈ WG ∧ (M.1.cls ≠ "java/lang/invoke/MethodHandle" ∧ M.1.cls ≠ "java/lang/invoke/VarHandle") ∧ (parseMethodDescriptor M.1.desc).map (fun d => d.parameters.length) = some M.2.2.2.2.1
abbrev ri_N : Type := String × Nat × MethodName × String
/-- words that stay, but that no callee's list may hold: a castable, a method that is declared -/
abbrev ri_C9 : Type := (String × String) ⊕ MethodName
def ri_cw (x : ri_C9) : Jvm.Cond := match x with
  | .inl a => .castable a.1 a.2
  | .inr y => .declares y
theorem ri_cw_on (x : ri_C9) : (ri_cw x).onTables = true := by cases x <;> rfl
theorem ri_cw_warm {x : ri_C9} {s U : State} (hW : s.WarmedH U.vm) (h : va_Nw (ri_cw x) s) : va_Nw (ri_cw x) U := by
  cases x with
  | inl a => exact va_Nw.warmC hW h
  | inr y => exact va_Nw.warmD hW h
section RIL
variable (WG : List Jvm.Cond) (hh : MethodName → List (Nat × Nat × Nat × Nat)) (NW : List ri_N) (CW : List ri_C9) (NC : List (String × String)) (AO : List FieldType) (cl : List vw_C) (Ms : List ri_M) (ty : Nat → Nat → FieldType) (df : Nat → List Value) (tyL : List FieldType) (exl : Nat → Nat) (exn : Nat → String) (xs : Nat → Value) (L : Nat) (al : Nat → Bool) (orc : List (Bool ⊕ Int32))
/-- a handler of the row x of the table takes this exception, the rows ahead don't -/
def ri_hlink (M : ri_M) (pc : Nat) (hs : List Nat) : Prop := ∀ (x t : Nat) (oh : ri_Op) (nx : List ri_Op), hs[x]? = some t → M.2.2.2.2.2.drop t = oh :: nx → ∃ (pre : List ExceptionTableEntry) (z : ExceptionTableEntry) (suf : List ExceptionTableEntry), tableOf (hh M.1) = pre ++ z :: suf ∧ z.handlerPc = oh.1 ∧ covers z pc = true ∧ z.catchType ≠ 0 ∧ (∃ nm : String, Jvm.Cond.classLink M.1.cls z.catchType nm ∈ WG ∧ (Sum.inl (exn x, nm) : ri_C9) ∈ CW) ∧
  ∀ y ∈ pre, covers y pc = false ∨ (y.catchType ≠ 0 ∧ ∃ nm : String, Jvm.Cond.classLink M.1.cls y.catchType nm ∈ WG ∧ (exn x, nm) ∈ NC)
/-- a call's words -/
def ri_clink (M : ri_M) (pc : Nat) (i : Instr) (a b : Nat) (ts : List Nat) : Prop := ∃ M2 : ri_M, Ms[a]? = some M2 ∧ (∀ o ∈ M2.2.2.2.2.2, o.2.1 ≠ 24 ∧ o.2.1 ≠ 25) ∧ (match b with
  | 0 => hh M.1 = [] ∧ ri_mok WG hh M2 ∧ ∃ (idx t : Nat) (r : vw_C), i = .invokevirtual idx ∧ ts = [t] ∧ cl[t]? = some r ∧ r.1 = M2.1.cls ∧ Jvm.Cond.methodLink M.1.cls idx M2.1 ∈ WG ∧ Jvm.Cond.instanceMethod M2.1 ∈ WG ∧ Jvm.Cond.selects M2.1.cls M2.1 M2.1 ∈ WG
  | 1 => hh M.1 = [] ∧ ri_mok WG hh M2 ∧ ∃ idx : Nat, i = .invokestatic idx ∧ Jvm.Cond.methodLink M.1.cls idx M2.1 ∈ WG ∧ Jvm.Cond.static M2.1 ∈ WG
  | 2 => hh M.1 = [] ∧ ri_mok WG hh M2 ∧ ∃ idx : Nat, i = .invokespecial idx ∧ Jvm.Cond.methodLink M.1.cls idx M2.1 ∈ WG ∧ M2.1.name = "<init>" ∧ Jvm.Cond.instanceMethod M2.1 ∈ WG ∧ M2.2.2.2.1 = none
  | 3 => hh M.1 = [] ∧ ri_mok WG hh M2 ∧ ∃ (idx : Nat) (host : String), i = .invokespecial idx ∧ (M.1.cls, idx, M2.1, host) ∈ NW ∧ M2.1.name = "<init>" ∧ Jvm.Cond.instanceMethod M2.1 ∈ WG ∧ M2.2.2.2.1 = none
  | 4 => hh M.1 = [] ∧ ri_mok WG hh M2 ∧ ∃ (idx : Nat) (host : String), i = .invokestatic idx ∧ (M.1.cls, idx, M2.1, host) ∈ NW ∧ Jvm.Cond.static M2.1 ∈ WG
  | 5 => ri_mok WG hh M2 ∧ ∃ (idx t : Nat) (hs : List Nat) (r : vw_C), i = .invokevirtual idx ∧ ts = t :: hs ∧ ri_hlink WG hh CW NC exn M pc hs ∧ cl[t]? = some r ∧ r.1 = M2.1.cls ∧ Jvm.Cond.methodLink M.1.cls idx M2.1 ∈ WG ∧ Jvm.Cond.instanceMethod M2.1 ∈ WG ∧ Jvm.Cond.selects M2.1.cls M2.1 M2.1 ∈ WG
  | 6 => hh M.1 = [] ∧ ri_mokH WG hh M2 ∧ ∃ idx : Nat, i = .invokestatic idx ∧ Jvm.Cond.methodLink M.1.cls idx M2.1 ∈ WG ∧ Jvm.Cond.static M2.1 ∈ WG
  | 7 => hh M.1 = [] ∧ ri_mok WG hh M2 ∧ ∃ idx : Nat, i = .invokevirtual idx ∧ M2.1.cls = "java/lang/String" ∧ Jvm.Cond.methodLink M.1.cls idx M2.1 ∈ WG ∧ Jvm.Cond.instanceMethod M2.1 ∈ WG ∧ Jvm.Cond.selects M2.1.cls M2.1 M2.1 ∈ WG
  | 8 => hh M.1 = [] ∧ ma_is M2 = true ∧ ∃ idx : Nat, i = .invokestatic idx ∧ Jvm.Cond.code M2.1 M2.2.1 M2.2.2.1 M2.2.2.2.1 ∈ WG ∧ Jvm.Cond.initialized M2.1.cls ∈ WG ∧ Jvm.Cond.methodLink M.1.cls idx M2.1 ∈ WG ∧ Jvm.Cond.static M2.1 ∈ WG
  | _ => False)
/-- an exception that is made and thrown -/
def ri_xlink (M : ri_M) (pc : Nat) (i : Instr) (a : Nat) : Prop := hh M.1 = [] ∧ ∃ (ik ic : Nat) (names : List String), i = .new ik ∧ decode M.2.1 (pc + 3) = .ok (.dup, 1) ∧ decode M.2.1 (pc + 4) = .ok (.invokespecial ic, 3) ∧ decode M.2.1 (pc + 7) = .ok (.athrow, 1) ∧ exl a = names.length ∧ Bundle.fit (exn a) = true ∧ (∀ n ∈ names, Bundle.fit n = true) ∧
  Jvm.Cond.classLink M.1.cls ik (exn a) ∈ WG ∧ Jvm.Cond.initialized (exn a) ∈ WG ∧ (∀ w ∈ vx_at0 M.1.cls ic (exn a) names, w ∈ WG ∨ ∃ x ∈ CW, w = ri_cw x) ∧ (∀ w ∈ Jvm.Cond.classLink M.1.cls ik (exn a) :: Jvm.Cond.initialized (exn a) :: vx_at0 M.1.cls ic (exn a) names, vx_ot w = true)
/-- what an instruction's step asks of the tables -/
def ri_link (M : ri_M) (pc κ : Nat) (i : Instr) (a b : Nat) (v : Value) (ts : List Nat) : Prop := match κ with
  | 0 => True
  | 1 => ∃ (idx : Nat) (r : vw_C), i = .getfield idx ∧ cl[a]? = some r ∧ b < r.2.2 ∧ Jvm.Cond.fieldLink M.1.cls idx (r.2.1 b).1 (r.2.1 b).2.1 (r.2.1 b).2.2.1 ∈ WG
  | 2 => ∃ (idx : Nat) (r : vw_C), i = .putfield idx ∧ cl[a]? = some r ∧ b < r.2.2 ∧ Jvm.Cond.fieldLink M.1.cls idx (r.2.1 b).1 (r.2.1 b).2.1 (r.2.1 b).2.2.1 ∈ WG ∧ ((r.2.1 b).2.2.2 = false ∨ (M.1.name = "<init>" ∧ (r.2.1 b).1 = M.1.cls))
  | 3 => (∃ (idx : Nat) (x : Int32), i = .ldc idx ∧ v = .int x ∧ Jvm.Cond.constant M.1.cls idx x ∈ WG) ∨ (∃ (idx : Nat) (x : Int32), i = .ldc_w idx ∧ v = .int x ∧ Jvm.Cond.constant M.1.cls idx x ∈ WG) ∨ (∃ (idx : Nat) (x : Int64), i = .ldc2_w idx ∧ v = .long x ∧ Jvm.Cond.constantLong M.1.cls idx x ∈ WG) ∨ (∃ (idx : Nat) (x : UInt64), i = .ldc2_w idx ∧ v = .double x ∧ Jvm.Cond.constantDouble M.1.cls idx x ∈ WG) ∨ (∃ (idx j : Nat) (r : String × Nat × String × List Int32), (i = .ldc idx ∨ i = .ldc_w idx) ∧ v = .ref (1000001 + j) ∧ sg_tx[j]? = some r ∧ r.1 = M.1.cls ∧ r.2.1 = idx) ∨ (∃ (idx : Nat) (x : String × String × String × Value), i = .getstatic idx ∧ x ∈ sg_st ∧ v = x.2.2.2 ∧ Jvm.Cond.fieldLink M.1.cls idx x.1 x.2.1 x.2.2.1 ∈ WG)
  | 4 => ri_clink WG hh NW CW NC cl Ms exn M pc i a b ts
  | 5 => i = .iaload
  | 6 => i = .iastore
  | 7 => i = .laload
  | 8 => i = .lastore
  | 9 => i = .daload
  | 10 => i = .dastore
  | 11 => i = .aaload
  | 12 => i = .baload
  | 13 => i = .bastore
  | 14 => ∃ r : vw_C, i = .aastore ∧ cl[a]? = some r ∧ tyL[b]? = some (.object r.1)
  | 15 => i = .arraylength
  | 16 => True
  | 17 => True
  | 18 => ∃ (idx : Nat) (r : vw_C), i = .new idx ∧ cl[a]? = some r ∧ r.2.2 = b ∧ Jvm.Cond.classLink M.1.cls idx r.1 ∈ WG
  | 19 => ∃ (atype : ArrayType) (t9 : FieldType), i = .newarray atype ∧ tyL[a]? = some t9 ∧ newarray.typeOf atype = t9 ∧ t9 ≠ .float ∧ Jvm.Cond.arrayClass t9 ∈ WG ∧ v = defaultValue t9
  | 20 => ∃ (idx : Nat) (C : String), i = .anewarray idx ∧ tyL[a]? = some (.object C) ∧ Jvm.Cond.classLink M.1.cls idx C ∈ WG ∧ FieldType.object C ∈ AO
  | 21 => ∃ idx : Nat, i = .invokespecial idx ∧ Jvm.Cond.methodLink M.1.cls idx Lib.objectInit ∈ WG ∧ Jvm.Cond.instanceMethod Lib.objectInit ∈ WG ∧ Jvm.Cond.code Lib.objectInit ⟨#[0xb1]⟩ 1 none ∈ WG
  | 22 => ∃ idx : Nat, i = .invokestatic idx ∧ Jvm.Cond.methodLink M.1.cls idx arraycopyName ∈ WG ∧ Jvm.Cond.native arraycopyName ∈ WG ∧ Jvm.Cond.static arraycopyName ∈ WG ∧ Jvm.Cond.initialized "java/lang/System" ∈ WG
  | 23 => ri_xlink WG hh CW exl exn M pc i a
  | 24 => i = .iaload
  | 25 => i = .arraylength
  | 26 => ∃ idx : Nat, i = .multianewarray idx 2 ∧ tyL[a]? = some .double ∧ tyL[b]? = some (.array .double) ∧ Jvm.Cond.classLink M.1.cls idx "[[D" ∈ WG ∧ Jvm.Cond.arrayClass .double ∈ WG ∧ FieldType.array .double ∈ AO
  | 27 => i = .bastore
  | 28 => i = .i2l ∧ decode M.2.1 (pc + 1) = .ok (.aload_n 0, 1) ∧ (∃ (idx : Nat) (r : vw_C), decode M.2.1 (pc + 2) = .ok (.getfield idx, 3) ∧ cl[a]? = some r ∧ b < r.2.2 ∧ Jvm.Cond.fieldLink M.1.cls idx (r.2.1 b).1 (r.2.1 b).2.1 (r.2.1 b).2.2.1 ∈ WG) ∧ decode M.2.1 (pc + 5) = .ok (.iconst 3, 1) ∧ decode M.2.1 (pc + 6) = .ok (.laload, 1) ∧ decode M.2.1 (pc + 7) = .ok (.lcmp, 1) ∧ ∃ (off : Int) (t : Nat), decode M.2.1 (pc + 8) = .ok (.ifCond .lt off, 3) ∧ v = .ref t ∧ ((pc + 8 : Nat) : Int) + off = (t : Int)
  | 29 => ri_slink WG M.1.cls i a
  | _ => True
def ri_opok (M : ri_M) (o : ri_Op) : Prop := (∃ len : Nat, decode M.2.1 o.1 = .ok (o.2.2.1, len) ∧ (ri_len o.2.2.1 = 0 ∨ ri_len o.2.2.1 = len)) ∧ ri_link WG hh NW CW NC AO cl Ms tyL exl exn M o.1 o.2.1 o.2.2.1 o.2.2.2.1 o.2.2.2.2.1 o.2.2.2.2.2.1 o.2.2.2.2.2.2
/-- what is the same for all runs: the kinds of objects, the methods' instructions, the words -/
def ri_all : Prop := ri_clok WG cl ty ∧ (∀ (ci : Nat) (r : vw_C), cl[ci]? = some r → ∀ j, j < r.2.2 → (df ci).getD j .null = defaultValue (ty ci j) ∧ ty ci j ≠ .float) ∧ (∀ w ∈ WG, goodWord w = true) ∧ ∀ (y : Nat) (M : ri_M), Ms[y]? = some M → ∀ o ∈ M.2.2.2.2.2, ri_opok WG hh NW CW NC AO cl Ms tyL exl exn M o
variable (D : va_G) (ad : Nat → Nat) (cA : Nat → ClassId)
/-- what a state's tables say -/
def ri_Kx (U : State) : Prop := va_K D cl (ri_tys cA tyL) U ∧ (∀ x ∈ NW, va_Nw (.methodLinkNest x.1 x.2.1 x.2.2.1 x.2.2.2) U) ∧ (∀ x ∈ CW, va_Nw (ri_cw x) U) ∧ (∀ x ∈ NC, va_Nc x.1 x.2 U) ∧ (∀ C ∈ AO, ri_AO C U) ∧ vx_Zq Bundle.tN "UNASSIGNED_STACK" Bundle.steD (ri_A ad) U U.heap ∧ vx_Zq Bundle.tN "SUPPRESSED_SENTINEL" Bundle.listD (ri_A ad) U U.heap ∧ ri_SS ad (ri_A ad) U U.heap
def ri_Pc (vals : List Value) (w : List ri_E) : Array Value → State → Prop := fun v U => v = (vals.map (ri_v ad)).toArray ∧ ri_P D cl ad cA w U.heap ∧ ri_Kx NW CW NC AO cl tyL D ad cA U ∧ (al w.length = true → ri_nx ad w.length U.heap.size)
def ri_Qc (out : ri_Out) : Array Value → State → Outcome → State → Prop := fun _ st o t => ∃ r : Option Value, out.1 = .inl r ∧ o = .returned (r.map (ri_v ad)) ∧ ri_P D cl ad cA out.2.1 t.heap ∧ (al out.2.1.length = true → ri_nx ad out.2.1.length t.heap.size) ∧ va_F (ri_A ad) st t
def ri_XC (out : ri_Out) : String → State → State → Prop := fun E st t => ∃ x : Nat, out.1 = .inr x ∧ E = exn x ∧ ri_P D cl ad cA out.2.1 t.heap ∧ va_F (ri_A ad) st t
/-- a frame of a method -/
def ri_Fr (M : ri_M) (p : Program) (s : State) (m : MethodId) (args : Array Value) (meth : Method) (c : Code) : Prop := p.tables.exec = Jvm.exec ∧ c.code = M.2.1 ∧ c.maxLocals = M.2.2.1 ∧ s.vm.findClass M.1.cls = some m.cls ∧ meth.name = M.1.name ∧ meth.sig.returnType = M.2.2.2.1 ∧ meth.locks = false ∧ c.exceptionTable.toList = tableOf (hh M.1) ∧ (∀ x ∈ WG, x.before args s = true) ∧ ri_Kx NW CW NC AO cl tyL D ad cA s ∧
  ((∃ o ∈ M.2.2.2.2.2, o.2.1 = 24 ∨ o.2.1 = 25) → (∃ xr : Nat → Int32, (∀ j, j < L → ri_v ad (xs j) = .int (xr j)) ∧ va_X (ad 1000000) L xr s s.heap) ∧ ad 1000000 < s.heap.size ∧ ¬ ri_A ad (ad 1000000))
/-- a return: which instruction, and what it asks of the value -/
def ri_isret (cc : ByteArray) (pc : Nat) (ret : Option FieldType) (v : Option Value) : Prop := (v = none ∧ ret = none ∧ decode cc pc = .ok (.return_, 1)) ∨ (∃ (x : Int32) (t : FieldType), v = some (.int x) ∧ ret = some t ∧ narrow t (.int x) = .int x ∧ decode cc pc = .ok (.ireturn, 1)) ∨ (∃ x : Int64, v = some (.long x) ∧ ret = some .long ∧ decode cc pc = .ok (.lreturn, 1)) ∨ (∃ x : UInt64, v = some (.double x) ∧ ret = some .double ∧ decode cc pc = .ok (.dreturn, 1)) ∨ (∃ (x : Nat) (t : FieldType), v = some (.ref x) ∧ ret = some t ∧ ((∃ n, t = .object n) ∨ ∃ t2, t = .array t2) ∧ decode cc pc = .ok (.areturn, 1)) ∨ (∃ x : UInt32, v = some (.float x) ∧ ret = some .int ∧ decode cc pc = .ok (.ireturn, 1)) ∨ (∃ t : FieldType, v = some .null ∧ ret = some t ∧ ((∃ n, t = .object n) ∨ ∃ t2, t = .array t2) ∧ decode cc pc = .ok (.areturn, 1))
/-- what a reckoning says of the machine -/
def ri_Snd (l : Launch) (f : ri_K) : Prop := ∀ (d bud : Nat) (M : ri_M) (cur : List ri_Op) (pc : Nat) (lv : ri_L) (st : List Value) (w : List ri_E) (nc ns fr : Nat) (out : ri_Out), f d bud M cur pc lv st w nc ns fr = some out →
  (nc ≤ out.2.2.1 ∧ ns ≤ out.2.2.2.1 ∧ (w.length ≤ 1000000 → out.2.1.length ≤ 1000000)) ∧ ((∀ x ∈ out.2.2.2.2.1, ri_sem ad x) → (∃ y : Nat, Ms[y]? = some M) → (∀ o ∈ cur, o ∈ M.2.2.2.2.2) → w.length ≤ 1000000 →
    ∀ (p : Program) (e : Env) (R : Room) (s : State) (m : MethodId) (args : Array Value) (below : List Frame) (meth : Method) (c : Code) (H : Heap) (locs : List Loc) (ls : Array Slot) (Q : State → Prop),
      ri_Fr WG hh NW CW NC AO cl tyL xs L D ad cA M p s m args meth c → ri_P D cl ad cA w H → va_S (ri_A ad) s.heap H locs → (al w.length = true → ri_nx ad w.length H.size) → d ≤ R.frames → bud ≤ R.locals → out.2.2.1 ≤ R.cells → out.2.2.2.1 ≤ R.slots → lv_has ls M.2.2.1 (ri_lr ad lv) →
      (∀ r : Option Value, out.1 = .inl r → ∀ (H1 : Heap) (locs1 : List Loc) (ls1 : Array Slot) (pc1 : Nat), ri_P D cl ad cA out.2.1 H1 → va_S (ri_A ad) s.heap H1 locs1 → (al out.2.1.length = true → ri_nx ad out.2.1.length H1.size) → ri_isret M.2.1 pc1 M.2.2.2.1 r → W p l e R s m args below meth c H1 locs1 out.2.2.1 out.2.2.2.1 Q (F0 m pc1 ls1 (r.toList.map (ri_v ad)))) →
      (∀ x : Nat, out.1 = .inr x → ∃ (Qc : Array Value → State → Outcome → State → Prop) (XC : String → State → State → Prop), Q = vx_MQ below Qc XC args s out.2.2.1 out.2.2.2.1 (ri_A ad) ∧ ∀ t : State, s.vm.Alike t.vm → ri_P D cl ad cA out.2.1 t.heap → va_F (ri_A ad) s t → XC (exn x) s t) →
      W p l e R s m args below meth c H locs nc ns Q (F0 m pc ls (st.map (ri_v ad))))
end RIL
