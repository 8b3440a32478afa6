/-! ===== the machine runs the entry: one step in place of the method's bytecode (after the manner of the library's own laws of such entries) ===== -/
def ma_absR : NativeRow := (NativeRow.find? _root_.Jvm.Native.java_lang_Math.nans.rows "java/lang/Math" "abs" "(D)D").get (by decide +kernel)
def ma_maxR : NativeRow := (NativeRow.find? _root_.Jvm.Native.java_lang_Math.nans.rows "java/lang/Math" "max" "(DD)D").get (by decide +kernel)
set_option maxRecDepth 100000 in
theorem ma_absR_eq (p : Program) : NativeRow.find? p.tables.natives "java/lang/Math" "abs" "(D)D" = some ma_absR := by
  cases p <;> rfl
set_option maxRecDepth 100000 in
theorem ma_maxR_eq (p : Program) : NativeRow.find? p.tables.natives "java/lang/Math" "max" "(DD)D" = some ma_maxR := by
  cases p <;> rfl
theorem ma_run_of {α : Type} {t : Sem α} {v : α} {e : Env} {S : State} (h : wpRun t (fun u s2 _ => u = v ∧ s2 = S) (fun _ _ _ => False) e S) : ∃ acts, t.run e S = .ok v S acts := by
  have h2 := (wpRun_iff_run _ _ _ _ _).mp h
  cases hr : t.run e S with
  | ok u s2 acts => rw [hr] at h2; obtain ⟨rfl, rfl⟩ := h2; exact ⟨acts, rfl⟩
  | ctl x s2 acts => rw [hr] at h2; cases x <;> exact h2.elim
theorem ma_absR_run {x : UInt64} (hx : ri_n64 x = true) (e : Env) (S : State) : ∃ acts, (ma_absR.sem #[.double x]).run e S = .ok (some (.double (ma_abs x))) S acts := by
  refine ma_run_of ?_
  have e1 : ma_absR.sem #[.double x] = (do
      let r ← anyNaN64 (x &&& 0x7fffffffffffffff)
      mark "nat.java_lang_Math.abs"
      Pure.pure (some (.double r))) := rfl
  have hn : (x &&& 0x7fffffffffffffff) &&& 0x7fffffffffffffff ≤ 0x7ff0000000000000 := by
    rw [UInt64.and_assoc, UInt64.and_self]; exact ri_n64_ok hx
  rw [e1]
  unfold ma_abs
  simp [jvm, wpRun, anyNaN64, hn]
theorem ma_maxR_run {x y : UInt64} (hx : ri_n64 x = true) (hy : ri_n64 y = true) (e : Env) (S : State) : ∃ acts, (ma_maxR.sem #[.double x, .double y]).run e S = .ok (some (.double (ma_max x y))) S acts := by
  refine ma_run_of ?_
  have e1 : ma_maxR.sem #[.double x, .double y] = (do
      let r ← if FP.dIsNaN x then anyNaN64 x else if FP.dIsNaN y then anyNaN64 y else Pure.pure (ma_max x y)
      mark "nat.java_lang_Math.max"
      Pure.pure (some (.double r))) := rfl
  rw [e1]
  simp [jvm, wpRun, ma_nan hx, ma_nan hy]
/-- an entry in place of bytecode -/
theorem ma_ov {tb : Tables} {e : Env} {S : State} {f : JFrame} {k : Class} {meth : Method} {row : NativeRow} (h0 : f.pc = 0) (hk : S.vm.classes[f.method.cls]? = some k) (hx : k.methods[f.method.idx]? = some meth) (hboot : k.loader = none) (hkn : k.name = "java/lang/Math") (hrow : NativeRow.find? tb.natives k.name meth.name meth.desc = some row) : overridden tb e S f = some row := by
  unfold overridden
  simp [h0, hk, hboot, hx, hrow]
  intro h9
  exact absurd (by rw [hkn]; decide : k.name ∈ overriddenIn) h9
theorem ma_step1 {tb : Tables} {e : Env} {S : State} {m : MethodId} {rest : List Frame} {k : Class} {meth : Method} {row : NativeRow} {x : UInt64} (hf : S.frames = .java (entryFrame m #[.double x] 2) :: rest) (hk : S.vm.classes[m.cls]? = some k) (hx : k.methods[m.idx]? = some meth) (hboot : k.loader = none) (hkn : k.name = "java/lang/Math") (hrow : NativeRow.find? tb.natives k.name meth.name meth.desc = some row) (hpar : meth.sig.parameters.length = 1) :
    stepThread tb e S = afterNative e { method := m, args := #[.double x] } rest ((row.sem #[.double x]).run e (S.setFrames (.native { method := m, args := #[.double x] } :: rest))) := by
  have hov : overridden tb e S (entryFrame m #[.double x] 2) = some row := ma_ov rfl hk hx hboot hkn hrow
  have hb2 : (S.vm.classes[m.cls]?.bind fun y => y.methods[m.idx]?) = some meth := by simp [hk, hx]
  have htake : ∀ n : Nat, List.take (1 + n) [Value.double x] = [Value.double x] := fun n => List.take_of_length_le (Nat.le_add_right 1 n)
  unfold stepThread
  simp only [hf, hov]
  simp [entryFrame, argsToLocals, Value.category, argCount, hb2, hpar, htake]
theorem ma_step2 {tb : Tables} {e : Env} {S : State} {m : MethodId} {rest : List Frame} {k : Class} {meth : Method} {row : NativeRow} {x y : UInt64} (hf : S.frames = .java (entryFrame m #[.double x, .double y] 4) :: rest) (hk : S.vm.classes[m.cls]? = some k) (hx : k.methods[m.idx]? = some meth) (hboot : k.loader = none) (hkn : k.name = "java/lang/Math") (hrow : NativeRow.find? tb.natives k.name meth.name meth.desc = some row) (hpar : meth.sig.parameters.length = 2) :
    stepThread tb e S = afterNative e { method := m, args := #[.double x, .double y] } rest ((row.sem #[.double x, .double y]).run e (S.setFrames (.native { method := m, args := #[.double x, .double y] } :: rest))) := by
  have hov : overridden tb e S (entryFrame m #[.double x, .double y] 4) = some row := ma_ov rfl hk hx hboot hkn hrow
  have hb2 : (S.vm.classes[m.cls]?.bind fun y => y.methods[m.idx]?) = some meth := by simp [hk, hx]
  have htake : ∀ n : Nat, List.take (2 + n) [Value.double x, Value.double y] = [Value.double x, Value.double y] := fun n => List.take_of_length_le (Nat.le_add_right 2 n)
  unfold stepThread
  simp only [hf, hov]
  simp [entryFrame, argsToLocals, Value.category, argCount, hb2, hpar, htake]
/-- the call of such a method: from the invocation to behind it -/
theorem ma_invoke (p : Program) {e : Env} {below : List Frame} {s target : State} {g : JFrame} {c : Code} (hA : At s g.method c below) {m : MethodId} {meth : Method} {cm : Code} {va : Array Value} {v : Value} {n : Nat} (acts : List Action) (hm : s.vm.method? m = some meth) (hc : meth.code = some cm) (hl : meth.locks = false) (hml : cm.maxLocals = n)
    (hfull : e.platform.stackFull (((s.setTop g).threads[(s.setTop g).cur]?).getD { frames := [] }) (s.setTop g).frames cm.maxLocals = false)
    (hstep : ∀ (S : State) (rest : List Frame), S.frames = .java (entryFrame m va n) :: rest → S.vm = s.vm → ∃ acts, stepThread p.tables e S = afterNative e { method := m, args := va } rest (.ok (some v) (S.setFrames (.native { method := m, args := va } :: rest)) acts))
    {ig : Instr} {len : Nat} (hdg : decode c.code g.pc = .ok (ig, len)) (hrest : Steps p.tables e below (s.setTop { g with pc := g.pc + len, stack := v :: g.stack }) target) :
    Steps p.tables e below (doInvoke e (s.setTop g) acts m va).1 target := by
  obtain ⟨g0, hg⟩ := Option.isSome_iff_exists.mp hA.top
  obtain ⟨r, hr⟩ := State.topJava?_eq_some.mp hg
  obtain ⟨mid, hmid⟩ := hA.above
  have hcur : s.cur < s.threads.size := State.cur_lt_of_frames hr
  have htop : s.setTop g = s.setFrames (.java g :: r) := State.setTop_of_frames _ hr
  have hcode : ∀ F : List Frame, (s.setFrames F).code? g.method = some c := by
    intro F
    have h9 := hA.code
    rw [State.code?_eq] at h9 ⊢
    simpa [State.setFrames] using h9
  rw [(doInvoke_java (s := s.setTop g) (e := e) (acts := acts) (args := va) (meth := meth) (code := cm) hm hc hl hfull).1, hml]
  have hU : (s.setTop g).pushFrame (.java { method := m, pc := 0, locals := argsToLocals va n, stack := [], locked := none }) = s.setFrames (.java (entryFrame m va n) :: .java g :: r) := by
    rw [State.pushFrame, State.frames_setTop _ hr, htop, State.setFrames_setFrames]
    rfl
  rw [hU]
  have hf1 : (s.setFrames (.java (entryFrame m va n) :: .java g :: r)).frames = .java (entryFrame m va n) :: .java g :: r := State.frames_setFrames _ hcur
  have hfs : handOver (s.setFrames (.native { method := m, args := va } :: .java g :: r)) (some v) (.java g :: r) = some (.java { g with pc := g.pc + len, stack := v :: g.stack } :: r) := by
    simp [handOver, hcode, hdg, Except.toOption]
  obtain ⟨acts2, hs2⟩ := hstep (s.setFrames (.java (entryFrame m va n) :: .java g :: r)) (.java g :: r) hf1 rfl
  have hstep2 : (stepThread p.tables e (s.setFrames (.java (entryFrame m va n) :: .java g :: r))).1 = s.setTop { g with pc := g.pc + len, stack := v :: g.stack } := by
    rw [hs2, State.setFrames_setFrames]
    show (doReturn e (s.setFrames (.native { method := m, args := va } :: .java g :: r)) acts2 (some v)).1 = _
    rw [doReturn_native (f := { method := m, args := va }) (below := .java g :: r) (State.frames_setFrames _ hcur) rfl hfs, State.setFrames_setFrames, ← State.setTop_of_frames _ hr]
  refine Steps.head ⟨hA.running, by simpa using hA.runnable, by simpa using hA.alone⟩ ⟨.java (entryFrame m va n) :: .java g :: mid, by rw [hf1]; rw [hr] at hmid; simp at hmid; simp [hmid], by simp, by simp⟩ ?_
  rw [hstep2]
  exact hrest
section MAW
variable {p : Program} {l : Launch} {e : Env} {R : Room} {s : State} {m : MethodId} {args : Array Value} {below : List Frame} {meth : Method} {c : Code} {H : Heap} {locs : List Loc} {cells slots : Nat} {Q : State → Prop} {cc : ByteArray} {pc : Nat} {ls : Array Slot}
/-- the same, as a row -/
theorem ma_W (hexec : p.tables.exec = Jvm.exec) (hb : c.code = cc) (hml : c.maxLocals = ls.size) {own : String} {index n : Nat} {y : MethodName} {bytes : ByteArray} {ret : Option FieldType} {va rest : List Value} {v : Value} (hown : s.vm.findClass own = some m.cls) (hy : y.cls = "java/lang/Math") (hlink : (Cond.methodLink own index y).before args s = true) (hcode : (Cond.code y bytes n ret).before args s = true) (hstat : (Cond.static y).before args s = true) (hinit : (Cond.initialized "java/lang/Math").before args s = true)
    {ps : List FieldType} {rt : Option FieldType} (hdesc : parseMethodDescriptor y.desc = some { parameters := ps, returnType := rt }) (hps : va.length = ps.length) (hframes : 1 ≤ R.frames) (hlocals : (rest.map fun v => v.category).sum + (n + 11) ≤ R.locals) (hdg : decode cc pc = .ok (.invokestatic index, 3))
    (hst : ∀ (S : State) (mk : MethodId) (k : Class) (methM : Method) (F : List Frame), S.frames = .java (entryFrame mk va.toArray n) :: F → S.vm.classes[mk.cls]? = some k → k.methods[mk.idx]? = some methM → k.loader = none → k.name = "java/lang/Math" → methM.name = y.name → methM.desc = y.desc → methM.sig.parameters.length = ps.length → ∃ acts, stepThread p.tables e S = afterNative e { method := mk, args := va.toArray } F (.ok (some v) (S.setFrames (.native { method := mk, args := va.toArray } :: F)) acts))
    (k : W p l e R s m args below meth c H locs cells slots Q (F0 m (pc + 3) ls (v :: rest))) : W p l e R s m args below meth c H locs cells slots Q (F0 m pc ls (va.reverse ++ rest)) := by
  intro T hT X
  obtain ⟨mk, hnm⟩ : ∃ mk, s.methodNamed? y = some mk := by
    cases h9 : s.methodNamed? y with
    | some mk => exact ⟨mk, rfl⟩
    | none => exact absurd hcode (by simp [Cond.before, Cond.holds, Cond.value, h9])
  obtain ⟨methM, cM, hmethM, hcodeM, -, hlocalsM, -, hlocksM, -, hsigM⟩ := Cond.code_spec hnm hcode
  obtain ⟨kP, hkP, hkname⟩ := className_of_methodNamed hnm
  obtain ⟨hmnM, hmdM⟩ := name_of_methodNamed hnm hmethM
  have hxP : kP.methods[mk.idx]? = some methM := by simpa [Vm.method?, hkP] using hmethM
  have hfc := findClass_of_methodNamed hnm
  have hbootP : kP.loader = none := Vm.bootOf_findClass hfc hkP
  have hinitP : kP.init = .initialized := Cond.initialized_spec (by rw [← hy]; exact hfc) hkP hinit
  have hpar : methM.sig.parameters.length = ps.length := by
    have h3 := hsigM.symm.trans hdesc
    rw [Option.some.inj h3]
  obtain ⟨vm', X', st⟩ := X.invokestatic hexec hown hlink hnm hmethM (Cond.static_spec hnm hmethM hstat) hkP hinitP (by rw [hy]; decide) (g := F0 m pc ls (va.reverse ++ rest)) rfl (argsL := va) (rest := rest) (by rw [hpar, hps]) rfl (by rw [hb]; exact hdg)
  obtain ⟨t, a1, b1⟩ := k (T.setVm vm') hT X'
  refine ⟨t, ?_, b1⟩
  refine st t (fun acts => ?_)
  have hal := X'.warmed.alike
  obtain ⟨kP2, hkP2, hke⟩ := hal.2.2 _ _ hkP
  have hm2 : (T.setVm vm').vm.method? mk = some methM := by rw [hal.method?]; exact hmethM
  have hm3 : vm'.method? mk = some methM := hm2
  have hk3 : vm'.classes[mk.cls]? = some kP2 := hkP2
  have hxP2 : kP2.methods[mk.idx]? = some methM := by simpa [Vm.method?, hk3] using hm3
  have hbootP2 : kP2.loader = none := by rw [hke]; exact hbootP
  have hkn2 : kP2.name = "java/lang/Math" := by rw [hke, ← hy]; exact hkname
  refine ma_invoke p (g := F0 m pc ls rest) (c := c) (len := 3) (v := v) (n := n) X'.here acts hm2 hcodeM hlocksM hlocalsM ?_ (fun S F hS hvm => hst S mk kP2 methM F hS (by rw [hvm]; exact hkP2) hxP2 hbootP2 hkn2 hmnM hmdM hpar) (by rw [hb]; exact hdg) a1
  exact X'.notFull (g := F0 m pc ls rest) (by rw [hml]) hframes (by show 2 * 0 + (rest.map fun v => v.category).sum + (cM.maxLocals + 11) ≤ R.locals; rw [hlocalsM]; omega)
theorem ma_W_abs (hexec : p.tables.exec = Jvm.exec) (hb : c.code = cc) (hml : c.maxLocals = ls.size) {own : String} {index : Nat} {bytes : ByteArray} {ret : Option FieldType} {rest : List Value} {x : UInt64} (hx : ri_n64 x = true) (hown : s.vm.findClass own = some m.cls) (hlink : (Cond.methodLink own index ma_absN).before args s = true) (hcode : (Cond.code ma_absN bytes 2 ret).before args s = true) (hstat : (Cond.static ma_absN).before args s = true) (hinit : (Cond.initialized "java/lang/Math").before args s = true)
    (hframes : 1 ≤ R.frames) (hlocals : (rest.map fun v => v.category).sum + (2 + 11) ≤ R.locals) (hdg : decode cc pc = .ok (.invokestatic index, 3))
    (k : W p l e R s m args below meth c H locs cells slots Q (F0 m (pc + 3) ls (.double (ma_abs x) :: rest))) : W p l e R s m args below meth c H locs cells slots Q (F0 m pc ls (.double x :: rest)) := by
  refine ma_W (va := [.double x]) (y := ma_absN) (ps := [.double]) (rt := some .double) (n := 2) (v := .double (ma_abs x)) hexec hb hml hown rfl hlink hcode hstat hinit (by decide +kernel) rfl hframes hlocals hdg (fun S mk k methM F h1 h2 h3 h4 h5 h6 h7 h8 => ?_) k
  obtain ⟨acts, ha⟩ := ma_absR_run hx e (S.setFrames (.native { method := mk, args := #[.double x] } :: F))
  refine ⟨acts, ?_⟩
  rw [← ha]
  exact ma_step1 h1 h2 h3 h4 h5 (by rw [h5, h6, h7]; exact ma_absR_eq p) h8
theorem ma_W_max (hexec : p.tables.exec = Jvm.exec) (hb : c.code = cc) (hml : c.maxLocals = ls.size) {own : String} {index : Nat} {bytes : ByteArray} {ret : Option FieldType} {rest : List Value} {x y : UInt64} (hx : ri_n64 x = true) (hy : ri_n64 y = true) (hown : s.vm.findClass own = some m.cls) (hlink : (Cond.methodLink own index ma_maxN).before args s = true) (hcode : (Cond.code ma_maxN bytes 4 ret).before args s = true) (hstat : (Cond.static ma_maxN).before args s = true) (hinit : (Cond.initialized "java/lang/Math").before args s = true)
    (hframes : 1 ≤ R.frames) (hlocals : (rest.map fun v => v.category).sum + (4 + 11) ≤ R.locals) (hdg : decode cc pc = .ok (.invokestatic index, 3))
    (k : W p l e R s m args below meth c H locs cells slots Q (F0 m (pc + 3) ls (.double (ma_max x y) :: rest))) : W p l e R s m args below meth c H locs cells slots Q (F0 m pc ls (.double y :: .double x :: rest)) := by
  refine ma_W (va := [.double x, .double y]) (y := ma_maxN) (ps := [.double, .double]) (rt := some .double) (n := 4) (v := .double (ma_max x y)) hexec hb hml hown rfl hlink hcode hstat hinit (by decide +kernel) rfl hframes hlocals hdg (fun S mk k methM F h1 h2 h3 h4 h5 h6 h7 h8 => ?_) k
  obtain ⟨acts, ha⟩ := ma_maxR_run hx hy e (S.setFrames (.native { method := mk, args := #[.double x, .double y] } :: F))
  refine ⟨acts, ?_⟩
  rw [← ha]
  exact ma_step2 h1 h2 h3 h4 h5 (by rw [h5, h6, h7]; exact ma_maxR_eq p) h8
/-- the call of one of the two, whichever -/
theorem ma_W_any {ad : Nat → Nat} {M2 : ri_M} (hexec : p.tables.exec = Jvm.exec) (hb : c.code = cc) (hml : c.maxLocals = ls.size) {own : String} {index : Nat} {As rest : List Value} {v : Value} (ha : ma_ans M2 As v) (hown : s.vm.findClass own = some m.cls) (hlink : (Cond.methodLink own index M2.1).before args s = true) (hcode : (Cond.code M2.1 M2.2.1 M2.2.2.1 M2.2.2.2.1).before args s = true) (hstat : (Cond.static M2.1).before args s = true) (hinit : (Cond.initialized M2.1.cls).before args s = true)
    (hframes : 1 ≤ R.frames) (hlocals : (rest.map fun v => v.category).sum + (M2.2.2.1 + 11) ≤ R.locals) (hdg : decode cc pc = .ok (.invokestatic index, 3))
    (k : W p l e R s m args below meth c H locs cells slots Q (F0 m (pc + 3) ls (ri_v ad v :: rest))) : W p l e R s m args below meth c H locs cells slots Q (F0 m pc ls ((As.map (ri_v ad)).reverse ++ rest)) := by
  obtain ⟨nm, bytes, mL, ret, np, ops⟩ := M2
  rcases ha with ⟨e1, e2, x, rfl, hx, rfl⟩ | ⟨e1, e2, x, y, rfl, hx, hy, rfl⟩
  · dsimp only at e1 e2 hlink hcode hstat hinit hlocals
    subst e1
    subst e2
    exact ma_W_abs hexec hb hml hx hown hlink hcode hstat hinit hframes hlocals hdg k
  · dsimp only at e1 e2 hlink hcode hstat hinit hlocals
    subst e1
    subst e2
    exact ma_W_max hexec hb hml hx hy hown hlink hcode hstat hinit hframes hlocals hdg k
end MAW
