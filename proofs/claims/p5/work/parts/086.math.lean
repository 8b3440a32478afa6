/-! ===== two methods of Math that an entry runs in place of their bytecode: abs, max of doubles; what their bytecode reckons of numbers is what the entry gives ===== -/
def ma_absN : MethodName := ⟨"java/lang/Math", "abs", "(D)D"⟩
def ma_maxN : MethodName := ⟨"java/lang/Math", "max", "(DD)D"⟩
def ma_abs (x : UInt64) : UInt64 := x &&& 9223372036854775807
def ma_max (x y : UInt64) : UInt64 := _root_.Jvm.Native.java_lang_Math.nans.pick64 true x y
/-- their instructions -/
def ma_absO : List ri_Op := [
  (0, 0, .dload_n 0, 0, 0, .null, []),
  (1, 29, .invokestatic 79, 4, 1, .null, []),
  (4, 3, .ldc2_w 135, 0, 0, .long 9223372036854775807, []),
  (7, 0, .land, 0, 0, .null, []),
  (8, 29, .invokestatic 166, 5, 1, .null, []),
  (11, 16, .dreturn, 0, 0, .null, [])]
def ma_maxO : List ri_Op := [
  (0, 0, .dload_n 0, 0, 0, .null, []),
  (1, 0, .dload_n 0, 0, 0, .null, []),
  (2, 0, .dcmp .l, 0, 0, .null, []),
  (3, 17, .ifCond .eq 5, 1, 9999, .null, [6]),
  (6, 0, .dload_n 0, 0, 0, .null, []),
  (7, 16, .dreturn, 0, 0, .null, []),
  (8, 0, .dload_n 0, 0, 0, .null, []),
  (9, 0, .dconst 0, 0, 0, .null, []),
  (10, 0, .dcmp .l, 0, 0, .null, []),
  (11, 17, .ifCond .ne 22, 1, 9999, .null, [21]),
  (14, 0, .dload_n 2, 0, 0, .null, []),
  (15, 0, .dconst 0, 0, 0, .null, []),
  (16, 0, .dcmp .l, 0, 0, .null, []),
  (17, 17, .ifCond .ne 16, 1, 9999, .null, [21]),
  (20, 0, .dload_n 0, 0, 0, .null, []),
  (21, 29, .invokestatic 79, 4, 0, .null, []),
  (24, 3, .getstatic 174, 0, 0, .long (-9223372036854775808), []),
  (27, 0, .lcmp, 0, 0, .null, []),
  (28, 17, .ifCond .ne 5, 1, 9999, .null, [21]),
  (31, 0, .dload_n 2, 0, 0, .null, []),
  (32, 16, .dreturn, 0, 0, .null, []),
  (33, 0, .dload_n 0, 0, 0, .null, []),
  (34, 0, .dload_n 2, 0, 0, .null, []),
  (35, 0, .dcmp .l, 0, 0, .null, []),
  (36, 17, .ifCond .lt 7, 1, 9999, .null, [27]),
  (39, 0, .dload_n 0, 0, 0, .null, []),
  (40, 0, .goto 4, 0, 0, .null, [28]),
  (43, 0, .dload_n 2, 0, 0, .null, []),
  (44, 16, .dreturn, 0, 0, .null, [])]
/-- the same instructions -/
def ma_ope (a b : ri_Op) : Bool := Nat.beq a.1 b.1 && (Nat.beq a.2.1 b.2.1 && (decide (a.2.2.1 = b.2.2.1) && (Nat.beq a.2.2.2.1 b.2.2.2.1 && (Nat.beq a.2.2.2.2.1 b.2.2.2.2.1 && (decide (a.2.2.2.2.2.1 = b.2.2.2.2.2.1) && decide (a.2.2.2.2.2.2 = b.2.2.2.2.2.2))))))
def ma_ops : List ri_Op → List ri_Op → Bool
  | [], [] => true
  | a :: as, b :: bs => ma_ope a b && ma_ops as bs
  | _, _ => false
theorem ma_ope_eq {a b : ri_Op} (h : ma_ope a b = true) : a = b := by
  obtain ⟨a1, a2, a3, a4, a5, a6, a7⟩ := a
  obtain ⟨b1, b2, b3, b4, b5, b6, b7⟩ := b
  unfold ma_ope at h
  simp only [Bool.and_eq_true, decide_eq_true_eq] at h
  obtain ⟨h1, h2, h3, h4, h5, h6, h7⟩ := h
  cases Nat.eq_of_beq_eq_true h1
  cases Nat.eq_of_beq_eq_true h2
  cases Nat.eq_of_beq_eq_true h4
  cases Nat.eq_of_beq_eq_true h5
  cases h3
  cases h6
  cases h7
  rfl
theorem ma_ops_eq : ∀ {a b : List ri_Op}, ma_ops a b = true → a = b
  | [], [], _ => rfl
  | [], _ :: _, h => by cases h
  | _ :: _, [], h => by cases h
  | a :: as, b :: bs, h => by
    have h2 : (ma_ope a b && ma_ops as bs) = true := h
    rw [Bool.and_eq_true] at h2
    rw [ma_ope_eq h2.1, ma_ops_eq h2.2]
/-- it is one of the two -/
def ma_is (M : ri_M) : Bool := (decide (M.1 = ma_absN) && (Nat.beq M.2.2.1 2 && (Nat.beq M.2.2.2.2.1 1 && ma_ops M.2.2.2.2.2 ma_absO))) || (decide (M.1 = ma_maxN) && (Nat.beq M.2.2.1 4 && (Nat.beq M.2.2.2.2.1 2 && ma_ops M.2.2.2.2.2 ma_maxO)))
/-- its answer -/
def ma_ans (M : ri_M) (As : List Value) (v : Value) : Prop := (M.1 = ma_absN ∧ M.2.2.1 = 2 ∧ ∃ x : UInt64, As = [.double x] ∧ ri_n64 x = true ∧ v = .double (ma_abs x)) ∨ (M.1 = ma_maxN ∧ M.2.2.1 = 4 ∧ ∃ x y : UInt64, As = [.double x, .double y] ∧ ri_n64 x = true ∧ ri_n64 y = true ∧ v = .double (ma_max x y))
/-- what a reckoner says of them -/
def ma_F (f : ri_K) : Prop := ∀ (d bud : Nat) (M2 : ri_M) (As : List Value) (w : List ri_E) (fr : Nat) (o2 : ri_Out), ma_is M2 = true → As.all ri_num = true → As.length = M2.2.2.2.2.1 → f d bud M2 M2.2.2.2.2.2 0 (lv_args 0 As) [] w 0 0 fr = some o2 → ∃ v : Value, ma_ans M2 As v ∧ o2 = (.inl (some v), w, 0, 0, [], fr)
theorem ma_is_eq {M : ri_M} (h : ma_is M = true) : (M.1 = ma_absN ∧ M.2.2.1 = 2 ∧ M.2.2.2.2.1 = 1 ∧ M.2.2.2.2.2 = ma_absO) ∨ (M.1 = ma_maxN ∧ M.2.2.1 = 4 ∧ M.2.2.2.2.1 = 2 ∧ M.2.2.2.2.2 = ma_maxO) := by
  unfold ma_is at h
  rw [Bool.or_eq_true] at h
  simp only [Bool.and_eq_true, decide_eq_true_eq] at h
  rcases h with ⟨h1, h2, h3, h4⟩ | ⟨h1, h2, h3, h4⟩
  · exact Or.inl ⟨h1, Nat.eq_of_beq_eq_true h2, Nat.eq_of_beq_eq_true h3, ma_ops_eq h4⟩
  · exact Or.inr ⟨h1, Nat.eq_of_beq_eq_true h2, Nat.eq_of_beq_eq_true h3, ma_ops_eq h4⟩
theorem ma_is_ops {M : ri_M} (h : ma_is M = true) : ∀ o ∈ M.2.2.2.2.2, o.2.1 ≠ 24 ∧ o.2.1 ≠ 25 := by
  rcases ma_is_eq h with ⟨-, -, -, h4⟩ | ⟨-, -, -, h4⟩
  · rw [h4]; decide
  · rw [h4]; decide
theorem ma_nan {x : UInt64} (h : ri_n64 x = true) : FP.dIsNaN x = false := by
  unfold ri_n64 at h
  have h1 := UInt64.le_iff_toNat_le.mp (of_decide_eq_true h)
  have h4 : (x &&& 9223372036854775807).toNat = x.toNat % 2 ^ 63 := FP.Core.mask_toNat x
  have h3 : (9218868437227405312 : UInt64).toNat = 9218868437227405312 := rfl
  rw [h4, h3] at h1
  show FP.Core.dIsNaN x = false
  cases hb : FP.Core.dIsNaN x with
  | false => rfl
  | true =>
    have h5 := (FP.Core.isNaN_bits x).mp hb
    omega
theorem ma_abs_bits (x : UInt64) : (x.toInt64 &&& 9223372036854775807).toUInt64 = ma_abs x := rfl
theorem ma_cv {o : Option Ordering} : Op.cmpValue o CmpOp.l = 0 ↔ o = some .eq := by
  cases o with
  | none => exact ⟨fun h => absurd h (by decide), fun h => by cases h⟩
  | some r => cases r <;> first | exact ⟨fun _ => rfl, fun _ => rfl⟩ | exact ⟨fun h => absurd h (by decide), fun h => by cases h⟩
/-- numbers: what max gives -/
theorem ma_max_lt {x y : UInt64} (hx : ri_n64 x = true) (hy : ri_n64 y = true) (hz : ¬ (FP.dcmp x 0 = some .eq ∧ FP.dcmp y 0 = some .eq ∧ x = 9223372036854775808)) : ma_max x y = (if Op.cmpValue (FP.dcmp x y) CmpOp.l < 0 then y else x) := by
  obtain ⟨o, ho⟩ := FP.Core.dcmp_of_notNaN (ma_nan hx) (ma_nan hy)
  have ho2 : FP.dcmp x y = some o := ho
  unfold ma_max _root_.Jvm.Native.java_lang_Math.nans.pick64
  rw [ho2]
  cases o with
  | lt => rfl
  | gt => rfl
  | eq =>
    show (if ((x >>> 63 == 1) == true) = true then y else x) = x
    by_cases hd : FP.Core.DZero y
    · have n1 := FP.Core.dcmp_some ho
      have y0 : FP.dcmp y 0 = some .eq := FP.Core.zero_iff.mpr hd
      have n2 := FP.Core.dcmp_some (show FP.Core.dcmp y 0 = some .eq from y0)
      have k1 := (FP.Core.dcmp_eq_key n1.1 n1.2).mp ho
      have k2 := (FP.Core.dcmp_eq_key n2.1 n2.2).mp y0
      have x0 : FP.dcmp x 0 = some .eq := (FP.Core.dcmp_eq_key n1.1 n2.2).mpr (k1.trans k2)
      rcases FP.Core.zero_bits x0 with q | q
      · subst q; rfl
      · exact absurd ⟨x0, y0, q⟩ hz
    · have e := FP.Core.eq_bits hd ho
      rw [e]
      split <;> rfl
theorem ma_max_z {x y : UInt64} (hx : x = 9223372036854775808) (hy : FP.dcmp y 0 = some .eq) : ma_max x y = y := by
  subst hx
  have n2 := FP.Core.dcmp_some (show FP.Core.dcmp y 0 = some .eq from hy)
  have k2 := (FP.Core.dcmp_eq_key n2.1 n2.2).mp hy
  have n1 : FP.Core.val64 9223372036854775808 ≠ .nan := (FP.Core.dcmp_some (show FP.Core.dcmp 9223372036854775808 0 = some .eq by decide +kernel)).1
  have k1 : FP.Core.dkey 9223372036854775808 = FP.Core.dkey 0 := by decide +kernel
  have e : FP.dcmp 9223372036854775808 y = some .eq := (FP.Core.dcmp_eq_key n1 n2.1).mpr (k1.trans k2.symm)
  unfold ma_max _root_.Jvm.Native.java_lang_Math.nans.pick64
  rw [e]
  rfl
section MAR
variable {Ms : List ri_M} {ty : Nat → Nat → FieldType} {df : Nat → List Value} {tyL : List FieldType} {exl : Nat → Nat} {xs : Nat → Value} {L : Nat} {al : Nat → Bool} {orc : List (Bool ⊕ Int32)}
theorem ma_peel {n d bud pc nc ns fr : Nat} {M : ri_M} {o : ri_Op} {nxt : List ri_Op} {lv : ri_L} {st : List Value} {w : List ri_E} {out : ri_Out} (h : ri_run Ms ty df tyL exl xs L al orc n d bud M (o :: nxt) pc lv st w nc ns fr = some out) : ∃ k : Nat, ri_exec Ms ty df tyL exl xs L al orc (ri_run Ms ty df tyL exl xs L al orc k) d bud M nxt lv st w nc ns fr pc o.2.1 o.2.2.1 o.2.2.2.1 o.2.2.2.2.1 o.2.2.2.2.2.1 o.2.2.2.2.2.2 = some out := by
  cases n with
  | zero => cases h
  | succ k => exact ⟨k, (ri_ok_eq h).2⟩
theorem ma_p0 {n d bud pc pc0 nc ns fr a b : Nat} {M : ri_M} {i : Instr} {v : Value} {ts : List Nat} {nxt : List ri_Op} {lv : ri_L} {st : List Value} {w : List ri_E} {out : ri_Out} (z : ri_R) (h : ri_run Ms ty df tyL exl xs L al orc n d bud M ((pc0, 0, i, a, b, v, ts) :: nxt) pc lv st w nc ns fr = some out) (hz : ri_pure M.2.2.1 i pc lv st = some z) : ∃ k : Nat, ri_run Ms ty df tyL exl xs L al orc k d bud M (ri_next M nxt ts z.1) z.2.1 z.2.2.1 z.2.2.2 w nc ns fr = some out := by
  obtain ⟨k, h1⟩ := ma_peel h
  refine ⟨k, ?_⟩
  have h2 : (match ri_pure M.2.2.1 i pc lv st with
    | some z => ri_run Ms ty df tyL exl xs L al orc k d bud M (ri_next M nxt ts z.1) z.2.1 z.2.2.1 z.2.2.2 w nc ns fr
    | none => none) = some out := h1
  rw [hz] at h2
  exact h2
theorem ma_p17 {n d bud pc pc0 nc ns fr b : Nat} {M : ri_M} {i : Instr} {v : Value} {ts : List Nat} {nxt : List ri_Op} {lv : ri_L} {x : Int32} {st : List Value} {w : List ri_E} {out : ri_Out} (z : ri_R) (h : ri_run Ms ty df tyL exl xs L al orc n d bud M ((pc0, 17, i, 1, b, v, ts) :: nxt) pc lv (.int x :: st) w nc ns fr = some out) (hz : ri_pure M.2.2.1 i pc lv (.int x :: st) = some z) : ∃ k : Nat, ri_run Ms ty df tyL exl xs L al orc k d bud M (ri_next M nxt ts z.1) z.2.1 z.2.2.1 z.2.2.2 w nc ns fr = some out := by
  obtain ⟨k, h1⟩ := ma_peel h
  refine ⟨k, ?_⟩
  have h2 : (match ri_pure M.2.2.1 i pc lv (.int x :: st) with
    | some z => ri_run Ms ty df tyL exl xs L al orc k d bud M (ri_next M nxt ts z.1) z.2.1 z.2.2.1 z.2.2.2 w nc ns fr
    | none => none) = some out := h1
  rw [hz] at h2
  exact h2
theorem ma_p3 {n d bud pc pc0 nc ns fr a b : Nat} {M : ri_M} {i : Instr} {v : Value} {ts : List Nat} {nxt : List ri_Op} {lv : ri_L} {st : List Value} {w : List ri_E} {out : ri_Out} (h : ri_run Ms ty df tyL exl xs L al orc n d bud M ((pc0, 3, i, a, b, v, ts) :: nxt) pc lv st w nc ns fr = some out) : ∃ k : Nat, ri_run Ms ty df tyL exl xs L al orc k d bud M nxt (pc + ri_len i) lv (v :: st) w nc ns fr = some out := by
  obtain ⟨k, h1⟩ := ma_peel h
  exact ⟨k, h1⟩
theorem ma_p29 {n d bud pc pc0 nc ns fr a b : Nat} {M : ri_M} {i : Instr} {v : Value} {ts : List Nat} {nxt : List ri_Op} {lv : ri_L} {st : List Value} {w : List ri_E} {out : ri_Out} (h : ri_run Ms ty df tyL exl xs L al orc n d bud M ((pc0, 29, i, a, b, v, ts) :: nxt) pc lv st w nc ns fr = some out) : ∃ (k : Nat) (z : Nat × List Value), ri_str d bud a st = some z ∧ ri_run Ms ty df tyL exl xs L al orc k d bud M nxt (pc + z.1) lv z.2 w nc ns fr = some out := by
  obtain ⟨k, h1⟩ := ma_peel h
  have h2 : (match ri_str d bud a st with
    | some z => ri_run Ms ty df tyL exl xs L al orc k d bud M nxt (pc + z.1) lv z.2 w nc ns fr
    | none => none) = some out := h1
  cases hz : ri_str d bud a st with
  | none => rw [hz] at h2; cases h2
  | some z => rw [hz] at h2; exact ⟨k, z, rfl, h2⟩
theorem ma_p16 {n d bud pc pc0 nc ns fr a b : Nat} {M : ri_M} {v : Value} {ts : List Nat} {nxt : List ri_Op} {lv : ri_L} {x : UInt64} {w : List ri_E} {out : ri_Out} (h : ri_run Ms ty df tyL exl xs L al orc n d bud M ((pc0, 16, .dreturn, a, b, v, ts) :: nxt) pc lv [.double x] w nc ns fr = some out) : out = (.inl (some (.double x)), w, nc, ns, [], fr) := by
  obtain ⟨k, h1⟩ := ma_peel h
  have h2 : ri_ok (ri_fitR M.2.2.2.1 (.double x)) (some (.inl (some (.double x)), w, nc, ns, [], fr)) = some out := h1
  exact (Option.some.inj (ri_ok_eq h2).2).symm
theorem ma_br {c : Jvm.ClassFile.Cond} {x : Int32} {pc nx : Nat} {off : Int} {lv : ri_L} {r : List Value} (t : Nat) (b : Bool) (hc : ri_cnd c x 0 = b) (ht : (pc : Int) + off = (t : Int)) : ri_br (ri_cnd c x 0) pc off nx lv r = some (bif b then (1, t, lv, r) else (0, nx, lv, r)) := by
  unfold ri_br
  rw [ht, hc]
  cases b <;> rfl
theorem ma_abs_run {n d bud fr : Nat} {nm : MethodName} {cc : ByteArray} {mL np : Nat} {ret : Option FieldType} {x : UInt64} {w : List ri_E} {out : ri_Out} (h : ri_run Ms ty df tyL exl xs L al orc n d bud (nm, cc, mL, ret, np, ma_absO) ma_absO 0 [(0, .double x)] [] w 0 0 fr = some out) : out = (.inl (some (.double (ma_abs x))), w, 0, 0, [], fr) := by
  obtain ⟨k1, h1⟩ := ma_p0 (0, 1, [(0, .double x)], [.double x]) h rfl
  obtain ⟨k2, z2, e2, h2⟩ := ma_p29 h1
  have e2' : ri_ok (Nat.ble 1 d && Nat.ble (0 + 15) bud) (some (3, ([.long x.toInt64] : List Value))) = some z2 := e2
  cases (Option.some.inj (ri_ok_eq e2').2)
  obtain ⟨k3, h3⟩ := ma_p3 h2
  obtain ⟨k4, h4⟩ := ma_p0 (0, 8, [(0, .double x)], [.long (x.toInt64 &&& 9223372036854775807)]) h3 rfl
  obtain ⟨k5, z5, e5, h5⟩ := ma_p29 h4
  have e5' : ri_ok ((Nat.ble 1 d && Nat.ble (0 + 15) bud) && !vn_snl2d (x.toInt64 &&& 9223372036854775807)) (some (3, ([.double (x.toInt64 &&& 9223372036854775807).toUInt64] : List Value))) = some z5 := e5
  cases (Option.some.inj (ri_ok_eq e5').2)
  have h6 := ma_p16 h5
  rw [ma_abs_bits] at h6
  exact h6
/-- max, from its last comparison -/
theorem ma_max_fin {n d bud fr : Nat} {nm : MethodName} {cc : ByteArray} {mL np : Nat} {ret : Option FieldType} {x y : UInt64} {w : List ri_E} {out : ri_Out} (h : ri_run Ms ty df tyL exl xs L al orc n d bud (nm, cc, mL, ret, np, ma_maxO) (ma_maxO.drop 21) 33 [(0, .double x), (2, .double y)] [] w 0 0 fr = some out) : out = (.inl (some (.double (if Op.cmpValue (FP.dcmp x y) CmpOp.l < 0 then y else x))), w, 0, 0, [], fr) := by
  obtain ⟨k1, h1⟩ := ma_p0 (0, 34, [(0, .double x), (2, .double y)], [.double x]) h rfl
  obtain ⟨k2, h2⟩ := ma_p0 (0, 35, [(0, .double x), (2, .double y)], [.double y, .double x]) h1 rfl
  obtain ⟨k3, h3⟩ := ma_p0 (0, 36, [(0, .double x), (2, .double y)], [.int (Op.cmpValue (FP.dcmp x y) CmpOp.l)]) h2 rfl
  by_cases hc : Op.cmpValue (FP.dcmp x y) CmpOp.l < 0
  · rw [if_pos hc]
    obtain ⟨k4, h4⟩ := ma_p17 (1, 43, [(0, .double x), (2, .double y)], []) h3 (ma_br (c := .lt) (off := 7) 43 true (decide_eq_true hc) rfl)
    obtain ⟨k5, h5⟩ := ma_p0 (0, 44, [(0, .double x), (2, .double y)], [.double y]) h4 rfl
    exact ma_p16 h5
  · rw [if_neg hc]
    obtain ⟨k4, h4⟩ := ma_p17 (0, 39, [(0, .double x), (2, .double y)], []) h3 (ma_br (c := .lt) (off := 7) 43 false (decide_eq_false hc) rfl)
    obtain ⟨k5, h5⟩ := ma_p0 (0, 40, [(0, .double x), (2, .double y)], [.double x]) h4 rfl
    obtain ⟨k6, h6⟩ := ma_p0 (1, 44, [(0, .double x), (2, .double y)], [.double x]) h5 rfl
    exact ma_p16 h6
theorem ma_max_run {n d bud fr : Nat} {nm : MethodName} {cc : ByteArray} {mL np : Nat} {ret : Option FieldType} {x y : UInt64} {w : List ri_E} {out : ri_Out} (hx : ri_n64 x = true) (hy : ri_n64 y = true) (h : ri_run Ms ty df tyL exl xs L al orc n d bud (nm, cc, mL, ret, np, ma_maxO) ma_maxO 0 [(0, .double x), (2, .double y)] [] w 0 0 fr = some out) : out = (.inl (some (.double (ma_max x y))), w, 0, 0, [], fr) := by
  obtain ⟨k1, h1⟩ := ma_p0 (0, 1, [(0, .double x), (2, .double y)], [.double x]) h rfl
  obtain ⟨k2, h2⟩ := ma_p0 (0, 2, [(0, .double x), (2, .double y)], [.double x, .double x]) h1 rfl
  obtain ⟨k3, h3⟩ := ma_p0 (0, 3, [(0, .double x), (2, .double y)], [.int (Op.cmpValue (FP.dcmp x x) CmpOp.l)]) h2 rfl
  have hxx : FP.dcmp x x = some .eq := FP.Core.dcmp_refl (ma_nan hx)
  have e0 : Op.cmpValue (FP.dcmp x x) CmpOp.l = 0 := ma_cv.mpr hxx
  obtain ⟨k4, h4⟩ := ma_p17 (1, 8, [(0, .double x), (2, .double y)], []) h3 (ma_br (c := .eq) (off := 5) 8 true (decide_eq_true e0) rfl)
  obtain ⟨k5, h5⟩ := ma_p0 (0, 9, [(0, .double x), (2, .double y)], [.double x]) h4 rfl
  obtain ⟨k6, h6⟩ := ma_p0 (0, 10, [(0, .double x), (2, .double y)], [.double FP.dconst0, .double x]) h5 rfl
  obtain ⟨k7, h7⟩ := ma_p0 (0, 11, [(0, .double x), (2, .double y)], [.int (Op.cmpValue (FP.dcmp x FP.dconst0) CmpOp.l)]) h6 rfl
  have ez : FP.dconst0 = 0 := rfl
  by_cases c1 : Op.cmpValue (FP.dcmp x FP.dconst0) CmpOp.l = 0
  · obtain ⟨k8, h8⟩ := ma_p17 (0, 14, [(0, .double x), (2, .double y)], []) h7 (ma_br (c := .ne) (off := 22) 33 false (by unfold ri_cnd; rw [decide_eq_true c1]; rfl) rfl)
    obtain ⟨k9, h9⟩ := ma_p0 (0, 15, [(0, .double x), (2, .double y)], [.double y]) h8 rfl
    obtain ⟨k10, h10⟩ := ma_p0 (0, 16, [(0, .double x), (2, .double y)], [.double FP.dconst0, .double y]) h9 rfl
    obtain ⟨k11, h11⟩ := ma_p0 (0, 17, [(0, .double x), (2, .double y)], [.int (Op.cmpValue (FP.dcmp y FP.dconst0) CmpOp.l)]) h10 rfl
    by_cases c2 : Op.cmpValue (FP.dcmp y FP.dconst0) CmpOp.l = 0
    · obtain ⟨k12, h12⟩ := ma_p17 (0, 20, [(0, .double x), (2, .double y)], []) h11 (ma_br (c := .ne) (off := 16) 33 false (by unfold ri_cnd; rw [decide_eq_true c2]; rfl) rfl)
      obtain ⟨k13, h13⟩ := ma_p0 (0, 21, [(0, .double x), (2, .double y)], [.double x]) h12 rfl
      obtain ⟨k14, z14, e14, h14⟩ := ma_p29 h13
      have e14' : ri_ok (Nat.ble 1 d && Nat.ble (0 + 15) bud) (some (3, ([.long x.toInt64] : List Value))) = some z14 := e14
      cases (Option.some.inj (ri_ok_eq e14').2)
      obtain ⟨k15, h15⟩ := ma_p3 h14
      obtain ⟨k16, h16⟩ := ma_p0 (0, 28, [(0, .double x), (2, .double y)], [.int (lg_cmp x.toInt64 (-9223372036854775808))]) h15 rfl
      have x0 : FP.dcmp x 0 = some .eq := by rw [← ez]; exact ma_cv.mp c1
      have y0 : FP.dcmp y 0 = some .eq := by rw [← ez]; exact ma_cv.mp c2
      by_cases c3 : lg_cmp x.toInt64 (-9223372036854775808) = 0
      · obtain ⟨k17, h17⟩ := ma_p17 (0, 31, [(0, .double x), (2, .double y)], []) h16 (ma_br (c := .ne) (off := 5) 33 false (by unfold ri_cnd; rw [decide_eq_true c3]; rfl) rfl)
        obtain ⟨k18, h18⟩ := ma_p0 (0, 32, [(0, .double x), (2, .double y)], [.double y]) h17 rfl
        have h19 := ma_p16 h18
        rcases FP.Core.zero_bits x0 with q | q
        · exact absurd c3 (by subst q; decide +kernel)
        · rw [ma_max_z q y0]; exact h19
      · obtain ⟨k17, h17⟩ := ma_p17 (1, 33, [(0, .double x), (2, .double y)], []) h16 (ma_br (c := .ne) (off := 5) 33 true (by unfold ri_cnd; rw [decide_eq_false c3]; rfl) rfl)
        rw [ma_max_lt hx hy (fun ⟨_, _, q⟩ => c3 (by subst q; decide +kernel))]
        exact ma_max_fin h17
    · obtain ⟨k12, h12⟩ := ma_p17 (1, 33, [(0, .double x), (2, .double y)], []) h11 (ma_br (c := .ne) (off := 16) 33 true (by unfold ri_cnd; rw [decide_eq_false c2]; rfl) rfl)
      rw [ma_max_lt hx hy (fun ⟨_, q, _⟩ => c2 (ma_cv.mpr (by rw [ez]; exact q)))]
      exact ma_max_fin h12
  · obtain ⟨k8, h8⟩ := ma_p17 (1, 33, [(0, .double x), (2, .double y)], []) h7 (ma_br (c := .ne) (off := 22) 33 true (by unfold ri_cnd; rw [decide_eq_false c1]; rfl) rfl)
    rw [ma_max_lt hx hy (fun ⟨q, _, _⟩ => c1 (ma_cv.mpr (by rw [ez]; exact q)))]
    exact ma_max_fin h8
theorem ma_F_run (n : Nat) : ma_F (ri_run Ms ty df tyL exl xs L al orc n) := by
  intro d bud M2 As w fr o2 hM hA hlen h
  obtain ⟨nm, cc, mL, ret, np, ops⟩ := M2
  rcases ma_is_eq hM with ⟨e1, e2, e3, e4⟩ | ⟨e1, e2, e3, e4⟩
  · dsimp only at e1 e2 e3 e4 hlen h
    subst e4
    rw [e3] at hlen
    match As, hA, hlen, h with
    | [v], hA, _, h =>
      have hv : ri_num v = true := List.all_eq_true.mp hA v List.mem_cons_self
      cases v with
      | double x => exact ⟨_, Or.inl ⟨e1, e2, x, rfl, hv, rfl⟩, ma_abs_run h⟩
      | _ => cases hv
  · dsimp only at e1 e2 e3 e4 hlen h
    subst e4
    rw [e3] at hlen
    match As, hA, hlen, h with
    | [v, u], hA, _, h =>
      have hv : ri_num v = true := List.all_eq_true.mp hA v List.mem_cons_self
      have hu : ri_num u = true := List.all_eq_true.mp hA u (List.mem_cons_of_mem _ List.mem_cons_self)
      cases v with
      | double x => cases u with
        | double y => exact ⟨_, Or.inr ⟨e1, e2, x, y, rfl, hv, hu, rfl⟩, ma_max_run hv hu h⟩
        | _ => cases hu
      | _ => cases hv
end MAR
