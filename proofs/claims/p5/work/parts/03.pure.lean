/-! ===== the reckoner, part 1: values, locals, instructions that touch no heap ===== -/
/-- a value whose references are numbers of cells of a world, said of the machine: the number's address; a float's code k is an int that isn't known: number k of those -/
def ri_v (ad : Nat → Nat) (v : Value) : Value := match v with
  | .ref k => .ref (ad k)
  | .int x => .int x
  | .long x => .long x
  | .float k => .int (Int32.ofNat (ad (2000000 + k.toNat)))
  | .double x => .double x
  | .null => .null
  | .retAddr k => (match ad (3000000 + k) with
    | 0 => .null
    | a + 1 => .ref a)
theorem ri_v_cat (ad : Nat → Nat) (v : Value) : (ri_v ad v).category = v.category := by
  cases v with
  | retAddr k =>
    show (match ad (3000000 + k) with
    | 0 => Value.null
    | a + 1 => .ref a).category = 1
    cases ad (3000000 + k) <;> rfl
  | _ => rfl
/-- an int, known or not -/
def ri_isI (v : Value) : Bool := match v with
  | .int _ => true
  | .float _ => true
  | _ => false
def ri_I (ad : Nat → Nat) (v : Value) : Int32 := match v with
  | .int x => x
  | .float k => Int32.ofNat (ad (2000000 + k.toNat))
  | _ => 0
theorem ri_isI_v {ad : Nat → Nat} {v : Value} (h : ri_isI v = true) : ri_v ad v = .int (ri_I ad v) := by
  cases v <;> first | rfl | cases h
abbrev ri_L : Type := List (Nat × Value)
def ri_lr (ad : Nat → Nat) (lv : ri_L) : ri_L := lv.map (fun q => (q.1, ri_v ad q.2))
noncomputable def ri_get (i : Nat) (lv : ri_L) : Option Value := List.rec none (fun q _ ih => @Bool.rec (fun _ => Option Value) ih (some q.2) (Nat.beq q.1 i)) lv
theorem ri_get_mem {i : Nat} {v : Value} : ∀ {lv : ri_L}, ri_get i lv = some v → (i, v) ∈ lv
  | [], h => by cases h
  | (j, u) :: r, h => by
    have h2 : (@Bool.rec (fun _ => Option Value) (ri_get i r) (some u) (Nat.beq j i)) = some v := h
    cases hb : Nat.beq j i with
    | true =>
      rw [hb] at h2
      have e1 : j = i := Nat.eq_of_beq_eq_true hb
      have e2 : u = v := Option.some.inj h2
      subst e1; subst e2
      exact List.mem_cons_self
    | false =>
      rw [hb] at h2
      exact List.mem_cons_of_mem _ (ri_get_mem h2)
theorem ri_at {ad : Nat → Nat} {ls : Array Slot} {nL i : Nat} {lv : ri_L} {v : Value} (hl : lv_has ls nL (ri_lr ad lv)) (h : ri_get i lv = some v) : ls[i]? = some (.val (ri_v ad v)) :=
  hl.2.2 (i, ri_v ad v) (List.mem_map.mpr ⟨(i, v), ri_get_mem h, rfl⟩)
def ri_f1 (i : Nat) (q : Nat × Value) : Bool := !(q.1 == i) && !(q.1 + 1 == i && q.2.category == 2)
def ri_f2 (i : Nat) (q : Nat × Value) : Bool := !(q.1 == i) && (!(q.1 == i + 1) && !(q.1 + 1 == i && q.2.category == 2))
def ri_s1 (i : Nat) (v : Value) (lv : ri_L) : ri_L := (i, v) :: lv.filter (ri_f1 i)
def ri_s2 (i : Nat) (v : Value) (lv : ri_L) : ri_L := (i, v) :: lv.filter (ri_f2 i)
theorem ri_filter {ad : Nat → Nat} {f : Nat × Value → Bool} (hf : ∀ q : Nat × Value, f (q.1, ri_v ad q.2) = f q) : ∀ lv : ri_L, (ri_lr ad lv).filter f = ri_lr ad (lv.filter f)
  | [] => rfl
  | q :: r => by
    show ((q.1, ri_v ad q.2) :: ri_lr ad r).filter f = ri_lr ad ((q :: r).filter f)
    rw [List.filter_cons, List.filter_cons, hf q, ri_filter hf r]
    cases f q <;> rfl
theorem ri_s1_eq {ad : Nat → Nat} {i : Nat} {v : Value} {lv : ri_L} : (i, ri_v ad v) :: (ri_lr ad lv).filter (fun q => !(q.1 == i) && !(q.1 + 1 == i && q.2.category == 2)) = ri_lr ad (ri_s1 i v lv) := by
  have h := ri_filter (ad := ad) (f := ri_f1 i) (fun q => by unfold ri_f1; rw [ri_v_cat]) lv
  exact congrArg (List.cons (i, ri_v ad v)) h
theorem ri_s2_eq {ad : Nat → Nat} {i : Nat} {v : Value} {lv : ri_L} : (i, ri_v ad v) :: (ri_lr ad lv).filter (fun q => !(q.1 == i) && (!(q.1 == i + 1) && !(q.1 + 1 == i && q.2.category == 2))) = ri_lr ad (ri_s2 i v lv) := by
  have h := ri_filter (ad := ad) (f := ri_f2 i) (fun q => by unfold ri_f2; rw [ri_v_cat]) lv
  exact congrArg (List.cons (i, ri_v ad v)) h
/-! what stands on top of the stack -/
section RIP
variable {ρ : Type}

def ri_i1 (st : List Value) (f : Int32 → List Value → Option ρ) : Option ρ := match st with
  | .int x :: r => f x r
  | _ => none
theorem ri_i1_eq {st : List Value} {f : Int32 → List Value → Option ρ} {o : ρ} (h : ri_i1 st f = some o) : ∃ (x : Int32) (r : List Value), st = .int x :: r ∧ f x r = some o := by
  unfold ri_i1 at h
  split at h
  · exact ⟨_, _, rfl, h⟩
  · cases h
def ri_i2 (st : List Value) (f : Int32 → Int32 → List Value → Option ρ) : Option ρ := match st with
  | .int y :: .int x :: r => f y x r
  | _ => none
theorem ri_i2_eq {st : List Value} {f : Int32 → Int32 → List Value → Option ρ} {o : ρ} (h : ri_i2 st f = some o) : ∃ (y : Int32) (x : Int32) (r : List Value), st = .int y :: .int x :: r ∧ f y x r = some o := by
  unfold ri_i2 at h
  split at h
  · exact ⟨_, _, _, rfl, h⟩
  · cases h
def ri_l1 (st : List Value) (f : Int64 → List Value → Option ρ) : Option ρ := match st with
  | .long x :: r => f x r
  | _ => none
theorem ri_l1_eq {st : List Value} {f : Int64 → List Value → Option ρ} {o : ρ} (h : ri_l1 st f = some o) : ∃ (x : Int64) (r : List Value), st = .long x :: r ∧ f x r = some o := by
  unfold ri_l1 at h
  split at h
  · exact ⟨_, _, rfl, h⟩
  · cases h
def ri_l2 (st : List Value) (f : Int64 → Int64 → List Value → Option ρ) : Option ρ := match st with
  | .long y :: .long x :: r => f y x r
  | _ => none
theorem ri_l2_eq {st : List Value} {f : Int64 → Int64 → List Value → Option ρ} {o : ρ} (h : ri_l2 st f = some o) : ∃ (y : Int64) (x : Int64) (r : List Value), st = .long y :: .long x :: r ∧ f y x r = some o := by
  unfold ri_l2 at h
  split at h
  · exact ⟨_, _, _, rfl, h⟩
  · cases h
def ri_il (st : List Value) (f : Int32 → Int64 → List Value → Option ρ) : Option ρ := match st with
  | .int y :: .long x :: r => f y x r
  | _ => none
theorem ri_il_eq {st : List Value} {f : Int32 → Int64 → List Value → Option ρ} {o : ρ} (h : ri_il st f = some o) : ∃ (y : Int32) (x : Int64) (r : List Value), st = .int y :: .long x :: r ∧ f y x r = some o := by
  unfold ri_il at h
  split at h
  · exact ⟨_, _, _, rfl, h⟩
  · cases h
def ri_d1 (st : List Value) (f : UInt64 → List Value → Option ρ) : Option ρ := match st with
  | .double x :: r => f x r
  | _ => none
theorem ri_d1_eq {st : List Value} {f : UInt64 → List Value → Option ρ} {o : ρ} (h : ri_d1 st f = some o) : ∃ (x : UInt64) (r : List Value), st = .double x :: r ∧ f x r = some o := by
  unfold ri_d1 at h
  split at h
  · exact ⟨_, _, rfl, h⟩
  · cases h
def ri_d2 (st : List Value) (f : UInt64 → UInt64 → List Value → Option ρ) : Option ρ := match st with
  | .double y :: .double x :: r => f y x r
  | _ => none
theorem ri_d2_eq {st : List Value} {f : UInt64 → UInt64 → List Value → Option ρ} {o : ρ} (h : ri_d2 st f = some o) : ∃ (y : UInt64) (x : UInt64) (r : List Value), st = .double y :: .double x :: r ∧ f y x r = some o := by
  unfold ri_d2 at h
  split at h
  · exact ⟨_, _, _, rfl, h⟩
  · cases h
def ri_c1 (st : List Value) (f : Value → List Value → Option ρ) : Option ρ := match st with
  | v :: r => bif Nat.beq v.category 1 then f v r else none
  | _ => none
theorem ri_c1_eq {st : List Value} {f : Value → List Value → Option ρ} {o : ρ} (h : ri_c1 st f = some o) : ∃ (v : Value) (r : List Value), st = v :: r ∧ v.category = 1 ∧ f v r = some o := by
  unfold ri_c1 at h
  split at h
  · rename_i v r
    cases hb : Nat.beq v.category 1 with
    | true => rw [hb] at h; exact ⟨v, r, rfl, Nat.eq_of_beq_eq_true hb, h⟩
    | false => rw [hb] at h; cases h
  · cases h
def ri_c2 (st : List Value) (f : Value → List Value → Option ρ) : Option ρ := match st with
  | v :: r => bif Nat.beq v.category 2 then f v r else none
  | _ => none
theorem ri_c2_eq {st : List Value} {f : Value → List Value → Option ρ} {o : ρ} (h : ri_c2 st f = some o) : ∃ (v : Value) (r : List Value), st = v :: r ∧ v.category = 2 ∧ f v r = some o := by
  unfold ri_c2 at h
  split at h
  · rename_i v r
    cases hb : Nat.beq v.category 2 with
    | true => rw [hb] at h; exact ⟨v, r, rfl, Nat.eq_of_beq_eq_true hb, h⟩
    | false => rw [hb] at h; cases h
  · cases h
/-- what a place of the frame holds: an int, a long, a double, a reference or null -/
def ri_gi (v : Option Value) (f : Int32 → Option ρ) : Option ρ := match v with
  | some (.int x) => f x
  | _ => none
theorem ri_gi_eq {v : Option Value} {f : Int32 → Option ρ} {o : ρ} (h : ri_gi v f = some o) : ∃ x : Int32, v = some (.int x) ∧ f x = some o := by
  unfold ri_gi at h
  split at h
  · exact ⟨_, rfl, h⟩
  · cases h
def ri_gl (v : Option Value) (f : Int64 → Option ρ) : Option ρ := match v with
  | some (.long x) => f x
  | _ => none
theorem ri_gl_eq {v : Option Value} {f : Int64 → Option ρ} {o : ρ} (h : ri_gl v f = some o) : ∃ x : Int64, v = some (.long x) ∧ f x = some o := by
  unfold ri_gl at h
  split at h
  · exact ⟨_, rfl, h⟩
  · cases h
def ri_gd (v : Option Value) (f : UInt64 → Option ρ) : Option ρ := match v with
  | some (.double x) => f x
  | _ => none
theorem ri_gd_eq {v : Option Value} {f : UInt64 → Option ρ} {o : ρ} (h : ri_gd v f = some o) : ∃ x : UInt64, v = some (.double x) ∧ f x = some o := by
  unfold ri_gd at h
  split at h
  · exact ⟨_, rfl, h⟩
  · cases h
/-- a reference (kr) or null (kn) -/
def ri_gr (v : Option Value) (kr : Nat → Option ρ) (kn : Option ρ) : Option ρ := match v with
  | some (.ref x) => kr x
  | some .null => kn
  | _ => none
theorem ri_gr_eq {v : Option Value} {kr : Nat → Option ρ} {kn : Option ρ} {o : ρ} (h : ri_gr v kr kn = some o) : (∃ x : Nat, v = some (.ref x) ∧ kr x = some o) ∨ (v = some .null ∧ kn = some o) := by
  unfold ri_gr at h
  split at h
  · exact Or.inl ⟨_, rfl, h⟩
  · exact Or.inr ⟨rfl, h⟩
  · cases h
def ri_r1 (st : List Value) (kr : Nat → List Value → Option ρ) (kn : List Value → Option ρ) : Option ρ := match st with
  | .ref x :: r => kr x r
  | .null :: r => kn r
  | _ => none
theorem ri_r1_eq {st : List Value} {kr : Nat → List Value → Option ρ} {kn : List Value → Option ρ} {o : ρ} (h : ri_r1 st kr kn = some o) : (∃ (x : Nat) (r : List Value), st = .ref x :: r ∧ kr x r = some o) ∨ (∃ r : List Value, st = .null :: r ∧ kn r = some o) := by
  unfold ri_r1 at h
  split at h
  · exact Or.inl ⟨_, _, rfl, h⟩
  · exact Or.inr ⟨_, rfl, h⟩
  · cases h
def ri_gv (v : Option Value) (f : Value → Option ρ) : Option ρ := match v with
  | some u => bif ri_isI u then f u else none
  | none => none
theorem ri_gv_eq {v : Option Value} {f : Value → Option ρ} {o : ρ} (h : ri_gv v f = some o) : ∃ u : Value, v = some u ∧ ri_isI u = true ∧ f u = some o := by
  cases v with
  | none => cases h
  | some u =>
    have h2 : (bif ri_isI u then f u else none) = some o := h
    cases hb : ri_isI u with
    | true => rw [hb] at h2; exact ⟨u, rfl, hb, h2⟩
    | false => rw [hb] at h2; cases h2
def ri_v1 (st : List Value) (f : Value → List Value → Option ρ) : Option ρ := match st with
  | u :: r => bif ri_isI u then f u r else none
  | [] => none
theorem ri_v1_eq {st : List Value} {f : Value → List Value → Option ρ} {o : ρ} (h : ri_v1 st f = some o) : ∃ (u : Value) (r : List Value), st = u :: r ∧ ri_isI u = true ∧ f u r = some o := by
  cases st with
  | nil => cases h
  | cons u r =>
    have h2 : (bif ri_isI u then f u r else none) = some o := h
    cases hb : ri_isI u with
    | true => rw [hb] at h2; exact ⟨u, r, rfl, hb, h2⟩
    | false => rw [hb] at h2; cases h2
noncomputable def ri_ok (b : Bool) (f : Option ρ) : Option ρ := @Bool.rec (fun _ => Option ρ) none f b
theorem ri_ok_eq {b : Bool} {f : Option ρ} {o : ρ} (h : ri_ok b f = some o) : b = true ∧ f = some o := by
  cases b with
  | true => exact ⟨rfl, h⟩
  | false => cases h
end RIP
/-- what an instruction leaves: which target (0: the next one), its pc, locals, stack -/
abbrev ri_R : Type := Nat × Nat × ri_L × List Value
def ri_cnd (c : Jvm.ClassFile.Cond) (x y : Int32) : Bool := match c with
  | .eq => decide (x = y)
  | .ne => !decide (x = y)
  | .lt => decide (x < y)
  | .ge => decide (y ≤ x)
  | .gt => decide (y < x)
  | .le => decide (x ≤ y)
def ri_br (b : Bool) (pc : Nat) (off : Int) (nx : Nat) (lv : ri_L) (r : List Value) : Option ri_R := match (pc : Int) + off with
  | .ofNat t => bif b then some (1, t, lv, r) else some (0, nx, lv, r)
  | .negSucc _ => none
theorem ri_br_eq {b : Bool} {pc : Nat} {off : Int} {nx : Nat} {lv : ri_L} {r : List Value} {z : ri_R} (h : ri_br b pc off nx lv r = some z) : ∃ t : Nat, (pc : Int) + off = (t : Int) ∧ (b = true ∧ z.2.1 = t ∧ z.2.2.1 = lv ∧ z.2.2.2 = r ∨ b = false ∧ z.2.1 = nx ∧ z.2.2.1 = lv ∧ z.2.2.2 = r) := by
  unfold ri_br at h
  split at h
  · rename_i t ht
    refine ⟨t, ht, ?_⟩
    cases b with
    | true => cases h; exact Or.inl ⟨rfl, rfl, rfl, rfl⟩
    | false => cases h; exact Or.inr ⟨rfl, rfl, rfl, rfl⟩
  · cases h
def ri_tg (pc : Nat) (off : Int) (j : Nat) (lv : ri_L) (r : List Value) : Option ri_R := match (pc : Int) + off with
  | .ofNat t => some (j, t, lv, r)
  | .negSucc _ => none
theorem ri_tg_eq {pc : Nat} {off : Int} {j : Nat} {lv : ri_L} {r : List Value} {z : ri_R} (h : ri_tg pc off j lv r = some z) : ∃ t : Nat, (pc : Int) + off = (t : Int) ∧ z = (j, t, lv, r) := by
  unfold ri_tg at h
  split at h
  · rename_i t ht
    exact ⟨t, ht, (Option.some.inj h).symm⟩
  · cases h

/-- how long an instruction is (0: it says so itself) -/
def ri_len (i : Instr) : Nat := match i with
  | .bipush _ | .iload _ | .lload _ | .dload _ | .aload _ | .istore _ | .lstore _ | .dstore _ | .astore _ | .ldc _ | .newarray _ => 2
  | .sipush _ | .ldc_w _ | .ldc2_w _ | .iinc _ _ | .ifCond _ _ | .if_icmp _ _ | .if_acmp _ _ | .ifnull _ | .ifnonnull _ | .goto _ | .getfield _ | .putfield _ | .getstatic _ | .putstatic _ | .invokevirtual _ | .invokespecial _ | .invokestatic _ | .new _ | .anewarray _ | .checkcast _ | .instanceof _ => 3
  | .multianewarray _ _ => 4
  | .tableswitch _ _ _ _ | .lookupswitch _ _ => 0
  | _ => 1
def ri_n64 (x : UInt64) : Bool := decide (x &&& 9223372036854775807 ≤ 9218868437227405312)
theorem ri_nz {a b : Int32} (h : (!decide (a = b)) = true) : ¬ a = b := by
  intro e
  rw [decide_eq_true e] at h
  cases h
theorem ri_nzl {a b : Int64} (h : (!decide (a = b)) = true) : ¬ a = b := by
  intro e
  rw [decide_eq_true e] at h
  cases h
theorem ri_n64_ok {x : UInt64} (h : ri_n64 x = true) : vf_n64 x := by
  unfold ri_n64 at h
  unfold vf_n64
  exact of_decide_eq_true h

/-- an instruction that touches no heap: nL how many places the frame has -/
noncomputable def ri_pure (nL : Nat) (i : Instr) (pc : Nat) (lv : ri_L) (st : List Value) : Option ri_R := match i with
  | .iconst n => some (0, pc + 1, lv, .int (Int32.ofInt n) :: st)
  | .bipush n => some (0, pc + 2, lv, .int (Int8.ofInt n).toInt32 :: st)
  | .sipush n => some (0, pc + 3, lv, .int (Int16.ofInt n).toInt32 :: st)
  | .lconst n => some (0, pc + 1, lv, .long (Int64.ofNat (n : Nat)) :: st)
  | .aconst_null => some (0, pc + 1, lv, .null :: st)
  | .dconst n => ri_ok (Nat.beq n.val 0) (some (0, pc + 1, lv, .double FP.dconst0 :: st))
  | .iload i => ri_gv (ri_get i lv) (fun v => some (0, pc + 2, lv, v :: st))
  | .iload_n i => ri_gv (ri_get i.val lv) (fun v => some (0, pc + 1, lv, v :: st))
  | .istore i => ri_v1 st (fun v r => ri_ok (Nat.blt (i) nL) (some (0, pc + 2, ri_s1 i v lv, r)))
  | .istore_n i => ri_v1 st (fun v r => ri_ok (Nat.blt (i.val) nL) (some (0, pc + 1, ri_s1 i.val v lv, r)))
  | .lload i => ri_gl (ri_get i lv) (fun x => some (0, pc + 2, lv, .long x :: st))
  | .lload_n i => ri_gl (ri_get i.val lv) (fun x => some (0, pc + 1, lv, .long x :: st))
  | .dload i => ri_gd (ri_get i lv) (fun x => some (0, pc + 2, lv, .double x :: st))
  | .dload_n i => ri_gd (ri_get i.val lv) (fun x => some (0, pc + 1, lv, .double x :: st))
  | .aload i => ri_gr (ri_get i lv) (fun x => some (0, pc + 2, lv, .ref x :: st)) (some (0, pc + 2, lv, .null :: st))
  | .aload_n i => ri_gr (ri_get i.val lv) (fun x => some (0, pc + 1, lv, .ref x :: st)) (some (0, pc + 1, lv, .null :: st))
  | .lstore i => ri_l1 st (fun x r => ri_ok (Nat.blt (i + 1) nL) (some (0, pc + 2, ri_s2 i (.long x) lv, r)))
  | .lstore_n i => ri_l1 st (fun x r => ri_ok (Nat.blt (i.val + 1) nL) (some (0, pc + 1, ri_s2 i.val (.long x) lv, r)))
  | .dstore i => ri_d1 st (fun x r => ri_ok (Nat.blt (i + 1) nL) (some (0, pc + 2, ri_s2 i (.double x) lv, r)))
  | .dstore_n i => ri_d1 st (fun x r => ri_ok (Nat.blt (i.val + 1) nL) (some (0, pc + 1, ri_s2 i.val (.double x) lv, r)))
  | .astore i => ri_r1 st (fun x r => ri_ok (Nat.blt i nL) (some (0, pc + 2, ri_s1 i (.ref x) lv, r))) (fun r => ri_ok (Nat.blt i nL) (some (0, pc + 2, ri_s1 i .null lv, r)))
  | .astore_n i => ri_r1 st (fun x r => ri_ok (Nat.blt i.val nL) (some (0, pc + 1, ri_s1 i.val (.ref x) lv, r))) (fun r => ri_ok (Nat.blt i.val nL) (some (0, pc + 1, ri_s1 i.val .null lv, r)))
  | .iinc i n => ri_gi (ri_get i lv) (fun x => ri_ok (Nat.blt i nL) (some (0, pc + 3, ri_s1 i (.int (x + Int32.ofInt n)) lv, st)))
  | .iadd => ri_i2 st (fun y x r => some (0, pc + 1, lv, .int (x + y) :: r))
  | .isub => ri_i2 st (fun y x r => some (0, pc + 1, lv, .int (x - y) :: r))
  | .imul => ri_i2 st (fun y x r => some (0, pc + 1, lv, .int (x * y) :: r))
  | .iand => ri_i2 st (fun y x r => some (0, pc + 1, lv, .int (x &&& y) :: r))
  | .ior => ri_i2 st (fun y x r => some (0, pc + 1, lv, .int (x ||| y) :: r))
  | .ixor => ri_i2 st (fun y x r => some (0, pc + 1, lv, .int (x ^^^ y) :: r))
  | .ishl => ri_i2 st (fun y x r => some (0, pc + 1, lv, .int (x <<< (y &&& 31)) :: r))
  | .ishr => ri_i2 st (fun y x r => some (0, pc + 1, lv, .int (x >>> (y &&& 31)) :: r))
  | .iushr => ri_i2 st (fun y x r => some (0, pc + 1, lv, .int ((x.toUInt32 >>> (y.toUInt32 &&& Int32.toUInt32 31)).toInt32) :: r))
  | .ladd => ri_l2 st (fun y x r => some (0, pc + 1, lv, .long (x + y) :: r))
  | .lsub => ri_l2 st (fun y x r => some (0, pc + 1, lv, .long (x - y) :: r))
  | .lmul => ri_l2 st (fun y x r => some (0, pc + 1, lv, .long (x * y) :: r))
  | .land => ri_l2 st (fun y x r => some (0, pc + 1, lv, .long (x &&& y) :: r))
  | .lor => ri_l2 st (fun y x r => some (0, pc + 1, lv, .long (x ||| y) :: r))
  | .lxor => ri_l2 st (fun y x r => some (0, pc + 1, lv, .long (x ^^^ y) :: r))
  | .lshl => ri_il st (fun y x r => some (0, pc + 1, lv, .long (x <<< (y.toInt64 &&& 63)) :: r))
  | .lshr => ri_il st (fun y x r => some (0, pc + 1, lv, .long (x >>> (y.toInt64 &&& 63)) :: r))
  | .lushr => ri_il st (fun y x r => some (0, pc + 1, lv, .long ((x.toUInt64 >>> (y.toInt64.toUInt64 &&& Int64.toUInt64 63)).toInt64) :: r))
  | .idiv => ri_i2 st (fun y x r => ri_ok (!decide (y = 0)) (some (0, pc + 1, lv, .int (x / y) :: r)))
  | .irem => ri_i2 st (fun y x r => ri_ok (!decide (y = 0)) (some (0, pc + 1, lv, .int (x - x / y * y) :: r)))
  | .ldiv => ri_l2 st (fun y x r => ri_ok (!decide (y = 0)) (some (0, pc + 1, lv, .long (x / y) :: r)))
  | .lrem => ri_l2 st (fun y x r => ri_ok (!decide (y = 0)) (some (0, pc + 1, lv, .long (x - x / y * y) :: r)))
  | .ineg => ri_i1 st (fun x r => some (0, pc + 1, lv, .int (-x) :: r))
  | .lneg => ri_l1 st (fun x r => some (0, pc + 1, lv, .long (-x) :: r))
  | .i2l => ri_i1 st (fun x r => some (0, pc + 1, lv, .long (x.toInt64) :: r))
  | .l2i => ri_l1 st (fun x r => some (0, pc + 1, lv, .int (x.toInt32) :: r))
  | .i2b => ri_i1 st (fun x r => some (0, pc + 1, lv, .int (x.toInt8.toInt32) :: r))
  | .i2s => ri_i1 st (fun x r => some (0, pc + 1, lv, .int (x.toInt16.toInt32) :: r))
  | .i2c => ri_i1 st (fun x r => some (0, pc + 1, lv, .int ((x.toUInt32 % 65536).toInt32) :: r))
  | .i2d => ri_i1 st (fun x r => some (0, pc + 1, lv, .double (FP.i2d x) :: r))
  | .l2d => ri_l1 st (fun x r => some (0, pc + 1, lv, .double (FP.l2d x) :: r))
  | .d2i => ri_d1 st (fun x r => some (0, pc + 1, lv, .int (FP.d2i x) :: r))
  | .d2l => ri_d1 st (fun x r => some (0, pc + 1, lv, .long (FP.d2l x) :: r))
  | .dneg => ri_d1 st (fun x r => some (0, pc + 1, lv, .double (FP.dneg x) :: r))
  | .dadd => ri_d2 st (fun y x r => ri_ok (ri_n64 (FP.dadd x y)) (some (0, pc + 1, lv, .double (FP.dadd x y) :: r)))
  | .dsub => ri_d2 st (fun y x r => ri_ok (ri_n64 (FP.dsub x y)) (some (0, pc + 1, lv, .double (FP.dsub x y) :: r)))
  | .dmul => ri_d2 st (fun y x r => ri_ok (ri_n64 (FP.dmul x y)) (some (0, pc + 1, lv, .double (FP.dmul x y) :: r)))
  | .ddiv => ri_d2 st (fun y x r => ri_ok (ri_n64 (FP.ddiv x y)) (some (0, pc + 1, lv, .double (FP.ddiv x y) :: r)))
  | .dcmp op => ri_d2 st (fun y x r => some (0, pc + 1, lv, .int (Op.cmpValue (FP.dcmp x y) op) :: r))
  | .lcmp => ri_l2 st (fun y x r => some (0, pc + 1, lv, .int (lg_cmp x y) :: r))
  | .dup => ri_c1 st (fun v r => some (0, pc + 1, lv, v :: v :: r))
  | .pop => ri_c1 st (fun v r => some (0, pc + 1, lv, r))
  | .dup_x1 => ri_c1 st (fun v r => ri_c1 r (fun u r => some (0, pc + 1, lv, v :: u :: v :: r)))
  | .dup2 => (match st with | v :: r => bif Nat.beq v.category 2 then some (0, pc + 1, lv, v :: v :: r) else ri_c1 (v :: r) (fun v r => ri_c1 r (fun u r => some (0, pc + 1, lv, v :: u :: v :: u :: r))) | [] => none)
  | .goto off => ri_tg pc off 1 lv st
  | .ifCond c9 off => ri_i1 st (fun x r => ri_br (ri_cnd c9 x 0) pc off (pc + 3) lv r)
  | .if_icmp c9 off => ri_i2 st (fun y x r => ri_br (ri_cnd c9 x y) pc off (pc + 3) lv r)
  | .ifnonnull off => ri_r1 st (fun _ r => ri_tg pc off 1 lv r) (fun r => some (0, pc + 3, lv, r))
  | .ifnull off => ri_r1 st (fun _ r => some (0, pc + 3, lv, r)) (fun r => ri_tg pc off 1 lv r)
  | .tableswitch dflt lo hi offs => ri_i1 st (fun x r => bif decide (x.toInt < lo) || decide (hi < x.toInt) then ri_tg pc dflt 1 lv r else (match offs[(x.toInt - lo).toNat]? with | some off => ri_tg pc off ((x.toInt - lo).toNat + 2) lv r | none => none))
  | .lookupswitch dflt ps => none
  | _ => none
section RIW
variable {p : Program} {l : Launch} {e : Env} {R : Room} {s : State} {m : MethodId} {args : Array Value} {below : List Frame} {meth : Method} {c : Code} {H : Heap} {locs : List Loc} {cells slots : Nat} {Q : State → Prop}
set_option maxHeartbeats 4000000 in
theorem ri_pure_ok {cc : ByteArray} {ad : Nat → Nat} {nL : Nat} {i : Instr} {len pc : Nat} {lv : ri_L} {st : List Value} {j p' : Nat} {lv' : ri_L} {st' : List Value} {ls : Array Slot} (hx : p.tables.exec = Jvm.exec) (hb : c.code = cc)
    (hd : decode cc pc = .ok (i, len)) (hlen : ri_len i = 0 ∨ ri_len i = len) (hl : lv_has ls nL (ri_lr ad lv)) (h : ri_pure nL i pc lv st = some (j, p', lv', st'))
    (k : ∀ ls' : Array Slot, lv_has ls' nL (ri_lr ad lv') → W p l e R s m args below meth c H locs cells slots Q (F0 m p' ls' (st'.map (ri_v ad)))) : W p l e R s m args below meth c H locs cells slots Q (F0 m pc ls (st.map (ri_v ad))) := by
  cases i with
  | iconst n =>
    have hl9 : 1 = len := hlen.resolve_left (fun q => by cases q)
    subst hl9
    cases h; exact lv_iconst hx hb hd rfl (k ls hl)
  | bipush n =>
    have hl9 : 2 = len := hlen.resolve_left (fun q => by cases q)
    subst hl9
    cases h; exact lv_bipush hx hb hd rfl (k ls hl)
  | sipush n =>
    have hl9 : 3 = len := hlen.resolve_left (fun q => by cases q)
    subst hl9
    cases h; exact lv_sipush hx hb hd rfl (k ls hl)
  | lconst n =>
    have hl9 : 1 = len := hlen.resolve_left (fun q => by cases q)
    subst hl9
    cases h; exact lv_lconst hx hb hd rfl (k ls hl)
  | aconst_null =>
    have hl9 : 1 = len := hlen.resolve_left (by decide)
    subst hl9
    cases h; exact lv_null hx hb hd  (k ls hl)
  | dconst n =>
    have hl9 : 1 = len := hlen.resolve_left (fun q => by cases q)
    subst hl9
    obtain ⟨hn, h⟩ := ri_ok_eq h; cases h; have e9 : n = 0 := Fin.ext (Nat.eq_of_beq_eq_true hn); subst e9; exact lv_dconst0 hx hb hd (k ls hl)
  | iload i =>
    have hl9 : 2 = len := hlen.resolve_left (fun q => by cases q)
    subst hl9
    obtain ⟨v, hg, hv, h⟩ := ri_gv_eq h; cases h; have g1 := ri_at hl hg; rw [ri_isI_v hv] at g1; have k2 := k ls hl; rw [List.map_cons, ri_isI_v hv] at k2; exact lv_iload hx hb hd g1 k2
  | iload_n i =>
    have hl9 : 1 = len := hlen.resolve_left (fun q => by cases q)
    subst hl9
    obtain ⟨v, hg, hv, h⟩ := ri_gv_eq h; cases h; have g1 := ri_at hl hg; rw [ri_isI_v hv] at g1; have k2 := k ls hl; rw [List.map_cons, ri_isI_v hv] at k2; exact lv_iload_n hx hb hd rfl g1 k2
  | istore i =>
    have hl9 : 2 = len := hlen.resolve_left (fun q => by cases q)
    subst hl9
    obtain ⟨v, r, e1, hv, h1⟩ := ri_v1_eq h; obtain ⟨hn, h2⟩ := ri_ok_eq h1; clear h h1; subst e1; cases h2; rw [List.map_cons, ri_isI_v hv]; exact lv_istore hx hb hd hl (Nat.le_of_ble_eq_true hn) (by rw [← ri_isI_v hv]; exact ri_s1_eq (ad := ad) (v := v)) (fun ls' hl' => k ls' hl')
  | istore_n i =>
    have hl9 : 1 = len := hlen.resolve_left (fun q => by cases q)
    subst hl9
    obtain ⟨v, r, e1, hv, h1⟩ := ri_v1_eq h; obtain ⟨hn, h2⟩ := ri_ok_eq h1; clear h h1; subst e1; cases h2; rw [List.map_cons, ri_isI_v hv]; exact lv_istore_n hx hb hd rfl hl (Nat.le_of_ble_eq_true hn) (by rw [← ri_isI_v hv]; exact ri_s1_eq (ad := ad) (v := v)) (fun ls' hl' => k ls' hl')
  | lload i =>
    have hl9 : 2 = len := hlen.resolve_left (fun q => by cases q)
    subst hl9
    obtain ⟨x, hg, h⟩ := ri_gl_eq h; cases h; exact lv_lload hx hb hd (ri_at hl hg) (k ls hl)
  | lload_n i =>
    have hl9 : 1 = len := hlen.resolve_left (fun q => by cases q)
    subst hl9
    obtain ⟨x, hg, h⟩ := ri_gl_eq h; cases h; exact lv_lload_n hx hb hd rfl (ri_at hl hg) (k ls hl)
  | dload i =>
    have hl9 : 2 = len := hlen.resolve_left (fun q => by cases q)
    subst hl9
    obtain ⟨x, hg, h⟩ := ri_gd_eq h; cases h; exact lv_dload hx hb hd (ri_at hl hg) (k ls hl)
  | dload_n i =>
    have hl9 : 1 = len := hlen.resolve_left (fun q => by cases q)
    subst hl9
    obtain ⟨x, hg, h⟩ := ri_gd_eq h; cases h; exact lv_dload_n hx hb hd rfl (ri_at hl hg) (k ls hl)
  | aload i =>
    have hl9 : 2 = len := hlen.resolve_left (fun q => by cases q)
    subst hl9
    rcases ri_gr_eq h with ⟨x, hg, h⟩ | ⟨hg, h⟩
    · cases h; exact lv_aload hx hb hd (ri_at hl hg) (k ls hl)
    · cases h; exact lv_aloadN hx hb hd (ri_at hl hg) (k ls hl)
  | aload_n i =>
    have hl9 : 1 = len := hlen.resolve_left (fun q => by cases q)
    subst hl9
    rcases ri_gr_eq h with ⟨x, hg, h⟩ | ⟨hg, h⟩
    · cases h; exact lv_aload_n hx hb hd rfl (ri_at hl hg) (k ls hl)
    · cases h; exact lv_aload_nN hx hb hd rfl (ri_at hl hg) (k ls hl)
  | lstore i =>
    have hl9 : 2 = len := hlen.resolve_left (fun q => by cases q)
    subst hl9
    obtain ⟨x, r, rfl, h⟩ := ri_l1_eq h; obtain ⟨hn, h⟩ := ri_ok_eq h; cases h; exact lv_lstore hx hb hd hl (Nat.le_of_ble_eq_true hn) (ri_s2_eq (ad := ad) (v := .long x)) (fun ls' hl' => k ls' hl')
  | lstore_n i =>
    have hl9 : 1 = len := hlen.resolve_left (fun q => by cases q)
    subst hl9
    obtain ⟨x, r, rfl, h⟩ := ri_l1_eq h; obtain ⟨hn, h⟩ := ri_ok_eq h; cases h; exact lv_lstore_n hx hb hd rfl hl (Nat.le_of_ble_eq_true hn) (ri_s2_eq (ad := ad) (v := .long x)) (fun ls' hl' => k ls' hl')
  | dstore i =>
    have hl9 : 2 = len := hlen.resolve_left (fun q => by cases q)
    subst hl9
    obtain ⟨x, r, rfl, h⟩ := ri_d1_eq h; obtain ⟨hn, h⟩ := ri_ok_eq h; cases h; exact lv_dstore hx hb hd hl (Nat.le_of_ble_eq_true hn) (ri_s2_eq (ad := ad) (v := .double x)) (fun ls' hl' => k ls' hl')
  | dstore_n i =>
    have hl9 : 1 = len := hlen.resolve_left (fun q => by cases q)
    subst hl9
    obtain ⟨x, r, rfl, h⟩ := ri_d1_eq h; obtain ⟨hn, h⟩ := ri_ok_eq h; cases h; exact lv_dstore_n hx hb hd rfl hl (Nat.le_of_ble_eq_true hn) (ri_s2_eq (ad := ad) (v := .double x)) (fun ls' hl' => k ls' hl')
  | astore i =>
    have hl9 : 2 = len := hlen.resolve_left (fun q => by cases q)
    subst hl9
    rcases ri_r1_eq h with ⟨x, r, rfl, h⟩ | ⟨r, rfl, h⟩
    · obtain ⟨hn, h⟩ := ri_ok_eq h; cases h; exact lv_astore hx hb hd hl (Nat.le_of_ble_eq_true hn) (ri_s1_eq (ad := ad) (v := .ref x)) (fun ls' hl' => k ls' hl')
    · obtain ⟨hn, h⟩ := ri_ok_eq h; cases h; exact lv_astoreN hx hb hd hl (Nat.le_of_ble_eq_true hn) (ri_s1_eq (ad := ad) (v := .null)) (fun ls' hl' => k ls' hl')
  | astore_n i =>
    have hl9 : 1 = len := hlen.resolve_left (fun q => by cases q)
    subst hl9
    rcases ri_r1_eq h with ⟨x, r, rfl, h⟩ | ⟨r, rfl, h⟩
    · obtain ⟨hn, h⟩ := ri_ok_eq h; cases h; exact lv_astore_n hx hb hd rfl hl (Nat.le_of_ble_eq_true hn) (ri_s1_eq (ad := ad) (v := .ref x)) (fun ls' hl' => k ls' hl')
    · obtain ⟨hn, h⟩ := ri_ok_eq h; cases h; exact lv_astore_nN hx hb hd rfl hl (Nat.le_of_ble_eq_true hn) (ri_s1_eq (ad := ad) (v := .null)) (fun ls' hl' => k ls' hl')
  | iinc i n =>
    have hl9 : 3 = len := hlen.resolve_left (fun q => by cases q)
    subst hl9
    obtain ⟨x, hg, h⟩ := ri_gi_eq h; obtain ⟨hn, h⟩ := ri_ok_eq h; cases h; obtain ⟨kk, hk⟩ := List.getElem?_of_mem (List.mem_map.mpr ⟨(i, .int x), ri_get_mem hg, rfl⟩ : (i, ri_v ad (.int x)) ∈ ri_lr ad lv); exact lv_iinc hx hb hd hl hk rfl (Nat.le_of_ble_eq_true hn) (ri_s1_eq (v := .int (x + Int32.ofInt n))) (fun ls' hl' => k ls' hl')
  | iadd =>
    have hl9 : 1 = len := hlen.resolve_left (by decide)
    subst hl9
    obtain ⟨y, x, r, rfl, h⟩ := ri_i2_eq h; cases h; exact lv_iadd hx hb hd  (k ls hl)
  | isub =>
    have hl9 : 1 = len := hlen.resolve_left (by decide)
    subst hl9
    obtain ⟨y, x, r, rfl, h⟩ := ri_i2_eq h; cases h; exact lv_isub hx hb hd  (k ls hl)
  | imul =>
    have hl9 : 1 = len := hlen.resolve_left (by decide)
    subst hl9
    obtain ⟨y, x, r, rfl, h⟩ := ri_i2_eq h; cases h; exact lv_imul hx hb hd  (k ls hl)
  | iand =>
    have hl9 : 1 = len := hlen.resolve_left (by decide)
    subst hl9
    obtain ⟨y, x, r, rfl, h⟩ := ri_i2_eq h; cases h; exact lv_iand hx hb hd  (k ls hl)
  | ior =>
    have hl9 : 1 = len := hlen.resolve_left (by decide)
    subst hl9
    obtain ⟨y, x, r, rfl, h⟩ := ri_i2_eq h; cases h; exact lv_ior hx hb hd  (k ls hl)
  | ixor =>
    have hl9 : 1 = len := hlen.resolve_left (by decide)
    subst hl9
    obtain ⟨y, x, r, rfl, h⟩ := ri_i2_eq h; cases h; exact lv_ixor hx hb hd  (k ls hl)
  | ishl =>
    have hl9 : 1 = len := hlen.resolve_left (by decide)
    subst hl9
    obtain ⟨y, x, r, rfl, h⟩ := ri_i2_eq h; cases h; exact lv_ishl hx hb hd  (k ls hl)
  | ishr =>
    have hl9 : 1 = len := hlen.resolve_left (by decide)
    subst hl9
    obtain ⟨y, x, r, rfl, h⟩ := ri_i2_eq h; cases h; exact lv_ishr hx hb hd  (k ls hl)
  | iushr =>
    have hl9 : 1 = len := hlen.resolve_left (by decide)
    subst hl9
    obtain ⟨y, x, r, rfl, h⟩ := ri_i2_eq h; cases h; exact lv_iushr hx hb hd rfl (k ls hl)
  | ladd =>
    have hl9 : 1 = len := hlen.resolve_left (by decide)
    subst hl9
    obtain ⟨y, x, r, rfl, h⟩ := ri_l2_eq h; cases h; exact lv_ladd hx hb hd  (k ls hl)
  | lsub =>
    have hl9 : 1 = len := hlen.resolve_left (by decide)
    subst hl9
    obtain ⟨y, x, r, rfl, h⟩ := ri_l2_eq h; cases h; exact lv_lsub hx hb hd  (k ls hl)
  | lmul =>
    have hl9 : 1 = len := hlen.resolve_left (by decide)
    subst hl9
    obtain ⟨y, x, r, rfl, h⟩ := ri_l2_eq h; cases h; exact lv_lmul hx hb hd  (k ls hl)
  | land =>
    have hl9 : 1 = len := hlen.resolve_left (by decide)
    subst hl9
    obtain ⟨y, x, r, rfl, h⟩ := ri_l2_eq h; cases h; exact lv_land hx hb hd  (k ls hl)
  | lor =>
    have hl9 : 1 = len := hlen.resolve_left (by decide)
    subst hl9
    obtain ⟨y, x, r, rfl, h⟩ := ri_l2_eq h; cases h; exact lv_lor hx hb hd  (k ls hl)
  | lxor =>
    have hl9 : 1 = len := hlen.resolve_left (by decide)
    subst hl9
    obtain ⟨y, x, r, rfl, h⟩ := ri_l2_eq h; cases h; exact lv_lxor hx hb hd  (k ls hl)
  | lshl =>
    have hl9 : 1 = len := hlen.resolve_left (by decide)
    subst hl9
    obtain ⟨y, x, r, rfl, h⟩ := ri_il_eq h; cases h; exact lv_lshl hx hb hd rfl (k ls hl)
  | lshr =>
    have hl9 : 1 = len := hlen.resolve_left (by decide)
    subst hl9
    obtain ⟨y, x, r, rfl, h⟩ := ri_il_eq h; cases h; exact lv_lshr hx hb hd rfl (k ls hl)
  | lushr =>
    have hl9 : 1 = len := hlen.resolve_left (by decide)
    subst hl9
    obtain ⟨y, x, r, rfl, h⟩ := ri_il_eq h; cases h; exact lv_lushr hx hb hd rfl (k ls hl)
  | idiv =>
    have hl9 : 1 = len := hlen.resolve_left (by decide)
    subst hl9
    obtain ⟨y, x, r, rfl, h⟩ := ri_i2_eq h; obtain ⟨hn, h⟩ := ri_ok_eq h; cases h; exact lv_idiv hx hb hd (ri_nz hn) (k ls hl)
  | irem =>
    have hl9 : 1 = len := hlen.resolve_left (by decide)
    subst hl9
    obtain ⟨y, x, r, rfl, h⟩ := ri_i2_eq h; obtain ⟨hn, h⟩ := ri_ok_eq h; cases h; exact lv_irem hx hb hd (ri_nz hn) (k ls hl)
  | ldiv =>
    have hl9 : 1 = len := hlen.resolve_left (by decide)
    subst hl9
    obtain ⟨y, x, r, rfl, h⟩ := ri_l2_eq h; obtain ⟨hn, h⟩ := ri_ok_eq h; cases h; exact lv_ldiv hx hb hd (ri_nzl hn) (k ls hl)
  | lrem =>
    have hl9 : 1 = len := hlen.resolve_left (by decide)
    subst hl9
    obtain ⟨y, x, r, rfl, h⟩ := ri_l2_eq h; obtain ⟨hn, h⟩ := ri_ok_eq h; cases h; exact lv_lrem hx hb hd (ri_nzl hn) (k ls hl)
  | ineg =>
    have hl9 : 1 = len := hlen.resolve_left (by decide)
    subst hl9
    obtain ⟨x, r, rfl, h⟩ := ri_i1_eq h; cases h; exact lv_ineg hx hb hd  (k ls hl)
  | lneg =>
    have hl9 : 1 = len := hlen.resolve_left (by decide)
    subst hl9
    obtain ⟨x, r, rfl, h⟩ := ri_l1_eq h; cases h; exact lv_lneg hx hb hd  (k ls hl)
  | i2l =>
    have hl9 : 1 = len := hlen.resolve_left (by decide)
    subst hl9
    obtain ⟨x, r, rfl, h⟩ := ri_i1_eq h; cases h; exact lv_i2l hx hb hd rfl (k ls hl)
  | l2i =>
    have hl9 : 1 = len := hlen.resolve_left (by decide)
    subst hl9
    obtain ⟨x, r, rfl, h⟩ := ri_l1_eq h; cases h; exact lv_l2i hx hb hd rfl (k ls hl)
  | i2b =>
    have hl9 : 1 = len := hlen.resolve_left (by decide)
    subst hl9
    obtain ⟨x, r, rfl, h⟩ := ri_i1_eq h; cases h; exact lv_i2b hx hb hd rfl (k ls hl)
  | i2s =>
    have hl9 : 1 = len := hlen.resolve_left (by decide)
    subst hl9
    obtain ⟨x, r, rfl, h⟩ := ri_i1_eq h; cases h; exact lv_i2s hx hb hd rfl (k ls hl)
  | i2c =>
    have hl9 : 1 = len := hlen.resolve_left (by decide)
    subst hl9
    obtain ⟨x, r, rfl, h⟩ := ri_i1_eq h; cases h; exact lv_i2c hx hb hd rfl (k ls hl)
  | i2d =>
    have hl9 : 1 = len := hlen.resolve_left (by decide)
    subst hl9
    obtain ⟨x, r, rfl, h⟩ := ri_i1_eq h; cases h; exact lv_i2d hx hb hd  (k ls hl)
  | l2d =>
    have hl9 : 1 = len := hlen.resolve_left (by decide)
    subst hl9
    obtain ⟨x, r, rfl, h⟩ := ri_l1_eq h; cases h; exact lv_l2d hx hb hd  (k ls hl)
  | d2i =>
    have hl9 : 1 = len := hlen.resolve_left (by decide)
    subst hl9
    obtain ⟨x, r, rfl, h⟩ := ri_d1_eq h; cases h; exact lv_d2i hx hb hd  (k ls hl)
  | d2l =>
    have hl9 : 1 = len := hlen.resolve_left (by decide)
    subst hl9
    obtain ⟨x, r, rfl, h⟩ := ri_d1_eq h; cases h; exact lv_d2l hx hb hd  (k ls hl)
  | dneg =>
    have hl9 : 1 = len := hlen.resolve_left (by decide)
    subst hl9
    obtain ⟨x, r, rfl, h⟩ := ri_d1_eq h; cases h; exact lv_dneg hx hb hd  (k ls hl)
  | dadd =>
    have hl9 : 1 = len := hlen.resolve_left (by decide)
    subst hl9
    obtain ⟨y, x, r, rfl, h⟩ := ri_d2_eq h; obtain ⟨hn, h⟩ := ri_ok_eq h; cases h; exact lv_dadd hx hb hd (ri_n64_ok hn) (k ls hl)
  | dsub =>
    have hl9 : 1 = len := hlen.resolve_left (by decide)
    subst hl9
    obtain ⟨y, x, r, rfl, h⟩ := ri_d2_eq h; obtain ⟨hn, h⟩ := ri_ok_eq h; cases h; exact lv_dsub hx hb hd (ri_n64_ok hn) (k ls hl)
  | dmul =>
    have hl9 : 1 = len := hlen.resolve_left (by decide)
    subst hl9
    obtain ⟨y, x, r, rfl, h⟩ := ri_d2_eq h; obtain ⟨hn, h⟩ := ri_ok_eq h; cases h; exact lv_dmul hx hb hd (ri_n64_ok hn) (k ls hl)
  | ddiv =>
    have hl9 : 1 = len := hlen.resolve_left (by decide)
    subst hl9
    obtain ⟨y, x, r, rfl, h⟩ := ri_d2_eq h; obtain ⟨hn, h⟩ := ri_ok_eq h; cases h; exact lv_ddiv hx hb hd (ri_n64_ok hn) (k ls hl)
  | dcmp op =>
    have hl9 : 1 = len := hlen.resolve_left (fun q => by cases q)
    subst hl9
    obtain ⟨y, x, r, rfl, h⟩ := ri_d2_eq h; cases h; exact lv_dcmp hx hb hd (k ls hl)
  | lcmp =>
    have hl9 : 1 = len := hlen.resolve_left (by decide)
    subst hl9
    obtain ⟨y, x, r, rfl, h⟩ := ri_l2_eq h; cases h; exact W.lcmp hx hb hd (k ls hl)
  | dup =>
    have hl9 : 1 = len := hlen.resolve_left (by decide)
    subst hl9
    obtain ⟨v, r, rfl, hv, h⟩ := ri_c1_eq h; cases h; exact lv_dup hx hb hd ((ri_v_cat ad v).trans hv) (k ls hl)
  | pop =>
    have hl9 : 1 = len := hlen.resolve_left (by decide)
    subst hl9
    obtain ⟨v, r, rfl, hv, h⟩ := ri_c1_eq h; cases h; exact lv_pop hx hb hd ((ri_v_cat ad v).trans hv) (k ls hl)
  | dup_x1 =>
    have hl9 : 1 = len := hlen.resolve_left (by decide)
    subst hl9
    obtain ⟨v, r, rfl, hv, h⟩ := ri_c1_eq h; obtain ⟨u, r, rfl, hu, h⟩ := ri_c1_eq h; cases h; exact lv_dup_x1 hx hb hd ((ri_v_cat ad v).trans hv) ((ri_v_cat ad u).trans hu) (k ls hl)
  | dup2 =>
    have hl9 : 1 = len := hlen.resolve_left (by decide)
    subst hl9
    cases st with
    | nil => cases h
    | cons v r =>
      have h : (bif Nat.beq v.category 2 then some (0, pc + 1, lv, v :: v :: r) else ri_c1 (v :: r) (fun v r => ri_c1 r (fun u r => some (0, pc + 1, lv, v :: u :: v :: u :: r)))) = some (j, p', lv', st') := h
      cases hb2 : Nat.beq v.category 2 with
      | true => rw [hb2] at h; cases h; exact lv_dup2_2 hx hb hd ((ri_v_cat ad v).trans (Nat.eq_of_beq_eq_true hb2)) (k ls hl)
      | false =>
        rw [hb2, cond_false] at h
        obtain ⟨v9, r9, e1, hv, h1⟩ := ri_c1_eq h
        obtain ⟨u, r8, e2, hu, h2⟩ := ri_c1_eq h1
        cases e1; cases e2; cases h2
        exact lv_dup2_11 hx hb hd ((ri_v_cat ad v).trans hv) ((ri_v_cat ad u).trans hu) (k ls hl)
  | goto off =>
    have hl9 : 3 = len := hlen.resolve_left (fun q => by cases q)
    subst hl9
    obtain ⟨t, ht, e⟩ := ri_tg_eq h; cases e; exact lv_goto hx hb hd ht (k ls hl)
  | ifCond c9 off =>
    have hl9 : 3 = len := hlen.resolve_left (fun q => by cases q)
    subst hl9
    obtain ⟨x, r, rfl, h⟩ := ri_i1_eq h
    obtain ⟨t, ht, hz⟩ := ri_br_eq h
    cases c9 with
    | eq =>
      refine lv_if_eq hx hb hd ht (fun hq => ?_) (fun hq => ?_)
      · rcases hz with ⟨hc, e1, e2, e3⟩ | ⟨hc, e1, e2, e3⟩
        · cases e1; cases e2; cases e3; exact k ls hl
        · exact absurd hc (by simp [ri_cnd, hq])
      · rcases hz with ⟨hc, e1, e2, e3⟩ | ⟨hc, e1, e2, e3⟩
        · exact absurd hc (by simp [ri_cnd, hq])
        · cases e1; cases e2; cases e3; exact k ls hl
    | ne =>
      refine lv_if_ne hx hb hd ht (fun hq => ?_) (fun hq => ?_)
      · rcases hz with ⟨hc, e1, e2, e3⟩ | ⟨hc, e1, e2, e3⟩
        · cases e1; cases e2; cases e3; exact k ls hl
        · exact absurd hc (by simp [ri_cnd, hq])
      · rcases hz with ⟨hc, e1, e2, e3⟩ | ⟨hc, e1, e2, e3⟩
        · exact absurd hc (by simp [ri_cnd, hq])
        · cases e1; cases e2; cases e3; exact k ls hl
    | lt =>
      refine lv_if_lt hx hb hd ht (fun hq => ?_) (fun hq => ?_)
      · rcases hz with ⟨hc, e1, e2, e3⟩ | ⟨hc, e1, e2, e3⟩
        · cases e1; cases e2; cases e3; exact k ls hl
        · exact absurd hc (by simp [ri_cnd, hq])
      · rcases hz with ⟨hc, e1, e2, e3⟩ | ⟨hc, e1, e2, e3⟩
        · exact absurd hc (by simp [ri_cnd, hq])
        · cases e1; cases e2; cases e3; exact k ls hl
    | ge =>
      refine lv_if_ge hx hb hd ht (fun hq => ?_) (fun hq => ?_)
      · rcases hz with ⟨hc, e1, e2, e3⟩ | ⟨hc, e1, e2, e3⟩
        · cases e1; cases e2; cases e3; exact k ls hl
        · exact absurd hc (by simp [ri_cnd, hq])
      · rcases hz with ⟨hc, e1, e2, e3⟩ | ⟨hc, e1, e2, e3⟩
        · exact absurd hc (by simp [ri_cnd, hq])
        · cases e1; cases e2; cases e3; exact k ls hl
    | gt =>
      refine lv_if_gt hx hb hd ht (fun hq => ?_) (fun hq => ?_)
      · rcases hz with ⟨hc, e1, e2, e3⟩ | ⟨hc, e1, e2, e3⟩
        · cases e1; cases e2; cases e3; exact k ls hl
        · exact absurd hc (by simp [ri_cnd, hq])
      · rcases hz with ⟨hc, e1, e2, e3⟩ | ⟨hc, e1, e2, e3⟩
        · exact absurd hc (by simp [ri_cnd, hq])
        · cases e1; cases e2; cases e3; exact k ls hl
    | le =>
      refine lv_if_le hx hb hd ht (fun hq => ?_) (fun hq => ?_)
      · rcases hz with ⟨hc, e1, e2, e3⟩ | ⟨hc, e1, e2, e3⟩
        · cases e1; cases e2; cases e3; exact k ls hl
        · exact absurd hc (by simp [ri_cnd, hq])
      · rcases hz with ⟨hc, e1, e2, e3⟩ | ⟨hc, e1, e2, e3⟩
        · exact absurd hc (by simp [ri_cnd, hq])
        · cases e1; cases e2; cases e3; exact k ls hl
  | if_icmp c9 off =>
    have hl9 : 3 = len := hlen.resolve_left (fun q => by cases q)
    subst hl9
    obtain ⟨y, x, r, rfl, h⟩ := ri_i2_eq h
    obtain ⟨t, ht, hz⟩ := ri_br_eq h
    cases c9 with
    | eq =>
      refine lv_icmp_eq hx hb hd ht (fun hq => ?_) (fun hq => ?_)
      · rcases hz with ⟨hc, e1, e2, e3⟩ | ⟨hc, e1, e2, e3⟩
        · cases e1; cases e2; cases e3; exact k ls hl
        · exact absurd hc (by simp [ri_cnd, hq])
      · rcases hz with ⟨hc, e1, e2, e3⟩ | ⟨hc, e1, e2, e3⟩
        · exact absurd hc (by simp [ri_cnd, hq])
        · cases e1; cases e2; cases e3; exact k ls hl
    | ne =>
      refine lv_icmp_ne hx hb hd ht (fun hq => ?_) (fun hq => ?_)
      · rcases hz with ⟨hc, e1, e2, e3⟩ | ⟨hc, e1, e2, e3⟩
        · cases e1; cases e2; cases e3; exact k ls hl
        · exact absurd hc (by simp [ri_cnd, hq])
      · rcases hz with ⟨hc, e1, e2, e3⟩ | ⟨hc, e1, e2, e3⟩
        · exact absurd hc (by simp [ri_cnd, hq])
        · cases e1; cases e2; cases e3; exact k ls hl
    | lt =>
      refine lv_icmp_lt hx hb hd ht (fun hq => ?_) (fun hq => ?_)
      · rcases hz with ⟨hc, e1, e2, e3⟩ | ⟨hc, e1, e2, e3⟩
        · cases e1; cases e2; cases e3; exact k ls hl
        · exact absurd hc (by simp [ri_cnd, hq])
      · rcases hz with ⟨hc, e1, e2, e3⟩ | ⟨hc, e1, e2, e3⟩
        · exact absurd hc (by simp [ri_cnd, hq])
        · cases e1; cases e2; cases e3; exact k ls hl
    | ge =>
      refine lv_icmp_ge hx hb hd ht (fun hq => ?_) (fun hq => ?_)
      · rcases hz with ⟨hc, e1, e2, e3⟩ | ⟨hc, e1, e2, e3⟩
        · cases e1; cases e2; cases e3; exact k ls hl
        · exact absurd hc (by simp [ri_cnd, hq])
      · rcases hz with ⟨hc, e1, e2, e3⟩ | ⟨hc, e1, e2, e3⟩
        · exact absurd hc (by simp [ri_cnd, hq])
        · cases e1; cases e2; cases e3; exact k ls hl
    | gt =>
      refine lv_icmp_gt hx hb hd ht (fun hq => ?_) (fun hq => ?_)
      · rcases hz with ⟨hc, e1, e2, e3⟩ | ⟨hc, e1, e2, e3⟩
        · cases e1; cases e2; cases e3; exact k ls hl
        · exact absurd hc (by simp [ri_cnd, hq])
      · rcases hz with ⟨hc, e1, e2, e3⟩ | ⟨hc, e1, e2, e3⟩
        · exact absurd hc (by simp [ri_cnd, hq])
        · cases e1; cases e2; cases e3; exact k ls hl
    | le =>
      refine lv_icmp_le hx hb hd ht (fun hq => ?_) (fun hq => ?_)
      · rcases hz with ⟨hc, e1, e2, e3⟩ | ⟨hc, e1, e2, e3⟩
        · cases e1; cases e2; cases e3; exact k ls hl
        · exact absurd hc (by simp [ri_cnd, hq])
      · rcases hz with ⟨hc, e1, e2, e3⟩ | ⟨hc, e1, e2, e3⟩
        · exact absurd hc (by simp [ri_cnd, hq])
        · cases e1; cases e2; cases e3; exact k ls hl
  | ifnonnull off =>
    have hl9 : 3 = len := hlen.resolve_left (fun q => by cases q)
    subst hl9
    rcases ri_r1_eq h with ⟨x, r, rfl, h⟩ | ⟨r, rfl, h⟩
    · obtain ⟨t, ht, e⟩ := ri_tg_eq h; cases e; exact lv_ifnonnull hx hb hd ht (k ls hl)
    · cases h; exact lv_ifnonnullN hx hb hd (k ls hl)
  | ifnull off =>
    have hl9 : 3 = len := hlen.resolve_left (fun q => by cases q)
    subst hl9
    rcases ri_r1_eq h with ⟨x, r, rfl, h⟩ | ⟨r, rfl, h⟩
    · cases h; exact lv_ifnull hx hb hd (k ls hl)
    · obtain ⟨t, ht, e⟩ := ri_tg_eq h; cases e; exact lv_ifnullN hx hb hd ht (k ls hl)
  | tableswitch dflt lo hi offs =>
    obtain ⟨x, r, e1, h9⟩ := ri_i1_eq h
    clear h
    have h := h9
    clear h9
    subst e1
    cases hc : (decide (x.toInt < lo) || decide (hi < x.toInt)) with
    | true =>
      rw [hc, cond_true] at h
      obtain ⟨t, ht, e9⟩ := ri_tg_eq h
      cases e9
      exact lv_tableOut hx hb hd (by simpa using hc) ht (k ls hl)
    | false =>
      rw [hc] at h
      have hc2 : ¬ x.toInt < lo ∧ ¬ hi < x.toInt := by simpa using hc
      cases ho : offs[(x.toInt - lo).toNat]? with
      | none => simp only [ho, cond_false] at h; cases h
      | some off =>
        simp only [ho, cond_false] at h
        obtain ⟨t, ht, e9⟩ := ri_tg_eq h
        cases e9
        exact lv_tableIn hx hb hd hc2.1 hc2.2 ho ht (k ls hl)
  | _ => cases h
end RIW
