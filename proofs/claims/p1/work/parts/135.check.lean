/-! ===== the reckoner, part 12: a program that is right, by reckoning ===== -/
def ri_WG : List Jvm.Cond := lw_tbl.filter goodWord
/-- these words stand at these places of the tables, and are such as stay -/
def ri_has (ps : List Nat) (ws : List Jvm.Cond) : Bool := decide (ps.map (fun i => lw_tbl[i]?) = ws.map some) && ws.all goodWord
theorem ri_has_ok {ps : List Nat} {ws : List Jvm.Cond} (h : ri_has ps ws = true) : ∀ w ∈ ws, w ∈ ri_WG := by
  intro w hw
  obtain ⟨h1, h2⟩ := (Bool.and_eq_true _ _ ▸ h : decide (ps.map (fun i => lw_tbl[i]?) = ws.map some) = true ∧ ws.all goodWord = true)
  refine List.mem_filter.mpr ⟨?_, List.all_eq_true.mp h2 w hw⟩
  have h3 : some w ∈ ws.map some := List.mem_map.mpr ⟨w, hw, rfl⟩
  rw [← of_decide_eq_true h1] at h3
  obtain ⟨i, -, hi⟩ := List.mem_map.mp h3
  exact List.mem_of_getElem? hi
section RIV
variable (NW : List ri_N) (CW : List ri_C9) (AO : List String) (cl : List vw_C) (Ms : List ri_M) (tyL : List FieldType) (exl : Nat → Nat) (exn : Nat → String)
def ri_mchk (M2 : ri_M) : Bool := plainName M2.1.cls && (!decide (M2.1.cls = "java/lang/invoke/MethodHandle") && (!decide (M2.1.cls = "java/lang/invoke/VarHandle") && (decide ((parseMethodDescriptor M2.1.desc).map (fun d => d.parameters.length) = some M2.2.2.2.2.1) && M2.2.2.2.2.2.all (fun o => !Nat.beq o.2.1 24 && !Nat.beq o.2.1 25))))
theorem ri_mchk_ok {M2 : ri_M} (h : ri_mchk M2 = true) (h1 : Jvm.Cond.code M2.1 M2.2.1 M2.2.2.1 M2.2.2.2.1 ∈ ri_WG) (h2 : Jvm.Cond.initialized M2.1.cls ∈ ri_WG) : ri_mok ri_WG M2 ∧ ∀ o ∈ M2.2.2.2.2.2, o.2.1 ≠ 24 ∧ o.2.1 ≠ 25 := by
  unfold ri_mchk at h
  simp only [Bool.and_eq_true] at h
  obtain ⟨a1, a2, a3, a4, a5⟩ := h
  refine ⟨⟨a1, h1, h2, ⟨by simpa using a2, by simpa using a3⟩, of_decide_eq_true a4⟩, fun o ho => ?_⟩
  have h5 := List.all_eq_true.mp a5 o ho
  simp only [Bool.and_eq_true, Bool.not_eq_true'] at h5
  exact ⟨fun q => by rw [q] at h5; exact absurd h5.1 (by decide), fun q => by rw [q] at h5; exact absurd h5.2 (by decide)⟩
/-- the words that an instruction's step asks for; none: it isn't such a step -/
def ri_wd (M : ri_M) (κ : Nat) (i : Instr) (a b : Nat) (v : Value) (ts : List Nat) : Option (List Jvm.Cond) := match κ with
  | 0 => some []
  | 1 => (match i with
    | .getfield idx => (match cl[a]? with
      | some r => ri_ok (Nat.blt b r.2.2) (some [Jvm.Cond.fieldLink M.1.cls idx (r.2.1 b).1 (r.2.1 b).2.1 (r.2.1 b).2.2.1])
      | none => none)
    | _ => none)
  | 2 => (match i with
    | .putfield idx => (match cl[a]? with
      | some r => ri_ok (Nat.blt b r.2.2 && (!(r.2.1 b).2.2.2 || (decide (M.1.name = "<init>") && decide ((r.2.1 b).1 = M.1.cls)))) (some [Jvm.Cond.fieldLink M.1.cls idx (r.2.1 b).1 (r.2.1 b).2.1 (r.2.1 b).2.2.1])
      | none => none)
    | _ => none)
  | 3 => (match i with
    | .ldc idx => (match v with | .int x => some [Jvm.Cond.constant M.1.cls idx x] | _ => none)
    | .ldc_w idx => (match v with | .int x => some [Jvm.Cond.constant M.1.cls idx x] | _ => none)
    | .ldc2_w idx => (match v with | .long x => some [Jvm.Cond.constantLong M.1.cls idx x] | .double x => some [Jvm.Cond.constantDouble M.1.cls idx x] | _ => none)
    | _ => none)
  | 4 => (match Ms[a]? with
    | some M2 => ri_ok (ri_mchk M2) (match b with
      | 0 => (match i with
        | .invokevirtual idx => (match ts with
          | [t] => (match cl[t]? with
            | some r => ri_ok (decide (r.1 = M2.1.cls)) (some [Jvm.Cond.code M2.1 M2.2.1 M2.2.2.1 M2.2.2.2.1, Jvm.Cond.initialized M2.1.cls, Jvm.Cond.methodLink M.1.cls idx M2.1, Jvm.Cond.instanceMethod M2.1, Jvm.Cond.selects M2.1.cls M2.1 M2.1])
            | none => none)
          | _ => none)
        | _ => none)
      | 1 => (match i with
        | .invokestatic idx => some [Jvm.Cond.code M2.1 M2.2.1 M2.2.2.1 M2.2.2.2.1, Jvm.Cond.initialized M2.1.cls, Jvm.Cond.methodLink M.1.cls idx M2.1, Jvm.Cond.static M2.1]
        | _ => none)
      | 2 => (match i with
        | .invokespecial idx => ri_ok (decide (M2.1.name = "<init>") && decide (M2.2.2.2.1 = none)) (some [Jvm.Cond.code M2.1 M2.2.1 M2.2.2.1 M2.2.2.2.1, Jvm.Cond.initialized M2.1.cls, Jvm.Cond.methodLink M.1.cls idx M2.1, Jvm.Cond.instanceMethod M2.1])
        | _ => none)
      | 3 => (match i with
        | .invokespecial idx => ri_ok (decide (M2.1.name = "<init>") && (decide (M2.2.2.2.1 = none) && NW.any (fun x => decide (x.1 = M.1.cls) && (decide (x.2.1 = idx) && decide (x.2.2.1 = M2.1))))) (some [Jvm.Cond.code M2.1 M2.2.1 M2.2.2.1 M2.2.2.2.1, Jvm.Cond.initialized M2.1.cls, Jvm.Cond.instanceMethod M2.1])
        | _ => none)
      | 4 => (match i with
        | .invokestatic idx => ri_ok (NW.any (fun x => decide (x.1 = M.1.cls) && (decide (x.2.1 = idx) && decide (x.2.2.1 = M2.1)))) (some [Jvm.Cond.code M2.1 M2.2.1 M2.2.2.1 M2.2.2.2.1, Jvm.Cond.initialized M2.1.cls, Jvm.Cond.static M2.1])
        | _ => none)
      | _ => none)
    | none => none)
  | 5 => ri_ok (decide (i = .iaload)) (some [])
  | 6 => ri_ok (decide (i = .iastore)) (some [])
  | 7 => ri_ok (decide (i = .laload)) (some [])
  | 8 => ri_ok (decide (i = .lastore)) (some [])
  | 9 => ri_ok (decide (i = .daload)) (some [])
  | 10 => ri_ok (decide (i = .dastore)) (some [])
  | 11 => ri_ok (decide (i = .aaload)) (some [])
  | 12 => ri_ok (decide (i = .baload)) (some [])
  | 13 => ri_ok (decide (i = .bastore)) (some [])
  | 14 => (match cl[a]? with
    | some r => ri_ok (decide (i = .aastore) && decide (tyL[b]? = some (.object r.1))) (some [])
    | none => none)
  | 15 => ri_ok (decide (i = .arraylength)) (some [])
  | 16 => some []
  | 17 => some []
  | 18 => (match i with
    | .new idx => (match cl[a]? with
      | some r => ri_ok (Nat.beq r.2.2 b) (some [Jvm.Cond.classLink M.1.cls idx r.1])
      | none => none)
    | _ => none)
  | 19 => (match i with
    | .newarray t => (match tyL[a]? with
      | some t9 => ri_ok (decide (newarray.typeOf t = t9) && (!decide (t9 = .float) && decide (v = defaultValue t9))) (some [Jvm.Cond.arrayClass t9])
      | none => none)
    | _ => none)
  | 20 => (match i with
    | .anewarray idx => (match tyL[a]? with
      | some (.object C) => ri_ok (decide (C ∈ AO)) (some [Jvm.Cond.classLink M.1.cls idx C])
      | _ => none)
    | _ => none)
  | 21 => (match i with
    | .invokespecial idx => some [Jvm.Cond.methodLink M.1.cls idx Lib.objectInit, Jvm.Cond.instanceMethod Lib.objectInit, Jvm.Cond.code Lib.objectInit ⟨#[0xb1]⟩ 1 none]
    | _ => none)
  | 22 => (match i with
    | .invokestatic idx => some [Jvm.Cond.methodLink M.1.cls idx arraycopyName, Jvm.Cond.native arraycopyName, Jvm.Cond.static arraycopyName, Jvm.Cond.initialized "java/lang/System"]
    | _ => none)
  | 23 => none
  | 24 => ri_ok (decide (i = .iaload)) (some [])
  | 25 => ri_ok (decide (i = .arraylength)) (some [])
  | _ => some []
theorem ri_any_nw {M M2 : ri_M} {idx : Nat} (h : NW.any (fun x => decide (x.1 = M.1.cls) && (decide (x.2.1 = idx) && decide (x.2.2.1 = M2.1))) = true) : ∃ host : String, (M.1.cls, idx, M2.1, host) ∈ NW := by
  obtain ⟨x, hx, hq⟩ := List.any_eq_true.mp h
  simp only [Bool.and_eq_true, decide_eq_true_eq] at hq
  obtain ⟨x1, x2, x3, x4⟩ := x
  obtain ⟨e1, e2, e3⟩ := hq
  dsimp only at e1 e2 e3
  subst e1; subst e2; subst e3
  exact ⟨x4, hx⟩
end RIV
