/-! ===== the reckoner, part 12: a program that is right, by reckoning ===== -/
def ri_WG : List Jvm.Cond := lw_tbl.filter goodWord
/-- these words stand at these places of the tables, and are such as stay -/
def ri_has (ps : List Nat) (ws : List Jvm.Cond) : Bool := decide (ps.map (fun i => lw_tbl[i]?) = ws.map some) && ws.all goodWord
theorem ri_has_ok {ps : List Nat} {ws : List Jvm.Cond} (h : ri_has ps ws = true) : ∀ w ∈ ws, w ∈ ri_WG := by
  intro w hw
  obtain ⟨h1, h2⟩ := (Bool.and_eq_true _ _ ▸ h : decide (ps.map (fun i => lw_tbl[i]?) = ws.map some) = true ∧ ws.all goodWord = true)
  refine List.mem_filter.mpr ⟨?_, List.all_eq_true.mp h2 w hw⟩
  have h3 : some w ∈ ws.map some := List.mem_map.mpr ⟨w, hw, rfl⟩
  rw [← of_decide_eq_true h1] at h3
  obtain ⟨i, -, hi⟩ := List.mem_map.mp h3
  exact List.mem_of_getElem? hi
section RIV
variable (hh : MethodName → List (Nat × Nat × Nat × Nat)) (NW : List ri_N) (CW : List ri_C9) (NC : List (String × String)) (CN : List (String × Nat × String)) (AO : List FieldType) (cl : List vw_C) (Ms : List ri_M) (tyL : List FieldType) (exl : Nat → Nat) (exn : Nat → String)
def ri_mchkH (M2 : ri_M) : Bool := plainName M2.1.cls && (!decide (M2.1.cls = "java/lang/invoke/MethodHandle") && (!decide (M2.1.cls = "java/lang/invoke/VarHandle") && (decide ((parseMethodDescriptor M2.1.desc).map (fun d => d.parameters.length) = some M2.2.2.2.2.1) && M2.2.2.2.2.2.all (fun o => !Nat.beq o.2.1 24 && !Nat.beq o.2.1 25))))
def ri_mchk (M2 : ri_M) : Bool := decide (hh M2.1 = []) && (plainFor M2.1 && (!decide (M2.1.cls = "java/lang/invoke/MethodHandle") && (!decide (M2.1.cls = "java/lang/invoke/VarHandle") && (decide ((parseMethodDescriptor M2.1.desc).map (fun d => d.parameters.length) = some M2.2.2.2.2.1) && M2.2.2.2.2.2.all (fun o => !Nat.beq o.2.1 24 && !Nat.beq o.2.1 25)))))
theorem ri_mchkH_ok {M2 : ri_M} (h : ri_mchkH M2 = true) : plainName M2.1.cls = true ∧ (M2.1.cls ≠ "java/lang/invoke/MethodHandle" ∧ M2.1.cls ≠ "java/lang/invoke/VarHandle") ∧ (parseMethodDescriptor M2.1.desc).map (fun d => d.parameters.length) = some M2.2.2.2.2.1 ∧ ∀ o ∈ M2.2.2.2.2.2, o.2.1 ≠ 24 ∧ o.2.1 ≠ 25 := by
  unfold ri_mchkH at h
  simp only [Bool.and_eq_true] at h
  obtain ⟨a1, a2, a3, a4, a5⟩ := h
  refine ⟨a1, ⟨by simpa using a2, by simpa using a3⟩, of_decide_eq_true a4, fun o ho => ?_⟩
  have h5 := List.all_eq_true.mp a5 o ho
  simp only [Bool.and_eq_true, Bool.not_eq_true'] at h5
  exact ⟨fun q => by rw [q] at h5; exact absurd h5.1 (by decide), fun q => by rw [q] at h5; exact absurd h5.2 (by decide)⟩
theorem ri_mchk_ok {M2 : ri_M} (h : ri_mchk hh M2 = true) (h1 : Jvm.Cond.code M2.1 M2.2.1 M2.2.2.1 M2.2.2.2.1 ∈ ri_WG) (h2 : Jvm.Cond.initialized M2.1.cls ∈ ri_WG) : ri_mok ri_WG hh M2 ∧ ∀ o ∈ M2.2.2.2.2.2, o.2.1 ≠ 24 ∧ o.2.1 ≠ 25 := by
  unfold ri_mchk at h
  simp only [Bool.and_eq_true] at h
  obtain ⟨g1, a1, a2, a3, a4, a5⟩ := h
  refine ⟨⟨of_decide_eq_true g1, a1, h1, h2, ⟨by simpa using a2, by simpa using a3⟩, of_decide_eq_true a4⟩, fun o ho => ?_⟩
  have h5 := List.all_eq_true.mp a5 o ho
  simp only [Bool.and_eq_true, Bool.not_eq_true'] at h5
  exact ⟨fun q => by rw [q] at h5; exact absurd h5.1 (by decide), fun q => by rw [q] at h5; exact absurd h5.2 (by decide)⟩
/-- the row of a table that takes the exception E at pc to hp, and that the rows ahead don't -/
def ri_hrow (own : String) (E : String) (pc hp : Nat) : List ExceptionTableEntry → Bool
  | [] => false
  | z :: r => bif covers z pc && Nat.beq z.handlerPc hp then (!Nat.beq z.catchType 0 && decide ((own, z.catchType, E) ∈ CN))
    else (!covers z pc || (!Nat.beq z.catchType 0 && CN.any (fun c => decide (c.1 = own) && (decide (c.2.1 = z.catchType) && decide ((E, c.2.2) ∈ NC))))) && ri_hrow own E pc hp r
theorem ri_hrow_ok (hCN : ∀ c ∈ CN, Jvm.Cond.classLink c.1 c.2.1 c.2.2 ∈ ri_WG) {own E : String} {pc hp : Nat} : ∀ {rows : List ExceptionTableEntry}, ri_hrow NC CN own E pc hp rows = true → ∃ (pre : List ExceptionTableEntry) (z : ExceptionTableEntry) (suf : List ExceptionTableEntry), rows = pre ++ z :: suf ∧ z.handlerPc = hp ∧ covers z pc = true ∧ z.catchType ≠ 0 ∧ Jvm.Cond.classLink own z.catchType E ∈ ri_WG ∧ ∀ y ∈ pre, covers y pc = false ∨ (y.catchType ≠ 0 ∧ ∃ nm : String, Jvm.Cond.classLink own y.catchType nm ∈ ri_WG ∧ (E, nm) ∈ NC)
  | [], h => by cases h
  | z :: r, h => by
    have h0 : (bif covers z pc && Nat.beq z.handlerPc hp then (!Nat.beq z.catchType 0 && decide ((own, z.catchType, E) ∈ CN))
      else (!covers z pc || (!Nat.beq z.catchType 0 && CN.any (fun c => decide (c.1 = own) && (decide (c.2.1 = z.catchType) && decide ((E, c.2.2) ∈ NC))))) && ri_hrow NC CN own E pc hp r) = true := h
    have ne0 : ∀ {n : Nat}, (!Nat.beq n 0) = true → n ≠ 0 := fun q e => by rw [e] at q; cases q
    cases hc : (covers z pc && Nat.beq z.handlerPc hp) with
    | true =>
      rw [hc, cond_true, Bool.and_eq_true] at h0
      rw [Bool.and_eq_true] at hc
      exact ⟨[], z, r, rfl, Nat.eq_of_beq_eq_true hc.2, hc.1, ne0 h0.1, hCN _ (of_decide_eq_true h0.2), fun y hy => by cases hy⟩
    | false =>
      rw [hc, cond_false, Bool.and_eq_true] at h0
      obtain ⟨g1, g2⟩ := h0
      obtain ⟨pre, z9, suf, e1, e2, e3, e4, e5, e6⟩ := ri_hrow_ok hCN g2
      refine ⟨z :: pre, z9, suf, by rw [e1]; rfl, e2, e3, e4, e5, fun y hy => ?_⟩
      rcases List.mem_cons.mp hy with q | q
      · subst q
        rcases Bool.or_eq_true _ _ ▸ g1 with g3 | g3
        · refine Or.inl ?_
          cases hq : covers y pc with
          | false => rfl
          | true => rw [hq] at g3; cases g3
        · rw [Bool.and_eq_true] at g3
          obtain ⟨c, hc1, hc2⟩ := List.any_eq_true.mp g3.2
          simp only [Bool.and_eq_true, decide_eq_true_eq] at hc2
          exact Or.inr ⟨ne0 g3.1, c.2.2, by rw [← hc2.1, ← hc2.2.1]; exact hCN c hc1, hc2.2.2⟩
      · exact e6 y q
def ri_inC (E : String) : Bool := CW.any (fun c => match c with
  | .inl q => decide (q = (E, E))
  | .inr _ => false)
theorem ri_inC_ok {E : String} (h : ri_inC CW E = true) : (Sum.inl (E, E) : ri_C9) ∈ CW := by
  obtain ⟨c, h1, h2⟩ := List.any_eq_true.mp h
  cases c with
  | inl q =>
    have e : q = (E, E) := of_decide_eq_true h2
    rw [← e]
    exact h1
  | inr y => cases h2
/-- all that are listed are caught there -/
def ri_hchk (M : ri_M) (pc : Nat) : Nat → List Nat → Bool
  | _, [] => true
  | x, t :: hs => (match M.2.2.2.2.2.drop t with
    | oh :: _ => ri_inC CW (exn x) && ri_hrow NC CN M.1.cls (exn x) pc oh.1 (tableOf (hh M.1))
    | [] => true) && ri_hchk M pc (x + 1) hs
theorem ri_hchk_ok (hCN : ∀ c ∈ CN, Jvm.Cond.classLink c.1 c.2.1 c.2.2 ∈ ri_WG) {M : ri_M} {pc : Nat} : ∀ {hs : List Nat} {x0 : Nat}, ri_hchk hh CW NC CN exn M pc x0 hs = true → ∀ (x t : Nat) (oh : ri_Op) (nx : List ri_Op), hs[x]? = some t → M.2.2.2.2.2.drop t = oh :: nx → ∃ (pre : List ExceptionTableEntry) (z : ExceptionTableEntry) (suf : List ExceptionTableEntry), tableOf (hh M.1) = pre ++ z :: suf ∧ z.handlerPc = oh.1 ∧ covers z pc = true ∧ z.catchType ≠ 0 ∧ (∃ nm : String, Jvm.Cond.classLink M.1.cls z.catchType nm ∈ ri_WG ∧ (Sum.inl (exn (x0 + x), nm) : ri_C9) ∈ CW) ∧ ∀ y ∈ pre, covers y pc = false ∨ (y.catchType ≠ 0 ∧ ∃ nm : String, Jvm.Cond.classLink M.1.cls y.catchType nm ∈ ri_WG ∧ (exn (x0 + x), nm) ∈ NC)
  | [], _, _ => fun x t oh nx h => by cases h
  | t0 :: hs, x0, h => by
    have h0 : ((match M.2.2.2.2.2.drop t0 with
      | oh :: _ => ri_inC CW (exn x0) && ri_hrow NC CN M.1.cls (exn x0) pc oh.1 (tableOf (hh M.1))
      | [] => true) && ri_hchk hh CW NC CN exn M pc (x0 + 1) hs) = true := h
    rw [Bool.and_eq_true] at h0
    intro x t oh nx hx hd
    cases x with
    | zero =>
      cases hx
      have h1 := h0.1
      rw [hd] at h1
      rw [Bool.and_eq_true] at h1
      obtain ⟨pre, z, suf, e1, e2, e3, e4, e5, e6⟩ := ri_hrow_ok NC CN hCN h1.2
      exact ⟨pre, z, suf, e1, e2, e3, e4, ⟨_, e5, ri_inC_ok CW h1.1⟩, e6⟩
    | succ x =>
      have k := ri_hchk_ok hCN h0.2 x t oh nx hx hd
      rw [show x0 + 1 + x = x0 + (x + 1) by omega] at k
      exact k
/-- the words of a step on texts -/
def ri_swd (own : String) (i : Instr) (a : Nat) : Option (List Jvm.Cond) := match a with
  | 0 => (match i with | .getfield idx => some [Jvm.Cond.fieldLink own idx "java/lang/String" "value" "[B"] | _ => none)
  | 1 => (match i with | .getfield idx => some [Jvm.Cond.fieldLink own idx "java/lang/String" "coder" "B"] | _ => none)
  | 2 => bif decide (i = .arraylength) then some [] else none
  | 3 => bif decide (i = .baload) then some [] else none
  | 4 => (match i with | .invokestatic idx => some [Jvm.Cond.methodLink own idx sg_d2l, Jvm.Cond.native sg_d2l, Jvm.Cond.static sg_d2l, Jvm.Cond.initialized "java/lang/Double"] | _ => none)
  | 5 => (match i with | .invokestatic idx => some [Jvm.Cond.methodLink own idx sg_l2d, Jvm.Cond.native sg_l2d, Jvm.Cond.static sg_l2d, Jvm.Cond.initialized "java/lang/Double"] | _ => none)
  | _ => some []
theorem ri_swd_ok {own : String} {i : Instr} {a : Nat} {ws : List Jvm.Cond} (h : ri_swd own i a = some ws) (hw : ∀ w ∈ ws, w ∈ ri_WG) : ri_slink ri_WG own i a := by
  unfold ri_swd at h
  unfold ri_slink
  split at h
  · split at h
    · cases h; exact ⟨_, rfl, hw _ List.mem_cons_self⟩
    · cases h
  · split at h
    · cases h; exact ⟨_, rfl, hw _ List.mem_cons_self⟩
    · cases h
  · cases hb : decide (i = .arraylength) with
    | true =>
      have h9 : i = .arraylength := of_decide_eq_true hb
      exact h9
    | false => rw [hb] at h; cases h
  · cases hb : decide (i = .baload) with
    | true =>
      have h9 : i = .baload := of_decide_eq_true hb
      exact h9
    | false => rw [hb] at h; cases h
  · split at h
    · cases h; exact ⟨_, rfl, hw _ (List.mem_of_getElem? (i := 0) rfl), hw _ (List.mem_of_getElem? (i := 1) rfl), hw _ (List.mem_of_getElem? (i := 2) rfl), hw _ (List.mem_of_getElem? (i := 3) rfl)⟩
    · cases h
  · split at h
    · cases h; exact ⟨_, rfl, hw _ (List.mem_of_getElem? (i := 0) rfl), hw _ (List.mem_of_getElem? (i := 1) rfl), hw _ (List.mem_of_getElem? (i := 2) rfl), hw _ (List.mem_of_getElem? (i := 3) rfl)⟩
    · cases h
  · rename_i x0 x1 x2 x3 x4 x5
    split <;> first | trivial | (exfalso; first | exact x0 rfl | exact x1 rfl | exact x2 rfl | exact x3 rfl | exact x4 rfl | exact x5 rfl)
/-- a String constant of that number stands there -/
def ri_sgd (own : String) (idx q j : Nat) : Option (List Jvm.Cond) := match sg_tx[j]? with
  | some r => bif Nat.beq (1000001 + j) q && (decide (r.1 = own) && Nat.beq r.2.1 idx) then some [] else none
  | none => none
def ri_sgc (own : String) (idx q : Nat) : Option (List Jvm.Cond) := ri_sgd own idx q (q - 1000001)
theorem ri_sgd_ok {own : String} {idx q j : Nat} {ws : List Jvm.Cond} (h : ri_sgd own idx q j = some ws) : ∃ (j : Nat) (r : String × Nat × String × List Int32), (Value.ref q) = .ref (1000001 + j) ∧ sg_tx[j]? = some r ∧ r.1 = own ∧ r.2.1 = idx := by
  unfold ri_sgd at h
  split at h
  · rename_i r hr
    cases hb : (Nat.beq (1000001 + j) q && (decide (r.1 = own) && Nat.beq r.2.1 idx)) with
    | false => rw [hb] at h; cases h
    | true =>
      rw [Bool.and_eq_true, Bool.and_eq_true] at hb
      exact ⟨j, r, congrArg Value.ref (Nat.eq_of_beq_eq_true hb.1).symm, hr, of_decide_eq_true hb.2.1, Nat.eq_of_beq_eq_true hb.2.2⟩
  · cases h
theorem ri_sgc_ok {own : String} {idx q : Nat} {ws : List Jvm.Cond} (h : ri_sgc own idx q = some ws) : ∃ (j : Nat) (r : String × Nat × String × List Int32), (Value.ref q) = .ref (1000001 + j) ∧ sg_tx[j]? = some r ∧ r.1 = own ∧ r.2.1 = idx := by
  unfold ri_sgc at h
  generalize q - 1000001 = j at h
  exact ri_sgd_ok h
/-- the words that an instruction's step asks for; none: it isn't such a step -/
noncomputable def ri_wd (M : ri_M) (pc κ : Nat) (i : Instr) (a b : Nat) (v : Value) (ts : List Nat) : Option (List Jvm.Cond) := match κ with
  | 0 => some []
  | 1 => (match i with
    | .getfield idx => (match cl[a]? with
      | some r => ri_ok (Nat.blt b r.2.2) (some [Jvm.Cond.fieldLink M.1.cls idx (r.2.1 b).1 (r.2.1 b).2.1 (r.2.1 b).2.2.1])
      | none => none)
    | _ => none)
  | 2 => (match i with
    | .putfield idx => (match cl[a]? with
      | some r => ri_ok (Nat.blt b r.2.2 && (!(r.2.1 b).2.2.2 || (decide (M.1.name = "<init>") && decide ((r.2.1 b).1 = M.1.cls)))) (some [Jvm.Cond.fieldLink M.1.cls idx (r.2.1 b).1 (r.2.1 b).2.1 (r.2.1 b).2.2.1])
      | none => none)
    | _ => none)
  | 3 => (match i with
    | .ldc idx => (match v with | .int x => some [Jvm.Cond.constant M.1.cls idx x] | .ref q => ri_sgc M.1.cls idx q | _ => none)
    | .ldc_w idx => (match v with | .int x => some [Jvm.Cond.constant M.1.cls idx x] | .ref q => ri_sgc M.1.cls idx q | _ => none)
    | .getstatic idx => (match sg_st.find? (fun x => decide (x.2.2.2 = v)) with | some x => some [Jvm.Cond.fieldLink M.1.cls idx x.1 x.2.1 x.2.2.1] | none => none)
    | .ldc2_w idx => (match v with | .long x => some [Jvm.Cond.constantLong M.1.cls idx x] | .double x => some [Jvm.Cond.constantDouble M.1.cls idx x] | _ => none)
    | _ => none)
  | 4 => (match Ms[a]? with
    | some M2 => (match b with
      | 0 => (match i with
        | .invokevirtual idx => (match ts with
          | [t] => (match cl[t]? with
            | some r => ri_ok (decide (hh M.1 = []) && (ri_mchk hh M2 && decide (r.1 = M2.1.cls))) (some [Jvm.Cond.code M2.1 M2.2.1 M2.2.2.1 M2.2.2.2.1, Jvm.Cond.initialized M2.1.cls, Jvm.Cond.methodLink M.1.cls idx M2.1, Jvm.Cond.instanceMethod M2.1, Jvm.Cond.selects M2.1.cls M2.1 M2.1])
            | none => none)
          | _ => none)
        | _ => none)
      | 1 => (match i with
        | .invokestatic idx => ri_ok (decide (hh M.1 = []) && ri_mchk hh M2) (some [Jvm.Cond.code M2.1 M2.2.1 M2.2.2.1 M2.2.2.2.1, Jvm.Cond.initialized M2.1.cls, Jvm.Cond.methodLink M.1.cls idx M2.1, Jvm.Cond.static M2.1])
        | _ => none)
      | 2 => (match i with
        | .invokespecial idx => ri_ok (decide (hh M.1 = []) && (ri_mchk hh M2 && (decide (M2.1.name = "<init>") && decide (M2.2.2.2.1 = none)))) (some [Jvm.Cond.code M2.1 M2.2.1 M2.2.2.1 M2.2.2.2.1, Jvm.Cond.initialized M2.1.cls, Jvm.Cond.methodLink M.1.cls idx M2.1, Jvm.Cond.instanceMethod M2.1])
        | _ => none)
      | 3 => (match i with
        | .invokespecial idx => ri_ok (decide (hh M.1 = []) && (ri_mchk hh M2 && (decide (M2.1.name = "<init>") && (decide (M2.2.2.2.1 = none) && NW.any (fun x => decide (x.1 = M.1.cls) && (decide (x.2.1 = idx) && decide (x.2.2.1 = M2.1))))))) (some [Jvm.Cond.code M2.1 M2.2.1 M2.2.2.1 M2.2.2.2.1, Jvm.Cond.initialized M2.1.cls, Jvm.Cond.instanceMethod M2.1])
        | _ => none)
      | 4 => (match i with
        | .invokestatic idx => ri_ok (decide (hh M.1 = []) && (ri_mchk hh M2 && NW.any (fun x => decide (x.1 = M.1.cls) && (decide (x.2.1 = idx) && decide (x.2.2.1 = M2.1))))) (some [Jvm.Cond.code M2.1 M2.2.1 M2.2.2.1 M2.2.2.2.1, Jvm.Cond.initialized M2.1.cls, Jvm.Cond.static M2.1])
        | _ => none)
      | 5 => (match i with
        | .invokevirtual idx => (match ts with
          | t :: hs => (match cl[t]? with
            | some r => ri_ok (ri_mchk hh M2 && (decide (r.1 = M2.1.cls) && ri_hchk hh CW NC CN exn M pc 0 hs)) (some [Jvm.Cond.code M2.1 M2.2.1 M2.2.2.1 M2.2.2.2.1, Jvm.Cond.initialized M2.1.cls, Jvm.Cond.methodLink M.1.cls idx M2.1, Jvm.Cond.instanceMethod M2.1, Jvm.Cond.selects M2.1.cls M2.1 M2.1])
            | none => none)
          | _ => none)
        | _ => none)
      | 6 => (match i with
        | .invokestatic idx => ri_ok (decide (hh M.1 = []) && ri_mchkH M2) (some [Jvm.Cond.codeWith M2.1 M2.2.1 M2.2.2.1 M2.2.2.2.1 (hh M2.1), Jvm.Cond.initialized M2.1.cls, Jvm.Cond.methodLink M.1.cls idx M2.1, Jvm.Cond.static M2.1])
        | _ => none)
      | 7 => (match i with
        | .invokevirtual idx => ri_ok (decide (hh M.1 = []) && (ri_mchk hh M2 && decide (M2.1.cls = "java/lang/String"))) (some [Jvm.Cond.code M2.1 M2.2.1 M2.2.2.1 M2.2.2.2.1, Jvm.Cond.initialized M2.1.cls, Jvm.Cond.methodLink M.1.cls idx M2.1, Jvm.Cond.instanceMethod M2.1, Jvm.Cond.selects M2.1.cls M2.1 M2.1])
        | _ => none)
      | 8 => (match i with
        | .invokestatic idx => ri_ok (decide (hh M.1 = []) && ma_is M2) (some [Jvm.Cond.code M2.1 M2.2.1 M2.2.2.1 M2.2.2.2.1, Jvm.Cond.initialized M2.1.cls, Jvm.Cond.methodLink M.1.cls idx M2.1, Jvm.Cond.static M2.1])
        | _ => none)
      | _ => none)
    | none => none)
  | 5 => ri_ok (decide (i = .iaload)) (some [])
  | 6 => ri_ok (decide (i = .iastore)) (some [])
  | 7 => ri_ok (decide (i = .laload)) (some [])
  | 8 => ri_ok (decide (i = .lastore)) (some [])
  | 9 => ri_ok (decide (i = .daload)) (some [])
  | 10 => ri_ok (decide (i = .dastore)) (some [])
  | 11 => ri_ok (decide (i = .aaload)) (some [])
  | 12 => ri_ok (decide (i = .baload)) (some [])
  | 13 => ri_ok (decide (i = .bastore)) (some [])
  | 14 => (match cl[a]? with
    | some r => ri_ok (decide (i = .aastore) && decide (tyL[b]? = some (.object r.1))) (some [])
    | none => none)
  | 15 => ri_ok (decide (i = .arraylength)) (some [])
  | 16 => some []
  | 17 => some []
  | 18 => (match i with
    | .new idx => (match cl[a]? with
      | some r => ri_ok (Nat.beq r.2.2 b) (some [Jvm.Cond.classLink M.1.cls idx r.1])
      | none => none)
    | _ => none)
  | 19 => (match i with
    | .newarray t => (match tyL[a]? with
      | some t9 => ri_ok (decide (newarray.typeOf t = t9) && (!decide (t9 = .float) && decide (v = defaultValue t9))) (some [Jvm.Cond.arrayClass t9])
      | none => none)
    | _ => none)
  | 20 => (match i with
    | .anewarray idx => (match tyL[a]? with
      | some (.object C) => ri_ok (decide (FieldType.object C ∈ AO)) (some [Jvm.Cond.classLink M.1.cls idx C])
      | _ => none)
    | _ => none)
  | 21 => (match i with
    | .invokespecial idx => some [Jvm.Cond.methodLink M.1.cls idx Lib.objectInit, Jvm.Cond.instanceMethod Lib.objectInit, Jvm.Cond.code Lib.objectInit ⟨#[0xb1]⟩ 1 none]
    | _ => none)
  | 22 => (match i with
    | .invokestatic idx => some [Jvm.Cond.methodLink M.1.cls idx arraycopyName, Jvm.Cond.native arraycopyName, Jvm.Cond.static arraycopyName, Jvm.Cond.initialized "java/lang/System"]
    | _ => none)
  | 23 => none
  | 24 => ri_ok (decide (i = .iaload)) (some [])
  | 25 => ri_ok (decide (i = .arraylength)) (some [])
  | 26 => (match i with
    | .multianewarray idx 2 => ri_ok (decide (tyL[a]? = some .double) && (decide (tyL[b]? = some (.array .double)) && decide (FieldType.array .double ∈ AO))) (some [Jvm.Cond.classLink M.1.cls idx "[[D", Jvm.Cond.arrayClass .double])
    | _ => none)
  | 27 => ri_ok (decide (i = .bastore)) (some [])
  | 28 => (match decode M.2.1 (pc + 2) with
    | .ok (.getfield idx, 3) => (match cl[a]? with
      | some r => (match decode M.2.1 (pc + 8) with
        | .ok (.ifCond .lt off, 3) => (match v with
          | .ref t => ri_ok (decide (i = .i2l) && (decide (decode M.2.1 (pc + 1) = .ok (.aload_n 0, 1)) && (Nat.blt b r.2.2 && (decide (decode M.2.1 (pc + 5) = .ok (.iconst 3, 1)) && (decide (decode M.2.1 (pc + 6) = .ok (.laload, 1)) && (decide (decode M.2.1 (pc + 7) = .ok (.lcmp, 1)) && decide (((pc + 8 : Nat) : Int) + off = (t : Int)))))))) (some [Jvm.Cond.fieldLink M.1.cls idx (r.2.1 b).1 (r.2.1 b).2.1 (r.2.1 b).2.2.1])
          | _ => none)
        | _ => none)
      | none => none)
    | _ => none)
  | 29 => ri_swd M.1.cls i a
  | _ => some []
theorem ri_any_nw {M M2 : ri_M} {idx : Nat} (h : NW.any (fun x => decide (x.1 = M.1.cls) && (decide (x.2.1 = idx) && decide (x.2.2.1 = M2.1))) = true) : ∃ host : String, (M.1.cls, idx, M2.1, host) ∈ NW := by
  obtain ⟨x, hx, hq⟩ := List.any_eq_true.mp h
  simp only [Bool.and_eq_true, decide_eq_true_eq] at hq
  obtain ⟨x1, x2, x3, x4⟩ := x
  obtain ⟨e1, e2, e3⟩ := hq
  dsimp only at e1 e2 e3
  subst e1; subst e2; subst e3
  exact ⟨x4, hx⟩
end RIV
