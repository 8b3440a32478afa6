/-! ===== the reckoner, part 6: a run of a method ===== -/
/-- an instruction of a method: its pc, what kind of step it is, itself, two numbers, a value, numbers (targets ..) -/
abbrev ri_Op : Type := Nat × Nat × Instr × Nat × Nat × Value × List Nat
/-- an unknown int as a long against an element of an array of longs (the third of the one that field b of the object in place 0 tells) -/
noncomputable def ri_lc (tyL : List FieldType) (a b : Nat) (lv : ri_L) (st : List Value) (w : List ri_E) : Option (Value × Int64 × List Value) := match st with
  | x :: r => ri_ok (ri_isI x) (match ri_get 0 lv with
    | some (.ref q) => (match ri_getf a b (.ref q :: r) w with
      | some (.ref q2 :: _) => (match ri_ald tyL ri_tL (.int 3 :: .ref q2 :: r) w with
        | some (.long y :: _) => some (x, y, r)
        | _ => none)
      | _ => none)
    | _ => none)
  | [] => none
theorem ri_getf_any {a b q : Nat} {r st' : List Value} {w : List ri_E} (h : ri_getf a b (.ref q :: r) w = some st') : ∃ v : Value, st' = v :: r ∧ ∀ r2 : List Value, ri_getf a b (.ref q :: r2) w = some (v :: r2) := by
  unfold ri_getf at h
  dsimp only at h
  split at h
  · rename_i o ho
    obtain ⟨hb, h2⟩ := ri_ok_eq h
    split at h2
    · rename_i v hv
      refine ⟨v, (Option.some.inj h2).symm, fun r2 => ?_⟩
      unfold ri_getf
      dsimp only
      rw [ho]
      dsimp only
      rw [hb, hv]
      rfl
    · cases h2
  · cases h
theorem ri_ald_any {tyL : List FieldType} {g : FieldType → Bool} {i : Int32} {q : Nat} {r st' : List Value} {w : List ri_E} (h : ri_ald tyL g (.int i :: .ref q :: r) w = some st') : ∃ v : Value, st' = v :: r ∧ ∀ r2 : List Value, ri_ald tyL g (.int i :: .ref q :: r2) w = some (v :: r2) := by
  unfold ri_ald at h
  dsimp only at h
  split at h
  · rename_i a ha
    split at h
    · rename_i ty hty
      obtain ⟨hb, h2⟩ := ri_ok_eq h
      split at h2
      · rename_i v hv
        refine ⟨v, (Option.some.inj h2).symm, fun r2 => ?_⟩
        unfold ri_ald
        dsimp only
        rw [ha]
        dsimp only
        rw [hty]
        dsimp only
        rw [hb, hv]
        rfl
      · cases h2
    · cases h
  · cases h
theorem ri_lc_eq {tyL : List FieldType} {a b : Nat} {lv : ri_L} {st r : List Value} {w : List ri_E} {x : Value} {y : Int64} (h : ri_lc tyL a b lv st w = some (x, y, r)) : ∃ q q2 : Nat, st = x :: r ∧ ri_isI x = true ∧ ri_get 0 lv = some (.ref q) ∧ (∀ r2 : List Value, ri_getf a b (.ref q :: r2) w = some (.ref q2 :: r2)) ∧ (∀ r2 : List Value, ri_ald tyL ri_tL (.int 3 :: .ref q2 :: r2) w = some (.long y :: r2)) := by
  unfold ri_lc at h
  split at h
  · rename_i x9 r9
    obtain ⟨hb, h2⟩ := ri_ok_eq h
    split at h2
    · rename_i q hq
      split at h2
      · rename_i q2 l9 h3
        split at h2
        · rename_i y9 l8 h4
          cases h2
          obtain ⟨v1, e1, k1⟩ := ri_getf_any h3
          obtain ⟨v2, e2, k2⟩ := ri_ald_any h4
          cases e1
          cases e2
          exact ⟨q, q2, rfl, hb, hq, k1, k2⟩
        · cases h2
      · cases h2
    · cases h2
  · cases h
/-- a method: name, bytes, how many places its frame has, what it returns, how many parameters, its instructions -/
abbrev ri_M : Type := MethodName × ByteArray × Nat × Option FieldType × Nat × List ri_Op
/-- an end: a value (or none) or the number of an exception; the world; cells and slots made; what must hold for it; the next number of the unknown -/
abbrev ri_Out : Type := (Option Value ⊕ Nat) × List ri_E × Nat × Nat × List ri_Cd × Nat
abbrev ri_K : Type := Nat → Nat → ri_M → List ri_Op → Nat → ri_L → List Value → List ri_E → Nat → Nat → Nat → Option ri_Out
noncomputable def ri_drop {α : Type} (l : List α) : Nat → List α := List.rec (fun _ => []) (fun a t ih n => Nat.rec (a :: t) (fun m _ => ih m) n) l
theorem ri_drop_eq {α : Type} : ∀ (l : List α) (n : Nat), ri_drop l n = l.drop n
  | [], n => by simp [ri_drop]
  | _ :: _, 0 => rfl
  | _ :: t, n + 1 => ri_drop_eq t n
/-- the last n of a stack, in the order in which they were laid, and the rest -/
noncomputable def ri_split (n : Nat) : List Value → List Value → Option (List Value × List Value) := Nat.rec (fun acc st => some (acc, st)) (fun _ ih acc st => match st with
  | v :: r => ih (v :: acc) r
  | [] => none) n
theorem ri_split_eq : ∀ (n : Nat) (acc st As rest : List Value), ri_split n acc st = some (As, rest) → ∃ Bs : List Value, Bs.length = n ∧ st = Bs ++ rest ∧ As = Bs.reverse ++ acc
  | 0, acc, st, As, rest, h => by
    have e := Option.some.inj h
    have e1 : acc = As := congrArg Prod.fst e
    have e2 : st = rest := congrArg Prod.snd e
    exact ⟨[], rfl, by rw [e2]; rfl, by rw [e1]; rfl⟩
  | n + 1, acc, [], As, rest, h => by cases h
  | n + 1, acc, v :: r, As, rest, h => by
    obtain ⟨Bs, h1, h2, h3⟩ := ri_split_eq n (v :: acc) r As rest h
    exact ⟨v :: Bs, by rw [List.length_cons, h1], by rw [h2]; rfl, by rw [h3, List.reverse_cons, List.append_assoc]; rfl⟩
/-- a double that is no NaN -/
def ri_num (v : Value) : Bool := match v with
  | .double x => ri_n64 x
  | _ => false
section RID
variable (Ms : List ri_M) (ty : Nat → Nat → FieldType) (df : Nat → List Value) (tyL : List FieldType) (exl : Nat → Nat) (xs : Nat → Value) (L : Nat) (al : Nat → Bool) (orc : List (Bool ⊕ Int32))
def ri_cat (st : List Value) : Nat := (st.map fun v => v.category).sum
/-- behind an instruction that touches no heap -/
noncomputable def ri_next (M : ri_M) (nxt : List ri_Op) (ts : List Nat) (j : Nat) : List ri_Op := Nat.rec nxt (fun k _ => match ri_nth ts k with
  | some t => ri_drop M.2.2.2.2.2 t
  | none => []) j
def ri_more (cs : List ri_Cd) (o : Option ri_Out) : Option ri_Out := match o with
  | some z => some (z.1, z.2.1, z.2.2.1, z.2.2.2.1, cs ++ z.2.2.2.2.1, z.2.2.2.2.2)
  | none => none
/-- a callee's run: the frames that are left, its places, the values that it begins with -/
noncomputable def ri_enter (ih : ri_K) (d bud : Nat) (M : ri_M) (vals rest : List Value) (w : List ri_E) (fr : Nat) : Option ri_Out :=
  ri_ok (Nat.ble 1 d && (Nat.ble (19 + M.2.2.1) bud && (Nat.ble (ri_cat rest) 8 && Nat.ble (lg_sl vals).length M.2.2.1))) (ih (d - 1) (bud - (19 + M.2.2.1)) M M.2.2.2.2.2 0 (lv_args 0 vals) [] w 0 0 fr)
noncomputable def ri_back (ih : ri_K) (d bud : Nat) (M : ri_M) (nxt : List ri_Op) (pc : Nat) (lv : ri_L) (rest : List Value) (nc ns : Nat) (o : Option ri_Out) : Option ri_Out := match o with
  | some (.inl r, w, nc2, ns2, cs, fr) => ri_more cs (ih d bud M nxt (pc + 3) lv (r.toList ++ rest) w (nc + nc2) (ns + ns2) fr)
  | some (.inr x, w, nc2, ns2, cs, fr) => some (.inr x, w, nc + nc2, ns + ns2, cs, fr)
  | none => none
/-- what a handler begins with: the exception laid aside -/
noncomputable def ri_caught (ih : ri_K) (d bud : Nat) (M : ri_M) (lv : ri_L) (w : List ri_E) (nc ns fr : Nat) (cs : List ri_Cd) (os : List ri_Op) : Option ri_Out := match os with
  | oh :: nx2 => (match oh.2.2.1 with
    | .astore_n k => ri_ok (Nat.blt k.val M.2.2.1) (ri_more cs (ih d bud M nx2 (oh.1 + 1) (lv.filter (ri_f1 k.val)) [] w nc ns fr))
    | .astore k => ri_ok (Nat.blt k M.2.2.1) (ri_more cs (ih d bud M nx2 (oh.1 + 2) (lv.filter (ri_f1 k)) [] w nc ns fr))
    | _ => none)
  | [] => none
noncomputable def ri_backH (ih : ri_K) (d bud : Nat) (M : ri_M) (nxt : List ri_Op) (pc : Nat) (lv : ri_L) (rest : List Value) (nc ns : Nat) (hs : List Nat) (o : Option ri_Out) : Option ri_Out := match o with
  | some (.inl r, w, nc2, ns2, cs, fr) => ri_more cs (ih d bud M nxt (pc + 3) lv (r.toList ++ rest) w (nc + nc2) (ns + ns2) fr)
  | some (.inr x, w, nc2, ns2, cs, fr) => ri_ok (!al w.length) (match ri_nth hs x with
    | some t => ri_caught ih d bud M lv w (nc + nc2) (ns + ns2) fr cs (ri_drop M.2.2.2.2.2 t)
    | none => none)
  | none => none
/-- a call: a the callee, b how it is called (0 by its receiver, 1 static, 2 constructor, 3 and 4 a nest mate's, 5 by its receiver where handlers stand, 6 static, of a method with handlers, 8 static, of a method of numbers that an entry runs) -/
noncomputable def ri_call (ih : ri_K) (d bud : Nat) (M : ri_M) (nxt : List ri_Op) (pc : Nat) (lv : ri_L) (st : List Value) (w : List ri_E) (nc ns fr a b : Nat) (ts : List Nat) : Option ri_Out := match ri_nth Ms a with
  | some M2 => (match ri_split M2.2.2.2.2.1 [] st with
    | some (As, rest) => (match b with
      | 0 => (match rest with
        | .ref q :: rest => (match ri_nth w q with
          | some (.inr o) => ri_ok (match ts with | [t] => Nat.beq o.1 t | _ => false) (ri_back ih d bud M nxt pc lv rest nc ns (ri_enter ih d bud M2 (.ref q :: As) rest w fr))
          | _ => none)
        | _ => none)
      | 1 => ri_back ih d bud M nxt pc lv rest nc ns (ri_enter ih d bud M2 As rest w fr)
      | 2 => (match rest with
        | .ref q :: rest => ri_back ih d bud M nxt pc lv rest nc ns (ri_enter ih d bud M2 (.ref q :: As) rest w fr)
        | _ => none)
      | 3 => (match rest with
        | .ref q :: rest => ri_back ih d bud M nxt pc lv rest nc ns (ri_enter ih d bud M2 (.ref q :: As) rest w fr)
        | _ => none)
      | 4 => ri_back ih d bud M nxt pc lv rest nc ns (ri_enter ih d bud M2 As rest w fr)
      | 5 => (match rest with
        | .ref q :: rest => (match ri_nth w q with
          | some (.inr o) => (match ts with
            | t :: hs => ri_ok (Nat.beq o.1 t) (ri_backH al ih d bud M nxt pc lv rest nc ns hs (ri_enter ih d bud M2 (.ref q :: As) rest w fr))
            | [] => none)
          | _ => none)
        | _ => none)
      | 6 => ri_back ih d bud M nxt pc lv rest nc ns (ri_enter ih d bud M2 As rest w fr)
      | 7 => (match rest with
        | .ref q :: rest => ri_ok (Nat.ble 1000001 q && Nat.blt q 1000065) (ri_back ih d bud M nxt pc lv rest nc ns (ri_enter ih d bud M2 (.ref q :: As) rest w fr))
        | _ => none)
      | 8 => ri_ok (As.all ri_num) (ri_back ih d bud M nxt pc lv rest nc ns (ri_enter ih d bud M2 As rest w fr))
      | _ => none)
    | none => none)
  | none => none
def ri_fitR (t : Option FieldType) (v : Value) : Bool := match t with
  | some t => ri_fit t v
  | none => false
/-- an int that stays as it is when it is returned as a char, a byte -/
def ri_fitC (t : Option FieldType) (x : Int32) : Bool := match t with
  | some .char => decide (narrow .char (.int x) = .int x)
  | some .byte => decide (narrow .byte (.int x) = .int x)
  | _ => false
/-- the end of a method -/
noncomputable def ri_ret (M : ri_M) (i : Instr) (st : List Value) (w : List ri_E) (nc ns fr : Nat) : Option ri_Out := match i with
  | .return_ => (match st with
    | [] => ri_ok (match M.2.2.2.1 with | none => true | some _ => false) (some (.inl none, w, nc, ns, [], fr))
    | _ => none)
  | .ireturn => (match st with
    | [.int x] => ri_ok (ri_fitR M.2.2.2.1 (.int x) || ri_fitC M.2.2.2.1 x) (some (.inl (some (.int x)), w, nc, ns, [], fr))
    | [.float x] => ri_ok (match M.2.2.2.1 with | some .int => true | _ => false) (some (.inl (some (.float x)), w, nc, ns, [], fr))
    | _ => none)
  | .lreturn => (match st with
    | [.long x] => ri_ok (ri_fitR M.2.2.2.1 (.long x)) (some (.inl (some (.long x)), w, nc, ns, [], fr))
    | _ => none)
  | .dreturn => (match st with
    | [.double x] => ri_ok (ri_fitR M.2.2.2.1 (.double x)) (some (.inl (some (.double x)), w, nc, ns, [], fr))
    | _ => none)
  | .areturn => (match st with
    | [.ref x] => ri_ok (ri_fitR M.2.2.2.1 (.ref x)) (some (.inl (some (.ref x)), w, nc, ns, [], fr))
    | [.null] => ri_ok (ri_fitR M.2.2.2.1 .null) (some (.inl (some .null), w, nc, ns, [], fr))
    | _ => none)
  | _ => none
noncomputable def ri_exec (ih : ri_K) (d bud : Nat) (M : ri_M) (nxt : List ri_Op) (lv : ri_L) (st : List Value) (w : List ri_E) (nc ns fr pc κ : Nat) (i : Instr) (a b : Nat) (v : Value) (ts : List Nat) : Option ri_Out := match κ with
  | 0 => (match ri_pure M.2.2.1 i pc lv st with
    | some z => ih d bud M (ri_next M nxt ts z.1) z.2.1 z.2.2.1 z.2.2.2 w nc ns fr
    | none => none)
  | 1 => (match ri_getf a b st w with
    | some st => ih d bud M nxt (pc + 3) lv st w nc ns fr
    | none => none)
  | 2 => (match ri_putf (ty a b) a b st w with
    | some z => ih d bud M nxt (pc + 3) lv z.1 z.2 nc ns fr
    | none => none)
  | 3 => ih d bud M nxt (pc + ri_len i) lv (v :: st) w nc ns fr
  | 4 => ri_call Ms al ih d bud M nxt pc lv st w nc ns fr a b ts
  | 5 => (match ri_ald tyL ri_tI st w with
    | some st => ih d bud M nxt (pc + 1) lv st w nc ns fr
    | none => none)
  | 6 => (match ri_ast tyL ri_gI st w with
    | some z => ih d bud M nxt (pc + 1) lv z.1 z.2 nc ns fr
    | none => none)
  | 7 => (match ri_ald tyL ri_tL st w with
    | some st => ih d bud M nxt (pc + 1) lv st w nc ns fr
    | none => none)
  | 8 => (match ri_ast tyL ri_gL st w with
    | some z => ih d bud M nxt (pc + 1) lv z.1 z.2 nc ns fr
    | none => none)
  | 9 => (match ri_ald tyL ri_tD st w with
    | some st => ih d bud M nxt (pc + 1) lv st w nc ns fr
    | none => none)
  | 10 => (match ri_ast tyL ri_gD st w with
    | some z => ih d bud M nxt (pc + 1) lv z.1 z.2 nc ns fr
    | none => none)
  | 11 => (match ri_ald tyL ri_tA st w with
    | some st => ih d bud M nxt (pc + 1) lv st w nc ns fr
    | none => none)
  | 12 => (match ri_ald tyL ri_tB st w with
    | some st => ih d bud M nxt (pc + 1) lv st w nc ns fr
    | none => none)
  | 13 => (match ri_ast tyL ri_gB st w with
    | some z => ih d bud M nxt (pc + 1) lv z.1 z.2 nc ns fr
    | none => none)
  | 14 => (match ri_aast a b st w with
    | some z => ih d bud M nxt (pc + 1) lv z.1 z.2 nc ns fr
    | none => none)
  | 15 => (match ri_alen2 tyL st w with
    | some st => ih d bud M nxt (pc + 1) lv st w nc ns fr
    | none => none)
  | 16 => ri_ret M i st w nc ns fr
  | 17 => bif ri_conc a st then (match ri_pure M.2.2.1 i pc lv st with
      | some z => ih d bud M (ri_next M nxt ts z.1) z.2.1 z.2.2.1 z.2.2.2 w nc ns fr
      | none => none)
    else (match ri_sym M.2.2.1 (ri_nth orc fr) fr i pc lv st with
      | some z => ri_more [z.2.2] (ih d bud M (ri_next M nxt ts z.1.1) z.1.2.1 z.1.2.2.1 z.1.2.2.2 w nc ns z.2.1)
      | none => none)
  | 18 => ri_ok (al w.length && Nat.blt w.length 1000000) (ih d bud M nxt (pc + 3) lv (.ref w.length :: st) (w ++ [.inr (a, df a)]) (nc + 1) (ns + b) fr)
  | 19 => ri_ok (al w.length && Nat.blt w.length 1000000) (match ri_newa a v st w with
    | some z => ih d bud M nxt (pc + 2) lv z.2.1 z.2.2 (nc + 1) (ns + z.1) fr
    | none => none)
  | 20 => ri_ok (al w.length && Nat.blt w.length 1000000) (match ri_newa a .null st w with
    | some z => ih d bud M nxt (pc + 3) lv z.2.1 z.2.2 (nc + 1) (ns + z.1) fr
    | none => none)
  | 21 => (match st with
    | .ref _ :: r => ri_ok (Nat.ble 1 d && Nat.ble (ri_cat r + 12) bud) (ih d bud M nxt (pc + 3) lv r w nc ns fr)
    | _ => none)
  | 22 => ri_ok (Nat.ble 1 d) (match ri_acopy tyL bud st w with
    | some z => ih d bud M nxt (pc + 3) lv z.1 z.2 nc ns fr
    | none => none)
  | 23 => ri_ok (Nat.ble (exl a + 4) d && Nat.ble (ri_cat st + (13 * (exl a + 1) + 42)) bud) (some (.inr a, w, nc + 1, ns + 6, [], fr))
  | 24 => (match st with
    | .int j :: .ref q :: r => ri_ok (Nat.beq q 1000000 && (!decide (j < 0) && Nat.blt j.toNatClampNeg L)) (ih d bud M nxt (pc + 1) lv (xs j.toNatClampNeg :: r) w nc ns fr)
    | _ => none)
  | 25 => (match st with
    | .ref q :: r => ri_ok (Nat.beq q 1000000) (ih d bud M nxt (pc + 1) lv (.int (Int32.ofNat L) :: r) w nc ns fr)
    | _ => none)
  | 26 => ri_ok (al w.length) (match ri_mna a b st w with
    | some z => ri_ok (Nat.ble z.2.2.2.length 1000000) (ih d bud M nxt (pc + 4) lv z.2.2.1 z.2.2.2 (nc + (1 + z.1)) (ns + (z.1 + z.1 * z.2.1)) fr)
    | none => none)
  | 27 => bif ri_conc 1 st then (match ri_ast tyL ri_gB st w with
      | some z => ih d bud M nxt (pc + 1) lv z.1 z.2 nc ns fr
      | none => none)
    else (match ri_ast tyL (ri_gU fr) st w with
      | some z => ri_more [(.i2b, ri_top st, .int 0, fr, true)] (ih d bud M nxt (pc + 1) lv z.1 z.2 nc ns (fr + 1))
      | none => none)
  | 28 => (match ri_lc tyL a b lv st w with
    | some z => (match ri_nth orc fr with
      | some (.inl g) => (match v with
        | .ref t => ri_more [(.lcmp, z.1, .long z.2.1, 0, g)] (ih d bud M (ri_next M nxt ts (bif g then 1 else 2)) (bif g then t else pc + 11) lv z.2.2 w nc ns (fr + 1))
        | _ => none)
      | _ => none)
    | none => none)
  | 29 => (match ri_str d bud a st with
    | some z => ih d bud M nxt (pc + z.1) lv z.2 w nc ns fr
    | none => none)
  | _ => none
noncomputable def ri_run (fuel : Nat) : ri_K := Nat.rec (fun _ _ _ _ _ _ _ _ _ _ _ => none) (fun _ ih d bud M cur pc lv st w nc ns fr => match cur with
  | o :: nxt => ri_ok (Nat.beq o.1 pc) (ri_exec Ms ty df tyL exl xs L al orc ih d bud M nxt lv st w nc ns fr pc o.2.1 o.2.2.1 o.2.2.2.1 o.2.2.2.2.1 o.2.2.2.2.2.1 o.2.2.2.2.2.2)
  | [] => none) fuel
end RID
