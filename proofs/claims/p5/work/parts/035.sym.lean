/-! ===== the reckoner, part 1b: ints that aren't known ===== -/
/-- a condition: of a branch (which way it went), or what a new number of the unknown is -/
abbrev ri_Cd : Type := Instr × Value × Value × Nat × Bool
def ri_sy (ad : Nat → Nat) (k : Nat) : Int32 := ri_I ad (.float (UInt32.ofNat k))
def ri_op2 (i : Instr) (x y : Int32) : Option Int32 := match i with
  | .iadd => some (x + y)
  | .isub => some (x - y)
  | .imul => some (x * y)
  | .iand => some (x &&& y)
  | .ior => some (x ||| y)
  | .ixor => some (x ^^^ y)
  | .ishl => some (x <<< (y &&& 31))
  | .ishr => some (x >>> (y &&& 31))
  | .iushr => some ((x.toUInt32 >>> (y.toUInt32 &&& Int32.toUInt32 31)).toInt32)
  | _ => none
def ri_op1 (i : Instr) (x : Int32) : Option Int32 := match i with
  | .ineg => some (-x)
  | .i2b => some (x.toInt8.toInt32)
  | .i2s => some (x.toInt16.toInt32)
  | .i2c => some ((x.toUInt32 % 65536).toInt32)
  | _ => none
/-- how many ints an instruction takes -/
def ri_ar (i : Instr) : Nat := match i with
  | .iadd | .isub | .imul | .iand | .ior | .ixor | .ishl | .ishr | .iushr => 2
  | .ineg | .i2b | .i2s | .i2c => 1
  | _ => 0
def ri_sem (ad : Nat → Nat) (q : ri_Cd) : Prop := match q.1 with
  | .if_icmp c _ => ri_cnd c (ri_I ad q.2.1) (ri_I ad q.2.2.1) = q.2.2.2.2
  | .ifCond c _ => ri_cnd c (ri_I ad q.2.1) 0 = q.2.2.2.2
  | .lcmp => ri_cnd .lt (lg_cmp (ri_I ad q.2.1).toInt64 (match q.2.2.1 with | .long y => y | _ => 0)) 0 = q.2.2.2.2
  | i => match ri_ar i with
    | 2 => ri_op2 i (ri_I ad q.2.1) (ri_I ad q.2.2.1) = some (ri_sy ad q.2.2.2.1)
    | _ => ri_op1 i (ri_I ad q.2.1) = some (ri_sy ad q.2.2.2.1)
/-- are the first a of the stack known ints? -/
def ri_conc (a : Nat) (st : List Value) : Bool := match a with
  | 1 => (match st with | .int _ :: _ => true | _ => false)
  | _ => (match st with | .int _ :: .int _ :: _ => true | _ => false)
noncomputable def ri_sym (nL : Nat) (o : Option (Bool ⊕ Int32)) (fr : Nat) (i : Instr) (pc : Nat) (lv : ri_L) (st : List Value) : Option (ri_R × Nat × ri_Cd) := match i with
  | .ifCond c off => (match o with
    | some (.inl b) => ri_v1 st (fun v r => match (pc : Int) + off with
      | .ofNat t => some ((bif b then (1, t, lv, r) else (0, pc + 3, lv, r)), fr + 1, (.ifCond c off, v, .int 0, 0, b))
      | .negSucc _ => none)
    | _ => none)
  | .if_icmp c off => (match o with
    | some (.inl b) => ri_v1 st (fun y r => ri_v1 r (fun x r => match (pc : Int) + off with
      | .ofNat t => some ((bif b then (1, t, lv, r) else (0, pc + 3, lv, r)), fr + 1, (.if_icmp c off, x, y, 0, b))
      | .negSucc _ => none))
    | _ => none)
  | .tableswitch d9 lo hi offs => (match o with
    | some (.inr x) => ri_v1 st (fun v r => match ri_pure nL (.tableswitch d9 lo hi offs) pc lv (.int x :: r) with
      | some z => some (z, fr + 1, (.if_icmp .eq 0, v, .int x, 0, true))
      | none => none)
    | some (.inl true) => ri_v1 st (fun v r => ri_ok (decide ((Int32.ofInt hi).toInt = hi)) (match ri_tg pc d9 1 lv r with
      | some z => some (z, fr + 1, (.if_icmp .gt 0, v, .int (Int32.ofInt hi), 0, true))
      | none => none))
    | some (.inl false) => ri_v1 st (fun v r => ri_ok (decide ((Int32.ofInt lo).toInt = lo)) (match ri_tg pc d9 1 lv r with
      | some z => some (z, fr + 1, (.if_icmp .lt 0, v, .int (Int32.ofInt lo), 0, true))
      | none => none))
    | none => none)
  | i => (match ri_ar i with
    | 1 => ri_v1 st (fun x r => some ((0, pc + 1, lv, .float (UInt32.ofNat fr) :: r), fr + 1, (i, x, .int 0, fr, true)))
    | 2 => ri_v1 st (fun y r => ri_v1 r (fun x r => some ((0, pc + 1, lv, .float (UInt32.ofNat fr) :: r), fr + 1, (i, x, y, fr, true))))
    | _ => none)
section RIY
variable {p : Program} {l : Launch} {e : Env} {R : Room} {s : State} {m : MethodId} {args : Array Value} {below : List Frame} {meth : Method} {c : Code} {H : Heap} {locs : List Loc} {cells slots : Nat} {Q : State → Prop}
variable {cc : ByteArray} {ls : Array Slot} {rest : List Value}
theorem ri_op2_ok {i : Instr} {len pc : Nat} {x y z : Int32} (hx : p.tables.exec = Jvm.exec) (hb : c.code = cc) (hd : decode cc pc = .ok (i, len)) (hlen : ri_len i = 0 ∨ ri_len i = len) (h : ri_op2 i x y = some z) (k : W p l e R s m args below meth c H locs cells slots Q (F0 m (pc + 1) ls (.int z :: rest))) : W p l e R s m args below meth c H locs cells slots Q (F0 m pc ls (.int y :: .int x :: rest)) := by
  have hl9 : ∀ {n : Nat}, ri_len i = n + 1 → n + 1 = len := fun h9 => (hlen.resolve_left (fun q => by rw [h9] at q; cases q)) ▸ h9.symm
  cases i with
  | iadd => cases hl9 rfl; cases h; exact lv_iadd hx hb hd k
  | isub => cases hl9 rfl; cases h; exact lv_isub hx hb hd k
  | imul => cases hl9 rfl; cases h; exact lv_imul hx hb hd k
  | iand => cases hl9 rfl; cases h; exact lv_iand hx hb hd k
  | ior => cases hl9 rfl; cases h; exact lv_ior hx hb hd k
  | ixor => cases hl9 rfl; cases h; exact lv_ixor hx hb hd k
  | ishl => cases hl9 rfl; cases h; exact lv_ishl hx hb hd k
  | ishr => cases hl9 rfl; cases h; exact lv_ishr hx hb hd k
  | iushr => cases hl9 rfl; cases h; exact lv_iushr hx hb hd rfl k
  | _ => cases h
theorem ri_op1_ok {i : Instr} {len pc : Nat} {x z : Int32} (hx : p.tables.exec = Jvm.exec) (hb : c.code = cc) (hd : decode cc pc = .ok (i, len)) (hlen : ri_len i = 0 ∨ ri_len i = len) (h : ri_op1 i x = some z) (k : W p l e R s m args below meth c H locs cells slots Q (F0 m (pc + 1) ls (.int z :: rest))) : W p l e R s m args below meth c H locs cells slots Q (F0 m pc ls (.int x :: rest)) := by
  have hl9 : ∀ {n : Nat}, ri_len i = n + 1 → n + 1 = len := fun h9 => (hlen.resolve_left (fun q => by rw [h9] at q; cases q)) ▸ h9.symm
  cases i with
  | ineg => cases hl9 rfl; cases h; exact lv_ineg hx hb hd k
  | i2b => cases hl9 rfl; cases h; exact lv_i2b hx hb hd rfl k
  | i2s => cases hl9 rfl; cases h; exact lv_i2s hx hb hd rfl k
  | i2c => cases hl9 rfl; cases h; exact lv_i2c hx hb hd rfl k
  | _ => cases h
theorem ri_if_ok {c9 : Jvm.ClassFile.Cond} {off : Int} {len pc t : Nat} {x : Int32} {b : Bool} (hx : p.tables.exec = Jvm.exec) (hb : c.code = cc) (hd : decode cc pc = .ok (.ifCond c9 off, len)) (hlen : ri_len (.ifCond c9 off) = 0 ∨ ri_len (.ifCond c9 off) = len) (ht : (pc : Int) + off = (t : Int)) (hc : ri_cnd c9 x 0 = b)
    (k : W p l e R s m args below meth c H locs cells slots Q (F0 m (bif b then t else pc + 3) ls rest)) : W p l e R s m args below meth c H locs cells slots Q (F0 m pc ls (.int x :: rest)) := by
  cases (hlen.resolve_left (fun q => by cases q) : 3 = len)
  cases c9 with
  | eq => exact lv_if_eq hx hb hd ht (fun hq => by rw [show b = true by rw [← hc]; simp [ri_cnd, hq]] at k; exact k) (fun hq => by rw [show b = false by rw [← hc]; simp [ri_cnd, hq]] at k; exact k)
  | ne => exact lv_if_ne hx hb hd ht (fun hq => by rw [show b = true by rw [← hc]; simp [ri_cnd, hq]] at k; exact k) (fun hq => by rw [show b = false by rw [← hc]; simp [ri_cnd, hq]] at k; exact k)
  | lt => exact lv_if_lt hx hb hd ht (fun hq => by rw [show b = true by rw [← hc]; simp [ri_cnd, hq]] at k; exact k) (fun hq => by rw [show b = false by rw [← hc]; simp [ri_cnd, hq]] at k; exact k)
  | ge => exact lv_if_ge hx hb hd ht (fun hq => by rw [show b = true by rw [← hc]; simp [ri_cnd, hq]] at k; exact k) (fun hq => by rw [show b = false by rw [← hc]; simp [ri_cnd, hq]] at k; exact k)
  | gt => exact lv_if_gt hx hb hd ht (fun hq => by rw [show b = true by rw [← hc]; simp [ri_cnd, hq]] at k; exact k) (fun hq => by rw [show b = false by rw [← hc]; simp [ri_cnd, hq]] at k; exact k)
  | le => exact lv_if_le hx hb hd ht (fun hq => by rw [show b = true by rw [← hc]; simp [ri_cnd, hq]] at k; exact k) (fun hq => by rw [show b = false by rw [← hc]; simp [ri_cnd, hq]] at k; exact k)
theorem ri_icmp_ok {c9 : Jvm.ClassFile.Cond} {off : Int} {len pc t : Nat} {x y : Int32} {b : Bool} (hx : p.tables.exec = Jvm.exec) (hb : c.code = cc) (hd : decode cc pc = .ok (.if_icmp c9 off, len)) (hlen : ri_len (.if_icmp c9 off) = 0 ∨ ri_len (.if_icmp c9 off) = len) (ht : (pc : Int) + off = (t : Int)) (hc : ri_cnd c9 x y = b)
    (k : W p l e R s m args below meth c H locs cells slots Q (F0 m (bif b then t else pc + 3) ls rest)) : W p l e R s m args below meth c H locs cells slots Q (F0 m pc ls (.int y :: .int x :: rest)) := by
  cases (hlen.resolve_left (fun q => by cases q) : 3 = len)
  cases c9 with
  | eq => exact lv_icmp_eq hx hb hd ht (fun hq => by rw [show b = true by rw [← hc]; simp [ri_cnd, hq]] at k; exact k) (fun hq => by rw [show b = false by rw [← hc]; simp [ri_cnd, hq]] at k; exact k)
  | ne => exact lv_icmp_ne hx hb hd ht (fun hq => by rw [show b = true by rw [← hc]; simp [ri_cnd, hq]] at k; exact k) (fun hq => by rw [show b = false by rw [← hc]; simp [ri_cnd, hq]] at k; exact k)
  | lt => exact lv_icmp_lt hx hb hd ht (fun hq => by rw [show b = true by rw [← hc]; simp [ri_cnd, hq]] at k; exact k) (fun hq => by rw [show b = false by rw [← hc]; simp [ri_cnd, hq]] at k; exact k)
  | ge => exact lv_icmp_ge hx hb hd ht (fun hq => by rw [show b = true by rw [← hc]; simp [ri_cnd, hq]] at k; exact k) (fun hq => by rw [show b = false by rw [← hc]; simp [ri_cnd, hq]] at k; exact k)
  | gt => exact lv_icmp_gt hx hb hd ht (fun hq => by rw [show b = true by rw [← hc]; simp [ri_cnd, hq]] at k; exact k) (fun hq => by rw [show b = false by rw [← hc]; simp [ri_cnd, hq]] at k; exact k)
  | le => exact lv_icmp_le hx hb hd ht (fun hq => by rw [show b = true by rw [← hc]; simp [ri_cnd, hq]] at k; exact k) (fun hq => by rw [show b = false by rw [← hc]; simp [ri_cnd, hq]] at k; exact k)
set_option maxHeartbeats 4000000 in
theorem ri_sym_ok {ad : Nat → Nat} {nL fr : Nat} {o : Option (Bool ⊕ Int32)} {i : Instr} {len pc : Nat} {lv : ri_L} {st : List Value} {z : ri_R × Nat × ri_Cd} (hx : p.tables.exec = Jvm.exec) (hb : c.code = cc)
    (hd : decode cc pc = .ok (i, len)) (hlen : ri_len i = 0 ∨ ri_len i = len) (hl : lv_has ls nL (ri_lr ad lv)) (h : ri_sym nL o fr i pc lv st = some z) (hs : ri_sem ad z.2.2)
    (k : ∀ ls' : Array Slot, lv_has ls' nL (ri_lr ad z.1.2.2.1) → W p l e R s m args below meth c H locs cells slots Q (F0 m z.1.2.1 ls' (z.1.2.2.2.map (ri_v ad)))) : W p l e R s m args below meth c H locs cells slots Q (F0 m pc ls (st.map (ri_v ad))) := by
  have two : ∀ (i : Instr), ri_ar i = 2 → decode cc pc = .ok (i, len) → (ri_len i = 0 ∨ ri_len i = len) → ri_v1 st (fun y r => ri_v1 r (fun x r => some (((0, pc + 1, lv, .float (UInt32.ofNat fr) :: r) : ri_R), fr + 1, ((i, x, y, fr, true) : ri_Cd)))) = some z → (∀ q : ri_Cd, q.1 = i → ri_sem ad q → ri_op2 i (ri_I ad q.2.1) (ri_I ad q.2.2.1) = some (ri_sy ad q.2.2.2.1)) → W p l e R s m args below meth c H locs cells slots Q (F0 m pc ls (st.map (ri_v ad))) := by
    intro i _ hd hlen h hq
    obtain ⟨y, r1, e1, hy, h1⟩ := ri_v1_eq h
    obtain ⟨x, r, e2, hx9, h2⟩ := ri_v1_eq h1
    clear h h1
    subst e1; subst e2
    cases h2
    rw [List.map_cons, List.map_cons, ri_isI_v hy, ri_isI_v hx9]
    exact ri_op2_ok hx hb hd hlen (hq _ rfl hs) (k ls hl)
  have one : ∀ (i : Instr), ri_ar i = 1 → decode cc pc = .ok (i, len) → (ri_len i = 0 ∨ ri_len i = len) → ri_v1 st (fun x r => some (((0, pc + 1, lv, .float (UInt32.ofNat fr) :: r) : ri_R), fr + 1, ((i, x, .int 0, fr, true) : ri_Cd))) = some z → (∀ q : ri_Cd, q.1 = i → ri_sem ad q → ri_op1 i (ri_I ad q.2.1) = some (ri_sy ad q.2.2.2.1)) → W p l e R s m args below meth c H locs cells slots Q (F0 m pc ls (st.map (ri_v ad))) := by
    intro i _ hd hlen h hq
    obtain ⟨x, r, e2, hx9, h2⟩ := ri_v1_eq h
    clear h
    subst e2
    cases h2
    rw [List.map_cons, ri_isI_v hx9]
    exact ri_op1_ok hx hb hd hlen (hq _ rfl hs) (k ls hl)
  cases i with
  | iadd => exact two .iadd rfl hd hlen h (fun q e h9 => by obtain ⟨q1, q2⟩ := q; cases e; exact h9)
  | isub => exact two .isub rfl hd hlen h (fun q e h9 => by obtain ⟨q1, q2⟩ := q; cases e; exact h9)
  | imul => exact two .imul rfl hd hlen h (fun q e h9 => by obtain ⟨q1, q2⟩ := q; cases e; exact h9)
  | iand => exact two .iand rfl hd hlen h (fun q e h9 => by obtain ⟨q1, q2⟩ := q; cases e; exact h9)
  | ior => exact two .ior rfl hd hlen h (fun q e h9 => by obtain ⟨q1, q2⟩ := q; cases e; exact h9)
  | ixor => exact two .ixor rfl hd hlen h (fun q e h9 => by obtain ⟨q1, q2⟩ := q; cases e; exact h9)
  | ishl => exact two .ishl rfl hd hlen h (fun q e h9 => by obtain ⟨q1, q2⟩ := q; cases e; exact h9)
  | ishr => exact two .ishr rfl hd hlen h (fun q e h9 => by obtain ⟨q1, q2⟩ := q; cases e; exact h9)
  | iushr => exact two .iushr rfl hd hlen h (fun q e h9 => by obtain ⟨q1, q2⟩ := q; cases e; exact h9)
  | ineg => exact one .ineg rfl hd hlen h (fun q e h9 => by obtain ⟨q1, q2⟩ := q; cases e; exact h9)
  | i2b => exact one .i2b rfl hd hlen h (fun q e h9 => by obtain ⟨q1, q2⟩ := q; cases e; exact h9)
  | i2s => exact one .i2s rfl hd hlen h (fun q e h9 => by obtain ⟨q1, q2⟩ := q; cases e; exact h9)
  | i2c => exact one .i2c rfl hd hlen h (fun q e h9 => by obtain ⟨q1, q2⟩ := q; cases e; exact h9)
  | ifCond c9 off =>
    cases o with
    | none => cases h
    | some o9 =>
      cases o9 with
      | inr x => cases h
      | inl b =>
        obtain ⟨v, r, e1, hv, h1⟩ := ri_v1_eq h
        clear h
        subst e1
        split at h1
        · rename_i t ht
          cases h1
          rw [List.map_cons, ri_isI_v hv]
          refine ri_if_ok (t := t) (b := b) hx hb hd hlen ht hs ?_
          cases b with
          | true => exact k ls hl
          | false => exact k ls hl
        · cases h1
  | if_icmp c9 off =>
    cases o with
    | none => cases h
    | some o9 =>
      cases o9 with
      | inr x => cases h
      | inl b =>
        obtain ⟨y, r1, e1, hy, h1⟩ := ri_v1_eq h
        obtain ⟨x, r, e2, hx9, h2⟩ := ri_v1_eq h1
        clear h h1
        subst e1; subst e2
        split at h2
        · rename_i t ht
          cases h2
          rw [List.map_cons, List.map_cons, ri_isI_v hy, ri_isI_v hx9]
          refine ri_icmp_ok (t := t) (b := b) hx hb hd hlen ht hs ?_
          cases b with
          | true => exact k ls hl
          | false => exact k ls hl
        · cases h2
  | tableswitch d9 lo hi offs =>
    cases o with
    | none => cases h
    | some o9 =>
      cases o9 with
      | inl b =>
        cases b with
        | true =>
          obtain ⟨v, r, e1, hv, h1⟩ := ri_v1_eq h
          clear h
          subst e1
          obtain ⟨hq, h2⟩ := ri_ok_eq h1
          have hq2 : (Int32.ofInt hi).toInt = hi := of_decide_eq_true hq
          split at h2
          · rename_i z9 hz
            cases h2
            have hs2 : ri_cnd .gt (ri_I ad v) (Int32.ofInt hi) = true := hs
            have e9 : Int32.ofInt hi < ri_I ad v := by simpa [ri_cnd] using hs2
            have e8 : hi < (ri_I ad v).toInt := by rw [← hq2]; exact Int32.lt_iff_toInt_lt.mp e9
            rw [List.map_cons, ri_isI_v hv]
            refine ri_pure_ok (ad := ad) (j := z9.1) (p' := z9.2.1) (lv' := z9.2.2.1) (st' := z9.2.2.2) (st := .int (ri_I ad v) :: r) hx hb hd hlen hl ?_ k
            show (bif decide ((ri_I ad v).toInt < lo) || decide (hi < (ri_I ad v).toInt) then ri_tg pc d9 1 lv r else _) = some z9
            rw [decide_eq_true e8, Bool.or_true, cond_true]
            exact hz
          · cases h2
        | false =>
          obtain ⟨v, r, e1, hv, h1⟩ := ri_v1_eq h
          clear h
          subst e1
          obtain ⟨hq, h2⟩ := ri_ok_eq h1
          have hq2 : (Int32.ofInt lo).toInt = lo := of_decide_eq_true hq
          split at h2
          · rename_i z9 hz
            cases h2
            have hs2 : ri_cnd .lt (ri_I ad v) (Int32.ofInt lo) = true := hs
            have e9 : ri_I ad v < Int32.ofInt lo := by simpa [ri_cnd] using hs2
            have e8 : (ri_I ad v).toInt < lo := by rw [← hq2]; exact Int32.lt_iff_toInt_lt.mp e9
            rw [List.map_cons, ri_isI_v hv]
            refine ri_pure_ok (ad := ad) (j := z9.1) (p' := z9.2.1) (lv' := z9.2.2.1) (st' := z9.2.2.2) (st := .int (ri_I ad v) :: r) hx hb hd hlen hl ?_ k
            show (bif decide ((ri_I ad v).toInt < lo) || decide (hi < (ri_I ad v).toInt) then ri_tg pc d9 1 lv r else _) = some z9
            rw [decide_eq_true e8, Bool.true_or, cond_true]
            exact hz
          · cases h2
      | inr x =>
        obtain ⟨v, r, e1, hv, h1⟩ := ri_v1_eq h
        clear h
        subst e1
        split at h1
        · rename_i z9 hz
          cases h1
          have hs2 : ri_cnd .eq (ri_I ad v) x = true := hs
          have e9 : ri_I ad v = x := by simpa [ri_cnd] using hs2
          rw [List.map_cons, ri_isI_v hv, e9]
          exact ri_pure_ok (ad := ad) (j := z9.1) (p' := z9.2.1) (lv' := z9.2.2.1) (st' := z9.2.2.2) (st := .int x :: r) hx hb hd hlen hl hz k
        · cases h1
  | _ => cases h
end RIY
