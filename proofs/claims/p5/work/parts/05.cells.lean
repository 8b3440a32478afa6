/-! ===== the reckoner, part 3: arrays and new cells ===== -/
section RIA
variable {p : Program} {l : Launch} {e : Env} {R : Room} {s : State} {m : MethodId} {args : Array Value} {below : List Frame} {meth : Method} {c : Code} {H : Heap} {locs : List Loc} {cells slots : Nat} {Q : State → Prop}
variable {cc : ByteArray} {pc : Nat} {ls : Array Slot} {ad : Nat → Nat} {cA : Nat → ClassId} {tyL : List FieldType} {D : va_G} {cl : List vw_C} {ty : Nat → Nat → FieldType} {WG : List Jvm.Cond} {own : String} {w : List ri_E} {H0 : Heap}
def ri_tI (t : FieldType) : Bool := match t with | .int => true | _ => false
def ri_tB (t : FieldType) : Bool := match t with | .byte => true | .boolean => true | _ => false
def ri_tL (t : FieldType) : Bool := match t with | .long => true | _ => false
def ri_tD (t : FieldType) : Bool := match t with | .double => true | _ => false
def ri_tA (t : FieldType) : Bool := match t with | .object _ => true | .array _ => true | _ => false
theorem ri_arr_at (hK : va_K D cl (ri_tys cA tyL) s) (hP : ri_P D cl ad cA w H) {q t : Nat} {vs : List Value} {t9 : FieldType} (hq : w[q]? = some (.inl (t, vs))) (ht : tyL[t]? = some t9) :
    H[ad q]? = some (arrV (cA t) vs.length (ri_f ad vs)) ∧ s.isArrayOf (arrV (cA t) vs.length (ri_f ad vs)) t9 ∧ (arrV (cA t) vs.length (ri_f ad vs)).vm ≠ .unknown := ⟨hP q _ hq, (hK.2 t _ (ri_tys_at ht)).1 _ _, fun h => by cases h⟩
theorem ri_in {i : Int32} {vs : List Value} {t : Nat} {v : Value} (h0 : ¬ i < 0) (hv : vs[i.toNatClampNeg]? = some v) : ¬ (i < 0 ∨ (arrV (cA t) vs.length (ri_f ad vs)).slots.size ≤ i.toNatClampNeg) ∧ (arrV (cA t) vs.length (ri_f ad vs)).slots[i.toNatClampNeg]? = some (ri_v ad v) := by
  have hl := (List.getElem?_eq_some_iff.mp hv).1
  refine ⟨fun q => q.elim h0 (fun z => ?_), ?_⟩
  · rw [arrV_size] at z
    omega
  · rw [arrV_read _ _ hl, ri_f_at hv]
theorem ri_iald_ok {st st' : List Value} (hx : p.tables.exec = Jvm.exec) (hb : c.code = cc) (hK : va_K D cl (ri_tys cA tyL) s) (hP : ri_P D cl ad cA w H) (hd : decode cc pc = .ok (.iaload, 1)) (h : ri_ald tyL ri_tI st w = some st')
    (k : W p l e R s m args below meth c H locs cells slots Q (F0 m (pc + 1) ls (st'.map (ri_v ad)))) : W p l e R s m args below meth c H locs cells slots Q (F0 m pc ls (st.map (ri_v ad))) := by
  obtain ⟨i, q, t, r, vs, v, t9, rfl, hq, ht, hg, h0, hv, rfl⟩ := ri_ald_eq h
  obtain ⟨a1, a2, a3⟩ := ri_arr_at hK hP hq ht
  obtain ⟨b1, b2⟩ := ri_in (ad := ad) (cA := cA) (t := t) h0 hv
  cases t9 <;> first | exact W.iald hx hb a1 a2 a3 b1 b2 rfl rfl hd k | cases hg
theorem ri_bald_ok {st st' : List Value} (hx : p.tables.exec = Jvm.exec) (hb : c.code = cc) (hK : va_K D cl (ri_tys cA tyL) s) (hP : ri_P D cl ad cA w H) (hd : decode cc pc = .ok (.baload, 1)) (h : ri_ald tyL ri_tB st w = some st')
    (k : W p l e R s m args below meth c H locs cells slots Q (F0 m (pc + 1) ls (st'.map (ri_v ad)))) : W p l e R s m args below meth c H locs cells slots Q (F0 m pc ls (st.map (ri_v ad))) := by
  obtain ⟨i, q, t, r, vs, v, t9, rfl, hq, ht, hg, h0, hv, rfl⟩ := ri_ald_eq h
  obtain ⟨a1, a2, a3⟩ := ri_arr_at hK hP hq ht
  obtain ⟨b1, b2⟩ := ri_in (ad := ad) (cA := cA) (t := t) h0 hv
  cases t9 <;> first | exact W.bald hx hb a1 a2 a3 b1 b2 rfl rfl hd k | exact W.zald hx hb a1 a2 a3 b1 b2 rfl rfl hd k | cases hg
theorem ri_lald_ok {st st' : List Value} (hx : p.tables.exec = Jvm.exec) (hb : c.code = cc) (hK : va_K D cl (ri_tys cA tyL) s) (hP : ri_P D cl ad cA w H) (hd : decode cc pc = .ok (.laload, 1)) (h : ri_ald tyL ri_tL st w = some st')
    (k : W p l e R s m args below meth c H locs cells slots Q (F0 m (pc + 1) ls (st'.map (ri_v ad)))) : W p l e R s m args below meth c H locs cells slots Q (F0 m pc ls (st.map (ri_v ad))) := by
  obtain ⟨i, q, t, r, vs, v, t9, rfl, hq, ht, hg, h0, hv, rfl⟩ := ri_ald_eq h
  obtain ⟨a1, a2, a3⟩ := ri_arr_at hK hP hq ht
  obtain ⟨b1, b2⟩ := ri_in (ad := ad) (cA := cA) (t := t) h0 hv
  cases t9 <;> first | exact W.lald hx hb a1 a2 a3 b1 b2 rfl rfl hd k | cases hg
theorem ri_dald_ok {st st' : List Value} (hx : p.tables.exec = Jvm.exec) (hb : c.code = cc) (hK : va_K D cl (ri_tys cA tyL) s) (hP : ri_P D cl ad cA w H) (hd : decode cc pc = .ok (.daload, 1)) (h : ri_ald tyL ri_tD st w = some st')
    (k : W p l e R s m args below meth c H locs cells slots Q (F0 m (pc + 1) ls (st'.map (ri_v ad)))) : W p l e R s m args below meth c H locs cells slots Q (F0 m pc ls (st.map (ri_v ad))) := by
  obtain ⟨i, q, t, r, vs, v, t9, rfl, hq, ht, hg, h0, hv, rfl⟩ := ri_ald_eq h
  obtain ⟨a1, a2, a3⟩ := ri_arr_at hK hP hq ht
  obtain ⟨b1, b2⟩ := ri_in (ad := ad) (cA := cA) (t := t) h0 hv
  cases t9 <;> first | exact W.dald hx hb a1 a2 a3 b1 b2 rfl rfl hd k | cases hg
theorem ri_aald_ok {st st' : List Value} (hx : p.tables.exec = Jvm.exec) (hb : c.code = cc) (hK : va_K D cl (ri_tys cA tyL) s) (hP : ri_P D cl ad cA w H) (hd : decode cc pc = .ok (.aaload, 1)) (h : ri_ald tyL ri_tA st w = some st')
    (k : W p l e R s m args below meth c H locs cells slots Q (F0 m (pc + 1) ls (st'.map (ri_v ad)))) : W p l e R s m args below meth c H locs cells slots Q (F0 m pc ls (st.map (ri_v ad))) := by
  obtain ⟨i, q, t, r, vs, v, t9, rfl, hq, ht, hg, h0, hv, rfl⟩ := ri_ald_eq h
  obtain ⟨a1, a2, a3⟩ := ri_arr_at hK hP hq ht
  obtain ⟨b1, b2⟩ := ri_in (ad := ad) (cA := cA) (t := t) h0 hv
  cases t9 <;> first | exact W.aald hx hb a1 a2 rfl a3 b1 b2 rfl rfl hd k | cases hg
noncomputable def ri_alen2 (tyL : List FieldType) (st : List Value) (w : List ri_E) : Option (List Value) := match st with
  | .ref q :: r => (match ri_nth w q with
    | some (.inl a) => (match ri_nth tyL a.1 with
      | some _ => some (.int (Int32.ofNat a.2.length) :: r)
      | none => none)
    | _ => none)
  | _ => none
theorem ri_alen_ok {st st' : List Value} (hx : p.tables.exec = Jvm.exec) (hb : c.code = cc) (hK : va_K D cl (ri_tys cA tyL) s) (hP : ri_P D cl ad cA w H) (hd : decode cc pc = .ok (.arraylength, 1)) (h : ri_alen2 tyL st w = some st')
    (k : W p l e R s m args below meth c H locs cells slots Q (F0 m (pc + 1) ls (st'.map (ri_v ad)))) : W p l e R s m args below meth c H locs cells slots Q (F0 m pc ls (st.map (ri_v ad))) := by
  unfold ri_alen2 at h
  split at h
  · rename_i q r
    split at h
    · rename_i a ha
      split at h
      · rename_i t9 ht
        rw [ri_nth_eq] at ha ht
        obtain ⟨a1, a2, a3⟩ := ri_arr_at hK hP ha ht
        cases h
        exact W.alen (n := Int32.ofNat a.2.length) hx hb a1 a2 (by rw [arrV_size] <;> rfl) rfl rfl hd k
      · cases h
    · cases h
  · cases h
/-! stores -/
def ri_gI (t : FieldType) (x : Value) : Option Value := match t with
  | .int => (match x with | .int y => some (.int y) | .float y => some (.float y) | _ => none)
  | _ => none
def ri_gB (t : FieldType) (x : Value) : Option Value := match t with
  | .byte => (match x with | .int y => some (narrow .byte (.int y)) | _ => none)
  | .boolean => (match x with | .int y => some (narrow .boolean (.int y)) | _ => none)
  | _ => none
def ri_gL (t : FieldType) (x : Value) : Option Value := match t with
  | .long => (match x with | .long y => some (.long y) | _ => none)
  | _ => none
def ri_gD (t : FieldType) (x : Value) : Option Value := match t with
  | .double => (match x with | .double y => some (.double y) | _ => none)
  | _ => none
theorem ri_in2 {i : Int32} {vs : List Value} {t : Nat} (h0 : ¬ i < 0) (hl : i.toNatClampNeg < vs.length) : ¬ (i < 0 ∨ (arrV (cA t) vs.length (ri_f ad vs)).slots.size ≤ i.toNatClampNeg) := fun q => q.elim h0 (fun z => by rw [arrV_size] at z; omega)
theorem ri_stored (hP : ri_P D cl ad cA w H) (hi9 : ri_inj ad) (hS9 : va_S (ri_A ad) H0 H locs) {q t : Nat} {vs : List Value} {i : Nat} {v : Value} (hl : i < vs.length) (hw9 : w.length ≤ 1000000) (hq9 : q < 1000000) {pc' : Nat} {st' : List Value}
    (k : ∀ (H1 : Heap) (locs1 : List Loc), ri_P D cl ad cA (w.set q (.inl (t, vs.set i v))) H1 → va_S (ri_A ad) H0 H1 locs1 → H1.size = H.size → W p l e R s m args below meth c H1 locs1 cells slots Q (F0 m pc' ls st')) :
    ∀ H' : Heap, H'[ad q]? = some ((arrV (cA t) vs.length (ri_f ad vs)).setSlot i (ri_v ad v)) → H'.size = H.size → (∀ z : Nat, z ≠ ad q → H'[z]? = H[z]?) → W p l e R s m args below meth c H' (locs ++ [⟨ad q, i⟩]) cells slots Q (F0 m pc' ls st') := by
  intro H' e1 e2 e3
  refine k H' _ (hP.set hi9 hw9 hq9 ?_ e3) (ri_S_put hS9 e2 e3 ⟨q, hq9, rfl⟩) e2
  show H'[ad q]? = some (arrV (cA t) (vs.set i v).length (ri_f ad (vs.set i v)))
  rw [e1, arrV_store, ri_f_set hl, List.length_set]
theorem ri_iast_ok {st st' : List Value} {w' : List ri_E} (hx : p.tables.exec = Jvm.exec) (hb : c.code = cc) (hK : va_K D cl (ri_tys cA tyL) s) (hP : ri_P D cl ad cA w H) (hw9 : w.length ≤ 1000000) (hi9 : ri_inj ad) (hS9 : va_S (ri_A ad) H0 H locs) (hd : decode cc pc = .ok (.iastore, 1)) (h : ri_ast tyL ri_gI st w = some (st', w'))
    (k : ∀ (H1 : Heap) (locs1 : List Loc), ri_P D cl ad cA w' H1 → va_S (ri_A ad) H0 H1 locs1 → H1.size = H.size → W p l e R s m args below meth c H1 locs1 cells slots Q (F0 m (pc + 1) ls (st'.map (ri_v ad)))) : W p l e R s m args below meth c H locs cells slots Q (F0 m pc ls (st.map (ri_v ad))) := by
  obtain ⟨i, q, t, vs, x, v, t9, rfl, hq, ht, hg, h0, hl, rfl⟩ := ri_ast_eq h
  obtain ⟨a1, a2, a3⟩ := ri_arr_at hK hP hq ht
  cases t9 with
  | int => cases x with
    | float y => cases hg; exact W.iast hx hb a1 a2 a3 (ri_in2 h0 hl) rfl rfl hd (ri_stored (v := .float y) hP hi9 hS9 hl hw9 (Nat.lt_of_lt_of_le (List.getElem?_eq_some_iff.mp hq).1 hw9) k)
    | int y => cases hg; exact W.iast hx hb a1 a2 a3 (ri_in2 h0 hl) rfl rfl hd (ri_stored (v := .int y) hP hi9 hS9 hl hw9 (Nat.lt_of_lt_of_le (List.getElem?_eq_some_iff.mp hq).1 hw9) k)
    | _ => cases hg
  | _ => cases hg
theorem ri_last_ok {st st' : List Value} {w' : List ri_E} (hx : p.tables.exec = Jvm.exec) (hb : c.code = cc) (hK : va_K D cl (ri_tys cA tyL) s) (hP : ri_P D cl ad cA w H) (hw9 : w.length ≤ 1000000) (hi9 : ri_inj ad) (hS9 : va_S (ri_A ad) H0 H locs) (hd : decode cc pc = .ok (.lastore, 1)) (h : ri_ast tyL ri_gL st w = some (st', w'))
    (k : ∀ (H1 : Heap) (locs1 : List Loc), ri_P D cl ad cA w' H1 → va_S (ri_A ad) H0 H1 locs1 → H1.size = H.size → W p l e R s m args below meth c H1 locs1 cells slots Q (F0 m (pc + 1) ls (st'.map (ri_v ad)))) : W p l e R s m args below meth c H locs cells slots Q (F0 m pc ls (st.map (ri_v ad))) := by
  obtain ⟨i, q, t, vs, x, v, t9, rfl, hq, ht, hg, h0, hl, rfl⟩ := ri_ast_eq h
  obtain ⟨a1, a2, a3⟩ := ri_arr_at hK hP hq ht
  cases t9 with
  | long => cases x with
    | long y => cases hg; exact W.last hx hb a1 a2 a3 (ri_in2 h0 hl) rfl rfl hd (ri_stored (v := .long y) hP hi9 hS9 hl hw9 (Nat.lt_of_lt_of_le (List.getElem?_eq_some_iff.mp hq).1 hw9) k)
    | _ => cases hg
  | _ => cases hg
theorem ri_dast_ok {st st' : List Value} {w' : List ri_E} (hx : p.tables.exec = Jvm.exec) (hb : c.code = cc) (hK : va_K D cl (ri_tys cA tyL) s) (hP : ri_P D cl ad cA w H) (hw9 : w.length ≤ 1000000) (hi9 : ri_inj ad) (hS9 : va_S (ri_A ad) H0 H locs) (hd : decode cc pc = .ok (.dastore, 1)) (h : ri_ast tyL ri_gD st w = some (st', w'))
    (k : ∀ (H1 : Heap) (locs1 : List Loc), ri_P D cl ad cA w' H1 → va_S (ri_A ad) H0 H1 locs1 → H1.size = H.size → W p l e R s m args below meth c H1 locs1 cells slots Q (F0 m (pc + 1) ls (st'.map (ri_v ad)))) : W p l e R s m args below meth c H locs cells slots Q (F0 m pc ls (st.map (ri_v ad))) := by
  obtain ⟨i, q, t, vs, x, v, t9, rfl, hq, ht, hg, h0, hl, rfl⟩ := ri_ast_eq h
  obtain ⟨a1, a2, a3⟩ := ri_arr_at hK hP hq ht
  cases t9 with
  | double => cases x with
    | double y => cases hg; exact W.dast hx hb a1 a2 a3 (ri_in2 h0 hl) rfl rfl hd (ri_stored (v := .double y) hP hi9 hS9 hl hw9 (Nat.lt_of_lt_of_le (List.getElem?_eq_some_iff.mp hq).1 hw9) k)
    | _ => cases hg
  | _ => cases hg
theorem ri_nar_v {t : FieldType} (ht : t = .byte ∨ t = .boolean) (y : Int32) : ri_v ad (narrow t (.int y)) = narrow t (.int y) := by
  rcases ht with rfl | rfl <;> rfl
theorem ri_bast_ok {st st' : List Value} {w' : List ri_E} (hx : p.tables.exec = Jvm.exec) (hb : c.code = cc) (hK : va_K D cl (ri_tys cA tyL) s) (hP : ri_P D cl ad cA w H) (hw9 : w.length ≤ 1000000) (hi9 : ri_inj ad) (hS9 : va_S (ri_A ad) H0 H locs) (hd : decode cc pc = .ok (.bastore, 1)) (h : ri_ast tyL ri_gB st w = some (st', w'))
    (k : ∀ (H1 : Heap) (locs1 : List Loc), ri_P D cl ad cA w' H1 → va_S (ri_A ad) H0 H1 locs1 → H1.size = H.size → W p l e R s m args below meth c H1 locs1 cells slots Q (F0 m (pc + 1) ls (st'.map (ri_v ad)))) : W p l e R s m args below meth c H locs cells slots Q (F0 m pc ls (st.map (ri_v ad))) := by
  obtain ⟨i, q, t, vs, x, v, t9, rfl, hq, ht, hg, h0, hl, rfl⟩ := ri_ast_eq h
  obtain ⟨a1, a2, a3⟩ := ri_arr_at hK hP hq ht
  cases t9 with
  | byte => cases x with
    | int y =>
      cases hg
      refine W.bast hx hb a1 a2 a3 (ri_in2 h0 hl) rfl rfl hd ?_
      have h9 := ri_stored (t := t) (v := narrow .byte (.int y)) (p := p) (l := l) (e := e) (R := R) (s := s) (m := m) (args := args) (below := below) (meth := meth) (c := c) (cells := cells) (slots := slots) (Q := Q) (ls := ls) hP hi9 hS9 hl hw9 (Nat.lt_of_lt_of_le (List.getElem?_eq_some_iff.mp hq).1 hw9) k
      rw [ri_nar_v (Or.inl rfl)] at h9
      exact h9
    | _ => cases hg
  | boolean => cases x with
    | int y =>
      cases hg
      refine W.zast hx hb a1 a2 a3 (ri_in2 h0 hl) rfl rfl hd ?_
      have h9 := ri_stored (t := t) (v := narrow .boolean (.int y)) (p := p) (l := l) (e := e) (R := R) (s := s) (m := m) (args := args) (below := below) (meth := meth) (c := c) (cells := cells) (slots := slots) (Q := Q) (ls := ls) hP hi9 hS9 hl hw9 (Nat.lt_of_lt_of_le (List.getElem?_eq_some_iff.mp hq).1 hw9) k
      rw [ri_nar_v (Or.inr rfl)] at h9
      exact h9
    | _ => cases hg
  | _ => cases hg
end RIA
