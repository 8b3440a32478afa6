/-! ===== the reckoner, part 4c: an int that isn't known into an array of bytes ===== -/
def ri_gU (fr : Nat) (t : FieldType) (x : Value) : Option Value := match t with
  | .byte => (match x with | .float _ => some (.float (UInt32.ofNat fr)) | _ => none)
  | _ => none
def ri_top (st : List Value) : Value := match st with
  | x :: _ => x
  | [] => .null
section RIB
variable {p : Program} {l : Launch} {e : Env} {R : Room} {s : State} {m : MethodId} {args : Array Value} {below : List Frame} {meth : Method} {c : Code} {H : Heap} {locs : List Loc} {cells slots : Nat} {Q : State → Prop}
variable {cc : ByteArray} {pc : Nat} {ls : Array Slot} {ad : Nat → Nat} {cA : Nat → ClassId} {tyL : List FieldType} {D : va_G} {cl : List vw_C} {w : List ri_E} {H0 : Heap}
theorem ri_bsy_ok {fr : Nat} {st st' : List Value} {w' : List ri_E} (hx : p.tables.exec = Jvm.exec) (hb : c.code = cc) (hK : va_K D cl (ri_tys cA tyL) s) (hP : ri_P D cl ad cA w H) (hw9 : w.length ≤ 1000000) (hi9 : ri_inj ad) (hS9 : va_S (ri_A ad) H0 H locs) (hd : decode cc pc = .ok (.bastore, 1)) (h : ri_ast tyL (ri_gU fr) st w = some (st', w')) (hsem : ri_sem ad (.i2b, ri_top st, .int 0, fr, true))
    (k : ∀ (H1 : Heap) (locs1 : List Loc), ri_P D cl ad cA w' H1 → va_S (ri_A ad) H0 H1 locs1 → H1.size = H.size → W p l e R s m args below meth c H1 locs1 cells slots Q (F0 m (pc + 1) ls (st'.map (ri_v ad)))) : W p l e R s m args below meth c H locs cells slots Q (F0 m pc ls (st.map (ri_v ad))) := by
  obtain ⟨i, q, t, vs, x, v, t9, rfl, hq, ht, hg, h0, hl, rfl⟩ := ri_ast_eq h
  obtain ⟨a1, a2, a3⟩ := ri_arr_at hK hP hq ht
  cases t9 with
  | byte => cases x with
    | float y =>
      cases hg
      have e1 : ri_op1 .i2b (ri_I ad (.float y)) = some (ri_sy ad fr) := hsem
      have e2 : (ri_I ad (.float y)).toInt8.toInt32 = ri_I ad (.float (UInt32.ofNat fr)) := Option.some.inj e1
      refine W.bast (x := ri_I ad (.float y)) hx hb a1 a2 a3 (ri_in2 h0 hl) rfl rfl hd ?_
      have h9 := ri_stored (t := t) (v := .float (UInt32.ofNat fr)) (p := p) (l := l) (e := e) (R := R) (s := s) (m := m) (args := args) (below := below) (meth := meth) (c := c) (cells := cells) (slots := slots) (Q := Q) (ls := ls) hP hi9 hS9 hl hw9 (Nat.lt_of_lt_of_le (List.getElem?_eq_some_iff.mp hq).1 hw9) k
      have e3 : ri_v ad (.float (UInt32.ofNat fr)) = narrow .byte (.int (ri_I ad (.float y))) := by
        show Value.int (ri_I ad (.float (UInt32.ofNat fr))) = _
        rw [← e2]
        rfl
      rw [e3] at h9
      exact h9
    | _ => cases hg
  | _ => cases hg
end RIB
