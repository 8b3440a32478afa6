/-! ===== the reckoner, part 5: System.arraycopy, new T[n][m] ===== -/
/-- n elements of s from sp on, laid into d from dp on -/
def ri_cpy (s d : List Value) (sp dp n : Nat) : List Value := d.take dp ++ ((s.drop sp).take n ++ d.drop (dp + n))
theorem ri_cpy_len {s d : List Value} {sp dp n : Nat} (h1 : sp + n ≤ s.length) (h2 : dp + n ≤ d.length) : (ri_cpy s d sp dp n).length = d.length := by
  simp only [ri_cpy, List.length_append, List.length_take, List.length_drop]
  omega
theorem ri_cpy_at {s d : List Value} {sp dp n : Nat} (h1 : sp + n ≤ s.length) (h2 : dp + n ≤ d.length) (k : Nat) : (ri_cpy s d sp dp n)[k]? = if dp ≤ k ∧ k < dp + n then s[sp + (k - dp)]? else d[k]? := by
  unfold ri_cpy
  have l1 : (d.take dp).length = dp := by rw [List.length_take]; omega
  have l2 : ((s.drop sp).take n).length = n := by rw [List.length_take, List.length_drop]; omega
  by_cases ha : k < dp
  · rw [List.getElem?_append_left (by omega), if_neg (by omega), List.getElem?_take, if_pos ha]
  · rw [List.getElem?_append_right (by omega), l1]
    by_cases hb : k < dp + n
    · rw [List.getElem?_append_left (by omega), if_pos ⟨by omega, hb⟩, List.getElem?_take, if_pos (by omega), List.getElem?_drop]
    · rw [List.getElem?_append_right (by omega), if_neg (by omega), l2, List.getElem?_drop]
      congr 1
      omega
theorem ri_cpy_f {ad : Nat → Nat} {s d : List Value} {sp dp n : Nat} (h1 : sp + n ≤ s.length) (h2 : dp + n ≤ d.length) : va_cpy (ri_f ad s) (ri_f ad d) sp dp n = ri_f ad (ri_cpy s d sp dp n) := by
  funext k
  simp only [va_cpy, ri_f, List.getD_eq_getElem?_getD, ri_cpy_at h1 h2]
  by_cases h : dp ≤ k ∧ k < dp + n
  · rw [if_pos h, if_pos h]
  · rw [if_neg h, if_neg h]
/-- an element that an array of this type may hold -/
def ri_ft (t : FieldType) (v : Value) : Bool := match t with
  | .int => (match v with | .int _ => true | .float _ => true | _ => false)
  | .long => (match v with | .long _ => true | _ => false)
  | .double => (match v with | .double _ => true | _ => false)
  | .boolean => (match v with | .int x => fits .boolean (.int x) | _ => false)
  | .byte => (match v with | .int x => fits .byte (.int x) | _ => false)
  | _ => false
theorem ri_ft_ok {ad : Nat → Nat} {t : FieldType} {v : Value} (h : ri_ft t v = true) : fits t (ri_v ad v) = true ∧ ∀ z : Nat, v ≠ .ref z := by
  cases t <;> first | (cases h; done) | (cases v <;> first | (cases h; done) | exact ⟨h, fun z q => by cases q⟩ | exact ⟨rfl, fun z q => by cases q⟩)
theorem ri_ft_na {t : FieldType} {v : Value} (h : ri_ft t v = true) : ∀ z : Nat, v ≠ .retAddr z := by
  cases t <;> first | (cases h; done) | (cases v <;> first | (cases h; done) | exact fun z q => by cases q)
noncomputable def ri_acopy (tyL : List FieldType) (bud : Nat) (st : List Value) (w : List ri_E) : Option (List Value × List ri_E) := match st with
  | .int n :: .int dp :: .ref q1 :: .int sp :: .ref q0 :: r => (match ri_nth w q0 with
    | some (.inl a0) => (match ri_nth w q1 with
      | some (.inl a1) => (match ri_nth tyL a0.1 with
        | some t => ri_ok (Nat.beq a0.1 a1.1 && (!refKind t && (!decide (sp < 0) && (!decide (dp < 0) && (!decide (n < 0) && (Nat.ble (sp.toNatClampNeg + n.toNatClampNeg) a0.2.length && (Nat.ble (dp.toNatClampNeg + n.toNatClampNeg) a1.2.length && (((a0.2.drop sp.toNatClampNeg).take n.toNatClampNeg).all (ri_ft t) && Nat.ble ((r.map fun v => v.category).sum + 18) bud))))))))
          (some (r, ri_upd (.inl (a1.1, ri_cpy a0.2 a1.2 sp.toNatClampNeg dp.toNatClampNeg n.toNatClampNeg)) w q1))
        | none => none)
      | _ => none)
    | _ => none)
  | _ => none
theorem ri_acopy_eq {tyL : List FieldType} {bud : Nat} {st st' : List Value} {w w' : List ri_E} (h : ri_acopy tyL bud st w = some (st', w')) : ∃ (n dp sp : Int32) (q1 q0 t0 : Nat) (v0 v1 : List Value) (t : FieldType), st = .int n :: .int dp :: .ref q1 :: .int sp :: .ref q0 :: st' ∧ w[q0]? = some (.inl (t0, v0)) ∧ w[q1]? = some (.inl (t0, v1)) ∧ tyL[t0]? = some t ∧ refKind t = false ∧ ¬ sp < 0 ∧ ¬ dp < 0 ∧ ¬ n < 0 ∧
    sp.toNatClampNeg + n.toNatClampNeg ≤ v0.length ∧ dp.toNatClampNeg + n.toNatClampNeg ≤ v1.length ∧ ((v0.drop sp.toNatClampNeg).take n.toNatClampNeg).all (ri_ft t) = true ∧ (st'.map fun v => v.category).sum + 18 ≤ bud ∧ w' = w.set q1 (.inl (t0, ri_cpy v0 v1 sp.toNatClampNeg dp.toNatClampNeg n.toNatClampNeg)) := by
  unfold ri_acopy at h
  split at h
  · rename_i n dp q1 sp q0 r
    split at h
    · rename_i a0 h0
      split at h
      · rename_i a1 h1
        split at h
        · rename_i t ht
          obtain ⟨hb, h2⟩ := ri_ok_eq h
          rw [ri_nth_eq] at h0 h1 ht
          simp only [Bool.and_eq_true] at hb
          obtain ⟨b1, b2, b3, b4, b5, b6, b7, b8, b9⟩ := hb
          obtain ⟨x1, x2⟩ := a0
          obtain ⟨y1, y2⟩ := a1
          have e1 : x1 = y1 := Nat.eq_of_beq_eq_true b1
          rw [ri_upd_eq] at h2
          have e3 := Option.some.inj h2
          have e4 : r = st' := congrArg Prod.fst e3
          have e5 : w.set q1 (.inl (y1, ri_cpy x2 y2 sp.toNatClampNeg dp.toNatClampNeg n.toNatClampNeg)) = w' := congrArg Prod.snd e3
          exact ⟨n, dp, sp, q1, q0, x1, x2, y2, t, by rw [e4], h0, by rw [h1, e1], ht, by simpa using b2, by simpa using b3, by simpa using b4, by simpa using b5, Nat.le_of_ble_eq_true b6, Nat.le_of_ble_eq_true b7, b8, by rw [← e4]; exact Nat.le_of_ble_eq_true b9, by rw [← e5, e1]⟩
        · cases h
      · cases h
    · cases h
  · cases h
section RIK
variable {p : Program} {l : Launch} {e : Env} {R : Room} {s : State} {m : MethodId} {args : Array Value} {below : List Frame} {meth : Method} {c : Code} {H : Heap} {locs : List Loc} {cells slots : Nat} {Q : State → Prop}
variable {cc : ByteArray} {pc : Nat} {ls : Array Slot} {ad : Nat → Nat} {cA : Nat → ClassId} {tyL : List FieldType} {D : va_G} {cl : List vw_C} {ty : Nat → Nat → FieldType} {WG : List Jvm.Cond} {own : String} {w : List ri_E} {H0 : Heap}
theorem ri_nn {z : Int32} (hz : ¬ z < 0) : z.toInt = (z.toNatClampNeg : Int) := by
  have hz0 : (0 : Int) ≤ z.toInt := by
    have := Int32.not_lt.mp hz
    simpa using Int32.le_iff_toInt_le.mp this
  show z.toInt = ((z.toInt.toNat : Nat) : Int)
  omega
theorem ri_acopy_ok {idx bud : Nat} {st st' : List Value} {w' : List ri_E} (hx : p.tables.exec = Jvm.exec) (hb : c.code = cc) (hml : c.maxLocals = ls.size) (hown : s.vm.findClass own = some m.cls) (hts : ∀ x ∈ WG, x.before args s = true) (hw : Jvm.Cond.methodLink own idx arraycopyName ∈ WG) (hw1 : Jvm.Cond.native arraycopyName ∈ WG) (hw2 : Jvm.Cond.static arraycopyName ∈ WG) (hw3 : Jvm.Cond.initialized "java/lang/System" ∈ WG)
    (hK : va_K D cl (ri_tys cA tyL) s) (hP : ri_P D cl ad cA w H) (hw9 : w.length ≤ 1000000) (hi9 : ri_inj ad) (hS9 : va_S (ri_A ad) H0 H locs) (hfr : 1 ≤ R.frames) (hbd : bud ≤ R.locals) (hd : decode cc pc = .ok (.invokestatic idx, 3)) (h : ri_acopy tyL bud st w = some (st', w'))
    (k : ∀ (H1 : Heap) (locs1 : List Loc), ri_P D cl ad cA w' H1 → va_S (ri_A ad) H0 H1 locs1 → H1.size = H.size → W p l e R s m args below meth c H1 locs1 cells slots Q (F0 m (pc + 3) ls (st'.map (ri_v ad)))) : W p l e R s m args below meth c H locs cells slots Q (F0 m pc ls (st.map (ri_v ad))) := by
  obtain ⟨n, dp, sp, q1, q0, t0, v0, v1, t, rfl, h0, h1, ht, hpr, s0, d0, n0, b0, b1, hfit, hcat, rfl⟩ := ri_acopy_eq h
  obtain ⟨a1, a2, a3⟩ := ri_arr_at hK hP h0 ht
  obtain ⟨c1, c2, c3⟩ := ri_arr_at hK hP h1 ht
  intro T hT X
  obtain ⟨-, k0, hk0, cm0, hkk0⟩ := a2
  obtain ⟨-, k1, hk1, cm1, hkk1⟩ := c2
  obtain ⟨vm', X', step⟩ := X.arraycopy hx hown (hts _ hw) (hts _ hw1) (hts _ hw2) (hts _ hw3) (src := ad q0) (dst := ad q1) (cs := arrV (cA t0) v0.length (ri_f ad v0)) (cd := arrV (cA t0) v1.length (ri_f ad v1)) (srcPos := sp) (destPos := dp) (n := n) (by rw [hT]; exact a1) (by rw [hT]; exact c1)
    (fun _ h => by cases h) (fun _ h => by cases h) (fun h => by cases h) (fun h => by cases h) hk0 hk1 hkk0 hkk1 (by simp [hpr]) s0 d0 n0
    (by rw [ri_nn s0, ri_nn n0, arrV_size]; omega)
    (by rw [ri_nn d0, ri_nn n0, arrV_size]; omega)
    (fun vm₁ _ i hi => by
      have hlt : sp.toNatClampNeg + i < v0.length := by omega
      have e9 : (arrV (cA t0) v0.length (ri_f ad v0)).slots.getD (sp.toNatClampNeg + i) .null = ri_v ad v0[sp.toNatClampNeg + i] := by
        rw [Array.getD_eq_getD_getElem?, arrV_read _ _ hlt]
        simp [ri_f, hlt]
      have hf := List.all_eq_true.mp hfit (v0[sp.toNatClampNeg + i]) (by
        refine List.mem_of_getElem? (i := i) ?_
        rw [List.getElem?_take, if_pos hi, List.getElem?_drop]
        exact List.getElem?_eq_getElem hlt)
      refine ⟨?_, ?_⟩
      · rw [e9]
        exact (ri_ft_ok hf).1
      · rw [e9]
        cases hv : v0[sp.toNatClampNeg + i] with
        | ref z => exact absurd hv ((ri_ft_ok (ad := ad) hf).2 z)
        | retAddr z => exact absurd hv (ri_ft_na hf z)
        | _ => exact trivial)
    (g := F0 m pc ls ((.int n :: .int dp :: .ref q1 :: .int sp :: .ref q0 :: st').map (ri_v ad))) rfl (by rw [hml]) (rest := st'.map (ri_v ad)) rfl (by rw [hb]; exact hd) hfr (by
      show 2 * 0 + ((st'.map (ri_v ad)).map fun v => v.category).sum + (nativeFrameWords "java/lang/System" "arraycopy" 5 + 11) ≤ R.locals
      have e8 : (st'.map (ri_v ad)).map (fun v => v.category) = st'.map (fun v => v.category) := by
        rw [List.map_map]
        exact List.map_congr_left (fun v _ => ri_v_cat ad v)
      have e7 : nativeFrameWords "java/lang/System" "arraycopy" 5 = 7 := by decide +kernel
      rw [e8, e7]
      omega)
  have e1 : copied (arrV (cA t0) v0.length (ri_f ad v0)) (arrV (cA t0) v1.length (ri_f ad v1)) sp dp n = arrV (cA t0) v1.length (va_cpy (ri_f ad v0) (ri_f ad v1) sp.toNatClampNeg dp.toNatClampNeg n.toNatClampNeg) := va_copied (fun z => z) (cA t0) (cA t0) (ri_f ad v0) (ri_f ad v1) b0
  rw [ri_cpy_f b0 b1] at e1
  rw [e1] at X' step
  have hl : ad q1 < H.size := (Array.getElem?_eq_some_iff.mp c1).1
  have hheap : ((T.setVm vm').setCell (ad q1) (arrV (cA t0) v1.length (ri_f ad (ri_cpy v0 v1 sp.toNatClampNeg dp.toNatClampNeg n.toNatClampNeg)))).heap = H.setIfInBounds (ad q1) (arrV (cA t0) v1.length (ri_f ad (ri_cpy v0 v1 sp.toNatClampNeg dp.toNatClampNeg n.toNatClampNeg))) := by rw [← hT]; rfl
  have oq : ∀ q : Nat, q ≠ ad q1 → (H.setIfInBounds (ad q1) (arrV (cA t0) v1.length (ri_f ad (ri_cpy v0 v1 sp.toNatClampNeg dp.toNatClampNeg n.toNatClampNeg))))[q]? = H[q]? := fun q hq => by simp [Array.getElem?_setIfInBounds, Ne.symm hq]
  obtain ⟨t', r1, r2⟩ := k _ _ (hP.set hi9 hw9 (q := q1) (Nat.lt_of_lt_of_le (List.getElem?_eq_some_iff.mp h1).1 hw9) (x := .inl (t0, ri_cpy v0 v1 sp.toNatClampNeg dp.toNatClampNeg n.toNatClampNeg)) (show (H.setIfInBounds (ad q1) _)[ad q1]? = some (arrV (cA t0) (ri_cpy v0 v1 sp.toNatClampNeg dp.toNatClampNeg n.toNatClampNeg).length _) by rw [ri_cpy_len b0 b1]; simp [Array.getElem?_setIfInBounds, hl]) oq) ⟨by simp; exact hS9.1, fun q g1 g2 => by
      rw [oq q (fun e => g2 ⟨q1, Nat.lt_of_lt_of_le (List.getElem?_eq_some_iff.mp h1).1 hw9, e.symm⟩)]
      exact hS9.2.1 q g1 g2, fun q hq => by
      rcases List.mem_append.mp hq with h | h
      · exact hS9.2.2 q h
      · obtain ⟨z, -, hz⟩ := List.mem_map.mp h
        rw [← hz]
        exact ⟨q1, Nat.lt_of_lt_of_le (List.getElem?_eq_some_iff.mp h1).1 hw9, rfl⟩⟩ (by simp) _ hheap X'
  exact ⟨t', step t' r1, r2⟩
end RIK
