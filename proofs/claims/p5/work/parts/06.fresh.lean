/-! ===== the reckoner, part 4: new cells, references in arrays, arraycopy ===== -/
section RIN
variable {p : Program} {l : Launch} {e : Env} {R : Room} {s : State} {m : MethodId} {args : Array Value} {below : List Frame} {meth : Method} {c : Code} {H : Heap} {locs : List Loc} {cells slots : Nat} {Q : State → Prop}
variable {cc : ByteArray} {pc : Nat} {ls : Array Slot} {ad : Nat → Nat} {cA : Nat → ClassId} {tyL : List FieldType} {D : va_G} {cl : List vw_C} {ty : Nat → Nat → FieldType} {WG : List Jvm.Cond} {own : String} {w : List ri_E} {H0 : Heap}
theorem ri_S_new {A : Nat → Prop} {H1 : Heap} (h : va_S A H0 H locs) (hz : H.size ≤ H1.size) (oq : ∀ z : Nat, z < H.size → H1[z]? = H[z]?) : va_S A H0 H1 locs := ⟨Nat.le_trans h.1 hz, fun q h1 h2 => (oq q (Nat.lt_of_lt_of_le h1 h.1)).trans (h.2.1 q h1 h2), h.2.2⟩
theorem ri_v_default (ad : Nat → Nat) {t : FieldType} (ht : t ≠ .float) : ri_v ad (defaultValue t) = defaultValue t := by cases t <;> first | rfl | exact absurd rfl ht
theorem ri_new_ok {a idx N : Nat} {st fs : List Value} (hx : p.tables.exec = Jvm.exec) (hb : c.code = cc) (hown : s.vm.findClass own = some m.cls) (hts : ∀ x ∈ WG, x.before args s = true) (hK : va_K D cl (ri_tys cA tyL) s) (hC : ri_clok WG cl ty) (hP : ri_P D cl ad cA w H) (hS9 : va_S (ri_A ad) H0 H locs) (hn : ri_nx ad w.length H.size) (hlt9 : w.length < 1000000)
    {r : vw_C} (hr : cl[a]? = some r) (hN : r.2.2 = N) (hw : Jvm.Cond.classLink own idx r.1 ∈ WG) (hfs : ∀ j, j < N → fs.getD j .null = defaultValue (ty a j) ∧ ty a j ≠ .float) (hcells : cells + 1 ≤ R.cells) (hslots : slots + N ≤ R.slots) (hd : decode cc pc = .ok (.new idx, 3))
    (k : ∀ H1 : Heap, ri_P D cl ad cA (w ++ [.inr (a, fs)]) H1 → va_S (ri_A ad) H0 H1 locs → ri_nx ad (w ++ [(Sum.inr (a, fs) : ri_E)]).length H1.size → W p l e R s m args below meth c H1 locs (cells + 1) (slots + N) Q (F0 m (pc + 3) ls ((.ref w.length :: st).map (ri_v ad)))) : W p l e R s m args below meth c H locs cells slots Q (F0 m pc ls (st.map (ri_v ad))) := by
  subst hN
  obtain ⟨h1, h2, h3, h4, h5⟩ := hC a _ hr
  have hKn := hK.1 a _ hr
  refine W.newcK hx hb hown (hts _ hw) (hts _ h4) (hts _ h5) rfl hd hcells hslots hKn.2.1 rfl fun H1 kC hkC e1 z1 o1 => ?_
  have hh : ad w.length = H.size := hn.here hlt9
  have e : (F0 m (pc + 3) ls ((.ref w.length :: st).map (ri_v ad))) = { F0 m pc ls (st.map (ri_v ad)) with pc := pc + 3, stack := .ref H.size :: (st.map (ri_v ad)) } := by
    rw [← hh]; rfl
  refine W.eq e.symm (k H1 (hP.push ⟨_, hr, ?_⟩ o1) (ri_S_new hS9 (by omega) o1) ?_)
  · rw [hh]
    exact (u_born (ty a) hts h1 hKn hkC e1 h2).to (fun j hj => by rw [ri_f, (hfs j hj).1, ri_v_default ad (hfs j hj).2])
  · rw [z1, List.length_append]
    exact hn.succ
noncomputable def ri_newa (t : Nat) (d : Value) (st : List Value) (w : List ri_E) : Option (Nat × List Value × List ri_E) := match st with
  | .int n :: r => ri_ok (!decide (n < 0) && Nat.ble n.toNatClampNeg 60000000) (some (n.toNatClampNeg, .ref w.length :: r, w ++ [.inl (t, List.replicate n.toNatClampNeg d)]))
  | _ => none
theorem ri_newa_eq {t N : Nat} {d : Value} {st st' : List Value} {w' : List ri_E} (h : ri_newa t d st w = some (N, st', w')) : ∃ (n : Int32) (r : List Value), st = .int n :: r ∧ ¬ n < 0 ∧ n.toNatClampNeg = N ∧ N ≤ 60000000 ∧ st' = .ref w.length :: r ∧ w' = w ++ [.inl (t, List.replicate N d)] := by
  unfold ri_newa at h
  split at h
  · rename_i n r
    obtain ⟨hb, h2⟩ := ri_ok_eq h
    obtain ⟨b1, b2⟩ := (Bool.and_eq_true _ _ ▸ hb : (!decide (n < 0)) = true ∧ Nat.ble n.toNatClampNeg 60000000 = true)
    have e := Option.some.inj h2
    have e1 : n.toNatClampNeg = N := congrArg Prod.fst e
    have e2 : (.ref w.length :: r : List Value) = st' := congrArg (fun x => x.2.1) e
    have e3 : w ++ [.inl (t, List.replicate n.toNatClampNeg d)] = w' := congrArg (fun x => x.2.2) e
    exact ⟨n, r, rfl, by simpa using b1, e1, by rw [← e1]; exact Nat.le_of_ble_eq_true b2, e2.symm, by rw [← e3, e1]⟩
  · cases h
theorem ri_f_rep {N : Nat} {d : Value} (hd : ri_v ad d = d) (cc9 : ClassId) : arrV cc9 N (fun _ => d) = arrV cc9 (List.replicate N d).length (ri_f ad (List.replicate N d)) := by
  rw [List.length_replicate]
  unfold arrV
  congr 1
  apply Array.ext
  · simp
  · intro i h1 h2
    have h3 : i < N := by simpa using h1
    simp [ri_f, h3, hd]
theorem ri_newa_ok {t N : Nat} {atype : ArrayType} {t9 : FieldType} {st st' : List Value} {w' : List ri_E} (hx : p.tables.exec = Jvm.exec) (hb : c.code = cc) (hts : ∀ x ∈ WG, x.before args s = true) (hK : va_K D cl (ri_tys cA tyL) s) (hP : ri_P D cl ad cA w H) (hS9 : va_S (ri_A ad) H0 H locs) (hn : ri_nx ad w.length H.size) (hlt9 : w.length < 1000000)
    (ht : tyL[t]? = some t9) (hty : newarray.typeOf atype = t9) (hnf : t9 ≠ .float) (hw : Jvm.Cond.arrayClass t9 ∈ WG) (hcells : cells + 1 ≤ R.cells) (hslots : slots + N ≤ R.slots) (hd : decode cc pc = .ok (.newarray atype, 2)) (h : ri_newa t (defaultValue t9) st w = some (N, st', w'))
    (k : ∀ H1 : Heap, ri_P D cl ad cA w' H1 → va_S (ri_A ad) H0 H1 locs → ri_nx ad w'.length H1.size → W p l e R s m args below meth c H1 locs (cells + 1) (slots + N) Q (F0 m (pc + 2) ls (st'.map (ri_v ad)))) : W p l e R s m args below meth c H locs cells slots Q (F0 m pc ls (st.map (ri_v ad))) := by
  obtain ⟨n, r, rfl, h0, hN, hle, rfl, rfl⟩ := ri_newa_eq h
  subst hty
  have hbytes : N * componentBytes (newarray.typeOf atype) ≤ 536870912 := by
    cases atype <;> simp [newarray.typeOf, componentBytes] <;> omega
  refine va_newaK hx hb (hts _ hw) rfl hd rfl h0 hN hbytes hcells hslots rfl fun H1 cA9 e1 z1 o1 hAr hNm => ?_
  have hcA : cA9 = cA t := by
    have h9 := (hK.2 t _ (ri_tys_at ht)).2
    have h8 : s.vm.findClass ("[" ++ (newarray.typeOf atype).toString) = some (cA t) := by cases atype <;> exact h9
    exact Option.some.inj (hNm.symm.trans h8)
  have hh : ad w.length = H.size := hn.here hlt9
  have e : (F0 m (pc + 2) ls ((.ref w.length :: r).map (ri_v ad))) = { F0 m pc ls ((.int n :: r).map (ri_v ad)) with pc := pc + 2, stack := .ref H.size :: (r.map (ri_v ad)) } := by
    rw [← hh]; rfl
  refine W.eq e.symm (k H1 (hP.push ?_ o1) (ri_S_new hS9 (by omega) o1) ?_)
  · show H1[ad w.length]? = some (arrV (cA t) (List.replicate N _).length (ri_f ad (List.replicate N _)))
    rw [hh, e1, hcA, ri_f_rep (ri_v_default ad hnf)]
  · rw [z1, List.length_append]
    exact hn.succ
theorem ri_newq_ok {t N idx : Nat} {C : String} {st st' : List Value} {w' : List ri_E} (hx : p.tables.exec = Jvm.exec) (hb : c.code = cc) (hown : s.vm.findClass own = some m.cls) (hts : ∀ x ∈ WG, x.before args s = true) (hover : va_AO C s) (hK : va_K D cl (ri_tys cA tyL) s) (hP : ri_P D cl ad cA w H) (hS9 : va_S (ri_A ad) H0 H locs) (hn : ri_nx ad w.length H.size) (hlt9 : w.length < 1000000)
    (ht : tyL[t]? = some (.object C)) (hw : Jvm.Cond.classLink own idx C ∈ WG) (hcells : cells + 1 ≤ R.cells) (hslots : slots + N ≤ R.slots) (hd : decode cc pc = .ok (.anewarray idx, 3)) (h : ri_newa t .null st w = some (N, st', w'))
    (k : ∀ H1 : Heap, ri_P D cl ad cA w' H1 → va_S (ri_A ad) H0 H1 locs → ri_nx ad w'.length H1.size → W p l e R s m args below meth c H1 locs (cells + 1) (slots + N) Q (F0 m (pc + 3) ls (st'.map (ri_v ad)))) : W p l e R s m args below meth c H locs cells slots Q (F0 m pc ls (st.map (ri_v ad))) := by
  obtain ⟨n, r, rfl, h0, hN, hle, rfl, rfl⟩ := ri_newa_eq h
  refine W.anew hx hb hown (hts _ hw) (va_AO.use hover) rfl hd rfl h0 (by rw [hN]; omega) hcells (by rw [hN]; exact hslots) fun cA9 kA comp g1 g2 g3 g4 => ?_
  have hcA : cA9 = cA t := by
    obtain ⟨kA2, comp2, q1, q2, q3, q4⟩ := (hK.2 t _ (ri_tys_at ht)).2
    exact Option.some.inj (g1.symm.trans q4)
  have hh : ad w.length = H.size := hn.here hlt9
  have e : (F0 m (pc + 3) ls ((.ref w.length :: r).map (ri_v ad))) = { F0 m pc ls ((.int n :: r).map (ri_v ad)) with pc := pc + 3, stack := .ref H.size :: (r.map (ri_v ad)) } := by
    rw [← hh]; rfl
  rw [hN]
  have o1 : ∀ z : Nat, z < H.size → (H.push { cls := cA9, slots := Array.replicate N .null, vm := .none } : Heap)[z]? = H[z]? := fun z hz => by rw [Array.getElem?_push, if_neg (Nat.ne_of_lt hz)]
  refine W.eq e.symm (k _ (hP.push ?_ o1) (ri_S_new hS9 (by simp) o1) ?_)
  · show (H.push { cls := cA9, slots := Array.replicate N .null, vm := .none } : Heap)[ad w.length]? = some (arrV (cA t) (List.replicate N _).length (ri_f ad (List.replicate N _)))
    rw [hh, ← ri_f_rep rfl, ← arrV_new, hcA]
    simp
  · rw [List.length_append, Array.size_push]
    exact hn.succ
/-- a reference into an array of references: a the object's kind, b the array's type -/
noncomputable def ri_aast (a b : Nat) (st : List Value) (w : List ri_E) : Option (List Value × List ri_E) := match st with
  | .ref v :: .int i :: .ref q :: r => (match ri_nth w q with
    | some (.inl x) => (match ri_nth w v with
      | some (.inr y) => ri_ok (Nat.beq x.1 b && (Nat.beq y.1 a && (!decide (i < 0) && Nat.blt b 1000000))) (match ri_nth x.2 i.toNatClampNeg with
        | some _ => some (r, ri_upd (.inl (x.1, ri_upd (.ref v) x.2 i.toNatClampNeg)) w q)
        | none => none)
      | _ => none)
    | _ => none)
  | _ => none
theorem ri_aast_eq {a b : Nat} {st st' : List Value} {w' : List ri_E} (h : ri_aast a b st w = some (st', w')) : ∃ (v q : Nat) (i : Int32) (vs fs : List Value), st = .ref v :: .int i :: .ref q :: st' ∧ w[q]? = some (.inl (b, vs)) ∧ w[v]? = some (.inr (a, fs)) ∧ ¬ i < 0 ∧ i.toNatClampNeg < vs.length ∧ w' = w.set q (.inl (b, vs.set i.toNatClampNeg (.ref v))) := by
  unfold ri_aast at h
  split at h
  · rename_i v i q r
    split at h
    · rename_i x hx
      split at h
      · rename_i y hy
        obtain ⟨hb, h2⟩ := ri_ok_eq h
        split at h2
        · rename_i u hu
          rw [ri_nth_eq] at hx hy hu
          simp only [Bool.and_eq_true] at hb
          obtain ⟨b1, b2, b3, -⟩ := hb
          obtain ⟨x1, x2⟩ := x
          obtain ⟨y1, y2⟩ := y
          have e1 : x1 = b := Nat.eq_of_beq_eq_true b1
          have e2 : y1 = a := Nat.eq_of_beq_eq_true b2
          rw [ri_upd_eq, ri_upd_eq] at h2
          have e3 := Option.some.inj h2
          have e4 : r = st' := congrArg Prod.fst e3
          have e5 : w.set q (.inl (x1, x2.set i.toNatClampNeg (.ref v))) = w' := congrArg Prod.snd e3
          exact ⟨v, q, i, x2, y2, by rw [e4], by rw [hx, e1], by rw [hy, e2], by simpa using b3, (List.getElem?_eq_some_iff.mp hu).1, by rw [← e5, e1]⟩
        · cases h2
      · cases h
    · cases h
  · cases h
theorem ri_aast_ok {a b : Nat} {st st' : List Value} {w' : List ri_E} (hx : p.tables.exec = Jvm.exec) (hb : c.code = cc) (hK : va_K D cl (ri_tys cA tyL) s) (hP : ri_P D cl ad cA w H) (hw9 : w.length ≤ 1000000) (hi9 : ri_inj ad) (hS9 : va_S (ri_A ad) H0 H locs) {r : vw_C} (hr : cl[a]? = some r) (ht : tyL[b]? = some (.object r.1)) (hd : decode cc pc = .ok (.aastore, 1)) (h : ri_aast a b st w = some (st', w'))
    (k : ∀ (H1 : Heap) (locs1 : List Loc), ri_P D cl ad cA w' H1 → va_S (ri_A ad) H0 H1 locs1 → H1.size = H.size → W p l e R s m args below meth c H1 locs1 cells slots Q (F0 m (pc + 1) ls (st'.map (ri_v ad)))) : W p l e R s m args below meth c H locs cells slots Q (F0 m pc ls (st.map (ri_v ad))) := by
  obtain ⟨v, q, i, vs, fs, rfl, hq, hv, h0, hl, rfl⟩ := ri_aast_eq h
  obtain ⟨r', hr', cellV, g1, g2, g3, -⟩ := hP v _ hv
  have hcls := (hK.1 a r hr).2
  obtain ⟨kA, comp, k1, k2, k3, -⟩ := (hK.2 b _ (ri_tys_at ht)).2
  have hcomp : comp = D.1 a := Option.some.inj (k3.symm.trans hcls.1)
  subst hcomp
  obtain ⟨kC, hkC, -⟩ := hcls.2
  exact W.aast hx hb (hP q _ hq) (fun q h => by cases h) (fun h => by cases h) k1 k2 rfl hkC ⟨h0, by rw [arrV_size]; exact hl⟩ g1 (fun q h => by rw [g3] at h; cases h) (by rw [g2]; exact hkC) (by rw [g2]; exact va_assign hcls) rfl rfl hd (ri_stored (v := .ref v) hP hi9 hS9 hl hw9 (Nat.lt_of_lt_of_le (List.getElem?_eq_some_iff.mp hq).1 hw9) k)
end RIN
