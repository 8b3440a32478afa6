/-! ===== the reckoner, part 2: worlds of numbered cells, and the instructions that touch them ===== -/
noncomputable def ri_nth {α : Type} (l : List α) : Nat → Option α := List.rec (fun _ => none) (fun a _ ih n => Nat.rec (some a) (fun m _ => ih m) n) l
theorem ri_nth_eq {α : Type} : ∀ (l : List α) (n : Nat), ri_nth l n = l[n]?
  | [], _ => rfl
  | _ :: _, 0 => rfl
  | _ :: t, n + 1 => ri_nth_eq t n
noncomputable def ri_upd {α : Type} (v : α) (l : List α) : Nat → List α := List.rec (fun _ => []) (fun a t ih n => Nat.rec (v :: t) (fun m _ => a :: ih m) n) l
theorem ri_upd_eq {α : Type} (v : α) : ∀ (l : List α) (n : Nat), ri_upd v l n = l.set n v
  | [], _ => rfl
  | _ :: _, 0 => rfl
  | a :: t, n + 1 => congrArg (List.cons a) (ri_upd_eq v t n)
/-- a cell: an array (which of the types, its elements) or an object (which of the kinds, its fields) -/
abbrev ri_E : Type := (Nat × List Value) ⊕ (Nat × List Value)
/-- what a list of values holds at a place, said of the machine -/
def ri_f (ad : Nat → Nat) (vs : List Value) (j : Nat) : Value := ri_v ad (vs.getD j .null)
theorem ri_f_at {ad : Nat → Nat} {vs : List Value} {j : Nat} {v : Value} (h : vs[j]? = some v) : ri_f ad vs j = ri_v ad v := by
  simp [ri_f, h]
theorem ri_f_set {ad : Nat → Nat} {vs : List Value} {k : Nat} (hk : k < vs.length) (v : Value) : updV (ri_f ad vs) k (ri_v ad v) = ri_f ad (vs.set k v) := by
  funext j
  by_cases h : j = k
  · subst h
    simp [updV, ri_f, hk]
  · simp [updV, ri_f, h, List.getElem?_set, Ne.symm h]
def ri_tys (cA : Nat → ClassId) (tyL : List FieldType) : List (ClassId × FieldType) := tyL.mapIdx (fun t ty => (cA t, ty))
theorem ri_tys_at {cA : Nat → ClassId} {tyL : List FieldType} {t : Nat} {ty : FieldType} (h : tyL[t]? = some ty) : (ri_tys cA tyL)[t]? = some (cA t, ty) := by
  simp [ri_tys, h]
def ri_at1 (D : va_G) (cl : List vw_C) (ad : Nat → Nat) (cA : Nat → ClassId) (k : Nat) (x : ri_E) (H : Heap) : Prop := match x with
  | .inl a => H[ad k]? = some (arrV (cA a.1) a.2.length (ri_f ad a.2))
  | .inr o => ∃ r : vw_C, cl[o.1]? = some r ∧ t_OB (ad k) (D.1 o.1) r.2.2 (D.2 o.1) H (ri_f ad o.2)
/-- the heap holds the world -/
def ri_P (D : va_G) (cl : List vw_C) (ad : Nat → Nat) (cA : Nat → ClassId) (w : List ri_E) (H : Heap) : Prop := ∀ (k : Nat) (x : ri_E), w[k]? = some x → ri_at1 D cl ad cA k x H
def ri_inj (ad : Nat → Nat) : Prop := ∀ i j : Nat, i < 1000000 → j < 1000000 → ad i = ad j → i = j
theorem ri_at1.kept {D : va_G} {cl : List vw_C} {ad : Nat → Nat} {cA : Nat → ClassId} {k : Nat} {x : ri_E} {H H1 : Heap} (h : ri_at1 D cl ad cA k x H) (hq : H1[ad k]? = H[ad k]?) : ri_at1 D cl ad cA k x H1 := by
  cases x with
  | inl a => exact hq.trans h
  | inr o =>
    obtain ⟨r, h1, h2⟩ := h
    exact ⟨r, h1, h2.kept hq⟩
theorem ri_at1.lt {D : va_G} {cl : List vw_C} {ad : Nat → Nat} {cA : Nat → ClassId} {k : Nat} {x : ri_E} {H : Heap} (h : ri_at1 D cl ad cA k x H) : ad k < H.size := by
  cases x with
  | inl a => exact (Array.getElem?_eq_some_iff.mp h).1
  | inr o =>
    obtain ⟨r, h1, cell, h2, -⟩ := h
    exact (Array.getElem?_eq_some_iff.mp h2).1
theorem ri_P.set {D : va_G} {cl : List vw_C} {ad : Nat → Nat} {cA : Nat → ClassId} {w : List ri_E} {H H1 : Heap} (h : ri_P D cl ad cA w H) (hi : ri_inj ad) (hw9 : w.length ≤ 1000000) {q : Nat} (hq9 : q < 1000000) {x : ri_E} (he : ri_at1 D cl ad cA q x H1) (oq : ∀ z : Nat, z ≠ ad q → H1[z]? = H[z]?) : ri_P D cl ad cA (w.set q x) H1 := by
  intro k y hk
  by_cases hkq : q = k
  · subst hkq
    rw [List.getElem?_set] at hk
    split at hk
    · split at hk
      · cases hk; exact he
      · cases hk
    · rename_i hne
      exact absurd rfl hne
  · rw [List.getElem?_set_ne hkq] at hk
    exact (h k y hk).kept (oq _ (fun z => hkq (hi _ _ hq9 (Nat.lt_of_lt_of_le (List.getElem?_eq_some_iff.mp hk).1 hw9) z.symm)))
theorem ri_P.keep {D : va_G} {cl : List vw_C} {ad : Nat → Nat} {cA : Nat → ClassId} {w : List ri_E} {H H1 : Heap} (h : ri_P D cl ad cA w H) (oq : ∀ z : Nat, z < H.size → H1[z]? = H[z]?) : ri_P D cl ad cA w H1 := fun k x hk => (h k x hk).kept (oq _ (h k x hk).lt)
theorem ri_P.push {D : va_G} {cl : List vw_C} {ad : Nat → Nat} {cA : Nat → ClassId} {w : List ri_E} {H H1 : Heap} (h : ri_P D cl ad cA w H) {x : ri_E} (he : ri_at1 D cl ad cA w.length x H1) (oq : ∀ z : Nat, z < H.size → H1[z]? = H[z]?) : ri_P D cl ad cA (w ++ [x]) H1 := by
  intro k y hk
  by_cases hl : k < w.length
  · rw [List.getElem?_append_left hl] at hk
    exact (h k y hk).kept (oq _ (h k y hk).lt)
  · rw [List.getElem?_append_right (by omega)] at hk
    have hz : k - w.length < 1 := (List.getElem?_eq_some_iff.mp hk).1
    have e : k = w.length := by omega
    subst e
    rw [Nat.sub_self] at hk
    cases hk
    exact he
/-- which cells are the world's: all that have a number below a million (that one is the script's) -/
def ri_A (ad : Nat → Nat) : Nat → Prop := fun q => ∃ k : Nat, k < 1000000 ∧ ad k = q
/-- where the next cells come -/
def ri_nx (ad : Nat → Nat) (n sz : Nat) : Prop := ∀ j : Nat, n ≤ j → j < 1000000 → ad j = sz + (j - n)
theorem ri_nx.succ {ad : Nat → Nat} {n sz : Nat} (h : ri_nx ad n sz) : ri_nx ad (n + 1) (sz + 1) := fun j hj h9 => by rw [h j (by omega) h9]; omega
theorem ri_nx.here {ad : Nat → Nat} {n sz : Nat} (h : ri_nx ad n sz) (h9 : n < 1000000) : ad n = sz := by rw [h n (Nat.le_refl _) h9]; omega
/-- the kinds of objects: their words, types and names -/
def ri_clok (WG : List Jvm.Cond) (cl : List vw_C) (ty : Nat → Nat → FieldType) : Prop := ∀ (ci : Nat) (r : vw_C), cl[ci]? = some r → (∀ w ∈ u_ws r.1 r.2.1 r.2.2, w ∈ WG) ∧ (∀ k, k < r.2.2 → parseFieldDescriptor (r.2.1 k).2.2.1 = some (ty ci k)) ∧ (∀ a, a < r.2.2 → ∀ b, b < r.2.2 → a ≠ b → (r.2.1 a).2.1 ≠ (r.2.1 b).2.1) ∧ Jvm.Cond.instantiable r.1 r.2.2 ∈ WG ∧ Jvm.Cond.initialized r.1 ∈ WG
noncomputable def ri_getf (a b : Nat) (st : List Value) (w : List ri_E) : Option (List Value) := match st with
  | .ref q :: r => (match ri_nth w q with
    | some (.inr o) => ri_ok (Nat.beq o.1 a) (match ri_nth o.2 b with
      | some v => some (v :: r)
      | none => none)
    | _ => none)
  | _ => none
theorem ri_getf_eq {a b : Nat} {st st' : List Value} {w : List ri_E} (h : ri_getf a b st w = some st') : ∃ (q : Nat) (r fs : List Value) (v : Value), st = .ref q :: r ∧ w[q]? = some (.inr (a, fs)) ∧ fs[b]? = some v ∧ st' = v :: r := by
  unfold ri_getf at h
  split at h
  · rename_i q r
    split at h
    · rename_i o ho
      obtain ⟨hb, h2⟩ := ri_ok_eq h
      split at h2
      · rename_i v hv
        rw [ri_nth_eq] at ho hv
        obtain ⟨o1, o2⟩ := o
        have e1 : o1 = a := Nat.eq_of_beq_eq_true hb
        exact ⟨q, r, o2, v, rfl, by rw [ho, e1], hv, (Option.some.inj h2).symm⟩
      · cases h2
    · cases h
  · cases h
/-- a value that a field or array of this type takes as it is -/
def ri_fit (ty : FieldType) (v : Value) : Bool := match ty with
  | .int => (match v with | .int _ => true | .float _ => true | _ => false)
  | .long => (match v with | .long _ => true | _ => false)
  | .double => (match v with | .double _ => true | _ => false)
  | .boolean => (match v with | .int x => decide (x = 0) || decide (x = 1) | _ => false)
  | .object _ => (match v with | .ref _ => true | .null => true | _ => false)
  | .array _ => (match v with | .ref _ => true | .null => true | _ => false)
  | _ => false
theorem ri_fit_ok {ad : Nat → Nat} {ty : FieldType} {v : Value} (h : ri_fit ty v = true) : narrow ty (ri_v ad v) = ri_v ad v ∧ fits ty (ri_v ad v) = true := by
  cases ty with
  | boolean =>
    cases v with
    | int x =>
      have h2 : x = 0 ∨ x = 1 := by simpa [ri_fit] using h
      show narrow .boolean (.int x) = .int x ∧ fits .boolean (.int x) = true
      rcases h2 with rfl | rfl <;> exact ⟨by decide +kernel, by decide +kernel⟩
    | _ => cases h
  | int => cases v <;> first | exact ⟨rfl, rfl⟩ | cases h
  | long => cases v <;> first | exact ⟨rfl, rfl⟩ | cases h
  | double => cases v <;> first | exact ⟨rfl, rfl⟩ | cases h
  | object C => cases v <;> first | exact ⟨rfl, rfl⟩ | cases h
  | array C => cases v <;> first | exact ⟨rfl, rfl⟩ | cases h
  | _ => cases h
noncomputable def ri_putf (ty : FieldType) (a b : Nat) (st : List Value) (w : List ri_E) : Option (List Value × List ri_E) := match st with
  | v :: .ref q :: r => (match ri_nth w q with
    | some (.inr o) => ri_ok (Nat.beq o.1 a) (match ri_nth o.2 b with
      | some _ => ri_ok (ri_fit ty v) (some (r, ri_upd (.inr (o.1, ri_upd v o.2 b)) w q))
      | none => none)
    | _ => none)
  | _ => none
theorem ri_putf_eq {ty : FieldType} {a b : Nat} {st st' : List Value} {w w' : List ri_E} (h : ri_putf ty a b st w = some (st', w')) : ∃ (q : Nat) (fs : List Value) (v : Value), st = v :: .ref q :: st' ∧ w[q]? = some (.inr (a, fs)) ∧ b < fs.length ∧ ri_fit ty v = true ∧ w' = w.set q (.inr (a, fs.set b v)) := by
  unfold ri_putf at h
  split at h
  · rename_i v q r
    split at h
    · rename_i o ho
      obtain ⟨hb, h2⟩ := ri_ok_eq h
      split at h2
      · rename_i u hv
        obtain ⟨hf, h3⟩ := ri_ok_eq h2
        rw [ri_nth_eq] at ho hv
        obtain ⟨o1, o2⟩ := o
        have e1 : o1 = a := Nat.eq_of_beq_eq_true hb
        rw [ri_upd_eq, ri_upd_eq] at h3
        have e3 := Option.some.inj h3
        have e4 : r = st' := congrArg Prod.fst e3
        have e5 : w.set q (.inr (o1, o2.set b v)) = w' := congrArg Prod.snd e3
        exact ⟨q, o2, v, by rw [e4], by rw [ho, e1], (List.getElem?_eq_some_iff.mp hv).1, hf, by rw [← e5, e1]⟩
      · cases h2
    · cases h
  · cases h
/-- an element of an array: of which type it must be says g -/
noncomputable def ri_ald (tyL : List FieldType) (g : FieldType → Bool) (st : List Value) (w : List ri_E) : Option (List Value) := match st with
  | .int i :: .ref q :: r => (match ri_nth w q with
    | some (.inl a) => (match ri_nth tyL a.1 with
      | some ty => ri_ok (g ty && !decide (i < 0)) (match ri_nth a.2 i.toNatClampNeg with
        | some v => some (v :: r)
        | none => none)
      | none => none)
    | _ => none)
  | _ => none
theorem ri_ald_eq {tyL : List FieldType} {g : FieldType → Bool} {st st' : List Value} {w : List ri_E} (h : ri_ald tyL g st w = some st') : ∃ (i : Int32) (q t : Nat) (r vs : List Value) (v : Value) (ty : FieldType), st = .int i :: .ref q :: r ∧ w[q]? = some (.inl (t, vs)) ∧ tyL[t]? = some ty ∧ g ty = true ∧ ¬ i < 0 ∧ vs[i.toNatClampNeg]? = some v ∧ st' = v :: r := by
  unfold ri_ald at h
  split at h
  · rename_i i q r
    split at h
    · rename_i a ha
      split at h
      · rename_i ty hty
        obtain ⟨hb, h2⟩ := ri_ok_eq h
        split at h2
        · rename_i v hv
          rw [ri_nth_eq] at ha hv hty
          obtain ⟨b1, b2⟩ := (Bool.and_eq_true _ _ ▸ hb : g ty = true ∧ (!decide (i < 0)) = true)
          exact ⟨i, q, a.1, r, a.2, v, ty, rfl, ha, hty, b1, by simpa using b2, hv, (Option.some.inj h2).symm⟩
        · cases h2
      · cases h
    · cases h
  · cases h
/-- a store: g says whether the value fits and what is kept of it -/
noncomputable def ri_ast (tyL : List FieldType) (g : FieldType → Value → Option Value) (st : List Value) (w : List ri_E) : Option (List Value × List ri_E) := match st with
  | x :: .int i :: .ref q :: r => (match ri_nth w q with
    | some (.inl a) => (match ri_nth tyL a.1 with
      | some ty => (match g ty x with
        | some v => ri_ok (!decide (i < 0)) (match ri_nth a.2 i.toNatClampNeg with
          | some _ => some (r, ri_upd (.inl (a.1, ri_upd v a.2 i.toNatClampNeg)) w q)
          | none => none)
        | none => none)
      | none => none)
    | _ => none)
  | _ => none
theorem ri_ast_eq {tyL : List FieldType} {g : FieldType → Value → Option Value} {st st' : List Value} {w w' : List ri_E} (h : ri_ast tyL g st w = some (st', w')) : ∃ (i : Int32) (q t : Nat) (vs : List Value) (x v : Value) (ty : FieldType), st = x :: .int i :: .ref q :: st' ∧ w[q]? = some (.inl (t, vs)) ∧ tyL[t]? = some ty ∧ g ty x = some v ∧ ¬ i < 0 ∧ i.toNatClampNeg < vs.length ∧ w' = w.set q (.inl (t, vs.set i.toNatClampNeg v)) := by
  unfold ri_ast at h
  split at h
  · rename_i x i q r
    split at h
    · rename_i a ha
      split at h
      · rename_i ty hty
        split at h
        · rename_i v hg
          obtain ⟨hb, h2⟩ := ri_ok_eq h
          split at h2
          · rename_i u hu
            rw [ri_nth_eq] at ha hu hty
            rw [ri_upd_eq, ri_upd_eq] at h2
            have e3 := Option.some.inj h2
            have e4 : r = st' := congrArg Prod.fst e3
            have e5 : w.set q (.inl (a.1, a.2.set i.toNatClampNeg v)) = w' := congrArg Prod.snd e3
            exact ⟨i, q, a.1, a.2, x, v, ty, by rw [e4], ha, hty, hg, by simpa using hb, (List.getElem?_eq_some_iff.mp hu).1, e5.symm⟩
          · cases h2
        · cases h
      · cases h
    · cases h
  · cases h
section RIH
variable {p : Program} {l : Launch} {e : Env} {R : Room} {s : State} {m : MethodId} {args : Array Value} {below : List Frame} {meth : Method} {c : Code} {H : Heap} {locs : List Loc} {cells slots : Nat} {Q : State → Prop}
variable {cc : ByteArray} {pc : Nat} {ls : Array Slot} {ad : Nat → Nat} {cA : Nat → ClassId} {tyL : List FieldType} {D : va_G} {cl : List vw_C} {ty : Nat → Nat → FieldType} {WG : List Jvm.Cond} {own : String} {w : List ri_E} {H0 : Heap}
theorem ri_getf_ok {a b idx : Nat} {st st' : List Value} (hx : p.tables.exec = Jvm.exec) (hb : c.code = cc) (hown : s.vm.findClass own = some m.cls) (hts : ∀ x ∈ WG, x.before args s = true) (hK : va_K D cl (ri_tys cA tyL) s) (hC : ri_clok WG cl ty) (hP : ri_P D cl ad cA w H)
    {r : vw_C} (hr : cl[a]? = some r) (hk : b < r.2.2) (hw : Jvm.Cond.fieldLink own idx (r.2.1 b).1 (r.2.1 b).2.1 (r.2.1 b).2.2.1 ∈ WG) (hd : decode cc pc = .ok (.getfield idx, 3)) (h : ri_getf a b st w = some st')
    (k : W p l e R s m args below meth c H locs cells slots Q (F0 m (pc + 3) ls (st'.map (ri_v ad)))) : W p l e R s m args below meth c H locs cells slots Q (F0 m pc ls (st.map (ri_v ad))) := by
  obtain ⟨q, r9, fs, v, rfl, hq, hv, rfl⟩ := ri_getf_eq h
  obtain ⟨r2, g1, cell, g2, g3, g4, g5⟩ := hP q _ hq
  cases Option.some.inj (g1.symm.trans hr)
  obtain ⟨hS, hfc, kC, hkC, hkind⟩ := hK.1 a _ hr
  obtain ⟨cf, kf, fi, f, hi, hsl⟩ := hS b hk
  refine W.getf hx hb hown (hts _ hw) hi (u_facts hfc hkC (u_lays hts (hC a _ hr).1 hk) hi).1 g2 (by rw [g4]; exact fun h => by cases h) (v := ri_v ad v) ?_ rfl rfl hd k
  rw [hsl, g5 b hk, ri_f_at hv]
theorem ri_S_put {A : Nat → Prop} {H1 : Heap} {a k : Nat} (h : va_S A H0 H locs) (z : H1.size = H.size) (oq : ∀ q : Nat, q ≠ a → H1[q]? = H[q]?) (ha : A a) : va_S A H0 H1 (locs ++ [⟨a, k⟩]) := va_S.put h z oq ha
theorem ri_putf_ok {a b idx : Nat} {st st' : List Value} {w' : List ri_E} (hx : p.tables.exec = Jvm.exec) (hb : c.code = cc) (hown : s.vm.findClass own = some m.cls) (hts : ∀ x ∈ WG, x.before args s = true) (hK : va_K D cl (ri_tys cA tyL) s) (hC : ri_clok WG cl ty) (hP : ri_P D cl ad cA w H) (hw9 : w.length ≤ 1000000) (hi9 : ri_inj ad) (hS9 : va_S (ri_A ad) H0 H locs)
    {r : vw_C} (hr : cl[a]? = some r) (hk : b < r.2.2) (hw : Jvm.Cond.fieldLink own idx (r.2.1 b).1 (r.2.1 b).2.1 (r.2.1 b).2.2.1 ∈ WG) (hfin : (r.2.1 b).2.2.2 = false ∨ (meth.name = "<init>" ∧ (r.2.1 b).1 = own)) (hd : decode cc pc = .ok (.putfield idx, 3)) (h : ri_putf (ty a b) a b st w = some (st', w'))
    (k : ∀ (H1 : Heap) (locs1 : List Loc), ri_P D cl ad cA w' H1 → va_S (ri_A ad) H0 H1 locs1 → H1.size = H.size → W p l e R s m args below meth c H1 locs1 cells slots Q (F0 m (pc + 3) ls (st'.map (ri_v ad)))) : W p l e R s m args below meth c H locs cells slots Q (F0 m pc ls (st.map (ri_v ad))) := by
  obtain ⟨q, fs, v, rfl, hq, hl, hf, rfl⟩ := ri_putf_eq h
  obtain ⟨h1, h2, h3, -, -⟩ := hC a _ hr
  obtain ⟨f1, f2⟩ := ri_fit_ok (ad := ad) hf
  have hap := va_apart (own := own) hts h1 (ty a) h2 h3 hK hr
  obtain ⟨r2, g1, cell, g2, g3, g4, g5⟩ := hP q _ hq
  cases Option.some.inj (g1.symm.trans hr)
  obtain ⟨hS, hfc, kC, hkC, hkind⟩ := hK.1 a _ hr
  obtain ⟨cf, kf, fi, f, hi, hsl⟩ := hS b hk
  have hst := (u_facts hfc hkC (u_lays hts h1 hk) hi).1
  have done : ∀ (H' : Heap), H'[ad q]? = some (cell.setSlot f.slot (ri_v ad v)) → H'.size = H.size → (∀ z : Nat, z ≠ ad q → H'[z]? = H[z]?) → W p l e R s m args below meth c H' (locs ++ [⟨ad q, f.slot⟩]) cells slots Q (F0 m (pc + 3) ls (st'.map (ri_v ad))) := by
    intro H' e1 e2 e3
    rw [hsl] at e1 ⊢
    refine k H' _ (hP.set hi9 hw9 (Nat.lt_of_lt_of_le (List.getElem?_eq_some_iff.mp hq).1 hw9) ⟨_, hr, ?_⟩ e3) (ri_S_put hS9 e2 e3 ⟨q, Nat.lt_of_lt_of_le (List.getElem?_eq_some_iff.mp hq).1 hw9, rfl⟩) e2
    exact t_OB.to (V := updV (ri_f ad fs) b (ri_v ad v)) ⟨_, e1, g3, g4, t_set g5 hap hk (ri_v ad v)⟩ (fun j _ => congrFun (ri_f_set hl v) j)
  have hlay := hts _ (h1 _ (u_in_lay hk))
  unfold u_lay at hlay
  by_cases hfn : (r.2.1 b).2.2.2 = true
  · rw [if_pos hfn] at hlay
    obtain ⟨hin2, hdecl⟩ := hfin.resolve_left (by rw [hfn]; decide)
    have hcf : m.cls = cf := by
      obtain ⟨_, _, c', _, _, _, -, -, hf', -, -, -, hown2, -⟩ := Cond.laysFinal_spec hlay
      have e1 : c' = cf := by have := hi.symm.trans hf'; simp at this; exact this.1.symm
      rw [hdecl] at hown2
      rw [← e1]; exact Option.some.inj (hown.symm.trans hown2)
    have h6 := u_fits hfc hkC hkind (Or.inr hlay) hi (h2 b hk) f1 f2
    exact W.putFinK hx hb hown (hts _ hw) hi hst hcf hin2 (by rw [g3]; exact h6) g2 g4 (by rw [hsl]; exact k2_hasslot (g5 b hk)) rfl rfl hd done
  · rw [if_neg hfn] at hlay
    have h6 := u_store hfc hkC hkind hlay hi (h2 b hk) f1 f2
    exact W.putK hx hb (f := f) ⟨hown, hts _ hw, ⟨_, _, _, hi⟩, hst⟩ (by rw [g3]; exact h6) g2 g4 (by rw [hsl]; exact k2_hasslot (g5 b hk)) rfl rfl hd done
end RIH
