/-! ===== the reckoner, part 4b: new double[n][m] ===== -/
/-- arrays over such a type are there -/
def ri_AO (t : FieldType) (U : State) : Prop := match t with
  | .object C => va_AO C U
  | .array t => (Cond.arrayOver (.array t)).before #[] U = true
  | _ => True
theorem ri_AO.moved {t : FieldType} {u U : State} (hvm : u.vm.Alike U.vm) (h : ri_AO t u) : ri_AO t U := by
  cases t with
  | object C => exact va_AO.moved hvm h
  | array t =>
    obtain ⟨comp, c, k, h1, h2, h3, h4, h5⟩ := arrayOver_specB (show (Cond.arrayOver (.array t)).before #[] u = true from h)
    obtain ⟨k', hk', he⟩ := hvm.2.2 _ _ h3
    have hi : (U.vm.classes.findIdx? fun (x : Class) => match x.kind with | .array component _ => component == comp | _ => false) = some c := by
      have hb9 : U.vm.bare = u.vm.bare := by first | exact hvm.bare_eq | exact hvm.bare_eq.symm
      refine (va_idx_bare U.vm comp).symm.trans ?_
      rw [hb9]
      exact (va_idx_bare u.vm comp).trans h2
    have hkind : k'.kind = .array comp (.array t) := by rw [he]; exact h4
    have f1 : U.vm.findClass (FieldType.array t).toString = some comp := by rw [hvm.findClass]; exact h1
    have f2 : U.vm.findClass ("[" ++ (FieldType.array t).toString) = some c := by rw [hvm.findClass]; exact h5
    show (Cond.arrayOver (.array t)).before #[] U = true
    unfold Cond.before Cond.holds
    simp only [Cond.value]
    rw [f1, Option.bind_some]
    refine (congrArg (fun o : Option Nat => (o.bind (fun c => (U.vm.classes[c]?).map fun (k : Class) => match k.kind with | .array _ ty => decide (ty = FieldType.array t) && decide (U.vm.findClass ("[" ++ (FieldType.array t).toString) = some c) | _ => false) == some true)) hi).trans ?_
    simp [hk', hkind, f2]
  | _ => trivial
theorem ri_inner (c : ClassId) (K : Nat) (d : Value) : Jvm.Free.Multi.innerC c K d = arrV c K (fun _ => d) := by
  unfold Jvm.Free.Multi.innerC arrV
  congr 1
  apply Array.ext
  · simp
  · intro i h1 h2
    simp
theorem ri_outer (c : ClassId) (N h0 : Nat) : ∀ i : Nat, Jvm.Free.Multi.outerC c N h0 i = arrV c N (fun j => if j < i then .ref (h0 + 1 + j) else .null)
  | 0 => by
    show ({ cls := c, slots := Array.replicate N .null, vm := .none } : Cell) = _
    rw [arrV_new]
    refine congrArg (arrV c N) (funext fun j => ?_)
    simp
  | i + 1 => by
    show (Jvm.Free.Multi.outerC c N h0 i).setSlot i (.ref (h0 + 1 + i)) = _
    rw [ri_outer c N h0 i, arrV_store]
    refine congrArg (arrV c N) (funext fun j => ?_)
    by_cases e : j = i
    · subst e
      simp [updV]
    · by_cases h : j < i
      · simp [updV, e, h, Nat.lt_succ_of_lt h]
      · simp [updV, e, h, show ¬ j < i + 1 by omega]
/-- references n, n + 1, .. -/
noncomputable def ri_refs (N : Nat) : Nat → List Value := Nat.rec (fun _ => []) (fun _ ih k => .ref k :: ih (k + 1)) N
theorem ri_refs_len : ∀ (N k : Nat), (ri_refs N k).length = N
  | 0, _ => rfl
  | N + 1, k => congrArg Nat.succ (ri_refs_len N (k + 1))
theorem ri_refs_at : ∀ (N k j : Nat), j < N → (ri_refs N k)[j]? = some (.ref (k + j))
  | 0, _, _, h => absurd h (Nat.not_lt_zero _)
  | N + 1, k, 0, _ => rfl
  | N + 1, k, j + 1, h => by
    show (ri_refs N (k + 1))[j]? = _
    rw [ri_refs_at N (k + 1) j (by omega), show k + 1 + j = k + (j + 1) by omega]
section RIM
variable {p : Program} {l : Launch} {e : Env} {R : Room} {s : State} {m : MethodId} {args : Array Value} {below : List Frame} {meth : Method} {c : Code} {H : Heap} {locs : List Loc} {cells slots : Nat} {Q : State → Prop}
variable {cc : ByteArray} {pc : Nat} {ls : Array Slot} {ad : Nat → Nat} {cA : Nat → ClassId} {tyL : List FieldType} {D : va_G} {cl : List vw_C} {WG : List Jvm.Cond} {own : String} {w : List ri_E} {H0 : Heap}
/-- a: the type of the elements, b: of the rows -/
noncomputable def ri_mna (a b : Nat) (st : List Value) (w : List ri_E) : Option (Nat × Nat × List Value × List ri_E) := match st with
  | .int k :: .int n :: r => ri_ok ((!decide (n < 0) && Nat.ble n.toNatClampNeg 100000) && (!decide (k < 0) && Nat.ble k.toNatClampNeg 100000)) (some (n.toNatClampNeg, k.toNatClampNeg, .ref w.length :: r, w ++ .inl (b, ri_refs n.toNatClampNeg (w.length + 1)) :: List.replicate n.toNatClampNeg (.inl (a, List.replicate k.toNatClampNeg (.double 0)))))
  | _ => none
theorem ri_mna_eq {a b N K : Nat} {st st' : List Value} {w' : List ri_E} (h : ri_mna a b st w = some (N, K, st', w')) : ∃ (n k : Int32) (r : List Value), st = .int k :: .int n :: r ∧ ¬ n < 0 ∧ ¬ k < 0 ∧ n.toNatClampNeg = N ∧ k.toNatClampNeg = K ∧ N ≤ 100000 ∧ K ≤ 100000 ∧ st' = .ref w.length :: r ∧ w' = w ++ .inl (b, ri_refs N (w.length + 1)) :: List.replicate N (.inl (a, List.replicate K (.double 0))) := by
  unfold ri_mna at h
  split at h
  · rename_i k n r
    obtain ⟨hb, h2⟩ := ri_ok_eq h
    simp only [Bool.and_eq_true] at hb
    obtain ⟨⟨b1, b2⟩, b3, b4⟩ := hb
    cases h2
    exact ⟨n, k, r, rfl, by simpa using b1, by simpa using b3, rfl, rfl, Nat.le_of_ble_eq_true b2, Nat.le_of_ble_eq_true b4, rfl, rfl⟩
  · cases h
theorem ri_mna_len {a b N K : Nat} {st st' : List Value} {w' : List ri_E} (h : ri_mna a b st w = some (N, K, st', w')) : w'.length = w.length + (1 + N) := by
  obtain ⟨n, k, r, -, -, -, -, -, -, -, -, e9⟩ := ri_mna_eq h
  rw [e9, List.length_append, List.length_cons, List.length_replicate, Nat.add_comm N 1]
theorem ri_mna_ok {a b N K idx : Nat} {st st' : List Value} {w' : List ri_E} (hx : p.tables.exec = Jvm.exec) (hb : c.code = cc) (hown : s.vm.findClass own = some m.cls) (hts : ∀ x ∈ WG, x.before args s = true) (hover : ri_AO (.array .double) s) (hK : va_K D cl (ri_tys cA tyL) s) (hP : ri_P D cl ad cA w H) (hS9 : va_S (ri_A ad) H0 H locs) (hn : ri_nx ad w.length H.size) (hlt9 : w'.length ≤ 1000000)
    (hta : tyL[a]? = some .double) (htb : tyL[b]? = some (.array .double)) (hw : Jvm.Cond.classLink own idx "[[D" ∈ WG) (hwa : Jvm.Cond.arrayClass .double ∈ WG) (hcells : cells + (1 + N) ≤ R.cells) (hslots : slots + (N + N * K) ≤ R.slots) (hd : decode cc pc = .ok (.multianewarray idx 2, 4)) (h : ri_mna a b st w = some (N, K, st', w'))
    (k : ∀ H1 : Heap, ri_P D cl ad cA w' H1 → va_S (ri_A ad) H0 H1 locs → ri_nx ad w'.length H1.size → W p l e R s m args below meth c H1 locs (cells + (1 + N)) (slots + (N + N * K)) Q (F0 m (pc + 4) ls (st'.map (ri_v ad)))) : W p l e R s m args below meth c H locs cells slots Q (F0 m pc ls (st.map (ri_v ad))) := by
  have hlen := ri_mna_len h
  rw [hlen] at hlt9
  obtain ⟨n, k9, r, rfl, h0, h1, hN, hK9, hle, hle2, rfl, rfl⟩ := ri_mna_eq h
  subst hN
  subst hK9
  intro T hT Xs
  obtain ⟨vm₁, cA9, comp, -, fA, fC, -, -, X', step⟩ := Xs.multianewarray2F (ty := .double) hx hown (hts _ hw) (show (Cond.arrayOver (.array .double)).before args s = true from hover) (hts _ hwa) (g := F0 m pc ls ((.int k9 :: .int n :: r).map (ri_v ad))) rfl (by rw [hb]; exact hd) (rest := r.map (ri_v ad)) rfl h0 h1 (by omega) (by simp [componentBytes]; omega) (by omega) rfl rfl hcells hslots
  have ea : cA9 = cA b := Option.some.inj (fA.symm.trans (hK.2 b _ (ri_tys_at htb)).2)
  have ec : comp = cA a := Option.some.inj (fC.symm.trans (hK.2 a _ (ri_tys_at hta)).2)
  subst ea
  subst ec
  generalize hF : Jvm.Free.Multi.fill (T.setVm vm₁) (cA b) (cA a) n.toNatClampNeg k9.toNatClampNeg (defaultValue .double) n.toNatClampNeg = F at X' step
  have hTh : (T.setVm vm₁).heap = H := hT
  obtain ⟨f1, f2, -, -⟩ := Jvm.Free.Multi.fill_facts (T.setVm vm₁) (cA b) (cA a) n.toNatClampNeg k9.toNatClampNeg (defaultValue .double) n.toNatClampNeg
  rw [hF, hTh] at f1 f2
  have hold : ∀ x : Nat, x < H.size → F.heap[x]? = H[x]? := fun x hx => by
    have := Jvm.Free.Multi.fill_old (T.setVm vm₁) (cA b) (cA a) n.toNatClampNeg k9.toNatClampNeg (defaultValue .double) (a := x) (by rw [hTh]; exact hx) n.toNatClampNeg
    rw [hF, hTh] at this
    exact this
  have hrow : ∀ j : Nat, j < n.toNatClampNeg → F.heap[H.size + 1 + j]? = some (arrV (cA a) k9.toNatClampNeg (fun _ => .double 0)) := fun j hj => by
    have := Jvm.Free.Multi.fill_inner (T.setVm vm₁) (cA b) (cA a) n.toNatClampNeg k9.toNatClampNeg (defaultValue .double) n.toNatClampNeg j hj
    rw [hF, hTh, ri_inner] at this
    exact this
  have hP1 : ri_P D cl ad cA (w ++ .inl (b, ri_refs n.toNatClampNeg (w.length + 1)) :: List.replicate n.toNatClampNeg (.inl (a, List.replicate k9.toNatClampNeg (.double 0)))) F.heap := by
    intro i y hi
    by_cases hl : i < w.length
    · rw [List.getElem?_append_left hl] at hi
      exact (hP i y hi).kept (hold _ (hP i y hi).lt)
    · rw [List.getElem?_append_right (by omega)] at hi
      have hi9 : i < 1000000 := by
        have q := (List.getElem?_eq_some_iff.mp hi).1
        simp only [List.length_cons, List.length_replicate] at q
        omega
      have had : ad i = H.size + (i - w.length) := hn i (by omega) hi9
      generalize hj : i - w.length = j at hi had
      cases j with
      | zero =>
        cases hi
        show F.heap[ad i]? = some (arrV (cA b) (ri_refs n.toNatClampNeg (w.length + 1)).length (ri_f ad (ri_refs n.toNatClampNeg (w.length + 1))))
        rw [had, Nat.add_zero, f2, ri_outer, ri_refs_len]
        congr 1
        unfold arrV
        congr 1
        apply Array.ext
        · simp
        · intro q q1 q2
          have q3 : q < n.toNatClampNeg := by simpa using q1
          have q4 : ad (w.length + 1 + q) = H.size + 1 + q := by rw [hn _ (by omega) (by omega)]; omega
          have q5 : ri_f ad (ri_refs n.toNatClampNeg (w.length + 1)) q = .ref (H.size + 1 + q) := by
            rw [ri_f_at (ri_refs_at _ _ _ q3), ← q4]; rfl
          simp [q3, q5]
      | succ j =>
        have hi2 : (List.replicate n.toNatClampNeg (.inl (a, List.replicate k9.toNatClampNeg (.double 0))) : List ri_E)[j]? = some y := hi
        have hj2 : j < n.toNatClampNeg := by have := (List.getElem?_eq_some_iff.mp hi2).1; rwa [List.length_replicate] at this
        rw [List.getElem?_replicate, if_pos hj2] at hi2
        cases hi2
        show F.heap[ad i]? = some (arrV (cA a) (List.replicate k9.toNatClampNeg (Value.double 0)).length (ri_f ad (List.replicate k9.toNatClampNeg (Value.double 0))))
        rw [had, show H.size + (j + 1) = H.size + 1 + j by omega, hrow j hj2, ri_f_rep rfl]
  obtain ⟨t, a1, b1⟩ := k F.heap hP1 ⟨by rw [f1]; have := hS9.1; omega, fun x h1 h2 => (hold x (Nat.lt_of_lt_of_le h1 hS9.1)).trans (hS9.2.1 x h1 h2), hS9.2.2⟩ (fun j hj hj9 => by rw [hlen] at hj ⊢; rw [hn j (by omega) hj9, f1]; omega) F rfl (by rw [← Nat.add_assoc, ← Nat.add_assoc]; exact X')
  refine ⟨t, step t ?_, b1⟩
  have e9 : (F0 m (pc + 4) ls ((.ref w.length :: r).map (ri_v ad))) = { F0 m pc ls ((.int k9 :: .int n :: r).map (ri_v ad)) with pc := pc + 4, stack := .ref T.heap.size :: (r.map (ri_v ad)) } := by
    rw [hT, ← hn.here (by omega)]; rfl
  rw [← e9]
  exact a1
end RIM
