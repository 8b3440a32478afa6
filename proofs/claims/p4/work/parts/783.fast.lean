/-! ===== the reckoner, part 15: steps over trees, and that they are the same ===== -/
noncomputable def rf_getf (a b : Nat) (st : List Value) (w : rf_W) : Option (List Value) := match st with
  | .ref q :: r => (match rf_wn w q with
    | some (.inr o) => ri_ok (Nat.beq o.1 a) (match ri_nth o.2 b with
      | some v => some (v :: r)
      | none => none)
    | _ => none)
  | _ => none
theorem rf_getf_eq {a b : Nat} {st st' : List Value} {w : rf_W} (h : rf_getf a b st w = some st') : ri_getf a b st (rf_wa w) = some st' := by
  unfold rf_getf at h
  split at h
  · rename_i q r
    unfold ri_getf
    dsimp only
    rw [rf_wn_eq]
    cases hq : rf_wn w q with
    | none => rw [hq] at h; cases h
    | some x =>
      rw [hq] at h
      cases x with
      | inl a => cases h
      | inr o => exact h
  · cases h
noncomputable def rf_putf (ty : FieldType) (a b : Nat) (st : List Value) (w : rf_W) : Option (List Value × rf_W) := match st with
  | v :: .ref q :: r => (match rf_wn w q with
    | some (.inr o) => ri_ok (Nat.beq o.1 a) (match ri_nth o.2 b with
      | some _ => ri_ok (ri_fit ty v && rf_wk w) (some (r, rf_wu (.inr (o.1, ri_upd v o.2 b)) w q))
      | none => none)
    | _ => none)
  | _ => none
theorem rf_putf_eq {ty : FieldType} {a b : Nat} {st : List Value} {w : rf_W} {z : List Value × rf_W} (h : rf_putf ty a b st w = some z) : ri_putf ty a b st (rf_wa w) = some (z.1, rf_wa z.2) := by
  unfold rf_putf at h
  split at h
  · rename_i v q r
    unfold ri_putf
    dsimp only
    rw [rf_wn_eq]
    cases hq : rf_wn w q with
    | none => rw [hq] at h; cases h
    | some x =>
      rw [hq] at h
      cases x with
      | inl a => cases h
      | inr o =>
        obtain ⟨hb, h2⟩ := ri_ok_eq h
        show ri_ok (Nat.beq o.1 a) (match ri_nth o.2 b with
          | some _ => ri_ok (ri_fit ty v) (some (r, ri_upd (.inr (o.1, ri_upd v o.2 b)) (rf_wa w) q))
          | none => none) = some (z.1, rf_wa z.2)
        rw [hb]
        cases hv : ri_nth o.2 b with
        | none => rw [hv] at h2; cases h2
        | some u =>
          rw [hv] at h2
          obtain ⟨hc, h3⟩ := ri_ok_eq h2
          obtain ⟨c1, c2⟩ := (Bool.and_eq_true _ _ ▸ hc : ri_fit ty v = true ∧ rf_wk w = true)
          cases h3
          show ri_ok (ri_fit ty v) (some (r, ri_upd (.inr (o.1, ri_upd v o.2 b)) (rf_wa w) q)) = some (r, rf_wa (rf_wu (.inr (o.1, ri_upd v o.2 b)) w q))
          rw [c1, rf_wu_eq c2 hq]
          rfl
  · cases h
noncomputable def rf_ald (tyL : List FieldType) (g : FieldType → Bool) (st : List Value) (w : rf_W) : Option (List Value) := match st with
  | .int i :: .ref q :: r => (match rf_wn w q with
    | some (.inl a) => (match ri_nth tyL a.1 with
      | some ty => ri_ok (g ty && !decide (i < 0)) (match rf_vn a.2 i.toNatClampNeg with
        | some v => some (v :: r)
        | none => none)
      | none => none)
    | _ => none)
  | _ => none
theorem rf_ald_eq {tyL : List FieldType} {g : FieldType → Bool} {st st' : List Value} {w : rf_W} (h : rf_ald tyL g st w = some st') : ri_ald tyL g st (rf_wa w) = some st' := by
  unfold rf_ald at h
  split at h
  · rename_i i q r
    unfold ri_ald
    dsimp only
    rw [rf_wn_eq]
    cases hq : rf_wn w q with
    | none => rw [hq] at h; cases h
    | some x =>
      rw [hq] at h
      cases x with
      | inr o => cases h
      | inl a =>
        show (match ri_nth tyL a.1 with
          | some ty => ri_ok (g ty && !decide (i < 0)) (match ri_nth (rf_va a.2) i.toNatClampNeg with
            | some v => some (v :: r)
            | none => none)
          | none => none) = some st'
        rw [rf_vn_eq]
        exact h
  · cases h
noncomputable def rf_ast (tyL : List FieldType) (g : FieldType → Value → Option Value) (st : List Value) (w : rf_W) : Option (List Value × rf_W) := match st with
  | x :: .int i :: .ref q :: r => (match rf_wn w q with
    | some (.inl a) => (match ri_nth tyL a.1 with
      | some ty => (match g ty x with
        | some v => ri_ok (!decide (i < 0)) (match rf_vn a.2 i.toNatClampNeg with
          | some _ => ri_ok (rf_vk a.2 && rf_wk w) (some (r, rf_wu (.inl (a.1, rf_vu v a.2 i.toNatClampNeg)) w q))
          | none => none)
        | none => none)
      | none => none)
    | _ => none)
  | _ => none
theorem rf_ast_eq {tyL : List FieldType} {g : FieldType → Value → Option Value} {st : List Value} {w : rf_W} {z : List Value × rf_W} (h : rf_ast tyL g st w = some z) : ri_ast tyL g st (rf_wa w) = some (z.1, rf_wa z.2) := by
  unfold rf_ast at h
  split at h
  · rename_i x i q r
    unfold ri_ast
    dsimp only
    rw [rf_wn_eq]
    cases hq : rf_wn w q with
    | none => rw [hq] at h; cases h
    | some y =>
      rw [hq] at h
      cases y with
      | inr o => cases h
      | inl a =>
        show (match ri_nth tyL a.1 with
          | some ty => (match g ty x with
            | some v => ri_ok (!decide (i < 0)) (match ri_nth (rf_va a.2) i.toNatClampNeg with
              | some _ => some (r, ri_upd (.inl (a.1, ri_upd v (rf_va a.2) i.toNatClampNeg)) (rf_wa w) q)
              | none => none)
            | none => none)
          | none => none) = some (z.1, rf_wa z.2)
        rw [rf_vn_eq]
        dsimp only at h
        cases hty : ri_nth tyL a.1 with
        | none => rw [hty] at h; cases h
        | some ty =>
          rw [hty] at h
          dsimp only at h ⊢
          cases hg : g ty x with
          | none => rw [hg] at h; cases h
          | some v =>
            rw [hg] at h
            obtain ⟨hb, h2⟩ := ri_ok_eq h
            dsimp only
            rw [hb]
            cases hv : rf_vn a.2 i.toNatClampNeg with
            | none => rw [hv] at h2; cases h2
            | some u =>
              rw [hv] at h2
              obtain ⟨hc, h3⟩ := ri_ok_eq h2
              obtain ⟨c1, c2⟩ := (Bool.and_eq_true _ _ ▸ hc : rf_vk a.2 = true ∧ rf_wk w = true)
              cases h3
              show some (r, ri_upd (.inl (a.1, ri_upd v (rf_va a.2) i.toNatClampNeg)) (rf_wa w) q) = some (r, rf_wa (rf_wu (.inl (a.1, rf_vu v a.2 i.toNatClampNeg)) w q))
              rw [rf_wu_eq c2 hq, ← rf_vu_eq c1 hv]
              rfl
  · cases h
noncomputable def rf_aast (a b : Nat) (st : List Value) (w : rf_W) : Option (List Value × rf_W) := match st with
  | .ref v :: .int i :: .ref q :: r => (match rf_wn w q with
    | some (.inl x) => (match rf_wn w v with
      | some (.inr y) => ri_ok (Nat.beq x.1 b && (Nat.beq y.1 a && (!decide (i < 0) && Nat.blt b 1000000))) (match rf_vn x.2 i.toNatClampNeg with
        | some _ => ri_ok (rf_vk x.2 && rf_wk w) (some (r, rf_wu (.inl (x.1, rf_vu (.ref v) x.2 i.toNatClampNeg)) w q))
        | none => none)
      | _ => none)
    | _ => none)
  | _ => none
theorem rf_aast_eq {a b : Nat} {st : List Value} {w : rf_W} {z : List Value × rf_W} (h : rf_aast a b st w = some z) : ri_aast a b st (rf_wa w) = some (z.1, rf_wa z.2) := by
  unfold rf_aast at h
  split at h
  · rename_i v i q r
    unfold ri_aast
    dsimp only
    rw [rf_wn_eq, rf_wn_eq]
    cases hq : rf_wn w q with
    | none => rw [hq] at h; cases h
    | some x =>
      rw [hq] at h
      cases x with
      | inr o => cases h
      | inl x =>
        dsimp only at h
        cases hv : rf_wn w v with
        | none => rw [hv] at h; cases h
        | some y =>
          rw [hv] at h
          cases y with
          | inl o => cases h
          | inr y =>
            obtain ⟨hb, h2⟩ := ri_ok_eq h
            show ri_ok (Nat.beq x.1 b && (Nat.beq y.1 a && (!decide (i < 0) && Nat.blt b 1000000))) (match ri_nth (rf_va x.2) i.toNatClampNeg with
              | some _ => some (r, ri_upd (.inl (x.1, ri_upd (.ref v) (rf_va x.2) i.toNatClampNeg)) (rf_wa w) q)
              | none => none) = some (z.1, rf_wa z.2)
            rw [hb, rf_vn_eq]
            cases hu : rf_vn x.2 i.toNatClampNeg with
            | none => rw [hu] at h2; cases h2
            | some u =>
              rw [hu] at h2
              obtain ⟨hc, h3⟩ := ri_ok_eq h2
              obtain ⟨c1, c2⟩ := (Bool.and_eq_true _ _ ▸ hc : rf_vk x.2 = true ∧ rf_wk w = true)
              cases h3
              show some (r, ri_upd (.inl (x.1, ri_upd (.ref v) (rf_va x.2) i.toNatClampNeg)) (rf_wa w) q) = some (r, rf_wa (rf_wu (.inl (x.1, rf_vu (.ref v) x.2 i.toNatClampNeg)) w q))
              rw [rf_wu_eq c2 hq, ← rf_vu_eq c1 hu]
              rfl
  · cases h
noncomputable def rf_alen (tyL : List FieldType) (st : List Value) (w : rf_W) : Option (List Value) := match st with
  | .ref q :: r => (match rf_wn w q with
    | some (.inl a) => (match ri_nth tyL a.1 with
      | some _ => some (.int (Int32.ofNat (rf_vl a.2)) :: r)
      | none => none)
    | _ => none)
  | _ => none
theorem rf_alen_eq {tyL : List FieldType} {st st' : List Value} {w : rf_W} (h : rf_alen tyL st w = some st') : ri_alen2 tyL st (rf_wa w) = some st' := by
  unfold rf_alen at h
  split at h
  · rename_i q r
    unfold ri_alen2
    dsimp only
    rw [rf_wn_eq]
    cases hq : rf_wn w q with
    | none => rw [hq] at h; cases h
    | some x =>
      rw [hq] at h
      cases x with
      | inr o => cases h
      | inl a =>
        show (match ri_nth tyL a.1 with
          | some _ => some (.int (Int32.ofNat (rf_va a.2).length) :: r)
          | none => none) = some st'
        rw [rf_vl_eq]
        exact h
  · cases h
noncomputable def rf_newa (t : Nat) (d : Value) (st : List Value) (w : rf_W) : Option (Nat × List Value × rf_W) := match st with
  | .int n :: r => ri_ok ((!decide (n < 0) && Nat.ble n.toNatClampNeg 60000000) && Nat.blt w.1 1024) (some (n.toNatClampNeg, .ref w.1 :: r, rf_wp w (.inl (t, rf_nv n.toNatClampNeg d))))
  | _ => none
theorem rf_newa_eq {t : Nat} {d : Value} {st : List Value} {w : rf_W} {z : Nat × List Value × rf_W} (h : rf_newa t d st w = some z) : ri_newa t d st (rf_wa w) = some (z.1, z.2.1, rf_wa z.2.2) := by
  unfold rf_newa at h
  split at h
  · rename_i n r
    obtain ⟨hb, h2⟩ := ri_ok_eq h
    obtain ⟨b1, b2⟩ := (Bool.and_eq_true _ _ ▸ hb : (!decide (n < 0) && Nat.ble n.toNatClampNeg 60000000) = true ∧ Nat.blt w.1 1024 = true)
    cases h2
    unfold ri_newa
    dsimp only
    rw [b1, rf_wa_len, rf_wp_eq b2]
    show some (n.toNatClampNeg, .ref w.1 :: r, rf_wa w ++ [.inl (t, List.replicate n.toNatClampNeg d)]) = some (n.toNatClampNeg, .ref w.1 :: r, rf_wa w ++ [.inl (t, rf_va (rf_nv n.toNatClampNeg d))])
    rw [rf_nv_eq]
  · cases h
noncomputable def rf_mna (a b : Nat) (st : List Value) (w : rf_W) : Option (Nat × Nat × List Value × rf_W) := match st with
  | .int k :: .int n :: r => ri_ok (((!decide (n < 0) && Nat.ble n.toNatClampNeg 100000) && (!decide (k < 0) && Nat.ble k.toNatClampNeg 100000)) && Nat.ble (w.1 + (1 + n.toNatClampNeg)) 1024) (some (n.toNatClampNeg, k.toNatClampNeg, .ref w.1 :: r, rf_wps (.inl (b, .inl (ri_refs n.toNatClampNeg (w.1 + 1))) :: List.replicate n.toNatClampNeg (.inl (a, rf_nv k.toNatClampNeg (.double 0)))) w))
  | _ => none
theorem rf_mna_eq {a b : Nat} {st : List Value} {w : rf_W} {z : Nat × Nat × List Value × rf_W} (h : rf_mna a b st w = some z) : ri_mna a b st (rf_wa w) = some (z.1, z.2.1, z.2.2.1, rf_wa z.2.2.2) := by
  unfold rf_mna at h
  split at h
  · rename_i k n r
    obtain ⟨hb, h2⟩ := ri_ok_eq h
    obtain ⟨b1, b2⟩ := (Bool.and_eq_true _ _ ▸ hb : ((!decide (n < 0) && Nat.ble n.toNatClampNeg 100000) && (!decide (k < 0) && Nat.ble k.toNatClampNeg 100000)) = true ∧ Nat.ble (w.1 + (1 + n.toNatClampNeg)) 1024 = true)
    have b3 := Nat.le_of_ble_eq_true b2
    cases h2
    unfold ri_mna
    dsimp only
    rw [b1, rf_wa_len, rf_wps_eq _ _ (by rw [List.length_cons, List.length_replicate]; omega), List.map_cons, List.map_replicate]
    show some (n.toNatClampNeg, k.toNatClampNeg, .ref w.1 :: r, rf_wa w ++ .inl (b, ri_refs n.toNatClampNeg (w.1 + 1)) :: List.replicate n.toNatClampNeg (.inl (a, List.replicate k.toNatClampNeg (.double 0)))) = some (n.toNatClampNeg, k.toNatClampNeg, .ref w.1 :: r, rf_wa w ++ .inl (b, ri_refs n.toNatClampNeg (w.1 + 1)) :: List.replicate n.toNatClampNeg (.inl (a, rf_va (rf_nv k.toNatClampNeg (.double 0)))))
    rw [rf_nv_eq]
  · cases h
/-- a copy of nothing -/
noncomputable def rf_acopy (tyL : List FieldType) (bud : Nat) (st : List Value) (w : rf_W) : Option (List Value × rf_W) := match st with
  | .int n :: .int dp :: .ref q1 :: .int sp :: .ref q0 :: r => (match rf_wn w q0 with
    | some (.inl a0) => (match rf_wn w q1 with
      | some (.inl a1) => (match ri_nth tyL a0.1 with
        | some t => ri_ok (decide (n = 0) && (Nat.beq a0.1 a1.1 && (!refKind t && (!decide (sp < 0) && (!decide (dp < 0) && (Nat.ble sp.toNatClampNeg (rf_vl a0.2) && (Nat.ble dp.toNatClampNeg (rf_vl a1.2) && Nat.ble ((r.map fun v => v.category).sum + 18) bud)))))))
          (some (r, w))
        | none => none)
      | _ => none)
    | _ => none)
  | _ => none
theorem rf_set_id {α : Type} {l : List α} {q : Nat} {x : α} (h : l[q]? = some x) : l.set q x = l := by
  apply List.ext_getElem?
  intro j
  rw [List.getElem?_set]
  by_cases e : q = j
  · subst e
    have h9 := (List.getElem?_eq_some_iff.mp h).1
    rw [if_pos rfl, if_pos h9, h]
  · rw [if_neg e]
theorem rf_acopy_eq {tyL : List FieldType} {bud : Nat} {st : List Value} {w : rf_W} {z : List Value × rf_W} (h : rf_acopy tyL bud st w = some z) : ri_acopy tyL bud st (rf_wa w) = some (z.1, rf_wa z.2) := by
  unfold rf_acopy at h
  split at h
  · rename_i n dp q1 sp q0 r
    unfold ri_acopy
    dsimp only
    have hN : ri_nth (rf_wa w) q1 = (rf_wn w q1).map rf_ea := rf_wn_eq
    rw [rf_wn_eq, rf_wn_eq]
    cases h0 : rf_wn w q0 with
    | none => rw [h0] at h; cases h
    | some x0 =>
      rw [h0] at h
      cases x0 with
      | inr o => cases h
      | inl a0 =>
        dsimp only at h
        cases h1 : rf_wn w q1 with
        | none => rw [h1] at h; cases h
        | some x1 =>
          rw [h1] at h hN
          cases x1 with
          | inr o => cases h
          | inl a1 =>
            dsimp only at h
            show (match ri_nth tyL a0.1 with
              | some t => ri_ok (Nat.beq a0.1 a1.1 && (!refKind t && (!decide (sp < 0) && (!decide (dp < 0) && (!decide (n < 0) && (Nat.ble (sp.toNatClampNeg + n.toNatClampNeg) (rf_va a0.2).length && (Nat.ble (dp.toNatClampNeg + n.toNatClampNeg) (rf_va a1.2).length && ((((rf_va a0.2).drop sp.toNatClampNeg).take n.toNatClampNeg).all (ri_ft t) && Nat.ble ((r.map fun v => v.category).sum + 18) bud))))))))
                (some (r, ri_upd (.inl (a1.1, ri_cpy (rf_va a0.2) (rf_va a1.2) sp.toNatClampNeg dp.toNatClampNeg n.toNatClampNeg)) (rf_wa w) q1))
              | none => none) = some (z.1, rf_wa z.2)
            cases ht : ri_nth tyL a0.1 with
            | none => rw [ht] at h; cases h
            | some t =>
              rw [ht] at h
              obtain ⟨hb, h2⟩ := ri_ok_eq h
              simp only [Bool.and_eq_true] at hb
              obtain ⟨c1, c2, c3, c4, c5, c6, c7, c8⟩ := hb
              cases h2
              have e0 : n = 0 := of_decide_eq_true c1
              subst e0
              have ez : (0 : Int32).toNatClampNeg = 0 := by decide +kernel
              have en : (!decide ((0 : Int32) < 0)) = true := by decide +kernel
              dsimp only
              rw [ez, c2, c3, c4, c5, en, Nat.add_zero, Nat.add_zero, rf_vl_eq, rf_vl_eq, c6, c7, c8, List.take_zero]
              show some (r, ri_upd (.inl (a1.1, ri_cpy (rf_va a0.2) (rf_va a1.2) sp.toNatClampNeg dp.toNatClampNeg 0)) (rf_wa w) q1) = some (r, rf_wa w)
              have e5 : ri_cpy (rf_va a0.2) (rf_va a1.2) sp.toNatClampNeg dp.toNatClampNeg 0 = rf_va a1.2 := by
                unfold ri_cpy
                rw [List.take_zero, List.nil_append, Nat.add_zero, List.take_append_drop]
              rw [e5, ri_upd_eq]
              rw [ri_nth_eq] at hN
              rw [rf_set_id (x := (.inl (a1.1, rf_va a1.2) : ri_E)) hN]
  · cases h
noncomputable def rf_lc (tyL : List FieldType) (a b : Nat) (lv : ri_L) (st : List Value) (w : rf_W) : Option (Value × Int64 × List Value) := match st with
  | x :: r => ri_ok (ri_isI x) (match ri_get 0 lv with
    | some (.ref q) => (match rf_getf a b (.ref q :: r) w with
      | some (.ref q2 :: _) => (match rf_ald tyL ri_tL (.int 3 :: .ref q2 :: r) w with
        | some (.long y :: _) => some (x, y, r)
        | _ => none)
      | _ => none)
    | _ => none)
  | [] => none
theorem rf_lc_eq {tyL : List FieldType} {a b : Nat} {lv : ri_L} {st : List Value} {w : rf_W} {z : Value × Int64 × List Value} (h : rf_lc tyL a b lv st w = some z) : ri_lc tyL a b lv st (rf_wa w) = some z := by
  unfold rf_lc at h
  split at h
  · rename_i x r
    obtain ⟨hb, h2⟩ := ri_ok_eq h
    unfold ri_lc
    dsimp only
    rw [hb]
    show (match ri_get 0 lv with
      | some (.ref q) => (match ri_getf a b (.ref q :: r) (rf_wa w) with
        | some (.ref q2 :: _) => (match ri_ald tyL ri_tL (.int 3 :: .ref q2 :: r) (rf_wa w) with
          | some (.long y :: _) => some (x, y, r)
          | _ => none)
        | _ => none)
      | _ => none) = some z
    split at h2
    · rename_i q hq
      split at h2
      · rename_i q2 l9 h3
        rw [rf_getf_eq h3]
        dsimp only
        split at h2
        · rename_i y l8 h4
          rw [rf_ald_eq h4]
          exact h2
        · cases h2
      · cases h2
    · cases h2
  · cases h

abbrev rf_Out : Type := (Option Value ⊕ Nat) × rf_W × Nat × Nat × List ri_Cd × Nat
abbrev rf_K : Type := Nat → Nat → ri_M → List ri_Op → Nat → ri_L → List Value → rf_W → Nat → Nat → Nat → Option rf_Out
noncomputable def rf_oa (z : rf_Out) : ri_Out := (z.1, rf_wa z.2.1, z.2.2)
section RFD
variable (Ms : List ri_M) (ty : Nat → Nat → FieldType) (df : Nat → List Value) (tyL : List FieldType) (exl : Nat → Nat) (xs : Nat → Value) (L : Nat) (al : Nat → Bool) (orc : List (Bool ⊕ Int32))
noncomputable def rf_more (cs : List ri_Cd) (o : Option rf_Out) : Option rf_Out := match o with
  | some z => some (z.1, z.2.1, z.2.2.1, z.2.2.2.1, cs ++ z.2.2.2.2.1, z.2.2.2.2.2)
  | none => none
noncomputable def rf_enter (ih : rf_K) (d bud : Nat) (M : ri_M) (vals rest : List Value) (w : rf_W) (fr : Nat) : Option rf_Out :=
  ri_ok (Nat.ble 1 d && (Nat.ble (19 + M.2.2.1) bud && (Nat.ble (ri_cat rest) 8 && Nat.ble (lg_sl vals).length M.2.2.1))) (ih (d - 1) (bud - (19 + M.2.2.1)) M M.2.2.2.2.2 0 (lv_args 0 vals) [] w 0 0 fr)
noncomputable def rf_back (ih : rf_K) (d bud : Nat) (M : ri_M) (nxt : List ri_Op) (pc : Nat) (lv : ri_L) (rest : List Value) (nc ns : Nat) (o : Option rf_Out) : Option rf_Out := match o with
  | some (.inl r, w, nc2, ns2, cs, fr) => rf_more cs (ih d bud M nxt (pc + 3) lv (r.toList ++ rest) w (nc + nc2) (ns + ns2) fr)
  | some (.inr x, w, nc2, ns2, cs, fr) => some (.inr x, w, nc + nc2, ns + ns2, cs, fr)
  | none => none
noncomputable def rf_caught (ih : rf_K) (d bud : Nat) (M : ri_M) (lv : ri_L) (w : rf_W) (nc ns fr : Nat) (cs : List ri_Cd) (os : List ri_Op) : Option rf_Out := match os with
  | oh :: nx2 => (match oh.2.2.1 with
    | .astore_n k => ri_ok (Nat.blt k.val M.2.2.1) (rf_more cs (ih d bud M nx2 (oh.1 + 1) (lv.filter (ri_f1 k.val)) [] w nc ns fr))
    | .astore k => ri_ok (Nat.blt k M.2.2.1) (rf_more cs (ih d bud M nx2 (oh.1 + 2) (lv.filter (ri_f1 k)) [] w nc ns fr))
    | _ => none)
  | [] => none
noncomputable def rf_backH (ih : rf_K) (d bud : Nat) (M : ri_M) (nxt : List ri_Op) (pc : Nat) (lv : ri_L) (rest : List Value) (nc ns : Nat) (hs : List Nat) (o : Option rf_Out) : Option rf_Out := match o with
  | some (.inl r, w, nc2, ns2, cs, fr) => rf_more cs (ih d bud M nxt (pc + 3) lv (r.toList ++ rest) w (nc + nc2) (ns + ns2) fr)
  | some (.inr x, w, nc2, ns2, cs, fr) => ri_ok (!al w.1) (match ri_nth hs x with
    | some t => rf_caught ih d bud M lv w (nc + nc2) (ns + ns2) fr cs (ri_drop M.2.2.2.2.2 t)
    | none => none)
  | none => none
noncomputable def rf_call (ih : rf_K) (d bud : Nat) (M : ri_M) (nxt : List ri_Op) (pc : Nat) (lv : ri_L) (st : List Value) (w : rf_W) (nc ns fr a b : Nat) (ts : List Nat) : Option rf_Out := match ri_nth Ms a with
  | some M2 => (match ri_split M2.2.2.2.2.1 [] st with
    | some (As, rest) => (match b with
      | 0 => (match rest with
        | .ref q :: rest => (match rf_wn w q with
          | some (.inr o) => ri_ok (match ts with | [t] => Nat.beq o.1 t | _ => false) (rf_back ih d bud M nxt pc lv rest nc ns (rf_enter ih d bud M2 (.ref q :: As) rest w fr))
          | _ => none)
        | _ => none)
      | 1 => rf_back ih d bud M nxt pc lv rest nc ns (rf_enter ih d bud M2 As rest w fr)
      | 2 => (match rest with
        | .ref q :: rest => rf_back ih d bud M nxt pc lv rest nc ns (rf_enter ih d bud M2 (.ref q :: As) rest w fr)
        | _ => none)
      | 3 => (match rest with
        | .ref q :: rest => rf_back ih d bud M nxt pc lv rest nc ns (rf_enter ih d bud M2 (.ref q :: As) rest w fr)
        | _ => none)
      | 4 => rf_back ih d bud M nxt pc lv rest nc ns (rf_enter ih d bud M2 As rest w fr)
      | 5 => (match rest with
        | .ref q :: rest => (match rf_wn w q with
          | some (.inr o) => (match ts with
            | t :: hs => ri_ok (Nat.beq o.1 t) (rf_backH al ih d bud M nxt pc lv rest nc ns hs (rf_enter ih d bud M2 (.ref q :: As) rest w fr))
            | [] => none)
          | _ => none)
        | _ => none)
      | 6 => rf_back ih d bud M nxt pc lv rest nc ns (rf_enter ih d bud M2 As rest w fr)
      | _ => none)
    | none => none)
  | none => none
noncomputable def rf_ret (M : ri_M) (i : Instr) (st : List Value) (w : rf_W) (nc ns fr : Nat) : Option rf_Out := match ri_ret M i st [] nc ns fr with
  | some z => some (z.1, w, z.2.2)
  | none => none
noncomputable def rf_exec (ih : rf_K) (d bud : Nat) (M : ri_M) (nxt : List ri_Op) (lv : ri_L) (st : List Value) (w : rf_W) (nc ns fr pc κ : Nat) (i : Instr) (a b : Nat) (v : Value) (ts : List Nat) : Option rf_Out := match κ with
  | 0 => (match ri_pure M.2.2.1 i pc lv st with
    | some z => ih d bud M (ri_next M nxt ts z.1) z.2.1 z.2.2.1 z.2.2.2 w nc ns fr
    | none => none)
  | 1 => (match rf_getf a b st w with
    | some st => ih d bud M nxt (pc + 3) lv st w nc ns fr
    | none => none)
  | 2 => (match rf_putf (ty a b) a b st w with
    | some z => ih d bud M nxt (pc + 3) lv z.1 z.2 nc ns fr
    | none => none)
  | 3 => ih d bud M nxt (pc + ri_len i) lv (v :: st) w nc ns fr
  | 4 => rf_call Ms al ih d bud M nxt pc lv st w nc ns fr a b ts
  | 5 => (match rf_ald tyL ri_tI st w with
    | some st => ih d bud M nxt (pc + 1) lv st w nc ns fr
    | none => none)
  | 6 => (match rf_ast tyL ri_gI st w with
    | some z => ih d bud M nxt (pc + 1) lv z.1 z.2 nc ns fr
    | none => none)
  | 7 => (match rf_ald tyL ri_tL st w with
    | some st => ih d bud M nxt (pc + 1) lv st w nc ns fr
    | none => none)
  | 8 => (match rf_ast tyL ri_gL st w with
    | some z => ih d bud M nxt (pc + 1) lv z.1 z.2 nc ns fr
    | none => none)
  | 9 => (match rf_ald tyL ri_tD st w with
    | some st => ih d bud M nxt (pc + 1) lv st w nc ns fr
    | none => none)
  | 10 => (match rf_ast tyL ri_gD st w with
    | some z => ih d bud M nxt (pc + 1) lv z.1 z.2 nc ns fr
    | none => none)
  | 11 => (match rf_ald tyL ri_tA st w with
    | some st => ih d bud M nxt (pc + 1) lv st w nc ns fr
    | none => none)
  | 12 => (match rf_ald tyL ri_tB st w with
    | some st => ih d bud M nxt (pc + 1) lv st w nc ns fr
    | none => none)
  | 13 => (match rf_ast tyL ri_gB st w with
    | some z => ih d bud M nxt (pc + 1) lv z.1 z.2 nc ns fr
    | none => none)
  | 14 => (match rf_aast a b st w with
    | some z => ih d bud M nxt (pc + 1) lv z.1 z.2 nc ns fr
    | none => none)
  | 15 => (match rf_alen tyL st w with
    | some st => ih d bud M nxt (pc + 1) lv st w nc ns fr
    | none => none)
  | 16 => rf_ret M i st w nc ns fr
  | 17 => bif ri_conc a st then (match ri_pure M.2.2.1 i pc lv st with
      | some z => ih d bud M (ri_next M nxt ts z.1) z.2.1 z.2.2.1 z.2.2.2 w nc ns fr
      | none => none)
    else (match ri_sym M.2.2.1 (ri_nth orc fr) fr i pc lv st with
      | some z => rf_more [z.2.2] (ih d bud M (ri_next M nxt ts z.1.1) z.1.2.1 z.1.2.2.1 z.1.2.2.2 w nc ns z.2.1)
      | none => none)
  | 18 => ri_ok (al w.1 && Nat.blt w.1 1024) (ih d bud M nxt (pc + 3) lv (.ref w.1 :: st) (rf_wp w (.inr (a, df a))) (nc + 1) (ns + b) fr)
  | 19 => ri_ok (al w.1 && Nat.blt w.1 1024) (match rf_newa a v st w with
    | some z => ih d bud M nxt (pc + 2) lv z.2.1 z.2.2 (nc + 1) (ns + z.1) fr
    | none => none)
  | 20 => ri_ok (al w.1 && Nat.blt w.1 1024) (match rf_newa a .null st w with
    | some z => ih d bud M nxt (pc + 3) lv z.2.1 z.2.2 (nc + 1) (ns + z.1) fr
    | none => none)
  | 21 => (match st with
    | .ref _ :: r => ri_ok (Nat.ble 1 d && Nat.ble (ri_cat r + 12) bud) (ih d bud M nxt (pc + 3) lv r w nc ns fr)
    | _ => none)
  | 22 => ri_ok (Nat.ble 1 d) (match rf_acopy tyL bud st w with
    | some z => ih d bud M nxt (pc + 3) lv z.1 z.2 nc ns fr
    | none => none)
  | 23 => ri_ok (Nat.ble (exl a + 4) d && Nat.ble (ri_cat st + (13 * (exl a + 1) + 42)) bud) (some (.inr a, w, nc + 1, ns + 6, [], fr))
  | 24 => (match st with
    | .int j :: .ref q :: r => ri_ok (Nat.beq q 1000000 && (!decide (j < 0) && Nat.blt j.toNatClampNeg L)) (ih d bud M nxt (pc + 1) lv (xs j.toNatClampNeg :: r) w nc ns fr)
    | _ => none)
  | 25 => (match st with
    | .ref q :: r => ri_ok (Nat.beq q 1000000) (ih d bud M nxt (pc + 1) lv (.int (Int32.ofNat L) :: r) w nc ns fr)
    | _ => none)
  | 26 => ri_ok (al w.1) (match rf_mna a b st w with
    | some z => ri_ok (rf_wk z.2.2.2) (ih d bud M nxt (pc + 4) lv z.2.2.1 z.2.2.2 (nc + (1 + z.1)) (ns + (z.1 + z.1 * z.2.1)) fr)
    | none => none)
  | 27 => bif ri_conc 1 st then (match rf_ast tyL ri_gB st w with
      | some z => ih d bud M nxt (pc + 1) lv z.1 z.2 nc ns fr
      | none => none)
    else (match rf_ast tyL (ri_gU fr) st w with
      | some z => rf_more [(.i2b, ri_top st, .int 0, fr, true)] (ih d bud M nxt (pc + 1) lv z.1 z.2 nc ns (fr + 1))
      | none => none)
  | 28 => (match rf_lc tyL a b lv st w with
    | some z => (match ri_nth orc fr with
      | some (.inl g) => (match v with
        | .ref t => rf_more [(.lcmp, z.1, .long z.2.1, 0, g)] (ih d bud M (ri_next M nxt ts (bif g then 1 else 2)) (bif g then t else pc + 11) lv z.2.2 w nc ns (fr + 1))
        | _ => none)
      | _ => none)
    | none => none)
  | _ => none
noncomputable def rf_run (fuel : Nat) : rf_K := Nat.rec (fun _ _ _ _ _ _ _ _ _ _ _ => none) (fun _ ih d bud M cur pc lv st w nc ns fr => match cur with
  | o :: nxt => ri_ok (Nat.beq o.1 pc) (rf_exec Ms ty df tyL exl xs L al orc ih d bud M nxt lv st w nc ns fr pc o.2.1 o.2.2.1 o.2.2.2.1 o.2.2.2.2.1 o.2.2.2.2.2.1 o.2.2.2.2.2.2)
  | [] => none) fuel
end RFD
def rf_Ref (f : rf_K) (g : ri_K) : Prop := ∀ (d bud : Nat) (M : ri_M) (cur : List ri_Op) (pc : Nat) (lv : ri_L) (st : List Value) (w : rf_W) (nc ns fr : Nat) (out : rf_Out), f d bud M cur pc lv st w nc ns fr = some out → g d bud M cur pc lv st (rf_wa w) nc ns fr = some (rf_oa out)
section RFE
variable {Ms : List ri_M} {ty : Nat → Nat → FieldType} {df : Nat → List Value} {tyL : List FieldType} {exl : Nat → Nat} {xs : Nat → Value} {L : Nat} {al : Nat → Bool} {orc : List (Bool ⊕ Int32)} {f : rf_K} {g : ri_K}
theorem rf_more_eq {cs : List ri_Cd} {o : Option rf_Out} {o2 : Option ri_Out} {out : rf_Out} (h : rf_more cs o = some out) (h2 : ∀ z : rf_Out, o = some z → o2 = some (rf_oa z)) : ri_more cs o2 = some (rf_oa out) := by
  cases o with
  | none => cases h
  | some z =>
    rw [h2 z rfl]
    cases h
    rfl
theorem rf_enter_ok (hR : rf_Ref f g) {d bud : Nat} {M : ri_M} {vals rest : List Value} {w : rf_W} {fr : Nat} {o : rf_Out} (h : rf_enter f d bud M vals rest w fr = some o) : ri_enter g d bud M vals rest (rf_wa w) fr = some (rf_oa o) := by
  obtain ⟨hb, h2⟩ := ri_ok_eq h
  unfold ri_enter
  rw [hb]
  exact hR _ _ _ _ _ _ _ _ _ _ _ _ h2
theorem rf_back_ok (hR : rf_Ref f g) {d bud : Nat} {M : ri_M} {nxt : List ri_Op} {pc : Nat} {lv : ri_L} {rest : List Value} {nc ns : Nat} {o : Option rf_Out} {o2 : Option ri_Out} {out : rf_Out} (h : rf_back f d bud M nxt pc lv rest nc ns o = some out) (h2 : ∀ z : rf_Out, o = some z → o2 = some (rf_oa z)) : ri_back g d bud M nxt pc lv rest nc ns o2 = some (rf_oa out) := by
  unfold rf_back at h
  split at h
  · rw [h2 _ rfl]
    exact rf_more_eq h (fun z hz => hR _ _ _ _ _ _ _ _ _ _ _ _ hz)
  · rw [h2 _ rfl]
    cases h
    rfl
  · cases h
theorem rf_caught_ok (hR : rf_Ref f g) {d bud : Nat} {M : ri_M} {lv : ri_L} {w : rf_W} {nc ns fr : Nat} {cs : List ri_Cd} {os : List ri_Op} {out : rf_Out} (h : rf_caught f d bud M lv w nc ns fr cs os = some out) : ri_caught g d bud M lv (rf_wa w) nc ns fr cs os = some (rf_oa out) := by
  unfold rf_caught at h
  unfold ri_caught
  split at h
  · rename_i oh nx2
    dsimp only
    split at h
    · rename_i k hk
      rw [hk]
      dsimp only
      obtain ⟨hb, h2⟩ := ri_ok_eq h
      rw [hb]
      exact rf_more_eq h2 (fun z hz => hR _ _ _ _ _ _ _ _ _ _ _ _ hz)
    · rename_i k hk
      rw [hk]
      dsimp only
      obtain ⟨hb, h2⟩ := ri_ok_eq h
      rw [hb]
      exact rf_more_eq h2 (fun z hz => hR _ _ _ _ _ _ _ _ _ _ _ _ hz)
    · cases h
  · cases h
theorem rf_backH_ok (hR : rf_Ref f g) {d bud : Nat} {M : ri_M} {nxt : List ri_Op} {pc : Nat} {lv : ri_L} {rest : List Value} {nc ns : Nat} {hs : List Nat} {o : Option rf_Out} {o2 : Option ri_Out} {out : rf_Out} (h : rf_backH al f d bud M nxt pc lv rest nc ns hs o = some out) (h2 : ∀ z : rf_Out, o = some z → o2 = some (rf_oa z)) : ri_backH al g d bud M nxt pc lv rest nc ns hs o2 = some (rf_oa out) := by
  unfold rf_backH at h
  split at h
  · rw [h2 _ rfl]
    exact rf_more_eq h (fun z hz => hR _ _ _ _ _ _ _ _ _ _ _ _ hz)
  · rename_i x w2 nc2 ns2 cs fr2
    rw [h2 _ rfl]
    obtain ⟨hb, h3⟩ := ri_ok_eq h
    show ri_ok (!al (rf_wa w2).length) (match ri_nth hs x with
      | some t => ri_caught g d bud M lv (rf_wa w2) (nc + nc2) (ns + ns2) fr2 cs (ri_drop M.2.2.2.2.2 t)
      | none => none) = some (rf_oa out)
    rw [rf_wa_len, hb]
    cases hx : ri_nth hs x with
    | none => rw [hx] at h3; cases h3
    | some t =>
      rw [hx] at h3
      exact rf_caught_ok hR h3
  · cases h
theorem rf_call_ok (hR : rf_Ref f g) {d bud : Nat} {M : ri_M} {nxt : List ri_Op} {pc : Nat} {lv : ri_L} {st : List Value} {w : rf_W} {nc ns fr a b : Nat} {ts : List Nat} {out : rf_Out} (h : rf_call Ms al f d bud M nxt pc lv st w nc ns fr a b ts = some out) : ri_call Ms al g d bud M nxt pc lv st (rf_wa w) nc ns fr a b ts = some (rf_oa out) := by
  unfold rf_call at h
  unfold ri_call
  cases hM : ri_nth Ms a with
  | none => rw [hM] at h; cases h
  | some M2 =>
    rw [hM] at h
    dsimp only at h ⊢
    cases hs : ri_split M2.2.2.2.2.1 [] st with
    | none => rw [hs] at h; cases h
    | some As =>
      obtain ⟨As, rest⟩ := As
      rw [hs] at h
      dsimp only at h ⊢
      split at h
      · split at h
        · rename_i q rest2
          dsimp only
          rw [rf_wn_eq]
          cases hq : rf_wn w q with
          | none => rw [hq] at h; cases h
          | some x =>
            rw [hq] at h
            cases x with
            | inl o => cases h
            | inr o =>
              obtain ⟨hb, h2⟩ := ri_ok_eq h
              show ri_ok (match (generalizing := false) ts with | [t] => Nat.beq o.1 t | _ => false) (ri_back g d bud M nxt pc lv rest2 nc ns (ri_enter g d bud M2 (.ref q :: As) rest2 (rf_wa w) fr)) = some (rf_oa out)
              rw [hb]
              exact rf_back_ok hR h2 (fun z hz => rf_enter_ok hR hz)
        · cases h
      · exact rf_back_ok hR h (fun z hz => rf_enter_ok hR hz)
      · split at h
        · exact rf_back_ok hR h (fun z hz => rf_enter_ok hR hz)
        · cases h
      · split at h
        · exact rf_back_ok hR h (fun z hz => rf_enter_ok hR hz)
        · cases h
      · exact rf_back_ok hR h (fun z hz => rf_enter_ok hR hz)
      · split at h
        · rename_i q rest2
          dsimp only
          rw [rf_wn_eq]
          cases hq : rf_wn w q with
          | none => rw [hq] at h; cases h
          | some x =>
            rw [hq] at h
            cases x with
            | inl o => cases h
            | inr o =>
              dsimp only at h
              split at h
              · rename_i t hs9
                obtain ⟨hb, h2⟩ := ri_ok_eq h
                show ri_ok (Nat.beq o.1 t) (ri_backH al g d bud M nxt pc lv rest2 nc ns hs9 (ri_enter g d bud M2 (.ref q :: As) rest2 (rf_wa w) fr)) = some (rf_oa out)
                rw [hb]
                exact rf_backH_ok hR h2 (fun z hz => rf_enter_ok hR hz)
              · cases h
        · cases h
      · exact rf_back_ok hR h (fun z hz => rf_enter_ok hR hz)
      · cases h
theorem rf_okmap {α β : Type} (b : Bool) (x : α) (k : α → β) : ri_ok b (some (k x)) = (ri_ok b (some x)).map k := by cases b <;> rfl
theorem rf_ret_w (M : ri_M) (i : Instr) (st : List Value) (w : List ri_E) (nc ns fr : Nat) : ri_ret M i st w nc ns fr = (ri_ret M i st [] nc ns fr).map (fun z => (z.1, w, z.2.2)) := by
  unfold ri_ret
  split
  · split
    · exact rf_okmap _ ((.inl none, [], nc, ns, [], fr) : ri_Out) (fun z => (z.1, w, z.2.2))
    · rfl
  · split
    · rename_i x
      exact rf_okmap _ ((.inl (some (.int x)), [], nc, ns, [], fr) : ri_Out) (fun z => (z.1, w, z.2.2))
    · rename_i x
      exact rf_okmap _ ((.inl (some (.float x)), [], nc, ns, [], fr) : ri_Out) (fun z => (z.1, w, z.2.2))
    · rfl
  · split
    · rename_i x
      exact rf_okmap _ ((.inl (some (.long x)), [], nc, ns, [], fr) : ri_Out) (fun z => (z.1, w, z.2.2))
    · rfl
  · split
    · rename_i x
      exact rf_okmap _ ((.inl (some (.double x)), [], nc, ns, [], fr) : ri_Out) (fun z => (z.1, w, z.2.2))
    · rfl
  · split
    · rename_i x
      exact rf_okmap _ ((.inl (some (.ref x)), [], nc, ns, [], fr) : ri_Out) (fun z => (z.1, w, z.2.2))
    · exact rf_okmap _ ((.inl (some .null), [], nc, ns, [], fr) : ri_Out) (fun z => (z.1, w, z.2.2))
    · rfl
  · rfl
theorem rf_ret_ok {M : ri_M} {i : Instr} {st : List Value} {w : rf_W} {nc ns fr : Nat} {out : rf_Out} (h : rf_ret M i st w nc ns fr = some out) : ri_ret M i st (rf_wa w) nc ns fr = some (rf_oa out) := by
  unfold rf_ret at h
  rw [rf_ret_w]
  cases hr : ri_ret M i st [] nc ns fr with
  | none => rw [hr] at h; cases h
  | some z =>
    rw [hr] at h
    cases h
    rfl
set_option maxHeartbeats 2000000 in
theorem rf_exec_ok (hR : rf_Ref f g) {d bud : Nat} {M : ri_M} {nxt : List ri_Op} {lv : ri_L} {st : List Value} {w : rf_W} {nc ns fr pc κ : Nat} {i : Instr} {a b : Nat} {v : Value} {ts : List Nat} {out : rf_Out} (h : rf_exec Ms ty df tyL exl xs L al orc f d bud M nxt lv st w nc ns fr pc κ i a b v ts = some out) : ri_exec Ms ty df tyL exl xs L al orc g d bud M nxt lv st (rf_wa w) nc ns fr pc κ i a b v ts = some (rf_oa out) := by
  have go : ∀ {d bud : Nat} {M : ri_M} {cur : List ri_Op} {pc : Nat} {lv : ri_L} {st : List Value} {w : rf_W} {nc ns fr : Nat} {out : rf_Out}, f d bud M cur pc lv st w nc ns fr = some out → g d bud M cur pc lv st (rf_wa w) nc ns fr = some (rf_oa out) := fun h => hR _ _ _ _ _ _ _ _ _ _ _ _ h
  have lt9 : ∀ {n : Nat}, Nat.blt n 1024 = true → Nat.blt n 1000000 = true := fun h => rf_blt_t (Nat.lt_of_lt_of_le (Nat.le_of_ble_eq_true h) (Nat.le_of_ble_eq_true rfl))
  unfold rf_exec at h
  split at h
  · split at h
    · rename_i z hz
      show (match ri_pure M.2.2.1 i pc lv st with
        | some z => g d bud M (ri_next M nxt ts z.1) z.2.1 z.2.2.1 z.2.2.2 (rf_wa w) nc ns fr
        | none => none) = some (rf_oa out)
      rw [hz]
      exact go h
    · cases h
  · split at h
    · rename_i st2 hz
      show (match ri_getf a b st (rf_wa w) with
        | some st => g d bud M nxt (pc + 3) lv st (rf_wa w) nc ns fr
        | none => none) = some (rf_oa out)
      rw [rf_getf_eq hz]
      exact go h
    · cases h
  · split at h
    · rename_i z hz
      show (match ri_putf (ty a b) a b st (rf_wa w) with
        | some z => g d bud M nxt (pc + 3) lv z.1 z.2 nc ns fr
        | none => none) = some (rf_oa out)
      rw [rf_putf_eq hz]
      exact go h
    · cases h
  · exact go h
  · exact rf_call_ok hR h
  · split at h
    · rename_i st2 hz
      show (match ri_ald tyL ri_tI st (rf_wa w) with
        | some st => g d bud M nxt (pc + 1) lv st (rf_wa w) nc ns fr
        | none => none) = some (rf_oa out)
      rw [rf_ald_eq hz]
      exact go h
    · cases h
  · split at h
    · rename_i z hz
      show (match ri_ast tyL ri_gI st (rf_wa w) with
        | some z => g d bud M nxt (pc + 1) lv z.1 z.2 nc ns fr
        | none => none) = some (rf_oa out)
      rw [rf_ast_eq hz]
      exact go h
    · cases h
  · split at h
    · rename_i st2 hz
      show (match ri_ald tyL ri_tL st (rf_wa w) with
        | some st => g d bud M nxt (pc + 1) lv st (rf_wa w) nc ns fr
        | none => none) = some (rf_oa out)
      rw [rf_ald_eq hz]
      exact go h
    · cases h
  · split at h
    · rename_i z hz
      show (match ri_ast tyL ri_gL st (rf_wa w) with
        | some z => g d bud M nxt (pc + 1) lv z.1 z.2 nc ns fr
        | none => none) = some (rf_oa out)
      rw [rf_ast_eq hz]
      exact go h
    · cases h
  · split at h
    · rename_i st2 hz
      show (match ri_ald tyL ri_tD st (rf_wa w) with
        | some st => g d bud M nxt (pc + 1) lv st (rf_wa w) nc ns fr
        | none => none) = some (rf_oa out)
      rw [rf_ald_eq hz]
      exact go h
    · cases h
  · split at h
    · rename_i z hz
      show (match ri_ast tyL ri_gD st (rf_wa w) with
        | some z => g d bud M nxt (pc + 1) lv z.1 z.2 nc ns fr
        | none => none) = some (rf_oa out)
      rw [rf_ast_eq hz]
      exact go h
    · cases h
  · split at h
    · rename_i st2 hz
      show (match ri_ald tyL ri_tA st (rf_wa w) with
        | some st => g d bud M nxt (pc + 1) lv st (rf_wa w) nc ns fr
        | none => none) = some (rf_oa out)
      rw [rf_ald_eq hz]
      exact go h
    · cases h
  · split at h
    · rename_i st2 hz
      show (match ri_ald tyL ri_tB st (rf_wa w) with
        | some st => g d bud M nxt (pc + 1) lv st (rf_wa w) nc ns fr
        | none => none) = some (rf_oa out)
      rw [rf_ald_eq hz]
      exact go h
    · cases h
  · split at h
    · rename_i z hz
      show (match ri_ast tyL ri_gB st (rf_wa w) with
        | some z => g d bud M nxt (pc + 1) lv z.1 z.2 nc ns fr
        | none => none) = some (rf_oa out)
      rw [rf_ast_eq hz]
      exact go h
    · cases h
  · split at h
    · rename_i z hz
      show (match ri_aast a b st (rf_wa w) with
        | some z => g d bud M nxt (pc + 1) lv z.1 z.2 nc ns fr
        | none => none) = some (rf_oa out)
      rw [rf_aast_eq hz]
      exact go h
    · cases h
  · split at h
    · rename_i st2 hz
      show (match ri_alen2 tyL st (rf_wa w) with
        | some st => g d bud M nxt (pc + 1) lv st (rf_wa w) nc ns fr
        | none => none) = some (rf_oa out)
      rw [rf_alen_eq hz]
      exact go h
    · cases h
  · exact rf_ret_ok h
  · show (bif ri_conc a st then (match ri_pure M.2.2.1 i pc lv st with
        | some z => g d bud M (ri_next M nxt ts z.1) z.2.1 z.2.2.1 z.2.2.2 (rf_wa w) nc ns fr
        | none => none)
      else (match ri_sym M.2.2.1 (ri_nth orc fr) fr i pc lv st with
        | some z => ri_more [z.2.2] (g d bud M (ri_next M nxt ts z.1.1) z.1.2.1 z.1.2.2.1 z.1.2.2.2 (rf_wa w) nc ns z.2.1)
        | none => none)) = some (rf_oa out)
    cases hc : ri_conc a st with
    | true =>
      rw [hc, cond_true] at h
      rw [cond_true]
      split at h
      · exact go h
      · cases h
    | false =>
      rw [hc, cond_false] at h
      rw [cond_false]
      split at h
      · rename_i z hz
        exact rf_more_eq h (fun z hz => go hz)
      · cases h
  · obtain ⟨hb, h2⟩ := ri_ok_eq h
    obtain ⟨b1, b2⟩ := (Bool.and_eq_true _ _ ▸ hb : al w.1 = true ∧ Nat.blt w.1 1024 = true)
    show ri_ok (al (rf_wa w).length && Nat.blt (rf_wa w).length 1000000) (g d bud M nxt (pc + 3) lv (.ref (rf_wa w).length :: st) (rf_wa w ++ [.inr (a, df a)]) (nc + 1) (ns + b) fr) = some (rf_oa out)
    have h3 := go h2
    rw [rf_wp_eq b2] at h3
    rw [rf_wa_len, b1, lt9 b2]
    exact h3
  · obtain ⟨hb, h2⟩ := ri_ok_eq h
    obtain ⟨b1, b2⟩ := (Bool.and_eq_true _ _ ▸ hb : al w.1 = true ∧ Nat.blt w.1 1024 = true)
    split at h2
    · rename_i z hz
      show ri_ok (al (rf_wa w).length && Nat.blt (rf_wa w).length 1000000) (match ri_newa a v st (rf_wa w) with
        | some z => g d bud M nxt (pc + 2) lv z.2.1 z.2.2 (nc + 1) (ns + z.1) fr
        | none => none) = some (rf_oa out)
      rw [rf_newa_eq hz, rf_wa_len, b1, lt9 b2]
      exact go h2
    · cases h2
  · obtain ⟨hb, h2⟩ := ri_ok_eq h
    obtain ⟨b1, b2⟩ := (Bool.and_eq_true _ _ ▸ hb : al w.1 = true ∧ Nat.blt w.1 1024 = true)
    split at h2
    · rename_i z hz
      show ri_ok (al (rf_wa w).length && Nat.blt (rf_wa w).length 1000000) (match ri_newa a .null st (rf_wa w) with
        | some z => g d bud M nxt (pc + 3) lv z.2.1 z.2.2 (nc + 1) (ns + z.1) fr
        | none => none) = some (rf_oa out)
      rw [rf_newa_eq hz, rf_wa_len, b1, lt9 b2]
      exact go h2
    · cases h2
  · split at h
    · rename_i q r
      obtain ⟨hb, h2⟩ := ri_ok_eq h
      show ri_ok (Nat.ble 1 d && Nat.ble (ri_cat r + 12) bud) (g d bud M nxt (pc + 3) lv r (rf_wa w) nc ns fr) = some (rf_oa out)
      rw [hb]
      exact go h2
    · cases h
  · obtain ⟨hb, h2⟩ := ri_ok_eq h
    split at h2
    · rename_i z hz
      show ri_ok (Nat.ble 1 d) (match ri_acopy tyL bud st (rf_wa w) with
        | some z => g d bud M nxt (pc + 3) lv z.1 z.2 nc ns fr
        | none => none) = some (rf_oa out)
      rw [rf_acopy_eq hz, hb]
      exact go h2
    · cases h2
  · obtain ⟨hb, h2⟩ := ri_ok_eq h
    cases h2
    show ri_ok (Nat.ble (exl a + 4) d && Nat.ble (ri_cat st + (13 * (exl a + 1) + 42)) bud) (some ((Sum.inr a, rf_wa w, nc + 1, ns + 6, [], fr) : ri_Out)) = some ((Sum.inr a, rf_wa w, nc + 1, ns + 6, [], fr) : ri_Out)
    rw [hb]
    rfl
  · split at h
    · rename_i j q r
      obtain ⟨hb, h2⟩ := ri_ok_eq h
      show ri_ok (Nat.beq q 1000000 && (!decide (j < 0) && Nat.blt j.toNatClampNeg L)) (g d bud M nxt (pc + 1) lv (xs j.toNatClampNeg :: r) (rf_wa w) nc ns fr) = some (rf_oa out)
      rw [hb]
      exact go h2
    · cases h
  · split at h
    · rename_i q r
      obtain ⟨hb, h2⟩ := ri_ok_eq h
      show ri_ok (Nat.beq q 1000000) (g d bud M nxt (pc + 1) lv (.int (Int32.ofNat L) :: r) (rf_wa w) nc ns fr) = some (rf_oa out)
      rw [hb]
      exact go h2
    · cases h
  · obtain ⟨hb, h2⟩ := ri_ok_eq h
    split at h2
    · rename_i z hz
      obtain ⟨hc, h3⟩ := ri_ok_eq h2
      show ri_ok (al (rf_wa w).length) (match ri_mna a b st (rf_wa w) with
        | some z => ri_ok (Nat.ble z.2.2.2.length 1000000) (g d bud M nxt (pc + 4) lv z.2.2.1 z.2.2.2 (nc + (1 + z.1)) (ns + (z.1 + z.1 * z.2.1)) fr)
        | none => none) = some (rf_oa out)
      rw [rf_mna_eq hz, rf_wa_len, hb]
      have h9 : Nat.ble (rf_wa z.2.2.2).length 1000000 = true := by
        rw [rf_wa_len]
        exact Nat.ble_eq_true_of_le (Nat.le_trans (rf_wk_n hc).1 (Nat.le_of_ble_eq_true rfl))
      show ri_ok (Nat.ble (rf_wa z.2.2.2).length 1000000) (g d bud M nxt (pc + 4) lv z.2.2.1 (rf_wa z.2.2.2) (nc + (1 + z.1)) (ns + (z.1 + z.1 * z.2.1)) fr) = some (rf_oa out)
      rw [h9]
      exact go h3
    · cases h2
  · show (bif ri_conc 1 st then (match ri_ast tyL ri_gB st (rf_wa w) with
        | some z => g d bud M nxt (pc + 1) lv z.1 z.2 nc ns fr
        | none => none)
      else (match ri_ast tyL (ri_gU fr) st (rf_wa w) with
        | some z => ri_more [(.i2b, ri_top st, .int 0, fr, true)] (g d bud M nxt (pc + 1) lv z.1 z.2 nc ns (fr + 1))
        | none => none)) = some (rf_oa out)
    cases hc : ri_conc 1 st with
    | true =>
      rw [hc, cond_true] at h
      rw [cond_true]
      split at h
      · rename_i z hz
        rw [rf_ast_eq hz]
        exact go h
      · cases h
    | false =>
      rw [hc, cond_false] at h
      rw [cond_false]
      split at h
      · rename_i z hz
        rw [rf_ast_eq hz]
        exact rf_more_eq h (fun z hz => go hz)
      · cases h
  · split at h
    · rename_i z hz
      show (match ri_lc tyL a b lv st (rf_wa w) with
        | some z => (match ri_nth orc fr with
          | some (.inl g9) => (match (generalizing := false) v with
            | .ref t => ri_more [(.lcmp, z.1, .long z.2.1, 0, g9)] (g d bud M (ri_next M nxt ts (bif g9 then 1 else 2)) (bif g9 then t else pc + 11) lv z.2.2 (rf_wa w) nc ns (fr + 1))
            | _ => none)
          | _ => none)
        | none => none) = some (rf_oa out)
      rw [rf_lc_eq hz]
      dsimp only
      split at h
      · rename_i g9 hg
        split at h
        · exact rf_more_eq h (fun z hz => go hz)
        · cases h
      · cases h
    · cases h
  · cases h
/-- what is reckoned over trees is what is reckoned over lists -/
theorem rf_run_ok : ∀ fuel : Nat, rf_Ref (rf_run Ms ty df tyL exl xs L al orc fuel) (ri_run Ms ty df tyL exl xs L al orc fuel)
  | 0 => fun d bud M cur pc lv st w nc ns fr out h => by cases h
  | n + 1 => fun d bud M cur pc lv st w nc ns fr out h => by
    cases cur with
    | nil => cases h
    | cons o nxt =>
      obtain ⟨hb, h2⟩ := ri_ok_eq (b := Nat.beq o.1 pc) h
      show ri_ok (Nat.beq o.1 pc) (ri_exec Ms ty df tyL exl xs L al orc (ri_run Ms ty df tyL exl xs L al orc n) d bud M nxt lv st (rf_wa w) nc ns fr pc o.2.1 o.2.2.1 o.2.2.2.1 o.2.2.2.2.1 o.2.2.2.2.2.1 o.2.2.2.2.2.2) = some (rf_oa out)
      rw [hb]
      exact rf_exec_ok (rf_run_ok n) h2
end RFE
