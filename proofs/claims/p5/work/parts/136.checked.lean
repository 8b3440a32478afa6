/-! ===== the reckoner, part 13: what the check gives ===== -/
section RIV2
variable {hh : MethodName → List (Nat × Nat × Nat × Nat)} {NW : List ri_N} {CW : List ri_C9} {NC : List (String × String)} {CN : List (String × Nat × String)} {AO : List FieldType} {cl : List vw_C} {Ms : List ri_M} {tyL : List FieldType} {exl : Nat → Nat} {exn : Nat → String}
theorem ri_wd_ok {M : ri_M} {pc κ : Nat} {i : Instr} {a b : Nat} {v : Value} {ts : List Nat} {ws : List Jvm.Cond} (hCN : ∀ c ∈ CN, Jvm.Cond.classLink c.1 c.2.1 c.2.2 ∈ ri_WG) (h : ri_wd hh NW CW NC CN AO cl Ms tyL exn M pc κ i a b v ts = some ws) (hw : ∀ w ∈ ws, w ∈ ri_WG) : ri_link ri_WG hh NW CW NC AO cl Ms tyL exl exn M pc κ i a b v ts := by
  unfold ri_wd at h
  split at h
  · trivial
  · split at h
    · rename_i idx
      split at h
      · rename_i r hr
        obtain ⟨h1, h2⟩ := ri_ok_eq h
        cases h2
        exact ⟨idx, r, rfl, hr, Nat.le_of_ble_eq_true h1, hw _ List.mem_cons_self⟩
      · cases h
    · cases h
  · split at h
    · rename_i idx
      split at h
      · rename_i r hr
        obtain ⟨h1, h2⟩ := ri_ok_eq h
        cases h2
        obtain ⟨g1, g2⟩ := (Bool.and_eq_true _ _ ▸ h1 : Nat.blt b r.2.2 = true ∧ (!(r.2.1 b).2.2.2 || (decide (M.1.name = "<init>") && decide ((r.2.1 b).1 = M.1.cls))) = true)
        refine ⟨idx, r, rfl, hr, Nat.le_of_ble_eq_true g1, hw _ List.mem_cons_self, ?_⟩
        rcases Bool.or_eq_true _ _ ▸ g2 with g3 | g3
        · exact Or.inl (by simpa using g3)
        · exact Or.inr (by simpa using g3)
      · cases h
    · cases h
  · split at h
    · rename_i idx
      split at h
      · rename_i x
        cases h
        exact Or.inl ⟨idx, x, rfl, rfl, hw _ List.mem_cons_self⟩
      · rename_i q
        obtain ⟨j, r, g1, g2, g3, g4⟩ := ri_sgc_ok h
        exact Or.inr (Or.inr (Or.inr (Or.inr (Or.inl ⟨idx, j, r, Or.inl rfl, g1, g2, g3, g4⟩))))
      · cases h
    · rename_i idx
      split at h
      · rename_i x
        cases h
        exact Or.inr (Or.inl ⟨idx, x, rfl, rfl, hw _ List.mem_cons_self⟩)
      · rename_i q
        obtain ⟨j, r, g1, g2, g3, g4⟩ := ri_sgc_ok h
        exact Or.inr (Or.inr (Or.inr (Or.inr (Or.inl ⟨idx, j, r, Or.inr rfl, g1, g2, g3, g4⟩))))
      · cases h
    · rename_i idx
      split at h
      · rename_i x hx
        cases h
        have h9 := List.find?_some hx
        exact Or.inr (Or.inr (Or.inr (Or.inr (Or.inr ⟨idx, x, rfl, List.mem_of_find?_eq_some hx, (of_decide_eq_true h9).symm, hw _ List.mem_cons_self⟩))))
      · cases h
    · rename_i idx
      split at h
      · rename_i x
        cases h
        exact Or.inr (Or.inr (Or.inl ⟨idx, x, rfl, rfl, hw _ List.mem_cons_self⟩))
      · rename_i x
        cases h
        exact Or.inr (Or.inr (Or.inr (Or.inl ⟨idx, x, rfl, rfl, hw _ List.mem_cons_self⟩)))
      · cases h
    · cases h
  · split at h
    · rename_i M2 hM2
      show ri_clink ri_WG hh NW CW NC cl Ms exn M pc i a b ts
      split at h
      · split at h
        · rename_i idx
          split at h
          · rename_i t
            split at h
            · rename_i r hr
              obtain ⟨h3, h4⟩ := ri_ok_eq h
              cases h4
              simp only [Bool.and_eq_true, decide_eq_true_eq] at h3
              obtain ⟨m1, m2⟩ := ri_mchk_ok hh h3.2.1 (hw _ (List.mem_of_getElem? (i := 0) rfl)) (hw _ (List.mem_of_getElem? (i := 1) rfl))
              exact ⟨M2, hM2, m2, h3.1, m1, idx, t, r, rfl, rfl, hr, h3.2.2, hw _ (List.mem_of_getElem? (i := 2) rfl), hw _ (List.mem_of_getElem? (i := 3) rfl), hw _ (List.mem_of_getElem? (i := 4) rfl)⟩
            · cases h
          · cases h
        · cases h
      · split at h
        · rename_i idx
          obtain ⟨h3, h4⟩ := ri_ok_eq h
          cases h4
          simp only [Bool.and_eq_true, decide_eq_true_eq] at h3
          obtain ⟨m1, m2⟩ := ri_mchk_ok hh h3.2 (hw _ (List.mem_of_getElem? (i := 0) rfl)) (hw _ (List.mem_of_getElem? (i := 1) rfl))
          exact ⟨M2, hM2, m2, h3.1, m1, idx, rfl, hw _ (List.mem_of_getElem? (i := 2) rfl), hw _ (List.mem_of_getElem? (i := 3) rfl)⟩
        · cases h
      · split at h
        · rename_i idx
          obtain ⟨h3, h4⟩ := ri_ok_eq h
          cases h4
          simp only [Bool.and_eq_true, decide_eq_true_eq] at h3
          obtain ⟨m1, m2⟩ := ri_mchk_ok hh h3.2.1 (hw _ (List.mem_of_getElem? (i := 0) rfl)) (hw _ (List.mem_of_getElem? (i := 1) rfl))
          exact ⟨M2, hM2, m2, h3.1, m1, idx, rfl, hw _ (List.mem_of_getElem? (i := 2) rfl), h3.2.2.1, hw _ (List.mem_of_getElem? (i := 3) rfl), h3.2.2.2⟩
        · cases h
      · split at h
        · rename_i idx
          obtain ⟨h3, h4⟩ := ri_ok_eq h
          cases h4
          rw [Bool.and_eq_true, Bool.and_eq_true, Bool.and_eq_true, Bool.and_eq_true] at h3
          obtain ⟨g0, g1, g2, g3, g4⟩ := h3
          obtain ⟨host, hh9⟩ := ri_any_nw NW g4
          obtain ⟨m1, m2⟩ := ri_mchk_ok hh g1 (hw _ (List.mem_of_getElem? (i := 0) rfl)) (hw _ (List.mem_of_getElem? (i := 1) rfl))
          exact ⟨M2, hM2, m2, of_decide_eq_true g0, m1, idx, host, rfl, hh9, of_decide_eq_true g2, hw _ (List.mem_of_getElem? (i := 2) rfl), of_decide_eq_true g3⟩
        · cases h
      · split at h
        · rename_i idx
          obtain ⟨h3, h4⟩ := ri_ok_eq h
          cases h4
          rw [Bool.and_eq_true, Bool.and_eq_true] at h3
          obtain ⟨g0, g1, g4⟩ := h3
          obtain ⟨host, hh9⟩ := ri_any_nw NW g4
          obtain ⟨m1, m2⟩ := ri_mchk_ok hh g1 (hw _ (List.mem_of_getElem? (i := 0) rfl)) (hw _ (List.mem_of_getElem? (i := 1) rfl))
          exact ⟨M2, hM2, m2, of_decide_eq_true g0, m1, idx, host, rfl, hh9, hw _ (List.mem_of_getElem? (i := 2) rfl)⟩
        · cases h
      · split at h
        · rename_i idx
          split at h
          · rename_i t hs
            split at h
            · rename_i r hr
              obtain ⟨h3, h4⟩ := ri_ok_eq h
              cases h4
              rw [Bool.and_eq_true, Bool.and_eq_true] at h3
              obtain ⟨g1, g2, g3⟩ := h3
              obtain ⟨m1, m2⟩ := ri_mchk_ok hh g1 (hw _ (List.mem_of_getElem? (i := 0) rfl)) (hw _ (List.mem_of_getElem? (i := 1) rfl))
              refine ⟨M2, hM2, m2, m1, idx, t, hs, r, rfl, rfl, fun x t9 oh nx k1 k2 => ?_, hr, of_decide_eq_true g2, hw _ (List.mem_of_getElem? (i := 2) rfl), hw _ (List.mem_of_getElem? (i := 3) rfl), hw _ (List.mem_of_getElem? (i := 4) rfl)⟩
              have k3 := ri_hchk_ok hh CW NC CN exn hCN g3 x t9 oh nx k1 k2
              rw [Nat.zero_add] at k3
              exact k3
            · cases h
          · cases h
        · cases h
      · split at h
        · rename_i idx
          obtain ⟨h3, h4⟩ := ri_ok_eq h
          cases h4
          rw [Bool.and_eq_true] at h3
          obtain ⟨a1, a2, a3, a4⟩ := ri_mchkH_ok h3.2
          exact ⟨M2, hM2, a4, of_decide_eq_true h3.1, ⟨a1, hw _ (List.mem_of_getElem? (i := 0) rfl), hw _ (List.mem_of_getElem? (i := 1) rfl), a2, a3⟩, idx, rfl, hw _ (List.mem_of_getElem? (i := 2) rfl), hw _ (List.mem_of_getElem? (i := 3) rfl)⟩
        · cases h
      · split at h
        · rename_i idx
          obtain ⟨h3, h4⟩ := ri_ok_eq h
          cases h4
          simp only [Bool.and_eq_true, decide_eq_true_eq] at h3
          obtain ⟨m1, m2⟩ := ri_mchk_ok hh h3.2.1 (hw _ (List.mem_of_getElem? (i := 0) rfl)) (hw _ (List.mem_of_getElem? (i := 1) rfl))
          exact ⟨M2, hM2, m2, h3.1, m1, idx, rfl, h3.2.2, hw _ (List.mem_of_getElem? (i := 2) rfl), hw _ (List.mem_of_getElem? (i := 3) rfl), hw _ (List.mem_of_getElem? (i := 4) rfl)⟩
        · cases h
      · split at h
        · rename_i idx
          obtain ⟨h3, h4⟩ := ri_ok_eq h
          cases h4
          simp only [Bool.and_eq_true, decide_eq_true_eq] at h3
          exact ⟨M2, hM2, ma_is_ops h3.2, h3.1, h3.2, idx, rfl, hw _ (List.mem_of_getElem? (i := 0) rfl), hw _ (List.mem_of_getElem? (i := 1) rfl), hw _ (List.mem_of_getElem? (i := 2) rfl), hw _ (List.mem_of_getElem? (i := 3) rfl)⟩
        · cases h
      · cases h
    · cases h
  · have h1 := of_decide_eq_true (ri_ok_eq h).1; exact h1
  · have h1 := of_decide_eq_true (ri_ok_eq h).1; exact h1
  · have h1 := of_decide_eq_true (ri_ok_eq h).1; exact h1
  · have h1 := of_decide_eq_true (ri_ok_eq h).1; exact h1
  · have h1 := of_decide_eq_true (ri_ok_eq h).1; exact h1
  · have h1 := of_decide_eq_true (ri_ok_eq h).1; exact h1
  · have h1 := of_decide_eq_true (ri_ok_eq h).1; exact h1
  · have h1 := of_decide_eq_true (ri_ok_eq h).1; exact h1
  · have h1 := of_decide_eq_true (ri_ok_eq h).1; exact h1
  · split at h
    · rename_i r hr
      have h1 := (ri_ok_eq h).1
      simp only [Bool.and_eq_true, decide_eq_true_eq] at h1
      exact ⟨r, h1.1, hr, h1.2⟩
    · cases h
  · have h1 := of_decide_eq_true (ri_ok_eq h).1; exact h1
  · trivial
  · trivial
  · split at h
    · rename_i idx
      split at h
      · rename_i r hr
        obtain ⟨h1, h2⟩ := ri_ok_eq h
        cases h2
        exact ⟨idx, r, rfl, hr, Nat.eq_of_beq_eq_true h1, hw _ List.mem_cons_self⟩
      · cases h
    · cases h
  · split at h
    · rename_i t
      split at h
      · rename_i t9 ht
        obtain ⟨h1, h2⟩ := ri_ok_eq h
        cases h2
        simp only [Bool.and_eq_true, decide_eq_true_eq] at h1
        exact ⟨t, t9, rfl, ht, h1.1, by simpa using h1.2.1, hw _ List.mem_cons_self, h1.2.2⟩
      · cases h
    · cases h
  · split at h
    · rename_i idx
      split at h
      · rename_i C hC
        obtain ⟨h1, h2⟩ := ri_ok_eq h
        cases h2
        exact ⟨idx, C, rfl, hC, hw _ List.mem_cons_self, of_decide_eq_true h1⟩
      · cases h
    · cases h
  · split at h
    · rename_i idx
      cases h
      exact ⟨idx, rfl, hw _ (List.mem_of_getElem? (i := 0) rfl), hw _ (List.mem_of_getElem? (i := 1) rfl), hw _ (List.mem_of_getElem? (i := 2) rfl)⟩
    · cases h
  · split at h
    · rename_i idx
      cases h
      exact ⟨idx, rfl, hw _ (List.mem_of_getElem? (i := 0) rfl), hw _ (List.mem_of_getElem? (i := 1) rfl), hw _ (List.mem_of_getElem? (i := 2) rfl), hw _ (List.mem_of_getElem? (i := 3) rfl)⟩
    · cases h
  · cases h
  · have h1 := of_decide_eq_true (ri_ok_eq h).1; exact h1
  · have h1 := of_decide_eq_true (ri_ok_eq h).1; exact h1
  · split at h
    · rename_i idx
      obtain ⟨h1, h2⟩ := ri_ok_eq h
      cases h2
      simp only [Bool.and_eq_true, decide_eq_true_eq] at h1
      exact ⟨idx, rfl, h1.1, h1.2.1, hw _ (List.mem_of_getElem? (i := 0) rfl), hw _ (List.mem_of_getElem? (i := 1) rfl), h1.2.2⟩
    · cases h
  · have h1 := of_decide_eq_true (ri_ok_eq h).1; exact h1
  · split at h
    · rename_i idx hg
      split at h
      · rename_i r hr
        split at h
        · rename_i off ho
          split at h
          · rename_i t
            obtain ⟨h1, h2⟩ := ri_ok_eq h
            cases h2
            simp only [Bool.and_eq_true, decide_eq_true_eq] at h1
            obtain ⟨a1, a2, a3, a4, a5, a6, a7⟩ := h1
            exact ⟨a1, a2, ⟨idx, r, hg, hr, Nat.le_of_ble_eq_true a3, hw _ List.mem_cons_self⟩, a4, a5, a6, off, t, ho, rfl, a7⟩
          · cases h
        · cases h
      · cases h
    · cases h
  · exact ri_swd_ok h hw
  · rename_i x1 x2 x3 x4 x5 x6 x7 x8 x9 x10 x11 x12 x13 x14 x15 x16 x17 x18 x19 x20 x21 x22 x23 x24 x25 x26 x27 x28 x29 x30
    unfold ri_link
    split <;> first | trivial | (exfalso; first | exact x1 rfl | exact x2 rfl | exact x3 rfl | exact x4 rfl | exact x5 rfl | exact x6 rfl | exact x7 rfl | exact x8 rfl | exact x9 rfl | exact x10 rfl | exact x11 rfl | exact x12 rfl | exact x13 rfl | exact x14 rfl | exact x15 rfl | exact x16 rfl | exact x17 rfl | exact x18 rfl | exact x19 rfl | exact x20 rfl | exact x21 rfl | exact x22 rfl | exact x23 rfl | exact x24 rfl | exact x25 rfl | exact x26 rfl | exact x27 rfl | exact x28 rfl | exact x29 rfl | exact x30 rfl)
/-- an instruction as the bytes have it -/
def ri_dk (cc : ByteArray) (o : ri_Op) : Bool := match decode cc o.1 with
  | .ok z => decide (z.1 = o.2.2.1) && (Nat.beq (ri_len z.1) 0 || Nat.beq (ri_len z.1) z.2)
  | .error _ => false
theorem ri_dk_ok {cc : ByteArray} {o : ri_Op} (h : ri_dk cc o = true) : ∃ len : Nat, decode cc o.1 = .ok (o.2.2.1, len) ∧ (ri_len o.2.2.1 = 0 ∨ ri_len o.2.2.1 = len) := by
  unfold ri_dk at h
  split at h
  · rename_i z hz
    obtain ⟨z1, z2⟩ := z
    simp only [Bool.and_eq_true, Bool.or_eq_true, decide_eq_true_eq] at h
    obtain ⟨h1, h2⟩ := h
    subst h1
    exact ⟨z2, hz, h2.elim (fun q => Or.inl (Nat.eq_of_beq_eq_true q)) (fun q => Or.inr (Nat.eq_of_beq_eq_true q))⟩
  · cases h
/-- the names between an exception and Throwable -/
def ri_xn : List String := ["java/lang/RuntimeException", "java/lang/Exception"]
/-- an exception that a class makes (ik, ic its places there): all its words stand in the tables, or are castables -/
def ri_xall (CW : List ri_C9) (own : String) (ik ic : Nat) (E : String) : Bool := Bundle.fit E && (ri_xn.all Bundle.fit && ((Jvm.Cond.classLink own ik E :: Jvm.Cond.initialized E :: vx_at0 own ic E ri_xn).all vx_ot && ((goodWord (.classLink own ik E) && decide (Jvm.Cond.classLink own ik E ∈ lw_tbl)) && ((goodWord (.initialized E) && decide (Jvm.Cond.initialized E ∈ lw_tbl)) && (vx_at0 own ic E ri_xn).all (fun w => (goodWord w && decide (w ∈ lw_tbl)) || CW.any (fun x => decide (w = ri_cw x)))))))
/-- such exceptions: the class, the two places, the number -/
abbrev ri_X : Type := String × Nat × Nat × Nat
def ri_xfact (CW : List ri_C9) (exl : Nat → Nat) (exn : Nat → String) (x : ri_X) : Prop := exl x.2.2.2 = 2 ∧ ri_xall CW x.1 x.2.1 x.2.2.1 (exn x.2.2.2) = true
/-- 'throw new E()': b the place of the constructor -/
def ri_x3 (hh : MethodName → List (Nat × Nat × Nat × Nat)) (XT : List ri_X) (M : ri_M) (o : ri_Op) : Bool := match o.2.2.1 with
  | .new ik => decide (hh M.1 = []) && (decide ((M.1.cls, ik, o.2.2.2.2.1, o.2.2.2.1) ∈ XT) && (decide (decode M.2.1 (o.1 + 3) = .ok (.dup, 1)) && (decide (decode M.2.1 (o.1 + 4) = .ok (.invokespecial o.2.2.2.2.1, 3)) && decide (decode M.2.1 (o.1 + 7) = .ok (.athrow, 1)))))
  | _ => false
theorem ri_in_WG {w : Jvm.Cond} (h : (goodWord w && decide (w ∈ lw_tbl)) = true) : w ∈ ri_WG := by
  simp only [Bool.and_eq_true, decide_eq_true_eq] at h
  exact List.mem_filter.mpr ⟨h.2, h.1⟩
theorem ri_x3_ok {XT : List ri_X} (hX : ∀ x ∈ XT, ri_xfact CW exl exn x) {M : ri_M} {o : ri_Op} (h : ri_x3 hh XT M o = true) : ri_xlink ri_WG hh CW exl exn M o.1 o.2.2.1 o.2.2.2.1 := by
  unfold ri_x3 at h
  split at h
  · rename_i ik hik
    simp only [Bool.and_eq_true, decide_eq_true_eq] at h
    obtain ⟨h0, h1, h2, h3, h4⟩ := h
    obtain ⟨e1, e2⟩ := hX _ h1
    unfold ri_xall at e2
    simp only [Bool.and_eq_true] at e2
    obtain ⟨a1, a2, a3, a4, a5, a6⟩ := e2
    refine ⟨h0, ik, o.2.2.2.2.1, ri_xn, hik, h2, h3, h4, e1, a1, fun n hn => List.all_eq_true.mp a2 n hn, ri_in_WG (by simpa using a4), ri_in_WG (by simpa using a5), fun w hw => ?_, fun w hw => List.all_eq_true.mp a3 w hw⟩
    have h9 := List.all_eq_true.mp a6 w hw
    rcases Bool.or_eq_true _ _ ▸ h9 with h9 | h9
    · exact Or.inl (ri_in_WG h9)
    · obtain ⟨x, hx, hq⟩ := List.any_eq_true.mp h9
      exact Or.inr ⟨x, hx, of_decide_eq_true hq⟩
  · cases h
/-- a method: each instruction is as the bytes have it, its words stand at these places -/
noncomputable def ri_chk (hh : MethodName → List (Nat × Nat × Nat × Nat)) (NW : List ri_N) (CW : List ri_C9) (NC : List (String × String)) (CN : List (String × Nat × String)) (AO : List FieldType) (cl : List vw_C) (Ms : List ri_M) (tyL : List FieldType) (exn : Nat → String) (XT : List ri_X) (M : ri_M) : List ri_Op → List (List Nat) → Bool
  | [], _ => true
  | o :: os, ps => ri_dk M.2.1 o && ((bif Nat.beq o.2.1 23 then ri_x3 hh XT M o else (match ri_wd hh NW CW NC CN AO cl Ms tyL exn M o.1 o.2.1 o.2.2.1 o.2.2.2.1 o.2.2.2.2.1 o.2.2.2.2.2.1 o.2.2.2.2.2.2 with
    | some ws => ri_has (ps.headD []) ws
    | none => false)) && ri_chk hh NW CW NC CN AO cl Ms tyL exn XT M os ps.tail)
theorem ri_chk_ok (hCN : ∀ c ∈ CN, Jvm.Cond.classLink c.1 c.2.1 c.2.2 ∈ ri_WG) {XT : List ri_X} (hX : ∀ x ∈ XT, ri_xfact CW exl exn x) {M : ri_M} : ∀ {os : List ri_Op} {ps : List (List Nat)}, ri_chk hh NW CW NC CN AO cl Ms tyL exn XT M os ps = true → ∀ o ∈ os, ri_opok ri_WG hh NW CW NC AO cl Ms tyL exl exn M o
  | [], _, _ => fun o ho => by cases ho
  | o :: os, ps, h => by
    have h0 : (ri_dk M.2.1 o && ((bif Nat.beq o.2.1 23 then ri_x3 hh XT M o else (match ri_wd hh NW CW NC CN AO cl Ms tyL exn M o.1 o.2.1 o.2.2.1 o.2.2.2.1 o.2.2.2.2.1 o.2.2.2.2.2.1 o.2.2.2.2.2.2 with
      | some ws => ri_has (ps.headD []) ws
      | none => false)) && ri_chk hh NW CW NC CN AO cl Ms tyL exn XT M os ps.tail)) = true := h
    rw [Bool.and_eq_true, Bool.and_eq_true] at h0
    obtain ⟨h1, h2, h3⟩ := h0
    intro o9 ho9
    rcases List.mem_cons.mp ho9 with e | e
    · subst e
      cases hk : Nat.beq o9.2.1 23 with
      | true =>
        rw [hk, cond_true] at h2
        have e3 : o9.2.1 = 23 := Nat.eq_of_beq_eq_true hk
        refine ⟨ri_dk_ok h1, ?_⟩
        rw [e3]
        exact ri_x3_ok hX h2
      | false =>
        rw [hk, cond_false] at h2
        split at h2
        · rename_i ws hws
          exact ⟨ri_dk_ok h1, ri_wd_ok hCN hws (ri_has_ok h2)⟩
        · cases h2
    · exact ri_chk_ok hCN hX h3 o9 e
end RIV2
