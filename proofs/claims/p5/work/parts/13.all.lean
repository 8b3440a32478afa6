/-! ===== the reckoner, part 11: all steps, all runs ===== -/
section RIZ
variable {WG : List Jvm.Cond} {hh : MethodName → List (Nat × Nat × Nat × Nat)} {NW : List ri_N} {CW : List ri_C9} {NC : List (String × String)} {AO : List FieldType} {cl : List vw_C} {Ms : List ri_M} {ty : Nat → Nat → FieldType} {df : Nat → List Value} {tyL : List FieldType} {exl : Nat → Nat} {exn : Nat → String} {xs : Nat → Value} {L : Nat} {al : Nat → Bool} {orc : List (Bool ⊕ Int32)} {D : va_G} {ad : Nat → Nat} {cA : Nat → ClassId}
theorem ri_next_in {M : ri_M} {nxt : List ri_Op} {ts : List Nat} {j : Nat} (h : ∀ o ∈ nxt, o ∈ M.2.2.2.2.2) : ∀ o ∈ ri_next M nxt ts j, o ∈ M.2.2.2.2.2 := by
  intro o ho
  cases j with
  | zero => exact h o ho
  | succ k =>
    have ho2 : o ∈ (match ri_nth ts k with | some t => ri_drop M.2.2.2.2.2 t | none => []) := ho
    cases hk : ri_nth ts k with
    | none => rw [hk] at ho2; cases ho2
    | some t =>
      rw [hk] at ho2
      have ho3 : o ∈ ri_drop M.2.2.2.2.2 t := ho2
      rw [ri_drop_eq] at ho3
      exact List.mem_of_mem_drop ho3
/-- the end of a method: by which instruction, and what it leaves -/
theorem ri_ret_eq {M : ri_M} {i : Instr} {st : List Value} {w : List ri_E} {nc ns fr : Nat} {out : ri_Out} (h : ri_ret M i st w nc ns fr = some out) : ∃ r : Option Value, out = (.inl r, w, nc, ns, [], fr) ∧ st = r.toList ∧ ri_len i = 1 ∧ ∀ (cc : ByteArray) (pc : Nat), decode cc pc = .ok (i, 1) → ri_isret cc pc M.2.2.2.1 r := by
  unfold ri_ret at h
  split at h
  · split at h
    · obtain ⟨hb, h2⟩ := ri_ok_eq h
      refine ⟨none, (Option.some.inj h2).symm, rfl, rfl, fun cc pc hd => Or.inl ⟨rfl, ?_, hd⟩⟩
      cases hr : M.2.2.2.1 with
      | none => rfl
      | some t => rw [hr] at hb; cases hb
    · cases h
  · split at h
    · rename_i x
      obtain ⟨hb, h2⟩ := ri_ok_eq h
      refine ⟨some (.int x), (Option.some.inj h2).symm, rfl, rfl, fun cc pc hd => Or.inr (Or.inl ?_)⟩
      cases hr : M.2.2.2.1 with
      | none => rw [hr] at hb; cases hb
      | some t =>
        rw [hr, Bool.or_eq_true] at hb
        rcases hb with hb | hb
        · exact ⟨x, t, rfl, rfl, (ri_fit_ok (ad := fun k => k) (v := .int x) hb).1, hd⟩
        · cases t with
          | char => exact ⟨x, _, rfl, rfl, of_decide_eq_true hb, hd⟩
          | byte => exact ⟨x, _, rfl, rfl, of_decide_eq_true hb, hd⟩
          | _ => cases hb
    · rename_i x
      obtain ⟨hb, h2⟩ := ri_ok_eq h
      refine ⟨some (.float x), (Option.some.inj h2).symm, rfl, rfl, fun cc pc hd => Or.inr (Or.inr (Or.inr (Or.inr (Or.inr (Or.inl ⟨x, rfl, ?_, hd⟩)))))⟩
      cases hr : M.2.2.2.1 with
      | none => rw [hr] at hb; cases hb
      | some t => rw [hr] at hb; cases t <;> first | rfl | cases hb
    · cases h
  · split at h
    · rename_i x
      obtain ⟨hb, h2⟩ := ri_ok_eq h
      refine ⟨some (.long x), (Option.some.inj h2).symm, rfl, rfl, fun cc pc hd => Or.inr (Or.inr (Or.inl ?_))⟩
      cases hr : M.2.2.2.1 with
      | none => rw [hr] at hb; cases hb
      | some t =>
        rw [hr] at hb
        cases t <;> first | exact ⟨x, rfl, rfl, hd⟩ | cases hb
    · cases h
  · split at h
    · rename_i x
      obtain ⟨hb, h2⟩ := ri_ok_eq h
      refine ⟨some (.double x), (Option.some.inj h2).symm, rfl, rfl, fun cc pc hd => Or.inr (Or.inr (Or.inr (Or.inl ?_)))⟩
      cases hr : M.2.2.2.1 with
      | none => rw [hr] at hb; cases hb
      | some t =>
        rw [hr] at hb
        cases t <;> first | exact ⟨x, rfl, rfl, hd⟩ | cases hb
    · cases h
  · split at h
    · rename_i x
      obtain ⟨hb, h2⟩ := ri_ok_eq h
      refine ⟨some (.ref x), (Option.some.inj h2).symm, rfl, rfl, fun cc pc hd => Or.inr (Or.inr (Or.inr (Or.inr (Or.inl ?_))))⟩
      cases hr : M.2.2.2.1 with
      | none => rw [hr] at hb; cases hb
      | some t =>
        rw [hr] at hb
        cases t <;> first | exact ⟨x, _, rfl, rfl, Or.inl ⟨_, rfl⟩, hd⟩ | exact ⟨x, _, rfl, rfl, Or.inr ⟨_, rfl⟩, hd⟩ | cases hb
    · obtain ⟨hb, h2⟩ := ri_ok_eq h
      refine ⟨some .null, (Option.some.inj h2).symm, rfl, rfl, fun cc pc hd => Or.inr (Or.inr (Or.inr (Or.inr (Or.inr (Or.inr ?_)))))⟩
      cases hr : M.2.2.2.1 with
      | none => rw [hr] at hb; cases hb
      | some t =>
        rw [hr] at hb
        cases t <;> first | exact ⟨_, rfl, rfl, Or.inl ⟨_, rfl⟩, hd⟩ | exact ⟨_, rfl, rfl, Or.inr ⟨_, rfl⟩, hd⟩ | cases hb
    · cases h
  · cases h
set_option maxHeartbeats 4000000 in
theorem ri_step_ok (hall : ri_all WG hh NW CW NC AO cl Ms ty df tyL exl exn) (hi9 : ri_inj ad) {l : Launch} (htr : l.stackTraces = false) {f : ri_K} (hma : ma_F f) (hF : ri_Snd WG hh NW CW NC AO cl Ms tyL exn xs L al D ad cA l f) :
    ri_Snd WG hh NW CW NC AO cl Ms tyL exn xs L al D ad cA l (fun d bud M cur pc lv st w nc ns fr => match cur with
      | o :: nxt => ri_ok (Nat.beq o.1 pc) (ri_exec Ms ty df tyL exl xs L al orc f d bud M nxt lv st w nc ns fr pc o.2.1 o.2.2.1 o.2.2.2.1 o.2.2.2.2.1 o.2.2.2.2.2.1 o.2.2.2.2.2.2)
      | [] => none) := by
  obtain ⟨hC, hdf, hgw, hops⟩ := id hall
  intro d bud M cur pc lv st w nc ns fr out h
  cases cur with
  | nil => cases h
  | cons o nxt =>
    obtain ⟨hpc, h1⟩ := ri_ok_eq h
    obtain ⟨pc0, κ, i, a, b, v, ts⟩ := o
    have hpc2 : pc0 = pc := Nat.eq_of_beq_eq_true hpc
    subst hpc2
    clear h hpc
    dsimp only at h1
    -- what an instruction's step gives, once its own row is found
    have go : ∀ {nxt2 : List ri_Op} {pc2 : Nat} {lv2 : ri_L} {st2 : List Value} {w2 : List ri_E} {nc2 ns2 fr2 : Nat}, f d bud M nxt2 pc2 lv2 st2 w2 nc2 ns2 fr2 = some out → nc ≤ nc2 → ns ≤ ns2 → (w.length ≤ 1000000 → w2.length ≤ 1000000) → nc ≤ out.2.2.1 ∧ ns ≤ out.2.2.2.1 ∧ (w.length ≤ 1000000 → out.2.1.length ≤ 1000000) := fun h2 h3 h4 h5 => by
      have k := (hF _ _ _ _ _ _ _ _ _ _ _ _ h2).1
      exact ⟨Nat.le_trans h3 k.1, Nat.le_trans h4 k.2.1, fun q => k.2.2 (h5 q)⟩
    refine ⟨?_, ?_⟩
    · unfold ri_exec at h1
      split at h1
      · split at h1
        · exact go h1 (Nat.le_refl _) (Nat.le_refl _) (fun q => q)
        · cases h1
      · split at h1
        · exact go h1 (Nat.le_refl _) (Nat.le_refl _) (fun q => q)
        · cases h1
      · split at h1
        · rename_i z hz
          obtain ⟨q, fs, v9, -, -, -, -, e9⟩ := ri_putf_eq (st' := z.1) (w' := z.2) hz
          exact go h1 (Nat.le_refl _) (Nat.le_refl _) (fun q => by rw [e9, List.length_set]; exact q)
        · cases h1
      · exact go h1 (Nat.le_refl _) (Nat.le_refl _) (fun q => q)
      · exact ri_call_mono hF h1
      -- 5 .. 15
      · split at h1
        · exact go h1 (Nat.le_refl _) (Nat.le_refl _) (fun q => q)
        · cases h1
      · split at h1
        · rename_i z hz
          obtain ⟨i9, q, t, vs, x, v9, t9, -, -, -, -, -, -, e9⟩ := ri_ast_eq (st' := z.1) (w' := z.2) hz
          exact go h1 (Nat.le_refl _) (Nat.le_refl _) (fun q => by rw [e9, List.length_set]; exact q)
        · cases h1
      · split at h1
        · exact go h1 (Nat.le_refl _) (Nat.le_refl _) (fun q => q)
        · cases h1
      · split at h1
        · rename_i z hz
          obtain ⟨i9, q, t, vs, x, v9, t9, -, -, -, -, -, -, e9⟩ := ri_ast_eq (st' := z.1) (w' := z.2) hz
          exact go h1 (Nat.le_refl _) (Nat.le_refl _) (fun q => by rw [e9, List.length_set]; exact q)
        · cases h1
      · split at h1
        · exact go h1 (Nat.le_refl _) (Nat.le_refl _) (fun q => q)
        · cases h1
      · split at h1
        · rename_i z hz
          obtain ⟨i9, q, t, vs, x, v9, t9, -, -, -, -, -, -, e9⟩ := ri_ast_eq (st' := z.1) (w' := z.2) hz
          exact go h1 (Nat.le_refl _) (Nat.le_refl _) (fun q => by rw [e9, List.length_set]; exact q)
        · cases h1
      · split at h1
        · exact go h1 (Nat.le_refl _) (Nat.le_refl _) (fun q => q)
        · cases h1
      · split at h1
        · exact go h1 (Nat.le_refl _) (Nat.le_refl _) (fun q => q)
        · cases h1
      · split at h1
        · rename_i z hz
          obtain ⟨i9, q, t, vs, x, v9, t9, -, -, -, -, -, -, e9⟩ := ri_ast_eq (st' := z.1) (w' := z.2) hz
          exact go h1 (Nat.le_refl _) (Nat.le_refl _) (fun q => by rw [e9, List.length_set]; exact q)
        · cases h1
      · split at h1
        · rename_i z hz
          obtain ⟨v9, q, i9, vs, fs, -, -, -, -, -, e9⟩ := ri_aast_eq (st' := z.1) (w' := z.2) hz
          exact go h1 (Nat.le_refl _) (Nat.le_refl _) (fun q => by rw [e9, List.length_set]; exact q)
        · cases h1
      · split at h1
        · exact go h1 (Nat.le_refl _) (Nat.le_refl _) (fun q => q)
        · cases h1
      -- 16 .. 25
      · obtain ⟨r, rfl, -, -, -⟩ := ri_ret_eq h1
        exact ⟨Nat.le_refl _, Nat.le_refl _, fun q => q⟩
      · cases hcc : ri_conc a st with
        | true =>
          rw [hcc, cond_true] at h1
          split at h1
          · exact go h1 (Nat.le_refl _) (Nat.le_refl _) (fun q => q)
          · cases h1
        | false =>
          rw [hcc, cond_false] at h1
          split at h1
          · obtain ⟨z9, h2, rfl⟩ := ri_more_eq h1
            exact (hF _ _ _ _ _ _ _ _ _ _ _ _ h2).1
          · cases h1
      · obtain ⟨hb, h2⟩ := ri_ok_eq h1
        have hb2 : w.length + 1 ≤ 1000000 := Nat.le_of_ble_eq_true (Bool.and_eq_true _ _ ▸ hb : al w.length = true ∧ Nat.blt w.length 1000000 = true).2
        exact go h2 (Nat.le_add_right _ _) (Nat.le_add_right _ _) (fun _ => by rw [List.length_append]; exact hb2)
      · obtain ⟨hb, h2⟩ := ri_ok_eq h1
        have hb2 : w.length + 1 ≤ 1000000 := Nat.le_of_ble_eq_true (Bool.and_eq_true _ _ ▸ hb : al w.length = true ∧ Nat.blt w.length 1000000 = true).2
        split at h2
        · rename_i z hz
          obtain ⟨n9, r9, -, -, -, -, -, e9⟩ := ri_newa_eq (N := z.1) (st' := z.2.1) (w' := z.2.2) hz
          exact go h2 (Nat.le_add_right _ _) (Nat.le_add_right _ _) (fun _ => by rw [e9, List.length_append]; exact hb2)
        · cases h2
      · obtain ⟨hb, h2⟩ := ri_ok_eq h1
        have hb2 : w.length + 1 ≤ 1000000 := Nat.le_of_ble_eq_true (Bool.and_eq_true _ _ ▸ hb : al w.length = true ∧ Nat.blt w.length 1000000 = true).2
        split at h2
        · rename_i z hz
          obtain ⟨n9, r9, -, -, -, -, -, e9⟩ := ri_newa_eq (N := z.1) (st' := z.2.1) (w' := z.2.2) hz
          exact go h2 (Nat.le_add_right _ _) (Nat.le_add_right _ _) (fun _ => by rw [e9, List.length_append]; exact hb2)
        · cases h2
      · split at h1
        · exact go (ri_ok_eq h1).2 (Nat.le_refl _) (Nat.le_refl _) (fun q => q)
        · cases h1
      · obtain ⟨hb, h2⟩ := ri_ok_eq h1
        split at h2
        · rename_i z hz
          obtain ⟨n, dp, sp, q1, q0, t0, v0, v1, t, -, -, -, -, -, -, -, -, -, -, -, -, e9⟩ := ri_acopy_eq (st' := z.1) (w' := z.2) hz
          exact go h2 (Nat.le_refl _) (Nat.le_refl _) (fun q => by rw [e9, List.length_set]; exact q)
        · cases h2
      · have h2 := Option.some.inj (ri_ok_eq h1).2
        subst h2
        exact ⟨Nat.le_add_right _ _, Nat.le_add_right _ _, fun q => q⟩
      · split at h1
        · exact go (ri_ok_eq h1).2 (Nat.le_refl _) (Nat.le_refl _) (fun q => q)
        · cases h1
      · split at h1
        · exact go (ri_ok_eq h1).2 (Nat.le_refl _) (Nat.le_refl _) (fun q => q)
        · cases h1
      · obtain ⟨-, h2⟩ := ri_ok_eq h1
        split at h2
        · obtain ⟨b1, h3⟩ := ri_ok_eq h2
          exact go h3 (Nat.le_add_right _ _) (Nat.le_add_right _ _) (fun _ => Nat.le_of_ble_eq_true b1)
        · cases h2
      · cases hcc : ri_conc 1 st with
        | true =>
          rw [hcc, cond_true] at h1
          split at h1
          · rename_i z hz
            obtain ⟨i9, q, t, vs, x, v9, t9, -, -, -, -, -, -, e9⟩ := ri_ast_eq (st' := z.1) (w' := z.2) hz
            exact go h1 (Nat.le_refl _) (Nat.le_refl _) (fun q => by rw [e9, List.length_set]; exact q)
          · cases h1
        | false =>
          rw [hcc, cond_false] at h1
          split at h1
          · rename_i z hz
            obtain ⟨i9, q, t, vs, x, v9, t9, -, -, -, -, -, -, e9⟩ := ri_ast_eq (st' := z.1) (w' := z.2) hz
            obtain ⟨z9, h2, rfl⟩ := ri_more_eq h1
            have hm := (hF _ _ _ _ _ _ _ _ _ _ _ _ h2).1
            exact ⟨hm.1, hm.2.1, fun q => hm.2.2 (by rw [e9, List.length_set]; exact q)⟩
          · cases h1
      · split at h1
        · split at h1
          · split at h1
            · obtain ⟨z9, h2, rfl⟩ := ri_more_eq h1
              exact (hF _ _ _ _ _ _ _ _ _ _ _ _ h2).1
            · cases h1
          · cases h1
        · cases h1
      · split at h1
        · exact go h1 (Nat.le_refl _) (Nat.le_refl _) (fun q => q)
        · cases h1
      · cases h1
    · intro hcs hM hcur hw9 p e R s m args below meth c H locs ls Q hfr hP hS hn hdR hbR hcR hsR hl hret hthr
      obtain ⟨hx, hb, hml, hown, hname, hr, hlocks, hnt, hts, hK, hsc⟩ := id hfr
      obtain ⟨y9, hM9⟩ := id hM
      obtain ⟨⟨len, hd, hlen⟩, hlk⟩ := hops y9 M hM9 _ (hcur _ List.mem_cons_self)
      dsimp only at hd hlen hlk
      have hcur2 : ∀ o ∈ nxt, o ∈ M.2.2.2.2.2 := fun o ho => hcur o (List.mem_cons_of_mem _ ho)
      have go2 : ∀ {nxt2 : List ri_Op} {pc2 : Nat} {lv2 : ri_L} {st2 : List Value} {w2 : List ri_E} {nc2 ns2 fr2 : Nat}, f d bud M nxt2 pc2 lv2 st2 w2 nc2 ns2 fr2 = some out → (∀ o ∈ nxt2, o ∈ M.2.2.2.2.2) → w2.length ≤ 1000000 → ∀ (H1 : Heap) (locs1 : List Loc) (ls1 : Array Slot), ri_P D cl ad cA w2 H1 → va_S (ri_A ad) s.heap H1 locs1 → (al w2.length = true → ri_nx ad w2.length H1.size) → lv_has ls1 M.2.2.1 (ri_lr ad lv2) → W p l e R s m args below meth c H1 locs1 nc2 ns2 Q (F0 m pc2 ls1 (st2.map (ri_v ad))) := fun h2 h3 h4 H1 locs1 ls1 a1 a2 a3 a4 => (hF _ _ _ _ _ _ _ _ _ _ _ _ h2).2 hcs hM h3 h4 p e R s m args below meth c H1 locs1 ls1 Q hfr a1 a2 a3 hdR hbR hcR hsR a4 hret hthr
      unfold ri_exec at h1
      split at h1
      · split at h1
        · rename_i z hz
          exact ri_pure_ok (j := z.1) (p' := z.2.1) (lv' := z.2.2.1) (st' := z.2.2.2) hx hb hd hlen hl hz (fun ls2 hl2 => go2 h1 (ri_next_in hcur2) hw9 H locs ls2 hP hS hn hl2)
        · cases h1
      · obtain ⟨idx, r, rfl, q1, q2, q3⟩ := hlk
        have hd3 : decode M.2.1 pc0 = .ok (.getfield idx, 3) := by rw [hd]; exact congrArg (fun z => Except.ok (Instr.getfield idx, z)) (hlen.resolve_left (fun q => by cases q)).symm
        split at h1
        · rename_i st2 hz
          exact ri_getf_ok hx hb hown hts hK.1 hC hP q1 q2 q3 hd3 hz (go2 h1 hcur2 hw9 H locs ls hP hS hn hl)
        · cases h1
      · obtain ⟨idx, r, rfl, q1, q2, q3, q4⟩ := hlk
        have hd3 : decode M.2.1 pc0 = .ok (.putfield idx, 3) := by rw [hd]; exact congrArg (fun z => Except.ok (Instr.putfield idx, z)) (hlen.resolve_left (fun q => by cases q)).symm
        split at h1
        · rename_i z hz
          have hl9 : z.2.length = w.length := by
            obtain ⟨q, fs, v9, -, -, -, -, e9⟩ := ri_putf_eq (st' := z.1) (w' := z.2) hz
            rw [e9, List.length_set]
          exact ri_putf_ok hx hb hown hts hK.1 hC hP hw9 hi9 hS q1 q2 q3 (by rw [hname]; exact q4) hd3 (st' := z.1) (w' := z.2) hz (fun H1 locs1 a1 a2 a3 => go2 h1 hcur2 (by rw [hl9]; exact hw9) H1 locs1 ls a1 a2 (fun g => by rw [hl9] at g ⊢; rw [a3]; exact hn g) hl)
        · cases h1
      · rcases hlk with ⟨idx, x, rfl, rfl, q1⟩ | ⟨idx, x, rfl, rfl, q1⟩ | ⟨idx, x, rfl, rfl, q1⟩ | ⟨idx, x, rfl, rfl, q1⟩ | ⟨idx, j, r, q0, rfl, q1, q2, q3⟩ | ⟨idx, x, rfl, q0, rfl, q1⟩
        · have hd3 : decode M.2.1 pc0 = .ok (.ldc idx, 2) := by rw [hd]; exact congrArg (fun z => Except.ok (Instr.ldc idx, z)) (hlen.resolve_left (fun q => by cases q)).symm
          exact lv_ldc hx hb hown (hts _ q1) hd3 (go2 h1 hcur2 hw9 H locs ls hP hS hn hl)
        · have hd3 : decode M.2.1 pc0 = .ok (.ldc_w idx, 3) := by rw [hd]; exact congrArg (fun z => Except.ok (Instr.ldc_w idx, z)) (hlen.resolve_left (fun q => by cases q)).symm
          exact lv_ldcw hx hb hown (hts _ q1) hd3 (go2 h1 hcur2 hw9 H locs ls hP hS hn hl)
        · have hd3 : decode M.2.1 pc0 = .ok (.ldc2_w idx, 3) := by rw [hd]; exact congrArg (fun z => Except.ok (Instr.ldc2_w idx, z)) (hlen.resolve_left (fun q => by cases q)).symm
          exact lv_ldc2 hx hb hown (hts _ q1) hd3 (go2 h1 hcur2 hw9 H locs ls hP hS hn hl)
        · have hd3 : decode M.2.1 pc0 = .ok (.ldc2_w idx, 3) := by rw [hd]; exact congrArg (fun z => Except.ok (Instr.ldc2_w idx, z)) (hlen.resolve_left (fun q => by cases q)).symm
          exact lv_ldc2d hx hb hown (hts _ q1) hd3 (go2 h1 hcur2 hw9 H locs ls hP hS hn hl)
        · have hR9 := hK.2.2.2.2.2.2.2.2.1 j r q1
          rw [q2, q3] at hR9
          rcases q0 with rfl | rfl
          · have hd3 : decode M.2.1 pc0 = .ok (.ldc idx, 2) := by rw [hd]; exact congrArg (fun z => Except.ok (Instr.ldc idx, z)) (hlen.resolve_left (fun q => by cases q)).symm
            exact va_ldcS hx hb hown hR9 hd3 (go2 h1 hcur2 hw9 H locs ls hP hS hn hl)
          · have hd3 : decode M.2.1 pc0 = .ok (.ldc_w idx, 3) := by rw [hd]; exact congrArg (fun z => Except.ok (Instr.ldc_w idx, z)) (hlen.resolve_left (fun q => by cases q)).symm
            exact ri_ldcW hx hb hown hR9 hd3 (go2 h1 hcur2 hw9 H locs ls hP hS hn hl)
        · have hd3 : decode M.2.1 pc0 = .ok (.getstatic idx, 3) := by rw [hd]; exact congrArg (fun z => Except.ok (Instr.getstatic idx, z)) (hlen.resolve_left (fun q => by cases q)).symm
          exact va_gets hx hb (hK.2.2.2.2.2.2.2.2.2 x q0) hS hown (hts _ q1) (fun _ h9 => h9) hd3 (go2 h1 hcur2 hw9 H locs ls hP hS hn hl)
      · have hlk2 : ri_clink WG hh NW CW NC cl Ms exn M pc0 i a b ts := hlk
        have hd3 : decode M.2.1 pc0 = .ok (i, 3) := by
          obtain ⟨M2, -, -, hkind⟩ := hlk
          have h3 : ri_len i = 3 := by
            split at hkind
            · obtain ⟨-, -, idx, t, r, rfl, -⟩ := hkind; rfl
            · obtain ⟨-, -, idx, rfl, -⟩ := hkind; rfl
            · obtain ⟨-, -, idx, rfl, -⟩ := hkind; rfl
            · obtain ⟨-, -, idx, host, rfl, -⟩ := hkind; rfl
            · obtain ⟨-, -, idx, host, rfl, -⟩ := hkind; rfl
            · obtain ⟨-, idx, t, hs, r, rfl, -⟩ := hkind; rfl
            · obtain ⟨-, -, idx, rfl, -⟩ := hkind; rfl
            · obtain ⟨-, -, idx, rfl, -⟩ := hkind; rfl
            · obtain ⟨-, -, idx, rfl, -⟩ := hkind; rfl
            · exact hkind.elim
          have h4 : ri_len i = len := hlen.resolve_left (by rw [h3]; decide)
          rw [hd, ← h4, h3]
        exact ri_call_ok hF hma hgw h1 hlk2 (fun o ho => (hops y9 M hM9 o ho).1) hd3 hcs hM hcur2 hw9 hfr hP hS hn hdR hbR hcR hsR hl hret hthr
      · have e0 : i = .iaload := hlk
        subst e0
        have hd3 : decode M.2.1 pc0 = .ok (Instr.iaload, 1) := by rw [hd]; exact congrArg (fun z => Except.ok (Instr.iaload, z)) (hlen.resolve_left (fun q => by cases q)).symm
        split at h1
        · rename_i st2 hz
          exact ri_iald_ok hx hb hK.1 hP hd3 hz (go2 h1 hcur2 hw9 H locs ls hP hS hn hl)
        · cases h1
      · have e0 : i = .iastore := hlk
        subst e0
        have hd3 : decode M.2.1 pc0 = .ok (Instr.iastore, 1) := by rw [hd]; exact congrArg (fun z => Except.ok (Instr.iastore, z)) (hlen.resolve_left (fun q => by cases q)).symm
        split at h1
        · rename_i z hz
          have hl9 : z.2.length = w.length := by
            obtain ⟨i9, q, t, vs, x, v9, t9, -, -, -, -, -, -, e9⟩ := ri_ast_eq (st' := z.1) (w' := z.2) hz
            rw [e9, List.length_set]
          exact ri_iast_ok hx hb hK.1 hP hw9 hi9 hS hd3 (st' := z.1) (w' := z.2) hz (fun H1 locs1 a1 a2 a3 => go2 h1 hcur2 (by rw [hl9]; exact hw9) H1 locs1 ls a1 a2 (fun g => by rw [hl9] at g ⊢; rw [a3]; exact hn g) hl)
        · cases h1
      · have e0 : i = .laload := hlk
        subst e0
        have hd3 : decode M.2.1 pc0 = .ok (Instr.laload, 1) := by rw [hd]; exact congrArg (fun z => Except.ok (Instr.laload, z)) (hlen.resolve_left (fun q => by cases q)).symm
        split at h1
        · rename_i st2 hz
          exact ri_lald_ok hx hb hK.1 hP hd3 hz (go2 h1 hcur2 hw9 H locs ls hP hS hn hl)
        · cases h1
      · have e0 : i = .lastore := hlk
        subst e0
        have hd3 : decode M.2.1 pc0 = .ok (Instr.lastore, 1) := by rw [hd]; exact congrArg (fun z => Except.ok (Instr.lastore, z)) (hlen.resolve_left (fun q => by cases q)).symm
        split at h1
        · rename_i z hz
          have hl9 : z.2.length = w.length := by
            obtain ⟨i9, q, t, vs, x, v9, t9, -, -, -, -, -, -, e9⟩ := ri_ast_eq (st' := z.1) (w' := z.2) hz
            rw [e9, List.length_set]
          exact ri_last_ok hx hb hK.1 hP hw9 hi9 hS hd3 (st' := z.1) (w' := z.2) hz (fun H1 locs1 a1 a2 a3 => go2 h1 hcur2 (by rw [hl9]; exact hw9) H1 locs1 ls a1 a2 (fun g => by rw [hl9] at g ⊢; rw [a3]; exact hn g) hl)
        · cases h1
      · have e0 : i = .daload := hlk
        subst e0
        have hd3 : decode M.2.1 pc0 = .ok (Instr.daload, 1) := by rw [hd]; exact congrArg (fun z => Except.ok (Instr.daload, z)) (hlen.resolve_left (fun q => by cases q)).symm
        split at h1
        · rename_i st2 hz
          exact ri_dald_ok hx hb hK.1 hP hd3 hz (go2 h1 hcur2 hw9 H locs ls hP hS hn hl)
        · cases h1
      · have e0 : i = .dastore := hlk
        subst e0
        have hd3 : decode M.2.1 pc0 = .ok (Instr.dastore, 1) := by rw [hd]; exact congrArg (fun z => Except.ok (Instr.dastore, z)) (hlen.resolve_left (fun q => by cases q)).symm
        split at h1
        · rename_i z hz
          have hl9 : z.2.length = w.length := by
            obtain ⟨i9, q, t, vs, x, v9, t9, -, -, -, -, -, -, e9⟩ := ri_ast_eq (st' := z.1) (w' := z.2) hz
            rw [e9, List.length_set]
          exact ri_dast_ok hx hb hK.1 hP hw9 hi9 hS hd3 (st' := z.1) (w' := z.2) hz (fun H1 locs1 a1 a2 a3 => go2 h1 hcur2 (by rw [hl9]; exact hw9) H1 locs1 ls a1 a2 (fun g => by rw [hl9] at g ⊢; rw [a3]; exact hn g) hl)
        · cases h1
      · have e0 : i = .aaload := hlk
        subst e0
        have hd3 : decode M.2.1 pc0 = .ok (Instr.aaload, 1) := by rw [hd]; exact congrArg (fun z => Except.ok (Instr.aaload, z)) (hlen.resolve_left (fun q => by cases q)).symm
        split at h1
        · rename_i st2 hz
          exact ri_aald_ok hx hb hK.1 hP hd3 hz (go2 h1 hcur2 hw9 H locs ls hP hS hn hl)
        · cases h1
      · have e0 : i = .baload := hlk
        subst e0
        have hd3 : decode M.2.1 pc0 = .ok (Instr.baload, 1) := by rw [hd]; exact congrArg (fun z => Except.ok (Instr.baload, z)) (hlen.resolve_left (fun q => by cases q)).symm
        split at h1
        · rename_i st2 hz
          exact ri_bald_ok hx hb hK.1 hP hd3 hz (go2 h1 hcur2 hw9 H locs ls hP hS hn hl)
        · cases h1
      · have e0 : i = .bastore := hlk
        subst e0
        have hd3 : decode M.2.1 pc0 = .ok (Instr.bastore, 1) := by rw [hd]; exact congrArg (fun z => Except.ok (Instr.bastore, z)) (hlen.resolve_left (fun q => by cases q)).symm
        split at h1
        · rename_i z hz
          have hl9 : z.2.length = w.length := by
            obtain ⟨i9, q, t, vs, x, v9, t9, -, -, -, -, -, -, e9⟩ := ri_ast_eq (st' := z.1) (w' := z.2) hz
            rw [e9, List.length_set]
          exact ri_bast_ok hx hb hK.1 hP hw9 hi9 hS hd3 (st' := z.1) (w' := z.2) hz (fun H1 locs1 a1 a2 a3 => go2 h1 hcur2 (by rw [hl9]; exact hw9) H1 locs1 ls a1 a2 (fun g => by rw [hl9] at g ⊢; rw [a3]; exact hn g) hl)
        · cases h1
      · obtain ⟨r, rfl, q1, q2⟩ := hlk
        have hd3 : decode M.2.1 pc0 = .ok (Instr.aastore, 1) := by rw [hd]; exact congrArg (fun z => Except.ok (Instr.aastore, z)) (hlen.resolve_left (fun q => by cases q)).symm
        split at h1
        · rename_i z hz
          have hl9 : z.2.length = w.length := by
            obtain ⟨v9, q, i9, vs, fs, -, -, -, -, -, e9⟩ := ri_aast_eq (st' := z.1) (w' := z.2) hz
            rw [e9, List.length_set]
          exact ri_aast_ok hx hb hK.1 hP hw9 hi9 hS q1 q2 hd3 (st' := z.1) (w' := z.2) hz (fun H1 locs1 a1 a2 a3 => go2 h1 hcur2 (by rw [hl9]; exact hw9) H1 locs1 ls a1 a2 (fun g => by rw [hl9] at g ⊢; rw [a3]; exact hn g) hl)
        · cases h1
      · have e0 : i = .arraylength := hlk
        subst e0
        have hd3 : decode M.2.1 pc0 = .ok (Instr.arraylength, 1) := by rw [hd]; exact congrArg (fun z => Except.ok (Instr.arraylength, z)) (hlen.resolve_left (fun q => by cases q)).symm
        split at h1
        · rename_i st2 hz
          exact ri_alen_ok hx hb hK.1 hP hd3 hz (go2 h1 hcur2 hw9 H locs ls hP hS hn hl)
        · cases h1
      · obtain ⟨r, rfl, rfl, hl1, hq⟩ := ri_ret_eq h1
        have hd3 : decode M.2.1 pc0 = .ok (i, 1) := by
          have h4 : ri_len i = len := hlen.resolve_left (by rw [hl1]; decide)
          rw [hd, ← h4, hl1]
        exact hret r rfl H locs ls pc0 hP hS hn (hq M.2.1 pc0 hd3)
      · cases hcc : ri_conc a st with
        | true =>
          rw [hcc, cond_true] at h1
          split at h1
          · rename_i z hz
            exact ri_pure_ok (j := z.1) (p' := z.2.1) (lv' := z.2.2.1) (st' := z.2.2.2) hx hb hd hlen hl hz (fun ls2 hl2 => go2 h1 (ri_next_in hcur2) hw9 H locs ls2 hP hS hn hl2)
          · cases h1
        | false =>
          rw [hcc, cond_false] at h1
          split at h1
          · rename_i z hz
            obtain ⟨z9, h2, rfl⟩ := ri_more_eq h1
            exact ri_sym_ok hx hb hd hlen hl hz (hcs _ (List.mem_append_left _ List.mem_cons_self)) (fun ls2 hl2 => (hF _ _ _ _ _ _ _ _ _ _ _ _ h2).2 (fun x hx => hcs x (List.mem_append_right _ hx)) hM (ri_next_in hcur2) hw9 p e R s m args below meth c H locs ls2 Q hfr hP hS hn hdR hbR hcR hsR hl2 hret hthr)
          · cases h1
      · obtain ⟨hb9, h2⟩ := ri_ok_eq h1
        obtain ⟨hal, hlt⟩ := (Bool.and_eq_true _ _ ▸ hb9 : al w.length = true ∧ Nat.blt w.length 1000000 = true)
        obtain ⟨idx, r, rfl, q1, q2, q3⟩ := hlk
        have hd3 : decode M.2.1 pc0 = .ok (Instr.new idx, 3) := by rw [hd]; exact congrArg (fun z => Except.ok (Instr.new idx, z)) (hlen.resolve_left (fun q => by cases q)).symm
        have hm := (hF _ _ _ _ _ _ _ _ _ _ _ _ h2).1
        refine ri_new_ok hx hb hown hts hK.1 hC hP hS (hn hal) (Nat.le_of_ble_eq_true hlt) q1 q2 q3 (fs := df a) (fun j hj => hdf a r q1 j (by rw [q2]; exact hj)) (Nat.le_trans hm.1 hcR) (Nat.le_trans hm.2.1 hsR) hd3 (fun H1 a1 a2 a3 => go2 h2 hcur2 (by rw [List.length_append]; exact Nat.le_of_ble_eq_true hlt) H1 locs ls a1 a2 (fun _ => a3) hl)
      · obtain ⟨hb9, h2⟩ := ri_ok_eq h1
        obtain ⟨hal, hlt⟩ := (Bool.and_eq_true _ _ ▸ hb9 : al w.length = true ∧ Nat.blt w.length 1000000 = true)
        obtain ⟨atype, t9, rfl, q1, q2, qf, q3, rfl⟩ := hlk
        have hd3 : decode M.2.1 pc0 = .ok (Instr.newarray atype, 2) := by rw [hd]; exact congrArg (fun z => Except.ok (Instr.newarray atype, z)) (hlen.resolve_left (fun q => by cases q)).symm
        split at h2
        · rename_i z hz
          have hm := (hF _ _ _ _ _ _ _ _ _ _ _ _ h2).1
          have hl9 : z.2.2.length = w.length + 1 := by
            obtain ⟨n9, r9, -, -, -, -, -, e9⟩ := ri_newa_eq (N := z.1) (st' := z.2.1) (w' := z.2.2) hz
            rw [e9, List.length_append]; rfl
          exact ri_newa_ok (N := z.1) (st' := z.2.1) (w' := z.2.2) hx hb hts hK.1 hP hS (hn hal) (Nat.le_of_ble_eq_true hlt) q1 q2 qf q3 (Nat.le_trans hm.1 hcR) (Nat.le_trans hm.2.1 hsR) hd3 hz (fun H1 a1 a2 a3 => go2 h2 hcur2 (by rw [hl9]; exact Nat.le_of_ble_eq_true hlt) H1 locs ls a1 a2 (fun _ => a3) hl)
        · cases h2
      · obtain ⟨hb9, h2⟩ := ri_ok_eq h1
        obtain ⟨hal, hlt⟩ := (Bool.and_eq_true _ _ ▸ hb9 : al w.length = true ∧ Nat.blt w.length 1000000 = true)
        obtain ⟨idx, C, rfl, q1, q2, q3⟩ := hlk
        have hd3 : decode M.2.1 pc0 = .ok (Instr.anewarray idx, 3) := by rw [hd]; exact congrArg (fun z => Except.ok (Instr.anewarray idx, z)) (hlen.resolve_left (fun q => by cases q)).symm
        split at h2
        · rename_i z hz
          have hm := (hF _ _ _ _ _ _ _ _ _ _ _ _ h2).1
          have hl9 : z.2.2.length = w.length + 1 := by
            obtain ⟨n9, r9, -, -, -, -, -, e9⟩ := ri_newa_eq (N := z.1) (st' := z.2.1) (w' := z.2.2) hz
            rw [e9, List.length_append]; rfl
          exact ri_newq_ok (N := z.1) (st' := z.2.1) (w' := z.2.2) hx hb hown hts (hK.2.2.2.2.1 _ q3) hK.1 hP hS (hn hal) (Nat.le_of_ble_eq_true hlt) q1 q2 (Nat.le_trans hm.1 hcR) (Nat.le_trans hm.2.1 hsR) hd3 hz (fun H1 a1 a2 a3 => go2 h2 hcur2 (by rw [hl9]; exact Nat.le_of_ble_eq_true hlt) H1 locs ls a1 a2 (fun _ => a3) hl)
        · cases h2
      · split at h1
        · rename_i q r
          obtain ⟨hb9, h2⟩ := ri_ok_eq h1
          obtain ⟨b1, b2⟩ := (Bool.and_eq_true _ _ ▸ hb9 : Nat.ble 1 d = true ∧ Nat.ble (ri_cat r + 12) bud = true)
          obtain ⟨idx, rfl, q1, q2, q3⟩ := hlk
          have hd3 : decode M.2.1 pc0 = .ok (Instr.invokespecial idx, 3) := by rw [hd]; exact congrArg (fun z => Except.ok (Instr.invokespecial idx, z)) (hlen.resolve_left (fun q => by cases q)).symm
          refine W.objInit (rest := r.map (ri_v ad)) hx hb hown (hts _ q1) (hts _ q2) (hts _ q3) rfl (hl.1.trans hml.symm) rfl hd3 (Nat.le_trans (Nat.le_of_ble_eq_true b1) hdR) ?_ (go2 h2 hcur2 hw9 H locs ls hP hS hn hl)
          have b3 := Nat.le_of_ble_eq_true b2
          show 2 * 0 + ((r.map (ri_v ad)).map fun v => v.category).sum + 12 ≤ R.locals
          rw [ri_cat_v]
          omega
        · cases h1
      · obtain ⟨hb9, h2⟩ := ri_ok_eq h1
        obtain ⟨idx, rfl, q1, q2, q3, q4⟩ := hlk
        have hd3 : decode M.2.1 pc0 = .ok (Instr.invokestatic idx, 3) := by rw [hd]; exact congrArg (fun z => Except.ok (Instr.invokestatic idx, z)) (hlen.resolve_left (fun q => by cases q)).symm
        split at h2
        · rename_i z hz
          have hl9 : z.2.length = w.length := by
            obtain ⟨n, dp, sp, q1, q0, t0, v0, v1, t, -, -, -, -, -, -, -, -, -, -, -, -, e9⟩ := ri_acopy_eq (st' := z.1) (w' := z.2) hz
            rw [e9, List.length_set]
          exact ri_acopy_ok (st' := z.1) (w' := z.2) hx hb (hml.trans hl.1.symm) hown hts q1 q2 q3 q4 hK.1 hP hw9 hi9 hS (Nat.le_trans (Nat.le_of_ble_eq_true hb9) hdR) hbR hd3 hz (fun H1 locs1 a1 a2 a3 => go2 h2 hcur2 (by rw [hl9]; exact hw9) H1 locs1 ls a1 a2 (fun g => by rw [hl9] at g ⊢; rw [a3]; exact hn g) hl)
        · cases h2
      · obtain ⟨hb9, h2⟩ := ri_ok_eq h1
        obtain ⟨b1, b2⟩ := (Bool.and_eq_true _ _ ▸ hb9 : Nat.ble (exl a + 4) d = true ∧ Nat.ble (ri_cat st + (13 * (exl a + 1) + 42)) bud = true)
        have c1 := Nat.le_of_ble_eq_true b1
        have c2 := Nat.le_of_ble_eq_true b2
        have h3 := Option.some.inj h2
        subst h3
        obtain ⟨hM0, ik, ic, names, rfl, d3, d4, d7, hel, hfit, hfits, w1, w2, w3, w4⟩ := hlk
        have hd3 : decode M.2.1 pc0 = .ok (Instr.new ik, 3) := by rw [hd]; exact congrArg (fun z => Except.ok (Instr.new ik, z)) (hlen.resolve_left (fun q => by cases q)).symm
        obtain ⟨Qc, XC, rfl, hXC⟩ := hthr a rfl
        rw [hel] at c1 c2
        exact vx_throw0 hx hb htr hown hfit hfits (hts _ w1) (hts _ w2) (fun z hz => (w3 z hz).elim (fun q => hts _ q) (fun ⟨x, hx, q⟩ => by rw [q]; exact va_Nw.use (ri_cw_on x) (hK.2.2.1 x hx))) w4 hK.2.2.2.2.2.1 hK.2.2.2.2.2.2.1 hS (hl.1.trans hml.symm) hd3 d3 d4 d7 (fun z hz => by rw [hnt, hM0] at hz; cases hz) (by omega) (by rw [ri_cat_v]; omega) hcR hsR hlocks (fun t hvm hz hk => hXC t hvm (hP.keep hk) ⟨Nat.le_trans hS.1 hz, fun q g1 g2 => (hk q (Nat.lt_of_lt_of_le g1 hS.1)).trans (hS.2.1 q g1 g2)⟩) hS.2.2 (Nat.le_refl _) (Nat.le_refl _)
      · have e0 : i = .iaload := hlk
        subst e0
        have hd3 : decode M.2.1 pc0 = .ok (Instr.iaload, 1) := by rw [hd]; exact congrArg (fun z => Except.ok (Instr.iaload, z)) (hlen.resolve_left (fun q => by cases q)).symm
        obtain ⟨⟨xr, hxr, hX⟩, hbl, hbA⟩ := hsc ⟨_, hcur _ List.mem_cons_self, Or.inl rfl⟩
        split at h1
        · rename_i j q r
          obtain ⟨hb9, h2⟩ := ri_ok_eq h1
          simp only [Bool.and_eq_true] at hb9
          obtain ⟨b1, b2, b3⟩ := hb9
          have e1 : q = 1000000 := Nat.eq_of_beq_eq_true b1
          subst e1
          have c3 : j.toNatClampNeg + 1 ≤ L := Nat.le_of_ble_eq_true b3
          have c2 : ¬ j < 0 := by simpa using b2
          have e2 : F0 m (pc0 + 1) ls (.int (xr j.toNatClampNeg) :: r.map (ri_v ad)) = F0 m (pc0 + 1) ls ((xs j.toNatClampNeg :: r).map (ri_v ad)) := by
            rw [List.map_cons, hxr _ c3]
          exact va_sld hx hb hX hbl hbA hS (fun z => z.elim c2 (fun z => by omega)) hd3 (by have h9 := go2 h2 hcur2 hw9 H locs ls hP hS hn hl; rw [← e2] at h9; exact h9)
        · cases h1
      · have e0 : i = .arraylength := hlk
        subst e0
        have hd3 : decode M.2.1 pc0 = .ok (Instr.arraylength, 1) := by rw [hd]; exact congrArg (fun z => Except.ok (Instr.arraylength, z)) (hlen.resolve_left (fun q => by cases q)).symm
        obtain ⟨⟨xr, hxr, hX⟩, hbl, hbA⟩ := hsc ⟨_, hcur _ List.mem_cons_self, Or.inr rfl⟩
        split at h1
        · rename_i q r
          obtain ⟨hb9, h2⟩ := ri_ok_eq h1
          have e1 : q = 1000000 := Nat.eq_of_beq_eq_true hb9
          subst e1
          exact va_slen hx hb hX hbl hbA hS hd3 (go2 h2 hcur2 hw9 H locs ls hP hS hn hl)
        · cases h1
      · obtain ⟨hal, h2⟩ := ri_ok_eq h1
        obtain ⟨idx, rfl, q1, q2, q3, q4, q5⟩ := hlk
        have hd3 : decode M.2.1 pc0 = .ok (Instr.multianewarray idx 2, 4) := by rw [hd]; exact congrArg (fun z => Except.ok (Instr.multianewarray idx 2, z)) (hlen.resolve_left (fun q => by cases q)).symm
        split at h2
        · rename_i z hz
          obtain ⟨b1, h3⟩ := ri_ok_eq h2
          have hm := (hF _ _ _ _ _ _ _ _ _ _ _ _ h3).1
          exact ri_mna_ok (N := z.1) (K := z.2.1) (st' := z.2.2.1) (w' := z.2.2.2) hx hb hown hts (hK.2.2.2.2.1 _ q5) hK.1 hP hS (hn hal) (Nat.le_of_ble_eq_true b1) q1 q2 q3 q4 (Nat.le_trans hm.1 hcR) (Nat.le_trans hm.2.1 hsR) hd3 hz (fun H1 a1 a2 a3 => go2 h3 hcur2 (Nat.le_of_ble_eq_true b1) H1 locs ls a1 a2 (fun _ => a3) hl)
        · cases h2
      · have e0 : i = .bastore := hlk
        subst e0
        have hd3 : decode M.2.1 pc0 = .ok (Instr.bastore, 1) := by rw [hd]; exact congrArg (fun z => Except.ok (Instr.bastore, z)) (hlen.resolve_left (fun q => by cases q)).symm
        cases hcc : ri_conc 1 st with
        | true =>
          rw [hcc, cond_true] at h1
          split at h1
          · rename_i z hz
            have hl9 : z.2.length = w.length := by
              obtain ⟨i9, q, t, vs, x, v9, t9, -, -, -, -, -, -, e9⟩ := ri_ast_eq (st' := z.1) (w' := z.2) hz
              rw [e9, List.length_set]
            exact ri_bast_ok hx hb hK.1 hP hw9 hi9 hS hd3 (st' := z.1) (w' := z.2) hz (fun H1 locs1 a1 a2 a3 => go2 h1 hcur2 (by rw [hl9]; exact hw9) H1 locs1 ls a1 a2 (fun g => by rw [hl9] at g ⊢; rw [a3]; exact hn g) hl)
          · cases h1
        | false =>
          rw [hcc, cond_false] at h1
          split at h1
          · rename_i z hz
            have hl9 : z.2.length = w.length := by
              obtain ⟨i9, q, t, vs, x, v9, t9, -, -, -, -, -, -, e9⟩ := ri_ast_eq (st' := z.1) (w' := z.2) hz
              rw [e9, List.length_set]
            obtain ⟨z9, h2, rfl⟩ := ri_more_eq h1
            exact ri_bsy_ok hx hb hK.1 hP hw9 hi9 hS hd3 (st' := z.1) (w' := z.2) hz (hcs _ (List.mem_append_left _ List.mem_cons_self)) (fun H1 locs1 a1 a2 a3 => (hF _ _ _ _ _ _ _ _ _ _ _ _ h2).2 (fun x hx => hcs x (List.mem_append_right _ hx)) hM hcur2 (by rw [hl9]; exact hw9) p e R s m args below meth c H1 locs1 ls Q hfr a1 a2 (fun g => by rw [hl9] at g ⊢; rw [a3]; exact hn g) hdR hbR hcR hsR hl hret hthr)
          · cases h1
      · split at h1
        · rename_i z hz
          split at h1
          · rename_i g hg
            split at h1
            · rename_i t
              obtain ⟨z9, h2, rfl⟩ := ri_more_eq h1
              obtain ⟨x, y, r⟩ := z
              obtain ⟨q, q2, rfl, hxi, hq0, hgf, hal⟩ := ri_lc_eq hz
              obtain ⟨rfl, d1, ⟨idx, rr, d2, q1, q2', q3⟩, d5, d6, d7, off, t9, d8, ht, hoff⟩ := hlk
              cases ht
              have hsem := hcs _ (List.mem_append_left _ List.mem_cons_self)
              rw [List.map_cons, ri_isI_v hxi]
              refine ri_pure_ok (ad := ad) (j := 0) (p' := pc0 + 1) (lv' := lv) (st' := .long (ri_I ad x).toInt64 :: r) (st := .int (ri_I ad x) :: r) hx hb hd hlen hl rfl (fun ls1 hl1 => ?_)
              refine ri_pure_ok (ad := ad) (i := .aload_n 0) (len := 1) (j := 0) (p' := pc0 + 1 + 1) (lv' := lv) (st' := .ref q :: .long (ri_I ad x).toInt64 :: r) hx hb d1 (Or.inr rfl) hl1 (by show ri_gr (ri_get 0 lv) _ _ = _; rw [hq0]; rfl) (fun ls2 hl2 => ?_)
              refine ri_getf_ok (pc := pc0 + 2) hx hb hown hts hK.1 hC hP q1 q2' q3 d2 (hgf _) ?_
              refine ri_pure_ok (ad := ad) (i := .iconst 3) (len := 1) (pc := pc0 + 5) (j := 0) (p' := pc0 + 5 + 1) (lv' := lv) (st' := .int 3 :: .ref q2 :: .long (ri_I ad x).toInt64 :: r) hx hb d5 (Or.inr rfl) hl2 rfl (fun ls3 hl3 => ?_)
              refine ri_lald_ok (pc := pc0 + 6) hx hb hK.1 hP d6 (hal _) ?_
              refine ri_pure_ok (ad := ad) (i := .lcmp) (len := 1) (pc := pc0 + 7) (j := 0) (p' := pc0 + 7 + 1) (lv' := lv) (st' := .int (lg_cmp (ri_I ad x).toInt64 y) :: r) hx hb d7 (Or.inr rfl) hl3 rfl (fun ls4 hl4 => ?_)
              refine ri_if_ok (pc := pc0 + 8) (c9 := .lt) (off := off) (len := 3) (t := t) (b := g) hx hb d8 (Or.inr rfl) hoff hsem ?_
              exact (hF _ _ _ _ _ _ _ _ _ _ _ _ h2).2 (fun x hx => hcs x (List.mem_append_right _ hx)) hM (ri_next_in hcur2) hw9 p e R s m args below meth c H locs ls4 Q hfr hP hS hn hdR hbR hcR hsR hl4 hret hthr
            · cases h1
          · cases h1
        · cases h1
      · split at h1
        · rename_i z hz
          exact ri_str_ok hx hb (hml.trans hl.1.symm) hown hts hK.2.2.2.2.2.2.2 hS hlk hd hlen hdR hbR hz (go2 h1 hcur2 hw9 H locs ls hP hS hn hl)
        · cases h1
      · cases h1
/-- every reckoning holds of the machine -/
theorem ri_sound (hall : ri_all WG hh NW CW NC AO cl Ms ty df tyL exl exn) (hi9 : ri_inj ad) {l : Launch} (htr : l.stackTraces = false) : ∀ fuel : Nat, ri_Snd WG hh NW CW NC AO cl Ms tyL exn xs L al D ad cA l (ri_run Ms ty df tyL exl xs L al orc fuel)
  | 0 => fun d bud M cur pc lv st w nc ns fr out h => by cases h
  | n + 1 => ri_step_ok hall hi9 htr (ma_F_run n) (ri_sound hall hi9 htr n)
end RIZ
