/-! ===== the reckoner, part 10: each kind of call ===== -/
section RIC2
variable {WG : List Jvm.Cond} {hh : MethodName → List (Nat × Nat × Nat × Nat)} {NW : List ri_N} {CW : List ri_C9} {NC : List (String × String)} {AO : List FieldType} {cl : List vw_C} {Ms : List ri_M} {ty : Nat → Nat → FieldType} {df : Nat → List Value} {tyL : List FieldType} {exl : Nat → Nat} {exn : Nat → String} {xs : Nat → Value} {L : Nat} {al : Nat → Bool} {orc : List (Bool ⊕ Int32)} {D : va_G} {ad : Nat → Nat} {cA : Nat → ClassId}
theorem ri_call_mono {l : Launch} {f : ri_K} (hF : ri_Snd WG hh NW CW NC AO cl Ms tyL exn xs L al D ad cA l f) {d bud : Nat} {M : ri_M} {nxt : List ri_Op} {pc : Nat} {lv : ri_L} {st : List Value} {w : List ri_E} {nc ns fr a b : Nat} {ts : List Nat} {out : ri_Out} (h : ri_call Ms al f d bud M nxt pc lv st w nc ns fr a b ts = some out) : nc ≤ out.2.2.1 ∧ ns ≤ out.2.2.2.1 ∧ (w.length ≤ 1000000 → out.2.1.length ≤ 1000000) := by
  unfold ri_call at h
  split at h
  · split at h
    · split at h
      · split at h
        · split at h
          · exact ri_back_mono hF (ri_ok_eq h).2
          · cases h
        · cases h
      · exact ri_back_mono hF h
      · split at h
        · exact ri_back_mono hF h
        · cases h
      · split at h
        · exact ri_back_mono hF h
        · cases h
      · exact ri_back_mono hF h
      · split at h
        · split at h
          · split at h
            · exact ri_backH_mono hF (ri_ok_eq h).2
            · cases h
          · cases h
        · cases h
      · exact ri_back_mono hF h
      · split at h
        · exact ri_back_mono hF (ri_ok_eq h).2
        · cases h
      · exact ri_back_mono hF (ri_ok_eq h).2
      · cases h
    · cases h
  · cases h
section
variable {p : Program} {l : Launch} {e : Env} {R : Room} {s : State} {m : MethodId} {args : Array Value} {below : List Frame} {meth : Method} {c : Code} {H : Heap} {locs : List Loc} {Q : State → Prop}
theorem ri_stack {n : Nat} {st As rest : List Value} (h : ri_split n [] st = some (As, rest)) : As.length = n ∧ st.map (ri_v ad) = (As.map (ri_v ad)).reverse ++ rest.map (ri_v ad) := by
  obtain ⟨Bs, h1, rfl, h3⟩ := ri_split_eq n [] st As rest h
  rw [List.append_nil] at h3
  subst h3
  exact ⟨by rw [List.length_reverse, h1], by rw [List.map_append, List.map_reverse, List.reverse_reverse]⟩
theorem ri_call_ok {f : ri_K} (hF : ri_Snd WG hh NW CW NC AO cl Ms tyL exn xs L al D ad cA l f) (hma : ma_F f) (hg : ∀ w ∈ WG, goodWord w = true) {d bud : Nat} {M : ri_M} {nxt : List ri_Op} {pc nc ns fr a b : Nat} {lv : ri_L} {st : List Value} {w : List ri_E} {ts : List Nat} {i : Instr} {ls : Array Slot} {out : ri_Out}
    (h : ri_call Ms al f d bud M nxt pc lv st w nc ns fr a b ts = some out) (hlk : ri_clink WG hh NW CW NC cl Ms exn M pc i a b ts) (hops : ∀ o ∈ M.2.2.2.2.2, ∃ len : Nat, decode M.2.1 o.1 = .ok (o.2.2.1, len) ∧ (ri_len o.2.2.1 = 0 ∨ ri_len o.2.2.1 = len)) (hd : decode M.2.1 pc = .ok (i, 3))
    (hcs : ∀ x ∈ out.2.2.2.2.1, ri_sem ad x) (hM : ∃ y : Nat, Ms[y]? = some M) (hcur : ∀ o ∈ nxt, o ∈ M.2.2.2.2.2) (hw9 : w.length ≤ 1000000) (hfr : ri_Fr WG hh NW CW NC AO cl tyL xs L D ad cA M p s m args meth c) (hP : ri_P D cl ad cA w H) (hS : va_S (ri_A ad) s.heap H locs) (hn : al w.length = true → ri_nx ad w.length H.size) (hdR : d ≤ R.frames) (hbR : bud ≤ R.locals) (hcR : out.2.2.1 ≤ R.cells) (hsR : out.2.2.2.1 ≤ R.slots) (hl : lv_has ls M.2.2.1 (ri_lr ad lv))
    (hret : ∀ r : Option Value, out.1 = .inl r → ∀ (H1 : Heap) (locs1 : List Loc) (ls1 : Array Slot) (pc1 : Nat), ri_P D cl ad cA out.2.1 H1 → va_S (ri_A ad) s.heap H1 locs1 → (al out.2.1.length = true → ri_nx ad out.2.1.length H1.size) → ri_isret M.2.1 pc1 M.2.2.2.1 r → W p l e R s m args below meth c H1 locs1 out.2.2.1 out.2.2.2.1 Q (F0 m pc1 ls1 (r.toList.map (ri_v ad))))
    (hthr : ∀ x : Nat, out.1 = .inr x → ∃ (Qc : Array Value → State → Outcome → State → Prop) (XC : String → State → State → Prop), Q = vx_MQ below Qc XC args s out.2.2.1 out.2.2.2.1 (ri_A ad) ∧ ∀ t : State, s.vm.Alike t.vm → ri_P D cl ad cA out.2.1 t.heap → va_F (ri_A ad) s t → XC (exn x) s t) :
    W p l e R s m args below meth c H locs nc ns Q (F0 m pc ls (st.map (ri_v ad))) := by
  obtain ⟨hx, hb, hml, hown, hname, hr, hlocks, hnt, hts, hK, hsc⟩ := id hfr
  obtain ⟨M2, hM2, hns, hkind⟩ := hlk
  have hlsz : ls.size = M.2.2.1 := hl.1
  unfold ri_call at h
  rw [ri_nth_eq, hM2] at h
  dsimp only at h
  split at h
  · rename_i As rest hsp
    obtain ⟨hAl, hst⟩ := ri_stack (ad := ad) hsp
    have hAl2 : (As.map (ri_v ad)).length = M2.2.2.2.2.1 := by rw [List.length_map]; exact hAl
    have hpre : ∀ (vals : List Value) (U : State), U.heap = H → s.WarmedH U.vm → ri_Pc NW CW NC AO cl tyL al D ad cA vals w (vals.map (ri_v ad)).toArray U := fun vals U hU hW => ⟨rfl, by rw [hU]; exact hP, hK.go hS hU hW, fun h9 => by rw [hU]; exact hn h9⟩
    split at h
    · obtain ⟨hM0, hok, idx, t, r, rfl, rfl, hr1, hr2, q1, q2, q3⟩ := hkind
      obtain ⟨ok0, ok1, ok2, ok3, ok4, ok5⟩ := id hok
      have hdd : M2.1.cls ≠ "java/lang/invoke/MethodHandle" ∧ M2.1.cls ≠ "java/lang/invoke/VarHandle" ∧ (parseMethodDescriptor M2.1.desc).map (fun d => d.parameters.length) = some M2.2.2.2.2.1 := ⟨ok4.1, ok4.2, ok5⟩
      split at h
      · rename_i q rest2
        split at h
        · rename_i o ho
          rw [ri_nth_eq] at ho
          obtain ⟨ht, h2⟩ := ri_ok_eq h
          have ht2 : o.1 = t := Nat.eq_of_beq_eq_true ht
          refine ri_call_W hF h2 hM2 (fun o2 g5 hc g4 => ri_met hF hM2 hok hns g5 hc g4 hw9) hM0 hcs hM hcur hw9 hfr hS hdR hbR hcR hsR hl hret hthr (fun o2 rm hMet e1 e2 hR hcat hf => ?_)
          refine vx_runV (As := As.map (ri_v ad)) (b := ad q) (C := M2.1.cls) ⟨hx, hb, hml, hown, hts⟩ hMet ⟨callB_of M2.2.2.2.2.1 hts (ri_good hg ok2) rfl e1 e2 (hts _ ok3) (hts _ q1) hdd hR, hts _ q2, hts _ q3⟩ ⟨ri_blind _ _, ?_, fun U hU hW => hpre (.ref q :: As) U hU hW⟩ rfl hAl2 hlsz hst (lv_room (by rw [ri_cat_v]; exact hcat)) hd hf
          obtain ⟨r9, g1, cell, g2, g3, g4, g5⟩ := hP q _ ho
          refine ⟨cell, g2, by rw [g4]; rfl, ?_⟩
          have hk := (hK.1.1 t r hr1).2.1
          rw [← hr2, hk, g3, ht2]
        · cases h
      · cases h
    · obtain ⟨hM0, hok, idx, rfl, q1, q2⟩ := hkind
      obtain ⟨ok0, ok1, ok2, ok3, ok4, ok5⟩ := id hok
      have hdd : M2.1.cls ≠ "java/lang/invoke/MethodHandle" ∧ M2.1.cls ≠ "java/lang/invoke/VarHandle" ∧ (parseMethodDescriptor M2.1.desc).map (fun d => d.parameters.length) = some M2.2.2.2.2.1 := ⟨ok4.1, ok4.2, ok5⟩
      refine ri_call_W hF h hM2 (fun o2 g5 hc g4 => ri_met hF hM2 hok hns g5 hc g4 hw9) hM0 hcs hM hcur hw9 hfr hS hdR hbR hcR hsR hl hret hthr (fun o2 rm hMet e1 e2 hR hcat hf => ?_)
      exact vx_runS (As := As.map (ri_v ad)) ⟨hx, hb, hml, hown, hts⟩ hMet ⟨callB_of M2.2.2.2.2.1 hts (ri_good hg ok2) rfl e1 e2 (hts _ ok3) (hts _ q1) hdd hR, hts _ q2⟩ ⟨ri_blind _ _, fun U hU hW => hpre As U hU hW⟩ rfl hAl2 hlsz hst (lv_room (by rw [ri_cat_v]; exact hcat)) hd hf
    · obtain ⟨hM0, hok, idx, rfl, q1, q2, q3, q4⟩ := hkind
      obtain ⟨ok0, ok1, ok2, ok3, ok4, ok5⟩ := id hok
      have hdd : M2.1.cls ≠ "java/lang/invoke/MethodHandle" ∧ M2.1.cls ≠ "java/lang/invoke/VarHandle" ∧ (parseMethodDescriptor M2.1.desc).map (fun d => d.parameters.length) = some M2.2.2.2.2.1 := ⟨ok4.1, ok4.2, ok5⟩
      split at h
      · rename_i q rest2
        refine ri_call_W hF h hM2 (fun o2 g5 hc g4 => ri_met hF hM2 hok hns g5 hc g4 hw9) hM0 hcs hM hcur hw9 hfr hS hdR hbR hcR hsR hl hret hthr (fun o2 rm hMet e1 e2 hR hcat hf => ?_)
        rw [q4] at hMet
        exact vx_runI (As := As.map (ri_v ad)) (b := ad q) ⟨hx, hb, hml, hown, hts⟩ hMet ⟨callB_of M2.2.2.2.2.1 hts (by rw [q4] at ok2; exact ri_good hg ok2) rfl e1 e2 (hts _ ok3) (hts _ q1) hdd hR, q2, hts _ q3⟩ ⟨ri_blind _ _, fun U hU hW => hpre (.ref q :: As) U hU hW⟩ rfl hAl2 hlsz hst (lv_room (by rw [ri_cat_v]; exact hcat)) hd hf
      · cases h
    · obtain ⟨hM0, hok, idx, host, rfl, q1, q2, q3, q4⟩ := hkind
      obtain ⟨ok0, ok1, ok2, ok3, ok4, ok5⟩ := id hok
      have hdd : M2.1.cls ≠ "java/lang/invoke/MethodHandle" ∧ M2.1.cls ≠ "java/lang/invoke/VarHandle" ∧ (parseMethodDescriptor M2.1.desc).map (fun d => d.parameters.length) = some M2.2.2.2.2.1 := ⟨ok4.1, ok4.2, ok5⟩
      split at h
      · rename_i q rest2
        refine ri_call_W hF h hM2 (fun o2 g5 hc g4 => ri_met hF hM2 hok hns g5 hc g4 hw9) hM0 hcs hM hcur hw9 hfr hS hdR hbR hcR hsR hl hret hthr (fun o2 rm hMet e1 e2 hR hcat hf => ?_)
        rw [q4] at hMet
        exact vx_runIN (As := As.map (ri_v ad)) (b := ad q) ⟨hx, hb, hml, hown, hts⟩ hMet ⟨va_cnB M2.2.2.2.2.1 hts (by rw [q4] at ok2; exact ri_good hg ok2) rfl e1 e2 (hK.2.1 _ q1) (hts _ ok3) hdd hR, q2, hts _ q3⟩ ⟨ri_blind _ _, fun U hU hW => hpre (.ref q :: As) U hU hW⟩ rfl hAl2 hlsz hst (lv_room (by rw [ri_cat_v]; exact hcat)) hd hf
      · cases h
    · obtain ⟨hM0, hok, idx, host, rfl, q1, q2⟩ := hkind
      obtain ⟨ok0, ok1, ok2, ok3, ok4, ok5⟩ := id hok
      have hdd : M2.1.cls ≠ "java/lang/invoke/MethodHandle" ∧ M2.1.cls ≠ "java/lang/invoke/VarHandle" ∧ (parseMethodDescriptor M2.1.desc).map (fun d => d.parameters.length) = some M2.2.2.2.2.1 := ⟨ok4.1, ok4.2, ok5⟩
      refine ri_call_W hF h hM2 (fun o2 g5 hc g4 => ri_met hF hM2 hok hns g5 hc g4 hw9) hM0 hcs hM hcur hw9 hfr hS hdR hbR hcR hsR hl hret hthr (fun o2 rm hMet e1 e2 hR hcat hf => ?_)
      exact vx_runSN (As := As.map (ri_v ad)) ⟨hx, hb, hml, hown, hts⟩ hMet ⟨va_cnB M2.2.2.2.2.1 hts (ri_good hg ok2) rfl e1 e2 (hK.2.1 _ q1) (hts _ ok3) hdd hR, hts _ q2, trivial⟩ ⟨ri_blind _ _, fun U hU hW => hpre As U hU hW⟩ rfl hAl2 hlsz hst (lv_room (by rw [ri_cat_v]; exact hcat)) hd hf
    · obtain ⟨hok, idx, t, hs, r, rfl, rfl, hhl, hr1, hr2, q1, q2, q3⟩ := hkind
      obtain ⟨ok0, ok1, ok2, ok3, ok4, ok5⟩ := id hok
      have hdd : M2.1.cls ≠ "java/lang/invoke/MethodHandle" ∧ M2.1.cls ≠ "java/lang/invoke/VarHandle" ∧ (parseMethodDescriptor M2.1.desc).map (fun d => d.parameters.length) = some M2.2.2.2.2.1 := ⟨ok4.1, ok4.2, ok5⟩
      split at h
      · rename_i q rest2
        split at h
        · rename_i o ho
          rw [ri_nth_eq] at ho
          obtain ⟨ht, h2⟩ := ri_ok_eq h
          have ht2 : o.1 = t := Nat.eq_of_beq_eq_true ht
          refine ri_call_WH hF h2 hM2 (fun o2 g5 hc g4 => ri_met hF hM2 hok hns g5 hc g4 hw9) hhl hops hcs hM hcur hw9 hfr hS hdR hbR hcR hsR hl hret hthr (fun o2 rm hMet e1 e2 hR hcat hf => ?_)
          refine vx_runV (As := As.map (ri_v ad)) (b := ad q) (C := M2.1.cls) ⟨hx, hb, hml, hown, hts⟩ hMet ⟨callB_of M2.2.2.2.2.1 hts (ri_good hg ok2) rfl e1 e2 (hts _ ok3) (hts _ q1) hdd hR, hts _ q2, hts _ q3⟩ ⟨ri_blind _ _, ?_, fun U hU hW => hpre (.ref q :: As) U hU hW⟩ rfl hAl2 hlsz hst (lv_room (by rw [ri_cat_v]; exact hcat)) hd hf
          obtain ⟨r9, g1, cell, g2, g3, g4, g5⟩ := hP q _ ho
          refine ⟨cell, g2, by rw [g4]; rfl, ?_⟩
          have hk := (hK.1.1 t r hr1).2.1
          rw [← hr2, hk, g3, ht2]
        · cases h
      · cases h
    · obtain ⟨hM0, hok, idx, rfl, q1, q2⟩ := hkind
      obtain ⟨ok1, ok2, ok3, ok4, ok5⟩ := id hok
      refine ri_call_W hF h hM2 (fun o2 g5 hc g4 => ri_metH hF hM2 hok hns g5 hc g4 hw9) hM0 hcs hM hcur hw9 hfr hS hdR hbR hcR hsR hl hret hthr (fun o2 rm hMet e1 e2 hR hcat hf => ?_)
      have hG := ri_good hg ok2
      have hcd : Jvm.Cond.codeWith M2.1 M2.2.1 M2.2.2.1 M2.2.2.2.1 (hh M2.1) ∈ (Jvm.Cond.codeWith M2.1 M2.2.1 M2.2.2.1 M2.2.2.2.1 (hh M2.1) :: WG) := List.mem_cons_self
      exact vx_runSX (As := As.map (ri_v ad)) (hh := hh M2.1) (bytes := M2.2.1) (maxL := M2.2.2.1) (ret := M2.2.2.2.1) ⟨hx, hb, hml, hown, hts⟩ hMet ⟨⟨e1, e2, hR.1, hR.2, pay_in hts hG, hcd⟩, hts _ ok2, hts _ ok3, ok4, fun sig hsig => by rw [hsig] at ok5; exact (Option.some.inj ok5).symm, hts _ q1, hts _ q2⟩ ⟨ri_blind _ _, fun U hU hW => hpre As U hU hW⟩ rfl hAl2 hlsz hst (lv_room (by rw [ri_cat_v]; exact hcat)) hd hf
    · obtain ⟨hM0, hok, idx, rfl, hcl, q1, q2, q3⟩ := hkind
      obtain ⟨ok0, ok1, ok2, ok3, ok4, ok5⟩ := id hok
      have hdd : M2.1.cls ≠ "java/lang/invoke/MethodHandle" ∧ M2.1.cls ≠ "java/lang/invoke/VarHandle" ∧ (parseMethodDescriptor M2.1.desc).map (fun d => d.parameters.length) = some M2.2.2.2.2.1 := ⟨ok4.1, ok4.2, ok5⟩
      split at h
      · rename_i q rest2
        obtain ⟨hq, h2⟩ := ri_ok_eq h
        obtain ⟨g1, g2, -⟩ := sg_a hq
        refine ri_call_W hF h2 hM2 (fun o2 g5 hc g4 => ri_met hF hM2 hok hns g5 hc g4 hw9) hM0 hcs hM hcur hw9 hfr hS hdR hbR hcR hsR hl hret hthr (fun o2 rm hMet e1 e2 hR hcat hf => ?_)
        refine vx_runV (As := As.map (ri_v ad)) (b := ad q) (C := M2.1.cls) ⟨hx, hb, hml, hown, hts⟩ hMet ⟨callB_of M2.2.2.2.2.1 hts (ri_good hg ok2) rfl e1 e2 (hts _ ok3) (hts _ q1) hdd hR, hts _ q2, hts _ q3⟩ ⟨ri_blind _ _, ?_, fun U hU hW => hpre (.ref q :: As) U hU hW⟩ rfl hAl2 hlsz hst (lv_room (by rw [ri_cat_v]; exact hcat)) hd hf
        have hE := (hK.2.2.2.2.2.2.2.1 (q - 1000001) g1).1
        rw [g2] at hE
        obtain ⟨cell, k1, k2, k3, -⟩ := hE.kept hS.2.1
        exact ⟨cell, k1, k2, by rw [hcl]; exact k3⟩
      · cases h
    · obtain ⟨hM0, hmi, idx, rfl, q1, q2, q3, q4⟩ := hkind
      obtain ⟨hnn, h2⟩ := ri_ok_eq h
      rcases ri_back_eq h2 with ⟨r, w2, nc2, ns2, cs, fr2, z, h3, h4, rfl⟩ | ⟨x, w2, nc2, ns2, cs, fr2, h3, rfl⟩
      · obtain ⟨g1, g2, g3, g4, g5⟩ := ri_enter_eq h3
        obtain ⟨v, ha, e9⟩ := hma _ _ _ _ _ _ _ hmi hnn hAl g5
        cases e9
        have k2 := (hF _ _ _ _ _ _ _ _ _ _ _ _ h4).2 (fun x hx => hcs x (List.mem_append_right _ hx)) hM hcur hw9 p e R s m args below meth c H locs ls Q hfr hP hS hn hdR hbR hcR hsR hl hret hthr
        have k3 : W p l e R s m args below meth c H locs nc ns Q (F0 m (pc + 3) ls (ri_v ad v :: rest.map (ri_v ad))) := k2
        rw [hst]
        exact ma_W_any hx hb (by rw [hml, hlsz]) ha hown (hts _ q3) (hts _ q1) (hts _ q4) (hts _ q2) (Nat.le_trans g1 hdR) (by rw [ri_cat_v]; omega) hd k3
      · obtain ⟨g1, g2, g3, g4, g5⟩ := ri_enter_eq h3
        obtain ⟨v, ha, e9⟩ := hma _ _ _ _ _ _ _ hmi hnn hAl g5
        cases e9
    · cases h
  · cases h
end
end RIC2
