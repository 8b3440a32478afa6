/-! ===== two runs side by side, part 5: what is surveyed of both ends well ===== -/
/-- an end as a contract of both says it -/
def pv_Po (T : Nat → Option sy_C) (RU : sy_RT) (C : pv_Ct) (ρ0 : List Int) (w0 : List ri_E) (o : Bool → ri_Out) (wE : List ri_E) : Prop := sy_tw T wE ∧ wE.length = w0.length ∧ sy_mods w0 wE C.2.2.2.2.2.1 ∧ ∃ oc ∈ C.2.2.2.2.2.2, ∃ m : List Int, sy_ok (m ++ ρ0) oc.2.2.2.1 ∧ sy_hok (m ++ ρ0) oc.2.2.2.2.1 wE ∧ sy_ru RU oc.2.2.2.2.2 wE ∧ ∀ s : Bool, (o s).2.2.1 = (pv_on oc s).1 ∧ (o s).2.2.2.1 = (pv_on oc s).2 ∧ ∃ r : Option Value, (o s).1 = .inl r ∧ sy_rel (m ++ ρ0) (pv_or oc s) r
/-- a contract of both that is kept -/
def pv_Cok (E : sy_env) (own : Bool → Nat → Bool) (T : Nat → Option sy_C) (RU : sy_RT) (C : pv_Ct) : Prop := ∀ (M : Bool → ri_M) (ρ : List Int) (vals : Bool → List Value) (w : List ri_E) (fr d bud : Bool → Nat), (∀ s, E.1[(pv_cm C s).1]? = some (M s)) → sy_ok ρ C.2.2.1 → (∀ s, sy_st ρ (pv_cm C s).2.2.2 (vals s)) → sy_tw T w → sy_hok ρ C.2.2.2.1 w → sy_ru RU C.2.2.2.2.1 w → E.2.2.2.2.2.2.2.1 w.length = false → (∀ s, (pv_cm C s).2.1 ≤ d s) → (∀ s, (pv_cm C s).2.2.1 ≤ bud s) →
  pv_Ev E own (fun s => .inl ([], d s, bud s, M s, (M s).2.2.2.2.2, 0, lv_args 0 (vals s), [], 0, 0, fr s)) w (pv_Po T RU C ρ w)
section PVS
variable {E : sy_env} {own : Bool → Nat → Bool} {T : Nat → Option sy_C} {RU : sy_RT} {CT : Bool → List sy_Ct} {PC : List pv_Ct} {C : pv_Ct} {CU : List pv_Cut} {μ0 : Option sy_P} {ρ0 ρs : List Int} {w0 : List ri_E} {M0 : Bool → ri_M} {P : (Bool → ri_Out) → List ri_E → Prop}
def pv_WI (T : Nat → Option sy_C) (C : pv_Ct) (w0 w : List ri_E) : Prop := sy_tw T w ∧ w.length = w0.length ∧ sy_mods w0 w C.2.2.2.2.2.1
/-- a survey of the active one tells of both -/
def pv_Sd1 (E : sy_env) (own : Bool → Nat → Bool) (T : Nat → Option sy_C) (RU : sy_RT) (C : pv_Ct) (ρs : List Int) (w0 : List ri_E) (M0 : Bool → ri_M) (P : (Bool → ri_Out) → List ri_E → Prop) (s : Bool) (X : pv_S) (g : sy_Go) : Prop := ∀ (fs : List sy_Fr) (d bud : Nat) (M : ri_M) (ix : Nat) (cur : List ri_Op) (pc : Nat) (lv : sy_L) (st : List sy_V) (H : sy_H) (D : List Nat) (K : sy_K) (nc ns : Nat) (hs hs' : List sy_Hn), g fs d bud M ix cur pc lv st H D K nc ns hs = some hs' → cur = M.2.2.2.2.2.drop ix →
  ∀ (ρ : List Int) (gs : List sy_CF) (d2 bud2 : Nat) (lvc : ri_L) (stc : List Value) (w : List ri_E) (fr : Nat) (Xc : pv_C), (∃ m, ρ = m ++ ρs) → sy_frs ρ fs gs → sy_bot (pv_C1 own C s) (M0 s) gs M d2 bud2 → d ≤ d2 → bud ≤ bud2 → sy_ok ρ K → sy_lv ρ lv lvc → sy_st ρ st stc → pv_WI T C w0 w → sy_hok ρ H w → sy_ru RU D w → pv_rel ρ (pv_C1 own C (!s)) (M0 (!s)) X Xc →
    pv_Ev E own (pv_two s (.inl (gs, d2, bud2, M, cur, pc, lvc, stc, nc, ns, fr)) Xc) w P
def pv_Sd (E : sy_env) (own : Bool → Nat → Bool) (T : Nat → Option sy_C) (RU : sy_RT) (C : pv_Ct) (ρs : List Int) (w0 : List ri_E) (M0 : Bool → ri_M) (P : (Bool → ri_Out) → List ri_E → Prop) (g : pv_Go) : Prop := ∀ (s : Bool) (X : pv_S), pv_Sd1 E own T RU C ρs w0 M0 P s X (g s X)
/-- both have ended as the contract says -/
theorem pv_post_ok {rA rB : Option sy_V} {nA nB : Nat × Nat} {H : sy_H} {D : List Nat} {K : sy_K} {hs hs' : List sy_Hn} (h : pv_post C rA rB nA nB H D K hs = some hs') {ρ : List Int} {w : List ri_E} {r : Bool → Option Value} (hext : ∃ m, ρ = m ++ ρ0) (hn : ρ0.length = C.2.2.1.1.length) (hk : sy_ok ρ K) (hA : sy_rel ρ rA (r true)) (hB : sy_rel ρ rB (r false)) (hw : pv_WI T C w0 w) (hh : sy_hok ρ H w) (hd : sy_ru RU D w)
    {o : Bool → ri_Out} (ho : ∀ s, (o s).1 = .inl (r s) ∧ (o s).2.2.1 = (bif s then nA else nB).1 ∧ (o s).2.2.2.1 = (bif s then nA else nB).2) : pv_Po T RU C ρ0 w0 o w := by
  obtain ⟨m, rfl⟩ := hext
  have h0 : sy_sv (m ++ ρ0) (pv_s0 C) ρ0 := by
    unfold pv_s0
    rw [← hn]
    exact sy_sv_app m (sy_ids0 ρ0)
  have mr : ∀ {p a : Option sy_V} {v : Option Value} {σ σ2 : List sy_E} {τ : List Int}, sy_rel (m ++ ρ0) a v → sy_sv (m ++ ρ0) σ τ → pv_mr K p a σ = some σ2 → ∃ m1 : List Int, sy_sv (m ++ ρ0) σ2 (m1 ++ τ) ∧ sy_rel (m1 ++ τ) p v := by
    intro p a v σ σ2 τ hr hs9 hm
    cases p with
    | none =>
      cases a with
      | none =>
        cases hm
        cases v with
        | none => exact ⟨[], hs9, trivial⟩
        | some v => exact (hr : False).elim
      | some a => cases hm
    | some p =>
      cases a with
      | none => cases hm
      | some a =>
        cases v with
        | none => exact (hr : False).elim
        | some v =>
          obtain ⟨m1, a1, a2⟩ := sy_mv_ok hk (show sy_is (m ++ ρ0) a v from hr) hs9 hm
          exact ⟨m1, a1, a2⟩
  unfold pv_post at h
  split at h
  · rename_i hd9 tl
    split at h
    · rename_i oc hoc
      split at h
      · rename_i σ0 hσ0
        obtain ⟨m1, a1, a2⟩ := mr hA h0 hσ0
        split at h
        · rename_i σ hσ
          obtain ⟨m2, b1, b2⟩ := mr hB a1 hσ
          split at h
          · rename_i σ1 hσ1
            obtain ⟨m3, c1, c2⟩ := sy_mh_ok hk hh b1 hσ1
            cases hb : ((Nat.beq hd9.2.1 31 && ((Nat.beq nA.1 oc.2.1.1 && Nat.beq nA.2 oc.2.1.2) && (Nat.beq nB.1 oc.2.2.1.1 && Nat.beq nB.2 oc.2.2.1.2))) && (sy_ent K σ1 oc.2.2.2.1 hd9.2.2.2.2.2.2.1 && sy_dsub D oc.2.2.2.2.2)) with
            | false => rw [hb] at h; cases h
            | true =>
              simp only [Bool.and_eq_true] at hb
              obtain ⟨⟨-, ⟨d1, d2⟩, d3, d4⟩, d5, d6⟩ := hb
              rw [ri_nth_eq] at hoc
              refine ⟨hw.1, hw.2.1, hw.2.2, oc, List.mem_of_getElem? hoc, m3 ++ (m2 ++ m1), ?_, ?_, sy_ru_sub hd (sy_dsub_ok d6), fun s => ?_⟩
              · rw [List.append_assoc, List.append_assoc]; exact sy_ent_ok hk c1 d5
              · rw [List.append_assoc, List.append_assoc]; exact c2
              · obtain ⟨e1, e2, e3⟩ := ho s
                cases s with
                | true =>
                  refine ⟨e2.trans (Nat.eq_of_beq_eq_true d1), e3.trans (Nat.eq_of_beq_eq_true d2), r true, e1, ?_⟩
                  rw [List.append_assoc, List.append_assoc]
                  exact sy_rel_app (sy_rel_app a2 m2) m3
                | false =>
                  refine ⟨e2.trans (Nat.eq_of_beq_eq_true d3), e3.trans (Nat.eq_of_beq_eq_true d4), r false, e1, ?_⟩
                  rw [List.append_assoc, List.append_assoc]
                  exact sy_rel_app b2 m3
          · cases h
        · cases h
      · cases h
    · cases h
  · cases h
/-- the lowest frame's return: the side is at its end -/
theorem pv_retn_ok {ih : pv_Go} (hih : pv_Sd E own T RU C ρs w0 M0 P ih) (hs0 : ∃ m, ρs = m ++ ρ0) (hn : ρ0.length = C.2.2.1.1.length) (hP : ∀ o wE, pv_Po T RU C ρ0 w0 o wE → P o wE) {s : Bool} {X : pv_S} {M : ri_M} {i : Instr} {st : List sy_V} {H : sy_H} {D : List Nat} {K : sy_K} {nc ns : Nat} {hs hs' : List sy_Hn} (h : pv_retn C ih s X M i st H D K nc ns hs = some hs')
    {ρ : List Int} {stc : List Value} {w : List ri_E} {fr d2 bud2 pc a b : Nat} {v : Value} {ts : List Nat} {nxt : List ri_Op} {lvc : ri_L} {Xc : pv_C} (hext : ∃ m, ρ = m ++ ρs) (hk : sy_ok ρ K) (hst : sy_st ρ st stc) (hw : pv_WI T C w0 w) (hh : sy_hok ρ H w) (hd : sy_ru RU D w) (hX : pv_rel ρ (pv_C1 own C (!s)) (M0 (!s)) X Xc) :
    pv_Ev E own (pv_two s (.inl ([], d2, bud2, M, (pc, 16, i, a, b, v, ts) :: nxt, pc, lvc, stc, nc, ns, fr)) Xc) w P := by
  unfold pv_retn at h
  split at h
  · rename_i r hr
    -- what the return leaves
    have side : ∃ rc : Option Value, sy_rel ρ r rc ∧ ∀ u : List ri_E, pv_side E (own s) (.inl ([], d2, bud2, M, (pc, 16, i, a, b, v, ts) :: nxt, pc, lvc, stc, nc, ns, fr)) u (.inl rc, pv_cn (own s) u, nc, ns, [], fr) := by
      obtain ⟨rc, e1, e2⟩ := sy_ret_ok hk hst hr (pv_cn (own s) w) nc ns fr
      refine ⟨rc, e2, fun u => ?_⟩
      obtain ⟨rc2, e3, e4⟩ := sy_ret_ok hk hst hr (pv_cn (own s) u) nc ns fr
      have e5 : rc = rc2 := by
        obtain ⟨r5, f1, f2, f3, f4⟩ := ri_ret_eq e1
        obtain ⟨r6, f5, f6, f7, f8⟩ := ri_ret_eq e3
        have g1 : rc = r5 := by cases f1; rfl
        have g2 : rc2 = r6 := by cases f5; rfl
        rw [g1, g2]
        have g3 : r5.toList = r6.toList := f2.symm.trans f6
        cases r5 with
        | none => cases r6 with
          | none => rfl
          | some y => cases g3
        | some x => cases r6 with
          | none => cases g3
          | some y => cases g3; rfl
      rw [e5]
      exact sy_ev16 e3 rfl
    obtain ⟨rc, hrc, hsd⟩ := side
    split at h
    · rename_i x
      cases Xc with
      | inr c => exact (hX : False).elim
      | inl c =>
        obtain ⟨xfs, xd, xbud, xM, xix, xcur, xpc, xlv, xst, xnc, xns⟩ := x
        obtain ⟨gs, d3, bud3, M3, cur3, pc3, lv3, st3, nc3, ns3, fr3⟩ := c
        obtain ⟨h1, h2, h3, h4, h5, h6, h7, h8, h9, h10, h11, h12⟩ := hX
        subst h5; subst h6; subst h8; subst h11; subst h12
        have k := hih (!s) (.inr (r, nc, ns)) xfs xd xbud xM xix xcur xpc xlv xst H D K xnc xns hs hs' h h7 ρ gs d3 bud3 lv3 st3 w fr3 (.inr (rc, nc, ns, fr)) hext h1 h2 h3 h4 hk h9 h10 hw hh hd (by rw [Bool.not_not]; exact ⟨hrc, rfl, rfl⟩)
        obtain ⟨o, wE, k1, k2, k3, k4⟩ := k
        refine ⟨o, wE, fun s2 => ?_, k2, k3, k4⟩
        obtain ⟨a1, a2, a3⟩ := k1 s2
        refine ⟨?_, a2, a3⟩
        by_cases hq : s2 = s
        · subst hq
          rw [show pv_two (!s2) (Sum.inl (gs, d3, bud3, xM, xcur, xpc, lv3, st3, xnc, xns, fr3) : pv_C) (.inr (rc, nc, ns, fr)) s2 = .inr (rc, nc, ns, fr) by cases s2 <;> rfl] at a1
          have e9 : o s2 = (.inl rc, pv_cn (own s2) w, nc, ns, [], fr) := a1
          rw [pv_two_s, e9]
          exact hsd w
        · have hs2 : s2 = !s := by cases s <;> cases s2 <;> first | rfl | exact absurd rfl hq
          subst hs2
          rw [pv_two_s] at a1
          rw [pv_two_n]
          exact a1
    · rename_i f
      cases Xc with
      | inl c => exact (hX : False).elim
      | inr c =>
        obtain ⟨f1, f2, f3⟩ := f
        obtain ⟨c1, c2, c3, c4⟩ := c
        obtain ⟨g1, g2, g3⟩ := hX
        subst g2
        subst g3
        refine ⟨pv_two s (.inl rc, pv_cn (own s) w, nc, ns, [], fr) (.inl c1, pv_cn (own (!s)) w, f2, f3, [], c4), w, fun s2 => ?_, rfl, fun _ _ _ => rfl, hP _ _ ?_⟩
        · by_cases hq : s2 = s
          · subst hq
            rw [pv_two_s, pv_two_s]
            exact ⟨hsd w, rfl, rfl⟩
          · have hs2 : s2 = !s := by cases s <;> cases s2 <;> first | rfl | exact absurd rfl hq
            subst hs2
            rw [pv_two_n, pv_two_n]
            exact ⟨rfl, rfl, rfl⟩
        · have hext0 : ∃ m, ρ = m ++ ρ0 := by
            obtain ⟨m, rfl⟩ := hext
            obtain ⟨ms, rfl⟩ := hs0
            exact ⟨m ++ ms, by rw [List.append_assoc]⟩
          unfold pv_fin at h
          cases s with
          | true => exact pv_post_ok (r := fun x => bif x then rc else c1) h hext0 hn hk hrc g1 hw hh hd (fun s2 => by cases s2 <;> exact ⟨rfl, rfl, rfl⟩)
          | false => exact pv_post_ok (r := fun x => bif x then c1 else rc) h hext0 hn hk g1 hrc hw hh hd (fun s2 => by cases s2 <;> exact ⟨rfl, rfl, rfl⟩)
  · cases h
end PVS
