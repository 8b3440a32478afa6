/-! ===== two runs side by side, part 9: a call of the first one's that is all of the second one's run ===== -/
section PTG
variable {E : sy_env} {own : Bool → Nat → Bool} {T : Nat → Option sy_C} {RU : sy_RT} {CT : Bool → List sy_Ct} {C : pv_Ct} {ρ0 ρs : List Int} {w0 : List ri_E} {M0 : Bool → ri_M} {P : (Bool → ri_Out) → List ri_E → Prop} {REL : List Int → pv_C → Prop}
/-- the first one is active, the other one stands as REL says -/
def pt_Sd (E : sy_env) (own : Bool → Nat → Bool) (T : Nat → Option sy_C) (RU : sy_RT) (C : pv_Ct) (ρs : List Int) (w0 : List ri_E) (M0 : Bool → ri_M) (P : (Bool → ri_Out) → List ri_E → Prop) (REL : List Int → pv_C → Prop) (g : sy_Go) : Prop := ∀ (fs : List sy_Fr) (d bud : Nat) (M : ri_M) (ix : Nat) (cur : List ri_Op) (pc : Nat) (lv : sy_L) (st : List sy_V) (H : sy_H) (D : List Nat) (K : sy_K) (nc ns : Nat) (hs hs' : List sy_Hn), g fs d bud M ix cur pc lv st H D K nc ns hs = some hs' → cur = M.2.2.2.2.2.drop ix →
  ∀ (ρ : List Int) (gs : List sy_CF) (d2 bud2 : Nat) (lvc : ri_L) (stc : List Value) (w : List ri_E) (fr : Nat) (Xc : pv_C), (∃ m, ρ = m ++ ρs) → sy_frs ρ fs gs → sy_bot (pv_C1 own C true) (M0 true) gs M d2 bud2 → d ≤ d2 → bud ≤ bud2 → sy_ok ρ K → sy_lv ρ lv lvc → sy_st ρ st stc → pv_WI T C w0 w → sy_hok ρ H w → sy_ru RU D w → REL ρ Xc →
    pv_Ev E own (pv_two true (.inl (gs, d2, bud2, M, cur, pc, lvc, stc, nc, ns, fr)) Xc) w P
theorem pt_hih (hT : ∀ n, 1000000 ≤ n → ri_nth E.2.2.2.1 n = none) (hdj : ∀ s q, own s q = true → own (!s) q = false) (hm : ∀ ρ c m, REL ρ c → REL (m ++ ρ) c) {ih : sy_Go} (hih : pt_Sd E own T RU C ρs w0 M0 P REL ih) (hal : E.2.2.2.2.2.2.2.1 w0.length = false) {ρ : List Int} {w : List ri_E} {Xc : pv_C} (hext : ∃ m, ρ = m ++ ρs) (hw : pv_WI T C w0 w) (hX : REL ρ Xc) :
    sy_Sd E (pv_T (own true) T) RU (pv_C1 own C true) (pv_Q E own true Xc w P) ρ0 ρ (pv_mk (own true) w) (M0 true) ih := by
  intro fs d bud M ix cur pc lv st H D K nc ns hs hs' h hcur ρ1 gs d2 bud2 lvc stc v fr hext1 hf hb h1 h2 hk hlv hst hv hh hd
  obtain ⟨v1, v2, v3⟩ := hv
  rw [pv_mk_len] at v2
  obtain ⟨m1, rfl⟩ := hext1
  have val : ∀ q j : Nat, sy_wv (pv_mg (own true) v w) q j = sy_wv v q j := by
    intro q j
    cases ho : own true q with
    | true => exact pv_wv_of (pv_mg_own v2 ho) j
    | false =>
      rw [pv_wv_of (pv_mg_oth ho) j, v3 q j (fun x hx hq => ?_), pv_mk_wv]
      have e1 := (pv_ml_mem hx).2
      rw [← hq.1, ho] at e1
      cases e1
  have hw' : pv_WI T C w0 (pv_mg (own true) v w) := by
    refine ⟨fun q c hc => ?_, (pv_mg_len _ _ _).trans hw.2.1, fun q j hq => ?_⟩
    · cases ho : own true q with
      | true =>
        obtain ⟨vs, a1, a2, a3⟩ := v1 q c (by unfold pv_T; rw [ho]; exact hc)
        exact ⟨vs, by rw [pv_mg_own v2 ho]; exact a1, a2, a3⟩
      | false =>
        obtain ⟨vs, a1, a2, a3⟩ := hw.1 q c hc
        exact ⟨vs, by rw [pv_mg_oth ho]; exact a1, a2, a3⟩
    · rw [val q j, v3 q j (fun x hx => hq x (pv_ml_mem hx).1), pv_mk_wv]
      exact hw.2.2 q j hq
  have k := hih fs d bud M ix cur pc lv st H D K nc ns hs hs' h hcur (m1 ++ ρ) gs d2 bud2 lvc stc (pv_mg (own true) v w) fr Xc (by obtain ⟨m, rfl⟩ := hext; exact ⟨m1 ++ m, by rw [List.append_assoc]⟩) hf hb h1 h2 hk hlv hst hw' (pv_hok hh val) (pv_ru hd val) (hm _ _ m1 hX)
  exact pv_to_Q hT (hdj true) (by rw [hw.2.1]; exact hal) (fun q hq => pv_mg_oth hq) (pv_mg_len _ _ _) ⟨(pv_mg_len _ _ _).trans v2.symm, fun q hq => pv_mg_own v2 hq⟩ k
theorem pt_one_ok (hT : ∀ n, 1000000 ≤ n → ri_nth E.2.2.2.1 n = none) (hdj : ∀ s q, own s q = true → own (!s) q = false) (hm : ∀ ρ c m, REL ρ c → REL (m ++ ρ) c) {ih : sy_Go} (hih : pt_Sd E own T RU C ρs w0 M0 P REL ih) (hCT : ∀ s, ∀ c ∈ CT s, sy_Cok E (pv_T (own s) T) RU c) (hal : E.2.2.2.2.2.2.2.1 w0.length = false) (hs0 : ∃ m, ρs = m ++ ρ0) (hn : ρ0.length = C.2.2.1.1.length) : pt_Sd E own T RU C ρs w0 M0 P REL (sy_go (sy_e4 E) (pv_T (own true) T) RU (CT true) (pv_C1 own C true) [] none (0, 0) ih) := by
  intro fs d bud M ix cur pc lv st H D K nc ns hs hs' h hcur ρ gs d2 bud2 lvc stc w fr Xc hext hf hb h1 h2 hk hlv hst hw hh hd hX
  have hs1 : ∃ m, ρ = m ++ ρ0 := by
    obtain ⟨m, rfl⟩ := hext
    obtain ⟨ms, rfl⟩ := hs0
    exact ⟨m ++ ms, by rw [List.append_assoc]⟩
  have hy : sy_Hy E (pv_T (own true) T) RU (pv_C1 own C true) (pv_Q E own true Xc w P) ρ0 (pv_mk (own true) w) := by
    refine ⟨hn, fun out ho => ?_, fun h9 => by cases h9⟩
    obtain ⟨-, -, -, -, oc, hoc, -⟩ := ho
    cases hoc
  refine pv_of_Q hT (by rw [hw.2.1]; exact hal) ?_
  exact pv_go1 (pt_hih hT hdj hm hih hal hext hw hX) (hCT true) (by rw [pv_mk_len, hw.2.1]; exact hal) hs1 hy h hcur ⟨[], rfl⟩ hf hb h1 h2 hk hlv hst ⟨pv_tw hw.1 (fun q hq => pv_mk_own hq), rfl, sy_mods_rf _ _⟩ (pv_hok hh (pv_mk_wv _ _)) (pv_ru hd (pv_mk_wv _ _))
end PTG
section PTX
variable (E : sy_en) (own : Bool → Nat → Bool) (T : Nat → Option sy_C) (RU : sy_RT) (CT : Bool → List sy_Ct) (PC : List (Bool × pv_Ct)) (C : pv_Ct) (MB : ri_M)
noncomputable def pt_end (σ : List sy_E) (r : Option sy_V) : Option (Option sy_V) := match r with
  | none => some none
  | some a => (match sy_sV σ a with
    | some b => some (some b)
    | none => none)
noncomputable def pt_aft (fs : List sy_Fr) (d bud : Nat) (M : ri_M) (ix : Nat) (nxt : List ri_Op) (pc : Nat) (lv : sy_L) (rest : List sy_V) (nc ns : Nat) (H : sy_H) (K : sy_K) (σ : List sy_E) (D1 : List Nat) (o : pv_Oc) (hs : List sy_Hn) : Option (List sy_Hn) := match sy_inst K σ o.2.2.2.1 with
  | none => some hs
  | some K1 => (match sy_sH (sy_is1 K σ o.2.2.2.1) o.2.2.2.2.1 H with
    | some H1 => (match pv_push (sy_is1 K σ o.2.2.2.1) (pv_or o true) rest with
      | some st1 => (match pt_end (sy_is1 K σ o.2.2.2.1) (pv_or o false) with
        | some r => pv_run E own T RU CT PC C [] none 10000 true (.inr (r, (pv_on o false).1, (pv_on o false).2)) fs d bud M (ix + 1) nxt (pc + 3) lv st1 H1 D1 K1 (nc + (pv_on o true).1) (ns + (pv_on o true).2) hs
        | none => none)
      | none => none)
    | none => none)
noncomputable def pt_call (fs : List sy_Fr) (d bud : Nat) (M : ri_M) (ix : Nat) (o : ri_Op) (nxt : List ri_Op) (pc : Nat) (lv : sy_L) (st : List sy_V) (H : sy_H) (D : List Nat) (K : sy_K) (nc ns : Nat) (hs : List sy_Hn) (j : Nat) (cs : List sy_Ce) : Option (List sy_Hn) := match pv_arg E (pv_T (own true) T) o st with
  | some z => (match ri_nth PC j with
    | some (f9, c) => (match sy_ms K c.1.2.2.2 z.2.1 [] with
      | some σ0 => (match sy_ms K c.2.1.2.2.2 C.2.1.2.2.2 σ0 with
        | some σ => (match sy_mh K H c.2.2.2.1 σ with
          | some σ1 => bif ((Nat.beq o.1 pc && pv_fit d bud z.1 z.2.1 z.2.2.1) && (pv_sd c.1 o.2.2.2.1 d bud z.1 && (Nat.beq c.2.1.1 C.2.1.1 && (Nat.ble c.2.1.2.1 C.2.1.2.1 && Nat.ble c.2.1.2.2.1 C.2.1.2.2.1)))) && ((sy_ent K σ1 c.2.2.1 cs && (f9 || sy_dsub D c.2.2.2.2.1)) && sy_mall c.2.2.2.2.2.1 C.2.2.2.2.2.1) then
              sy_each (fun oc h => pt_aft E own T RU CT PC C fs d bud M ix nxt pc lv z.2.2.1 nc ns (sy_hmods c.2.2.2.2.2.1 H) K σ1 (@Bool.rec (fun _ => List Nat) oc.2.2.2.2.2 (pv_tcs RU c.2.2.2.2.2.1 D) f9) oc h) c.2.2.2.2.2.2 hs
            else none
          | none => none)
        | none => none)
      | none => none)
    | none => none)
  | none => none
noncomputable def pt_go (ih : sy_Go) : sy_Go := fun fs d bud M ix cur pc lv st H D K nc ns hs => match hs with
  | h :: t => bif Nat.beq h.1 0 && Nat.beq h.2.1 14 then (match cur with
    | o :: nxt => pt_call E own T RU CT PC C fs d bud M ix o nxt pc lv st H D K nc ns t h.2.2.1 h.2.2.2.2.2.2.1
    | [] => none) else bif Nat.beq h.1 0 && Nat.beq h.2.1 13 then pv_run E own T RU CT PC C [] none 10000 true (.inl ([], C.2.1.2.1, C.2.1.2.2.1, MB, 0, MB.2.2.2.2.2, 0, sy_args 0 C.2.1.2.2.2, [], 0, 0)) fs d bud M ix cur pc lv st H D K nc ns t else sy_go E (pv_T (own true) T) RU (CT true) (pv_C1 own C true) [] none (0, 0) ih fs d bud M ix cur pc lv st H D K nc ns hs
  | [] => sy_go E (pv_T (own true) T) RU (CT true) (pv_C1 own C true) [] none (0, 0) ih fs d bud M ix cur pc lv st H D K nc ns []
noncomputable def pt_run (n : Nat) : sy_Go := Nat.rec (fun _ _ _ _ _ _ _ _ _ _ _ _ _ _ _ => none) (fun _ ih => pt_go E own T RU CT PC C MB ih) n
noncomputable def pt_seg (MA : ri_M) (n : Nat) (hs : List sy_Hn) : Bool := match pt_run E own T RU CT PC C MB n [] C.1.2.1 C.1.2.2.1 MA 0 MA.2.2.2.2.2 0 (sy_args 0 C.1.2.2.2) [] C.2.2.2.1 C.2.2.2.2.1 C.2.2.1 0 0 hs with
  | some _ => true
  | none => false
end PTX
section PTS
variable {E : sy_env} {own : Bool → Nat → Bool} {T : Nat → Option sy_C} {RU : sy_RT} {CT : Bool → List sy_Ct} {PC : List (Bool × pv_Ct)} {C : pv_Ct} {ρ0 ρs : List Int} {w0 : List ri_E} {M0 : Bool → ri_M}
/-- the second one stands at its beginning -/
def pt_R (C : pv_Ct) (MB : ri_M) (ρ : List Int) (c : pv_C) : Prop := ∃ (d3 b3 fr3 : Nat) (vB : List Value), c = .inl ([], d3, b3, MB, MB.2.2.2.2.2, 0, lv_args 0 vB, [], 0, 0, fr3) ∧ C.2.1.2.1 ≤ d3 ∧ C.2.1.2.2.1 ≤ b3 ∧ sy_st ρ C.2.1.2.2.2 vB
theorem pt_R_app {MB : ri_M} (ρ : List Int) (c : pv_C) (m : List Int) (h : pt_R C MB ρ c) : pt_R C MB (m ++ ρ) c := by
  obtain ⟨d3, b3, fr3, vB, h1, h2, h3, h4⟩ := h
  exact ⟨d3, b3, fr3, vB, h1, h2, h3, sy_st_app m h4⟩
theorem pt_end_ok {σ : List sy_E} {ρ τ : List Int} {r : Option sy_V} {rc : Option Value} {r2 : Option sy_V} (h : pt_end σ r = some r2) (hs : sy_sv ρ σ τ) (hr : sy_rel τ r rc) : sy_rel ρ r2 rc := by
  unfold pt_end at h
  split at h
  · cases h
    cases rc with
    | none => trivial
    | some v => exact (hr : False).elim
  · rename_i a
    cases rc with
    | none => exact (hr : False).elim
    | some v =>
      split at h
      · rename_i b hb
        cases h
        exact sy_sV_ok hs hr hb
      · cases h
theorem pt_call_ok {MB : ri_M} (hrun : pv_Sd E own T RU C ρs w0 M0 (pv_Po T RU C ρ0 w0) (pv_run (sy_e4 E) own T RU CT PC C [] none 10000)) (hMB : E.1[C.2.1.1]? = some MB) (hPC : ∀ c ∈ PC, pv_Cok E own T (pv_RF c.1 RU) c.2) (hal : E.2.2.2.2.2.2.2.1 w0.length = false) {fs : List sy_Fr} {d bud : Nat} {M : ri_M} {ix : Nat} {o : ri_Op} {nxt : List ri_Op} {pc : Nat} {lv : sy_L} {st : List sy_V} {H : sy_H} {D : List Nat} {K : sy_K} {nc ns : Nat} {hs hs' : List sy_Hn} {j : Nat} {cs : List sy_Ce}
    (h : pt_call (sy_e4 E) own T RU CT PC C fs d bud M ix o nxt pc lv st H D K nc ns hs j cs = some hs') (hcur : o :: nxt = M.2.2.2.2.2.drop ix)
    {ρ : List Int} {gs : List sy_CF} {d2 bud2 : Nat} {lvc : ri_L} {stc : List Value} {w : List ri_E} {fr : Nat} {Xc : pv_C} (hext : ∃ m, ρ = m ++ ρs) (hf : sy_frs ρ fs gs) (hb : sy_bot (pv_C1 own C true) (M0 true) gs M d2 bud2) (h1 : d ≤ d2) (h2 : bud ≤ bud2) (hk : sy_ok ρ K) (hlv : sy_lv ρ lv lvc) (hst : sy_st ρ st stc) (hw : pv_WI T C w0 w) (hh : sy_hok ρ H w) (hd : sy_ru RU D w) (hX : pt_R C MB ρ Xc) :
    pv_Ev E own (pv_two true (.inl (gs, d2, bud2, M, o :: nxt, pc, lvc, stc, nc, ns, fr)) Xc) w (pv_Po T RU C ρ0 w0) := by
  obtain ⟨d3, bud3, fr3, vB, rfl, x1, x2, x3⟩ := hX
  unfold pt_call at h
  split at h
  · rename_i z hz
    obtain ⟨zM, zv, zr, zh⟩ := z
    obtain ⟨zE, zvc, zrc, z1, z2, z3⟩ := pv_arg_ok hz hst
    dsimp only at h
    split at h
    · rename_i f9 c hcj
      rw [ri_nth_eq] at hcj
      have hc : pv_Cok E own T (pv_RF f9 RU) c := hPC (f9, c) (List.mem_of_getElem? hcj)
      split at h
      · rename_i σ0 hσ0
        split at h
        · rename_i σ hσ
          split at h
          · rename_i σ1 hσ1
            cases hg : (((Nat.beq o.1 pc && pv_fit d bud zM zv zr) && (pv_sd c.1 o.2.2.2.1 d bud zM && (Nat.beq c.2.1.1 C.2.1.1 && (Nat.ble c.2.1.2.1 C.2.1.2.1 && Nat.ble c.2.1.2.2.1 C.2.1.2.2.1)))) && ((sy_ent K σ1 c.2.2.1 cs && (f9 || sy_dsub D c.2.2.2.2.1)) && sy_mall c.2.2.2.2.2.1 C.2.2.2.2.2.1)) with
            | false => rw [hg] at h; cases h
            | true =>
              rw [hg, cond_true] at h
              unfold pv_sd at hg
              simp only [Bool.and_eq_true] at hg
              obtain ⟨⟨⟨e1, e3⟩, ⟨e5, e6, e7⟩, e8, e9, e10⟩, ⟨e11, e12⟩, e13⟩ := hg
              have ep : o.1 = pc := Nat.eq_of_beq_eq_true e1
              subst ep
              obtain ⟨f1, f2, f3, f4, f5, f6⟩ := pv_fit_ok e3 h1 h2 z1 z2
              obtain ⟨m0, a1, a2⟩ := sy_ms_ok hk z1 (show sy_sv ρ [] [] from trivial) hσ0
              obtain ⟨m1, b1, b2⟩ := sy_ms_ok hk x3 a1 hσ
              obtain ⟨m2, vb1, vb2⟩ := sy_mh_ok hk hh b1 hσ1
              have hM : ∀ b : Bool, E.1[(pv_cm c b).1]? = some (pv_two true zM MB b) := by
                intro b
                cases b with
                | true =>
                  have n1 : c.1.1 = o.2.2.2.1 := Nat.eq_of_beq_eq_true e5
                  show E.1[c.1.1]? = some zM
                  rw [n1]; exact zE
                | false =>
                  have n1 : c.2.1.1 = C.2.1.1 := Nat.eq_of_beq_eq_true e8
                  show E.1[c.2.1.1]? = some MB
                  rw [n1]; exact hMB
              have hv : ∀ b : Bool, sy_st (m2 ++ (m1 ++ (m0 ++ []))) (pv_cm c b).2.2.2 (pv_two true zvc vB b) := by
                intro b
                cases b with
                | true => exact sy_st_app m2 (sy_st_app m1 a2)
                | false => exact sy_st_app m2 b2
              have hco := hc (pv_two true zM MB) _ (pv_two true zvc vB) w (pv_two true fr fr3) (pv_two true (d2 - 1) d3) (pv_two true (bud2 - (19 + zM.2.2.1)) bud3) hM (sy_ent_ok hk vb1 e11) hv hw.1 vb2 (by
                cases f9 with
                | true => exact pv_RU0_ok _ _
                | false => exact sy_ru_sub hd (sy_dsub_ok e12)) (by rw [hw.2.1]; exact hal) (fun b => by
                  have y1 := Nat.le_of_ble_eq_true e6
                  have y2 := Nat.le_of_ble_eq_true e9
                  cases b with
                  | true => show c.1.2.1 ≤ d2 - 1; omega
                  | false => show c.2.1.2.1 ≤ d3; omega) (fun b => by
                  have y1 := Nat.le_of_ble_eq_true e7
                  have y2 := Nat.le_of_ble_eq_true e10
                  cases b with
                  | true => show c.1.2.2.1 ≤ bud2 - (19 + zM.2.2.1); omega
                  | false => show c.2.1.2.2.1 ≤ bud3; omega)
              obtain ⟨oo, wE, k1, k2, k3, ⟨p1, p2, p3, oc, hoc, m3, p4, p5, p6, p7⟩⟩ := hco
              have q6 : sy_ru RU (@Bool.rec (fun _ => List Nat) oc.2.2.2.2.2 (pv_tcs RU c.2.2.2.2.2.1 D) f9) wE := by
                cases f9 with
                | true => exact pv_tcs_ru hd p3
                | false => exact p6
              obtain ⟨u1, u2, hx⟩ := sy_each_mem h oc hoc
              obtain ⟨K1, i1, i2, i3⟩ := sy_inst_ok (Ko := oc.2.2.2.1) (m := m3) hk vb1 p4
              unfold pt_aft at hx
              rw [i1] at hx
              dsimp only at hx
              split at hx
              · rename_i H1 hH1
                have hh1 : sy_hok (m3 ++ ρ) H1 wE := sy_sH_ok i3 (sy_hok_app (sy_hmods_ok hh p3) m3) p5 hH1
                split at hx
                · rename_i st1 hst1
                  obtain ⟨g1, g2, rs, g3, g4⟩ := p7 true
                  obtain ⟨r1, r2, rx, r3, r4⟩ := p7 false
                  have sA := pv_push_ok hst1 i3 g4 (sy_st_app m3 z2)
                  split at hx
                  · rename_i rr hrr
                    have rB := pt_end_ok hrr i3 r4
                    have hw' : pv_WI T C w0 wE := ⟨p1, p2.trans hw.2.1, sy_mods_trans hw.2.2 p3 e13⟩
                    have kk := hrun true (.inr (rr, (pv_on oc false).1, (pv_on oc false).2)) fs d bud M (ix + 1) nxt (o.1 + 3) lv st1 H1 _ K1 _ _ u1 u2 hx (sy_nxt_ok hcur) (m3 ++ ρ) gs d2 bud2 lvc (rs.toList ++ zrc) wE (oo true).2.2.2.2.2 (.inr (rx, (pv_on oc false).1, (pv_on oc false).2, (oo false).2.2.2.2.2)) (sy_ext_app m3 hext) (sy_frs_app m3 hf) hb h1 h2 i2 (sy_lv_app m3 hlv) sA hw' hh1 q6 ⟨rB, rfl, rfl⟩
                    obtain ⟨o', wE', j1, j2, j3, j4⟩ := kk
                    refine ⟨o', wE', fun s2 => ?_, j2.trans k2, fun q a1 a2 => (j3 q a1 a2).trans (k3 q a1 a2), j4⟩
                    cases s2 with
                    | true =>
                      obtain ⟨A1, A2, A3⟩ := j1 true
                      obtain ⟨B1, B2, B3⟩ := k1 true
                      refine ⟨?_, A2, A3⟩
                      have b1' : sy_Ev E (d2 - 1) (bud2 - (19 + zM.2.2.1)) zM zM.2.2.2.2.2 0 (lv_args 0 zvc) [] (pv_cn (own true) w) 0 0 fr (sy_Pk E (fun x => x = oo true) []) := B1
                      refine z3 (pv_cn (own true) w) d2 bud2 M nxt lvc nc ns fr _ (pv_tw hw.1 (fun q hq => pv_cn_own hq)) f3 f4 f5 f6 (b1'.mono (fun out ho => ?_))
                      have ho2 : out = oo true := ho
                      subst ho2
                      refine ⟨B2, ?_⟩
                      rw [g3]
                      dsimp only
                      rw [B3, g1, g2]
                      exact A1
                    | false =>
                      obtain ⟨A1, A2, A3⟩ := j1 false
                      obtain ⟨B1, B2, B3⟩ := k1 false
                      refine ⟨?_, A2, A3⟩
                      have e9 : o' false = (.inl rx, pv_cn (own false) wE, (pv_on oc false).1, (pv_on oc false).2, [], (oo false).2.2.2.2.2) := A1
                      have e8 : oo false = (.inl rx, pv_cn (own false) wE, (pv_on oc false).1, (pv_on oc false).2, [], (oo false).2.2.2.2.2) := by
                        rw [← r3, ← B3, ← r1, ← r2, ← B2]
                      rw [e9, ← e8]
                      exact B1
                  · cases hx
                · cases hx
              · cases hx
          · cases h
        · cases h
      · cases h
    · cases h
  · cases h
theorem pt_run_ok {MB : ri_M} (hT : ∀ n, 1000000 ≤ n → ri_nth E.2.2.2.1 n = none) (hdj : ∀ s q, own s q = true → own (!s) q = false) (hrun : pv_Sd E own T RU C ρs w0 M0 (pv_Po T RU C ρ0 w0) (pv_run (sy_e4 E) own T RU CT PC C [] none 10000)) (hM0 : M0 false = MB) (hMB : E.1[C.2.1.1]? = some MB) (hCT : ∀ s, ∀ c ∈ CT s, sy_Cok E (pv_T (own s) T) RU c) (hPC : ∀ c ∈ PC, pv_Cok E own T (pv_RF c.1 RU) c.2) (hal : E.2.2.2.2.2.2.2.1 w0.length = false) (hs0 : ∃ m, ρs = m ++ ρ0) (hn : ρ0.length = C.2.2.1.1.length) : ∀ n : Nat, pt_Sd E own T RU C ρs w0 M0 (pv_Po T RU C ρ0 w0) (pt_R C MB) (pt_run (sy_e4 E) own T RU CT PC C MB n)
  | 0 => by intro fs d bud M ix cur pc lv st H D K nc ns hs hs' h; cases h
  | n + 1 => by
    have hih := pt_run_ok hT hdj hrun hM0 hMB hCT hPC hal hs0 hn n
    have one := pt_one_ok hT hdj pt_R_app hih hCT hal hs0 hn
    intro fs d bud M ix cur pc lv st H D K nc ns hs hs' h hcur ρ gs d2 bud2 lvc stc w fr Xc hext hf hb h1 h2 hk hlv hst hw hh hd hX
    have h0 : pt_go (sy_e4 E) own T RU CT PC C MB (pt_run (sy_e4 E) own T RU CT PC C MB n) fs d bud M ix cur pc lv st H D K nc ns hs = some hs' := h
    unfold pt_go at h0
    split at h0
    · rename_i h9 t9
      cases hc : (Nat.beq h9.1 0 && Nat.beq h9.2.1 14) with
      | true =>
        rw [hc, cond_true] at h0
        split at h0
        · exact pt_call_ok hrun hMB hPC hal h0 hcur hext hf hb h1 h2 hk hlv hst hw hh hd hX
        · cases h0
      | false =>
        rw [hc, cond_false] at h0
        cases hc2 : (Nat.beq h9.1 0 && Nat.beq h9.2.1 13) with
        | true =>
          rw [hc2, cond_true] at h0
          obtain ⟨d3, b3, fr3, vB, rfl, x1, x2, x3⟩ := hX
          exact hrun true _ _ _ _ _ _ _ _ _ _ _ _ _ _ _ _ _ h0 hcur ρ gs d2 bud2 lvc stc w fr _ hext hf hb h1 h2 hk hlv hst hw hh hd ⟨trivial, ⟨hM0.symm, x1, x2⟩, x1, x2, rfl, rfl, by rw [List.drop_zero], rfl, sy_args_ok 0 x3, trivial, rfl, rfl⟩
        | false =>
          rw [hc2, cond_false] at h0
          exact one _ _ _ _ _ _ _ _ _ _ _ _ _ _ _ _ h0 hcur ρ gs d2 bud2 lvc stc w fr Xc hext hf hb h1 h2 hk hlv hst hw hh hd hX
    · exact one _ _ _ _ _ _ _ _ _ _ _ _ _ _ _ _ h0 hcur ρ gs d2 bud2 lvc stc w fr Xc hext hf hb h1 h2 hk hlv hst hw hh hd hX
end PTS
theorem pt_chk_ok {E : sy_env} {own : Bool → Nat → Bool} {T : Nat → Option sy_C} {RU : sy_RT} {CT : Bool → List sy_Ct} {PC : List (Bool × pv_Ct)} {C : pv_Ct} {MA MB : ri_M} (hT : ∀ n, 1000000 ≤ n → ri_nth E.2.2.2.1 n = none) (hdj : ∀ s q, own s q = true → own (!s) q = false) (hCT : ∀ s, ∀ c ∈ CT s, sy_Cok E (pv_T (own s) T) RU c) (hPC : ∀ c ∈ PC, pv_Cok E own T (pv_RF c.1 RU) c.2) (hMA : E.1[C.1.1]? = some MA) (hMB : E.1[C.2.1.1]? = some MB) (h0 : ∃ n hs, pt_seg (sy_e4 E) own T RU CT PC C MB MA n hs = true) : pv_Cok E own T RU C := by
  intro M ρ vals w fr d bud hM hk hv ht hh hd hal h1 h2
  have eA : M true = MA := Option.some.inj ((hM true).symm.trans hMA)
  have eB : M false = MB := Option.some.inj ((hM false).symm.trans hMB)
  have hn : ρ.length = C.2.2.1.1.length := hk.1
  obtain ⟨n, hs, hsg⟩ := h0
  unfold pt_seg at hsg
  split at hsg
  · rename_i hs' hx
    have hcut : pv_CutOk E own T RU C [] none ρ ρ w M (pv_Po T RU C ρ w) := fun cu hcu => absurd hcu List.not_mem_nil
    have hrun := pv_run_ok (CU := []) (ρs := ρ) (M0 := M) (w0 := w) (μ0 := none) hT hdj hCT hPC hal ⟨[], rfl⟩ hn (fun _ _ h => h) hcut (fun m0 e => by cases e) 10000
    have hih := pt_run_ok hT hdj hrun eB hMB hCT hPC hal ⟨[], rfl⟩ hn n
    have k := hih [] C.1.2.1 C.1.2.2.1 MA 0 MA.2.2.2.2.2 0 (sy_args 0 C.1.2.2.2) [] C.2.2.2.1 C.2.2.2.2.1 C.2.2.1 0 0 hs hs' hx (by rw [List.drop_zero]) ρ [] (d true) (bud true) (lv_args 0 (vals true)) [] w (fr true) (.inl ([], d false, bud false, MB, MB.2.2.2.2.2, 0, lv_args 0 (vals false), [], 0, 0, fr false)) ⟨[], rfl⟩ trivial ⟨eA.symm, h1 true, h2 true⟩ (h1 true) (h2 true) hk (sy_args_ok 0 (hv true)) trivial ⟨ht, rfl, sy_mods_rf w _⟩ hh hd ⟨d false, bud false, fr false, vals false, rfl, h1 false, h2 false, hv false⟩
    have e9 := pv_two_eq (s := true) (a := (.inl ([], d true, bud true, MA, MA.2.2.2.2.2, 0, lv_args 0 (vals true), [], 0, 0, fr true) : pv_C)) (b := (.inl ([], d false, bud false, MB, MB.2.2.2.2.2, 0, lv_args 0 (vals false), [], 0, 0, fr false))) (f := fun s => .inl ([], d s, bud s, M s, (M s).2.2.2.2.2, 0, lv_args 0 (vals s), [], 0, 0, fr s)) (by rw [← eA]) (by rw [← eB]; rfl)
    rw [e9] at k
    exact k
  · cases hsg
