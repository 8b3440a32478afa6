/-! ===== two runs side by side, part 8: a contract of both that is checked is kept ===== -/
def pv_cs (cu : pv_Cut) (s : Bool) : Nat × sy_L := bif s then cu.1 else cu.2.1
section PVS
variable {E : sy_env} {own : Bool → Nat → Bool} {T : Nat → Option sy_C} {RU : sy_RT} {CT : Bool → List sy_Ct} {PC : List (Bool × pv_Ct)} {C : pv_Ct} {CU : List pv_Cut} {μ0 : Option sy_P} {ρ0 ρs : List Int} {w0 : List ri_E} {M0 : Bool → ri_M} {P : (Bool → ri_Out) → List ri_E → Prop}
/-- runs from the cuts end well, as far as they are smaller than the start -/
def pv_CutOk (E : sy_env) (own : Bool → Nat → Bool) (T : Nat → Option sy_C) (RU : sy_RT) (C : pv_Ct) (CU : List pv_Cut) (μ0 : Option sy_P) (ρ0 ρs : List Int) (w0 : List ri_E) (M0 : Bool → ri_M) (P : (Bool → ri_Out) → List ri_E → Prop) : Prop := ∀ cu ∈ CU, ∀ (τ : List Int) (lc : Bool → ri_L) (w : List ri_E) (fr d b pcs : Bool → Nat), (∃ m, τ = m ++ ρ0) → (∀ s, (pv_cm C s).2.1 ≤ d s) → (∀ s, (pv_cm C s).2.2.1 ≤ b s) → (∀ s, pv_pcs ((M0 s).2.2.2.2.2.drop (pv_cs cu s).1) (pcs s) = true) → sy_ok τ cu.2.2.1 → (∀ s, sy_lv τ (pv_cs cu s).2 (lc s)) → pv_WI T C w0 w → sy_hok τ cu.2.2.2.1 w → sy_ru RU cu.2.2.2.2.1 w → 0 ≤ sy_ep (sy_tot τ) cu.2.2.2.2.2 → (∀ m0, μ0 = some m0 → sy_ep (sy_tot τ) cu.2.2.2.2.2 < sy_ep (sy_tot ρs) m0) →
  pv_Ev E own (fun s => .inl ([], d s, b s, M0 s, (M0 s).2.2.2.2.2.drop (pv_cs cu s).1, pcs s, lc s, [], 0, 0, fr s)) w P
theorem pv_cut_ok {xA : Nat} {lA : sy_L} {xB : Nat} {lB : sy_L} {H : sy_H} {D : List Nat} {K : sy_K} {hs hs' : List sy_Hn} {j : Nat} {cs : List sy_Ce} (h : pv_cut C CU μ0 xA lA xB lB H D K hs j cs = some hs') (hcut : pv_CutOk E own T RU C CU μ0 ρ0 ρs w0 M0 P) (hdom : ∀ m0, μ0 = some m0 → sy_dom ρs.length m0 = true) (hs0 : ∃ m, ρs = m ++ ρ0) (hn : ρ0.length = C.2.2.1.1.length)
    {ρ : List Int} {lc : Bool → ri_L} {w : List ri_E} {fr d b pcs : Bool → Nat} (hext : ∃ m, ρ = m ++ ρs) (h1 : ∀ s, (pv_cm C s).2.1 ≤ d s) (h2 : ∀ s, (pv_cm C s).2.2.1 ≤ b s) (hpc : ∀ s, pv_pcs ((M0 s).2.2.2.2.2.drop (bif s then xA else xB)) (pcs s) = true) (hk : sy_ok ρ K) (hlA : sy_lv ρ lA (lc true)) (hlB : sy_lv ρ lB (lc false)) (hw : pv_WI T C w0 w) (hh : sy_hok ρ H w) (hd : sy_ru RU D w) :
    pv_Ev E own (fun s => .inl ([], d s, b s, M0 s, (M0 s).2.2.2.2.2.drop (bif s then xA else xB), pcs s, lc s, [], 0, 0, fr s)) w P := by
  obtain ⟨m, rfl⟩ := hext
  obtain ⟨ms, rfl⟩ := hs0
  have h0 : sy_sv (m ++ (ms ++ ρ0)) (pv_s0 C) ρ0 := by
    unfold pv_s0
    rw [← hn]
    exact sy_sv_app m (sy_sv_app ms (sy_ids0 ρ0))
  unfold pv_cut at h
  split at h
  · rename_i cu hcu
    rw [ri_nth_eq] at hcu
    split at h
    · rename_i σ0 hσ0
      obtain ⟨m0, a1, a2⟩ := sy_ml_ok hk hlA h0 hσ0
      split at h
      · rename_i σ hσ
        obtain ⟨m1, b1, b2⟩ := sy_ml_ok hk hlB a1 hσ
        split at h
        · rename_i σ1 hσ1
          obtain ⟨m2, c1, c2⟩ := sy_mh_ok hk hh b1 hσ1
          split at h
          · rename_i mp hmp
            cases hb : ((Nat.beq xA cu.1.1 && Nat.beq xB cu.2.1.1) && ((sy_ent K σ1 cu.2.2.1 (sy_c2 cs) && sy_dsub D cu.2.2.2.2.1) && (sy_prv K mp (sy_c0 cs) && sy_dec μ0 K mp (sy_c11 cs)))) with
            | false => rw [hb] at h; cases h
            | true =>
              simp only [Bool.and_eq_true] at hb
              obtain ⟨⟨e1, e2⟩, ⟨e3, e4⟩, e5, e6⟩ := hb
              have eA : xA = cu.1.1 := Nat.eq_of_beq_eq_true e1
              have eB : xB = cu.2.1.1 := Nat.eq_of_beq_eq_true e2
              subst eA
              subst eB
              have em := sy_sv_sp c1 hmp
              have p0 := sy_prv_ok e5 hk
              have hcs : ∀ s : Bool, (bif s then cu.1.1 else cu.2.1.1) = (pv_cs cu s).1 := fun s => by cases s <;> rfl
              have k := hcut cu (List.mem_of_getElem? hcu) (m2 ++ (m1 ++ (m0 ++ ρ0))) lc w fr d b pcs ⟨m2 ++ (m1 ++ m0), by rw [List.append_assoc, List.append_assoc]⟩ h1 h2 (fun s => by rw [← hcs s]; exact hpc s) (sy_ent_ok hk c1 e3) (fun s => by cases s; exact sy_lv_app m2 b2; exact sy_lv_app m2 (sy_lv_app m1 a2)) hw c2 (sy_ru_sub hd (sy_dsub_ok e4)) (by rw [← em]; exact p0) (fun q hq => by
                rw [hq] at e6
                have p1 := sy_prv_ok (ρ := m ++ (ms ++ ρ0)) e6 hk
                rw [sy_app_ep] at p1
                have p2 : 0 ≤ sy_ep (sy_tot (m ++ (ms ++ ρ0))) q + (-1 * 1 + sy_ep (sy_tot (m ++ (ms ++ ρ0))) (sy_sc (-1) mp)) := p1
                rw [sy_sc_ep, em, sy_dom_app (hdom q hq)] at p2
                omega)
              have e9 : (fun s : Bool => (bif s then cu.1.1 else cu.2.1.1)) = (fun s => (pv_cs cu s).1) := funext hcs
              have e8 : (fun s : Bool => (.inl ([], d s, b s, M0 s, (M0 s).2.2.2.2.2.drop (bif s then cu.1.1 else cu.2.1.1), pcs s, lc s, [], 0, 0, fr s) : pv_C)) = (fun s => .inl ([], d s, b s, M0 s, (M0 s).2.2.2.2.2.drop (pv_cs cu s).1, pcs s, lc s, [], 0, 0, fr s)) := funext (fun s => by rw [hcs s])
              rw [e8]
              exact k
          · cases h
        · cases h
      · cases h
    · cases h
  · cases h
theorem pv_two_eq {α : Type} {s : Bool} {a b : α} {f : Bool → α} (h1 : f s = a) (h2 : f (!s) = b) : pv_two s a b = f := by
  funext x
  cases s <;> cases x <;> first | exact h1.symm | exact h2.symm
/-- a hint for both -/
theorem pv_cmd_ok {ih : pv_Go} (hih : pv_Sd E own T RU C ρs w0 M0 P ih) (hPC : ∀ c ∈ PC, pv_Cok E own T (pv_RF c.1 RU) c.2) (hal : E.2.2.2.2.2.2.2.1 w0.length = false) (hcut : pv_CutOk E own T RU C CU μ0 ρ0 ρs w0 M0 P) (hdom : ∀ m0, μ0 = some m0 → sy_dom ρs.length m0 = true) (hs0 : ∃ m, ρs = m ++ ρ0) (hn : ρ0.length = C.2.2.1.1.length) {s : Bool} {X : pv_S} {t : sy_Hn} {c : sy_Cm} : pv_Sd1 E own T RU C ρs w0 M0 P s X (fun fs d bud M ix cur pc lv st H D K nc ns hs => pv_cmd (sy_e4 E) own T RU PC C CU μ0 ih s X fs d bud M ix cur pc lv st H D K nc ns hs c) := by
  intro fs d bud M ix cur pc lv st H D K nc ns hs hs' h hcur ρ gs d2 bud2 lvc stc w fr Xc hext hf hb h1 h2 hk hlv hst hw hh hd hX
  dsimp only at h
  unfold pv_cmd at h
  split at h
  · rename_i xfs xd xbud xM xix xcur xpc xlv xst xnc xns
    cases Xc with
    | inr c => exact (hX : False).elim
    | inl c9 =>
      obtain ⟨xgs, d3, bud3, M3, cur3, pc3, lv3, st3, nc3, ns3, fr3⟩ := c9
      obtain ⟨g1, g2, g3, g4, g5, g6, g7, g8, g9, g10, g11, g12⟩ := hX
      subst g5; subst g6; subst g8; subst g11; subst g12
      split at h
      · have k := hih (!s) (.inl (fs, d, bud, M, ix, cur, pc, lv, st, nc, ns)) xfs xd xbud xM xix xcur xpc xlv xst H D K xnc xns hs hs' h g7 ρ xgs d3 bud3 lv3 st3 w fr3 (.inl (gs, d2, bud2, M, cur, pc, lvc, stc, nc, ns, fr)) hext g1 g2 g3 g4 hk g9 g10 hw hh hd (by rw [Bool.not_not]; exact ⟨hf, hb, h1, h2, rfl, rfl, hcur, rfl, hlv, hst, rfl, rfl⟩)
        rw [pv_two_sw] at k
        exact k
      · split at h
        · exact pv_call_ok hih hPC hal h hcur g7 hext hk hw hh hd hf hb h1 h2 hlv hst g1 g2 g3 g4 g9 g10
        · cases h
      · split at h
        · cases gs with
          | cons G gs => exact (hf : False).elim
          | nil =>
            cases xgs with
            | cons G gs => exact (g1 : False).elim
            | nil =>
              cases hc : ((pv_pcs cur pc && pv_pcs xcur xpc) && ((Nat.beq nc 0 && Nat.beq ns 0) && (Nat.beq xnc 0 && Nat.beq xns 0))) with
              | false => rw [hc] at h; cases h
              | true =>
                rw [hc, cond_true] at h
                simp only [Bool.and_eq_true] at hc
                obtain ⟨⟨e1, e2⟩, ⟨e3, e4⟩, e5, e6⟩ := hc
                cases Nat.eq_of_beq_eq_true e3
                cases Nat.eq_of_beq_eq_true e4
                cases Nat.eq_of_beq_eq_true e5
                cases Nat.eq_of_beq_eq_true e6
                obtain ⟨b1, b2, b3⟩ := hb
                obtain ⟨c1, c2, c3⟩ := g2
                have es : stc = [] := sy_st_nil hst
                have es3 : st3 = [] := sy_st_nil g10
                subst es
                subst es3
                subst b1
                subst c1
                have hdd : ∀ q, (pv_cm C q).2.1 ≤ (pv_two s d2 d3) q := fun q => by
                  by_cases hq : q = s
                  · subst hq; rw [pv_two_s]; exact b2
                  · have hq2 : q = !s := by cases s <;> cases q <;> first | rfl | exact absurd rfl hq
                    subst hq2; rw [pv_two_n]; exact c2
                have hbb : ∀ q, (pv_cm C q).2.2.1 ≤ (pv_two s bud2 bud3) q := fun q => by
                  by_cases hq : q = s
                  · subst hq; rw [pv_two_s]; exact b3
                  · have hq2 : q = !s := by cases s <;> cases q <;> first | rfl | exact absurd rfl hq
                    subst hq2; rw [pv_two_n]; exact c3
                have hpp : ∀ q, pv_pcs ((M0 q).2.2.2.2.2.drop (bif q then (bif s then ix else xix) else (bif s then xix else ix))) ((pv_two s pc xpc) q) = true := fun q => by
                  rw [hcur] at e1
                  rw [g7] at e2
                  cases s <;> cases q <;> first | exact e1 | exact e2
                have lvA : sy_lv ρ (bif s then lv else xlv) ((pv_two s lvc lv3) true) := by cases s; exact g9; exact hlv
                have lvB : sy_lv ρ (bif s then xlv else lv) ((pv_two s lvc lv3) false) := by cases s; exact hlv; exact g9
                have k := pv_cut_ok (M0 := M0) (fr := pv_two s fr fr3) h hcut hdom hs0 hn hext hdd hbb hpp hk lvA lvB hw hh hd
                have e9 := pv_two_eq (s := s) (a := (.inl ([], d2, bud2, M0 s, cur, pc, lvc, [], 0, 0, fr) : pv_C)) (b := (.inl ([], d3, bud3, M0 (!s), xcur, xpc, lv3, [], 0, 0, fr3))) (f := fun q => .inl ([], (pv_two s d2 d3) q, (pv_two s bud2 bud3) q, M0 q, (M0 q).2.2.2.2.2.drop (bif q then (bif s then ix else xix) else (bif s then xix else ix)), (pv_two s pc xpc) q, (pv_two s lvc lv3) q, [], 0, 0, (pv_two s fr fr3) q)) (by
                    rw [hcur]
                    cases s <;> rfl) (by
                    rw [g7]
                    cases s <;> rfl)
                rw [e9]
                exact k
        · cases h
      · cases h
  · cases h
theorem pv_rel_su {ρ : List Int} {C1 : sy_Ct} {M9 : ri_M} {y x : sy_E} (hs : sy_sub9 ρ y x) {S : pv_S} {c : pv_C} (h : pv_rel ρ C1 M9 S c) : pv_rel ρ C1 M9 (pv_suX y x S) c := by
  cases S with
  | inl S =>
    cases c with
    | inr c => exact (h : False).elim
    | inl c =>
      obtain ⟨fs, d, bud, M, ix, cur, pc, lv, st, nc, ns⟩ := S
      obtain ⟨gs, d2, bud2, M2, cur2, pc2, lvc, stc, nc2, ns2, fr⟩ := c
      obtain ⟨h1, h2, h3, h4, h5, h6, h7, h8, h9, h10, h11⟩ := h
      exact ⟨sy_suF_ok hs h1, h2, h3, h4, h5, h6, h7, h8, sy_suL_ok hs h9, sy_suS_ok hs h10, h11⟩
  | inr S =>
    cases c with
    | inl c => exact (h : False).elim
    | inr c =>
      obtain ⟨r, nc, ns⟩ := S
      obtain ⟨rc, nc2, ns2, fr⟩ := c
      obtain ⟨h1, h2⟩ := h
      refine ⟨?_, h2⟩
      cases r with
      | none => exact h1
      | some a =>
        cases rc with
        | none => exact (h1 : False).elim
        | some v => exact sy_suV_ok hs h1
theorem pv_all_ok {ih : pv_Go} (hih : pv_Sd E own T RU C ρs w0 M0 P ih) {s : Bool} {X : pv_S} {c : sy_Cm} : pv_Sd1 E own T RU C ρs w0 M0 P s X (fun fs d bud M ix cur pc lv st H D K nc ns hs => pv_all T ih s X fs d bud M ix cur pc lv st H D K nc ns hs c) := by
  intro fs d bud M ix cur pc lv st H D K nc ns hs hs' h hcur ρ gs d2 bud2 lvc stc w fr Xc hext hf hb h1 h2 hk hlv hst hw hh hd hX
  dsimp only at h
  unfold pv_all at h
  split at h
  · split at h
    · rename_i z hz
      obtain ⟨m, v, e1, e2, e3, e4⟩ := sy_ld_ok (a := z.1) (H' := z.2.1) (K' := z.2.2) hk hh hw.1 hz
      exact hih s X _ _ _ _ _ _ _ _ _ _ _ _ _ _ _ _ h hcur (m ++ ρ) gs d2 bud2 lvc stc w fr Xc (sy_ext_app m hext) (sy_frs_app m hf) hb h1 h2 e3 (sy_lv_app m hlv) (sy_st_app m hst) hw e4 hd (pv_rel_app hX m)
    · cases h
  · split at h
    · rename_i z hz
      obtain ⟨k1, k2⟩ := sy_g17_ok (sy_tw_tv hw.1) hk hh hz
      exact hih s X _ _ _ _ _ _ _ _ _ _ _ _ _ _ _ _ h hcur ρ gs d2 bud2 lvc stc w fr Xc hext hf hb h1 h2 k1 hlv hst hw k2 hd hX
    · cases h
  · cases hc : sy_suq K c.2.2.2.2.2.2.2 c.2.2.2.2.2.1 with
    | false => rw [hc] at h; cases h
    | true =>
      rw [hc, cond_true] at h
      have hs9 := sy_suq_ok hk hc
      exact hih s _ _ _ _ _ _ _ _ _ _ _ _ _ _ _ _ _ h hcur ρ gs d2 bud2 lvc stc w fr Xc hext (sy_suF_ok hs9 hf) hb h1 h2 hk (sy_suL_ok hs9 hlv) (sy_suS_ok hs9 hst) hw (sy_suH_ok hs9 hh) hd (pv_rel_su hs9 hX)
theorem pv_run_ok (hT : ∀ n, 1000000 ≤ n → ri_nth E.2.2.2.1 n = none) (hdj : ∀ s q, own s q = true → own (!s) q = false) (hCT : ∀ s, ∀ c ∈ CT s, sy_Cok E (pv_T (own s) T) RU c) (hPC : ∀ c ∈ PC, pv_Cok E own T (pv_RF c.1 RU) c.2) (hal : E.2.2.2.2.2.2.2.1 w0.length = false) (hs0 : ∃ m, ρs = m ++ ρ0) (hn : ρ0.length = C.2.2.1.1.length) (hP : ∀ o wE, pv_Po T RU C ρ0 w0 o wE → P o wE) (hcut : pv_CutOk E own T RU C CU μ0 ρ0 ρs w0 M0 P) (hdom : ∀ m0, μ0 = some m0 → sy_dom ρs.length m0 = true) : ∀ n : Nat, pv_Sd E own T RU C ρs w0 M0 P (pv_run (sy_e4 E) own T RU CT PC C CU μ0 n)
  | 0 => by intro s X fs d bud M ix cur pc lv st H D K nc ns hs hs' h; cases h
  | n + 1 => by
    have hih := pv_run_ok hT hdj hCT hPC hal hs0 hn hP hcut hdom n
    intro s X fs d bud M ix cur pc lv st H D K nc ns hs hs' h hcur ρ gs d2 bud2 lvc stc w fr Xc hext hf hb h1 h2 hk hlv hst hw hh hd hX
    have one : ∀ hs : List sy_Hn, pv_one (sy_e4 E) own T RU CT C (pv_run (sy_e4 E) own T RU CT PC C CU μ0 n) s X fs d bud M ix cur pc lv st H D K nc ns hs = some hs' → pv_Ev E own (pv_two s (.inl (gs, d2, bud2, M, cur, pc, lvc, stc, nc, ns, fr)) Xc) w P := fun hs h => pv_one_ok hT hdj hih hCT hal hs0 hn fs d bud M ix cur pc lv st H D K nc ns hs hs' h hcur ρ gs d2 bud2 lvc stc w fr Xc hext hf hb h1 h2 hk hlv hst hw hh hd hX
    have ins : ∀ hs : List sy_Hn, pv_ins (sy_e4 E) own T RU CT C (pv_run (sy_e4 E) own T RU CT PC C CU μ0 n) s X fs d bud M ix cur pc lv st H D K nc ns hs = some hs' → pv_Ev E own (pv_two s (.inl (gs, d2, bud2, M, cur, pc, lvc, stc, nc, ns, fr)) Xc) w P := by
      intro hs h5
      unfold pv_ins at h5
      cases fs with
      | cons F fs => exact one _ h5
      | nil =>
        cases cur with
        | nil => exact one _ h5
        | cons o nxt =>
          dsimp only at h5
          cases gs with
          | cons G gs => exact (hf : False).elim
          | nil =>
            cases hc : (Nat.beq o.2.1 16 && Nat.beq o.1 pc) with
            | false =>
              rw [hc, cond_false] at h5
              exact one _ h5
            | true =>
              rw [hc, cond_true] at h5
              rw [Bool.and_eq_true] at hc
              obtain ⟨pc9, κ, i, a, b, v, ts⟩ := o
              have e1 : κ = 16 := Nat.eq_of_beq_eq_true hc.1
              have e2 : pc9 = pc := Nat.eq_of_beq_eq_true hc.2
              subst e1
              subst e2
              exact pv_retn_ok hih hs0 hn hP h5 hext hk hst hw hh hd hX
    have h0 : pv_go (sy_e4 E) own T RU CT PC C CU μ0 (pv_run (sy_e4 E) own T RU CT PC C CU μ0 n) s X fs d bud M ix cur pc lv st H D K nc ns hs = some hs' := h
    unfold pv_go at h0
    split at h0
    · rename_i h9 t9
      cases hc4 : (Nat.beq h9.1 0 && pv_isa h9.2.1) with
      | true =>
        rw [hc4, cond_true] at h0
        exact pv_all_ok (c := h9.2) hih fs d bud M ix cur pc lv st H D K nc ns t9 hs' h0 hcur ρ gs d2 bud2 lvc stc w fr Xc hext hf hb h1 h2 hk hlv hst hw hh hd hX
      | false =>
      rw [hc4, cond_false] at h0
      cases hc : (Nat.beq h9.1 0 && (Nat.ble 13 h9.2.1 && Nat.ble h9.2.1 15)) with
      | true =>
        rw [hc, cond_true] at h0
        exact pv_cmd_ok (t := h9) (c := h9.2) hih hPC hal hcut hdom hs0 hn fs d bud M ix cur pc lv st H D K nc ns t9 hs' h0 hcur ρ gs d2 bud2 lvc stc w fr Xc hext hf hb h1 h2 hk hlv hst hw hh hd hX
      | false =>
        rw [hc, cond_false] at h0
        cases hc2 : (Nat.beq h9.1 0 && Nat.blt h9.2.1 20) with
        | true =>
          rw [hc2, cond_true] at h0
          exact one _ h0
        | false =>
          rw [hc2, cond_false] at h0
          exact ins _ h0
    · exact ins _ h0
end PVS
/-- a segment of a contract of both: from their beginnings, or from a cut -/
noncomputable def pv_seg (E : sy_en) (own : Bool → Nat → Bool) (T : Nat → Option sy_C) (RU : sy_RT) (CT : Bool → List sy_Ct) (PC : List (Bool × pv_Ct)) (C : pv_Ct) (CU : List pv_Cut) (MA MB : ri_M) (n : Nat) (cu : Option pv_Cut) (hs : List sy_Hn) : Bool := match cu with
  | none => (match pv_run E own T RU CT PC C CU none n true (.inl ([], C.2.1.2.1, C.2.1.2.2.1, MB, 0, MB.2.2.2.2.2, 0, sy_args 0 C.2.1.2.2.2, [], 0, 0)) [] C.1.2.1 C.1.2.2.1 MA 0 MA.2.2.2.2.2 0 (sy_args 0 C.1.2.2.2) [] C.2.2.2.1 C.2.2.2.2.1 C.2.2.1 0 0 hs with
    | some _ => true
    | none => false)
  | some cu => (match ri_drop MA.2.2.2.2.2 cu.1.1, ri_drop MB.2.2.2.2.2 cu.2.1.1 with
    | oA :: nA, oB :: nB => sy_dom cu.2.2.1.1.length cu.2.2.2.2.2 && (match pv_run E own T RU CT PC C CU (some cu.2.2.2.2.2) n true (.inl ([], C.2.1.2.1, C.2.1.2.2.1, MB, cu.2.1.1, oB :: nB, oB.1, cu.2.1.2, [], 0, 0)) [] C.1.2.1 C.1.2.2.1 MA cu.1.1 (oA :: nA) oA.1 cu.1.2 [] cu.2.2.2.1 cu.2.2.2.2.1 cu.2.2.1 0 0 hs with
      | some _ => true
      | none => false)
    | _, _ => false)
theorem pv_pcs_eq {l : List ri_Op} {o : ri_Op} {n : List ri_Op} {pc : Nat} (h : pv_pcs l pc = true) (e : l = o :: n) : pc = o.1 := by
  subst e
  exact (Nat.eq_of_beq_eq_true h).symm
theorem pv_chk_ok {E : sy_env} {own : Bool → Nat → Bool} {T : Nat → Option sy_C} {RU : sy_RT} {CT : Bool → List sy_Ct} {PC : List (Bool × pv_Ct)} {C : pv_Ct} {CU : List pv_Cut} {MA MB : ri_M} (hT : ∀ n, 1000000 ≤ n → ri_nth E.2.2.2.1 n = none) (hdj : ∀ s q, own s q = true → own (!s) q = false) (hCT : ∀ s, ∀ c ∈ CT s, sy_Cok E (pv_T (own s) T) RU c) (hPC : ∀ c ∈ PC, pv_Cok E own T (pv_RF c.1 RU) c.2) (hMA : E.1[C.1.1]? = some MA) (hMB : E.1[C.2.1.1]? = some MB) (h0 : ∃ n hs, pv_seg (sy_e4 E) own T RU CT PC C CU MA MB n none hs = true) (hc : ∀ cu ∈ CU, ∃ n hs, pv_seg (sy_e4 E) own T RU CT PC C CU MA MB n (some cu) hs = true) : pv_Cok E own T RU C := by
  intro M ρ vals w fr d bud hM hk hv ht hh hd hal h1 h2
  have eA : M true = MA := Option.some.inj ((hM true).symm.trans hMA)
  have eB : M false = MB := Option.some.inj ((hM false).symm.trans hMB)
  have hn : ρ.length = C.2.2.1.1.length := hk.1
  have claim : ∀ N : Nat, ∀ cu ∈ CU, ∀ (τ : List Int) (lc : Bool → ri_L) (w2 : List ri_E) (fr d b pcs : Bool → Nat), (∃ m, τ = m ++ ρ) → (∀ s, (pv_cm C s).2.1 ≤ d s) → (∀ s, (pv_cm C s).2.2.1 ≤ b s) → (∀ s, pv_pcs ((M s).2.2.2.2.2.drop (pv_cs cu s).1) (pcs s) = true) → sy_ok τ cu.2.2.1 → (∀ s, sy_lv τ (pv_cs cu s).2 (lc s)) → pv_WI T C w w2 → sy_hok τ cu.2.2.2.1 w2 → sy_ru RU cu.2.2.2.2.1 w2 → 0 ≤ sy_ep (sy_tot τ) cu.2.2.2.2.2 → sy_ep (sy_tot τ) cu.2.2.2.2.2 < (N : Int) →
      pv_Ev E own (fun s => .inl ([], d s, b s, M s, (M s).2.2.2.2.2.drop (pv_cs cu s).1, pcs s, lc s, [], 0, 0, fr s)) w2 (pv_Po T RU C ρ w) := by
    intro N
    induction N with
    | zero =>
      intro cu hcu τ lc w2 fr d b pcs _ _ _ _ _ _ _ _ _ z1 z2
      exact absurd z2 (by omega)
    | succ N ihN =>
      intro cu hcu τ lc w2 fr d b pcs hτ g1 g2 hop k1 k2 k3 k4 k5 z1 z2
      obtain ⟨n, hs, hsg⟩ := hc cu hcu
      unfold pv_seg at hsg
      dsimp only at hsg
      rw [ri_drop_eq, ri_drop_eq] at hsg
      split at hsg
      · rename_i oA nA oB nB hA hB
        rw [Bool.and_eq_true] at hsg
        obtain ⟨s1, s3⟩ := hsg
        split at s3
        · rename_i hs' hx
          have hcut : pv_CutOk E own T RU C CU (some cu.2.2.2.2.2) ρ τ w M (pv_Po T RU C ρ w) := by
            intro cu2 hcu2 τ2 lc2 w3 fr2 d3 b3 pcs2 q1 q2 q3 q4 q5 q6 q7 q8 q9 q10 q11
            exact ihN cu2 hcu2 τ2 lc2 w3 fr2 d3 b3 pcs2 q1 q2 q3 q4 q5 q6 q7 q8 q9 q10 (by have := q11 _ rfl; omega)
          have hdom : ∀ m0, (some cu.2.2.2.2.2 : Option sy_P) = some m0 → sy_dom τ.length m0 = true := by
            intro m0 e
            cases e
            rw [k1.1]; exact s1
          have hih := pv_run_ok (M0 := M) hT hdj hCT hPC hal hτ hn (fun _ _ h => h) hcut hdom n
          have p1 := hop true
          have p2 := hop false
          rw [eA] at p1
          rw [eB] at p2
          have e1 := pv_pcs_eq p1 hA
          have e2 := pv_pcs_eq p2 hB
          have k := hih true _ [] C.1.2.1 C.1.2.2.1 MA cu.1.1 (oA :: nA) oA.1 cu.1.2 [] cu.2.2.2.1 cu.2.2.2.2.1 cu.2.2.1 0 0 hs hs' hx hA.symm τ [] (d true) (b true) (lc true) [] w2 (fr true) (.inl ([], d false, b false, MB, oB :: nB, oB.1, lc false, [], 0, 0, fr false)) ⟨[], rfl⟩ trivial ⟨eA.symm, g1 true, g2 true⟩ (g1 true) (g2 true) k1 (k2 true) trivial k3 k4 k5 ⟨trivial, ⟨eB.symm, g1 false, g2 false⟩, g1 false, g2 false, rfl, rfl, hB.symm, rfl, k2 false, trivial, rfl, rfl⟩
          have e9 := pv_two_eq (s := true) (a := (.inl ([], d true, b true, MA, oA :: nA, oA.1, lc true, [], 0, 0, fr true) : pv_C)) (b := (.inl ([], d false, b false, MB, oB :: nB, oB.1, lc false, [], 0, 0, fr false))) (f := fun s => .inl ([], d s, b s, M s, (M s).2.2.2.2.2.drop (pv_cs cu s).1, pcs s, lc s, [], 0, 0, fr s)) (by
            show (Sum.inl ([], d true, b true, M true, (M true).2.2.2.2.2.drop cu.1.1, pcs true, lc true, [], 0, 0, fr true) : pv_C) = _
            rw [eA, hA, e1]) (by
            show (Sum.inl ([], d false, b false, M false, (M false).2.2.2.2.2.drop cu.2.1.1, pcs false, lc false, [], 0, 0, fr false) : pv_C) = _
            rw [eB, hB, e2])
          rw [e9] at k
          exact k
        · cases s3
      · cases hsg
  obtain ⟨n, hs, hsg⟩ := h0
  unfold pv_seg at hsg
  dsimp only at hsg
  split at hsg
  · rename_i hs' hx
    have hcut : pv_CutOk E own T RU C CU none ρ ρ w M (pv_Po T RU C ρ w) := by
      intro cu2 hcu2 τ2 lc2 w3 fr2 d3 b3 pcs2 q1 q2 q3 q4 q5 q6 q7 q8 q9 q10 _
      exact claim ((sy_ep (sy_tot τ2) cu2.2.2.2.2.2).toNat + 1) cu2 hcu2 τ2 lc2 w3 fr2 d3 b3 pcs2 q1 q2 q3 q4 q5 q6 q7 q8 q9 q10 (by omega)
    have hih := pv_run_ok (ρs := ρ) (M0 := M) (w0 := w) (μ0 := none) hT hdj hCT hPC hal ⟨[], rfl⟩ hn (fun _ _ h => h) hcut (fun m0 e => by cases e) n
    have k := hih true _ [] C.1.2.1 C.1.2.2.1 MA 0 MA.2.2.2.2.2 0 (sy_args 0 C.1.2.2.2) [] C.2.2.2.1 C.2.2.2.2.1 C.2.2.1 0 0 hs hs' hx (by rw [List.drop_zero]) ρ [] (d true) (bud true) (lv_args 0 (vals true)) [] w (fr true) (.inl ([], d false, bud false, MB, MB.2.2.2.2.2, 0, lv_args 0 (vals false), [], 0, 0, fr false)) ⟨[], rfl⟩ trivial ⟨eA.symm, h1 true, h2 true⟩ (h1 true) (h2 true) hk (sy_args_ok 0 (hv true)) trivial ⟨ht, rfl, sy_mods_rf w _⟩ hh hd ⟨trivial, ⟨eB.symm, h1 false, h2 false⟩, h1 false, h2 false, rfl, rfl, by rw [List.drop_zero], rfl, sy_args_ok 0 (hv false), trivial, rfl, rfl⟩
    have e9 := pv_two_eq (s := true) (a := (.inl ([], d true, bud true, MA, MA.2.2.2.2.2, 0, lv_args 0 (vals true), [], 0, 0, fr true) : pv_C)) (b := (.inl ([], d false, bud false, MB, MB.2.2.2.2.2, 0, lv_args 0 (vals false), [], 0, 0, fr false))) (f := fun s => .inl ([], d s, bud s, M s, (M s).2.2.2.2.2, 0, lv_args 0 (vals s), [], 0, 0, fr s)) (by rw [← eA]) (by rw [← eB]; rfl)
    rw [e9] at k
    exact k
  · cases hsg
