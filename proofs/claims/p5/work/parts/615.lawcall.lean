/-! ===== the law, part 2: the call of both, the survey of the law ===== -/
section LWX
variable (E : sy_en) (own : Bool → Nat → Bool) (T : Nat → Option sy_C) (RU : sy_RT) (CT : List sy_Ct) (PC : List (Bool × pv_Ct)) (C : sy_Ct) (CU : List sy_Cut) (μ0 : Option sy_P) (cb : Nat × Nat)
noncomputable def lw_aft (ih : sy_Go) (d bud : Nat) (M : ri_M) (ix : Nat) (nxt : List ri_Op) (pc : Nat) (lv : sy_L) (rest bv : List sy_V) (c : pv_Ct) (nc ns : Nat) (H : sy_H) (K : sy_K) (σ : List sy_E) (D1 : List Nat) (oc : pv_Oc) (hs : List sy_Hn) : Option (List sy_Hn) := match sy_inst K σ oc.2.2.2.1 with
  | none => some hs
  | some K1 => (match sy_sH (sy_is1 K σ oc.2.2.2.1) oc.2.2.2.2.1 H with
    | some H1 => (match pv_push (sy_is1 K σ oc.2.2.2.1) (pv_or oc true) rest with
      | some st1 => (match lw_mid M 200 (ix + 1) nxt (pc + 3) lv st1 K1 hs with
        | some y => (match pv_arg E T y.2.1 y.2.2.2.2.1 with
          | some zB => (match pv_push (sy_is1 K σ oc.2.2.2.1) (pv_or oc false) zB.2.2.1 with
            | some st2 => bif (Nat.beq c.2.1.1 y.2.1.2.2.2.1 && lw_eqs bv zB.2.1) && pv_fit d bud zB.1 zB.2.1 zB.2.2.1 then ih [] d bud M (y.1 + 1) y.2.2.1 (y.2.1.1 + 3) y.2.2.2.1 st2 H1 D1 y.2.2.2.2.2.1 (nc + (pv_on oc true).1 + (pv_on oc false).1) (ns + (pv_on oc true).2 + (pv_on oc false).2) y.2.2.2.2.2.2 else none
            | none => none)
          | none => none)
        | none => none)
      | none => none)
    | none => none)
noncomputable def lw_pair (ih : sy_Go) (d bud : Nat) (M : ri_M) (ix : Nat) (o : ri_Op) (nxt : List ri_Op) (pc : Nat) (lv : sy_L) (st : List sy_V) (H : sy_H) (D : List Nat) (K : sy_K) (nc ns : Nat) (hs : List sy_Hn) (j : Nat) (ks : List Nat) (cs : List sy_Ce) : Option (List sy_Hn) := match pv_arg E T o st with
  | some z => (match ri_nth PC j with
    | some (f9, c) => (match ri_nth E.1 c.2.1.1 with
      | some MB => (match lw_bv z.2.1 ks with
        | some bv => (match sy_ms K c.1.2.2.2 z.2.1 [] with
          | some σ0 => (match sy_ms K c.2.1.2.2.2 bv σ0 with
            | some σ => (match sy_mh K H c.2.2.2.1 σ with
              | some σ1 => bif ((Nat.beq o.1 pc && pv_fit d bud z.1 z.2.1 z.2.2.1) && (pv_sd c.1 o.2.2.2.1 d bud z.1 && pv_sd c.2.1 c.2.1.1 d bud MB)) && ((sy_ent K σ1 c.2.2.1 cs && (f9 || sy_dsub D c.2.2.2.2.1)) && sy_mall c.2.2.2.2.2.1 C.2.2.2.2.2.2.2.1) then
                  sy_each (fun oc h => lw_aft E T ih d bud M ix nxt pc lv z.2.2.1 bv c nc ns (sy_hmods c.2.2.2.2.2.1 H) K σ1 (@Bool.rec (fun _ => List Nat) oc.2.2.2.2.2 (pv_tcs RU c.2.2.2.2.2.1 D) f9) oc h) c.2.2.2.2.2.2 hs
                else none
              | none => none)
            | none => none)
          | none => none)
        | none => none)
      | none => none)
    | none => none)
  | none => none
noncomputable def lw_go (ih : sy_Go) : sy_Go := fun fs d bud M ix cur pc lv st H D K nc ns hs => match hs with
  | h :: t => bif Nat.beq h.1 0 && Nat.beq h.2.1 14 then (match fs, cur with
    | [], o :: nxt => lw_pair E T RU PC C ih d bud M ix o nxt pc lv st H D K nc ns t h.2.2.1 h.2.2.2.2.2.2.2.2 h.2.2.2.2.2.2.1
    | _, _ => none) else sy_go E T RU CT C CU μ0 cb ih fs d bud M ix cur pc lv st H D K nc ns hs
  | [] => sy_go E T RU CT C CU μ0 cb ih fs d bud M ix cur pc lv st H D K nc ns []
noncomputable def lw_run (n : Nat) : sy_Go := Nat.rec (fun _ _ _ _ _ _ _ _ _ _ _ _ _ _ _ => none) (fun _ ih => lw_go E T RU CT PC C CU μ0 cb ih) n
end LWX
section LWS
variable {E : sy_env} {own : Bool → Nat → Bool} {T : Nat → Option sy_C} {RU : sy_RT} {CT : List sy_Ct} {PC : List (Bool × pv_Ct)} {C : sy_Ct} {CU : List sy_Cut} {μ0 : Option sy_P} {ρ0 ρs : List Int} {w0 : List ri_E} {M0 : ri_M} {cb : Nat × Nat} {Q : ri_Out → Prop}
theorem lw_pair_ok {ih : sy_Go} (hih : sy_Sd E T RU C Q ρ0 ρs w0 M0 ih) (hT : ∀ n, 1000000 ≤ n → ri_nth E.2.2.2.1 n = none) (hdj : ∀ s q, own s q = true → own (!s) q = false) (hPC : ∀ c ∈ PC, pv_Cok E own T (pv_RF c.1 RU) c.2) (hSc : sy_Sc E ρ0) (hal : E.2.2.2.2.2.2.2.1 w0.length = false) (hs0 : ∃ m, ρs = m ++ ρ0) {d bud : Nat} {M : ri_M} {ix : Nat} {o : ri_Op} {nxt : List ri_Op} {pc : Nat} {lv : sy_L} {st : List sy_V} {nc ns : Nat} {H : sy_H} {D : List Nat} {K : sy_K} {hs hs' : List sy_Hn} {j : Nat} {ks : List Nat} {cs : List sy_Ce} (h : lw_pair (sy_e4 E) T RU PC C ih d bud M ix o nxt pc lv st H D K nc ns hs j ks cs = some hs')
    (hcur : o :: nxt = M.2.2.2.2.2.drop ix) {ρ : List Int} {d2 bud2 : Nat} {lvc : ri_L} {stc : List Value} {w : List ri_E} {fr : Nat} (hext : ∃ m, ρ = m ++ ρs) (hb : sy_bot C M0 [] M d2 bud2) (h1 : d ≤ d2) (h2 : bud ≤ bud2) (hk : sy_ok ρ K) (hlv : sy_lv ρ lv lvc) (hst : sy_st ρ st stc) (hw : sy_WI T C w0 w) (hh : sy_hok ρ H w) (hd : sy_ru RU D w) :
    sy_Ev E d2 bud2 M (o :: nxt) pc lvc stc w nc ns fr Q := by
  unfold lw_pair at h
  split at h
  · rename_i z hz
    obtain ⟨zM, zv, zr, zh⟩ := z
    obtain ⟨zE, zvc, zrc, z1, z2, z3⟩ := pv_arg_ok hz hst
    dsimp only at h
    split at h
    · rename_i f9 c hcj
      rw [ri_nth_eq] at hcj
      have hc : pv_Cok E own T (pv_RF f9 RU) c := hPC (f9, c) (List.mem_of_getElem? hcj)
      split at h
      · rename_i MB hMB
        rw [ri_nth_eq] at hMB
        split at h
        · rename_i bv hbv
          obtain ⟨bvc, hbvc⟩ := lw_bv_ok z1 hbv
          split at h
          · rename_i σ0 hσ0
            split at h
            · rename_i σ hσ
              split at h
              · rename_i σ1 hσ1
                cases hg : (((Nat.beq o.1 pc && pv_fit d bud zM zv zr) && (pv_sd c.1 o.2.2.2.1 d bud zM && pv_sd c.2.1 c.2.1.1 d bud MB)) && ((sy_ent K σ1 c.2.2.1 cs && (f9 || sy_dsub D c.2.2.2.2.1)) && sy_mall c.2.2.2.2.2.1 C.2.2.2.2.2.2.2.1)) with
                | false => rw [hg] at h; cases h
                | true =>
                  rw [hg, cond_true] at h
                  unfold pv_sd at hg
                  simp only [Bool.and_eq_true] at hg
                  obtain ⟨⟨⟨e1, e3⟩, ⟨e5, e6, e7⟩, -, e9, e10⟩, ⟨e11, e12⟩, e13⟩ := hg
                  have ep : o.1 = pc := Nat.eq_of_beq_eq_true e1
                  subst ep
                  obtain ⟨f1, f2, f3, f4, f5, f6⟩ := pv_fit_ok e3 h1 h2 z1 z2
                  obtain ⟨m0, a1, a2⟩ := sy_ms_ok hk z1 (show sy_sv ρ [] [] from trivial) hσ0
                  obtain ⟨m1, b1, b2⟩ := sy_ms_ok hk hbvc a1 hσ
                  obtain ⟨m2, vb1, vb2⟩ := sy_mh_ok hk hh b1 hσ1
                  have hM : ∀ b : Bool, E.1[(pv_cm c b).1]? = some (pv_two true zM MB b) := by
                    intro b
                    cases b with
                    | true =>
                      have n1 : c.1.1 = o.2.2.2.1 := Nat.eq_of_beq_eq_true e5
                      show E.1[c.1.1]? = some zM
                      rw [n1]; exact zE
                    | false => exact hMB
                  have hv : ∀ b : Bool, sy_st (m2 ++ (m1 ++ (m0 ++ []))) (pv_cm c b).2.2.2 (pv_two true zvc bvc b) := by
                    intro b
                    cases b with
                    | true => exact sy_st_app m2 (sy_st_app m1 a2)
                    | false => exact sy_st_app m2 b2
                  have hcon : ∀ frB : Nat, pv_Ev E own (fun s => .inl ([], pv_two true (d2 - 1) (d2 - 1) s, pv_two true (bud2 - (19 + zM.2.2.1)) (bud2 - (19 + MB.2.2.1)) s, pv_two true zM MB s, (pv_two true zM MB s).2.2.2.2.2, 0, lv_args 0 (pv_two true zvc bvc s), [], 0, 0, pv_two true fr frB s)) w (pv_Po T (pv_RF f9 RU) c (m2 ++ (m1 ++ (m0 ++ []))) w) := fun frB => hc (pv_two true zM MB) _ (pv_two true zvc bvc) w (pv_two true fr frB) (pv_two true (d2 - 1) (d2 - 1)) (pv_two true (bud2 - (19 + zM.2.2.1)) (bud2 - (19 + MB.2.2.1))) hM (sy_ent_ok hk vb1 e11) hv hw.1 vb2 (by
                    cases f9 with
                    | true => exact pv_RU0_ok _ _
                    | false => exact sy_ru_sub hd (sy_dsub_ok e12)) (by rw [hw.2.1]; exact hal) (fun b => by
                      have x1 := Nat.le_of_ble_eq_true e6
                      have x2 := Nat.le_of_ble_eq_true e9
                      cases b with
                      | true => show c.1.2.1 ≤ d2 - 1; omega
                      | false => show c.2.1.2.1 ≤ d2 - 1; omega) (fun b => by
                      have x1 := Nat.le_of_ble_eq_true e7
                      have x2 := Nat.le_of_ble_eq_true e10
                      cases b with
                      | true => show c.1.2.2.1 ≤ bud2 - (19 + zM.2.2.1); omega
                      | false => show c.2.1.2.2.1 ≤ bud2 - (19 + MB.2.2.1); omega)
                  -- the first one's end, whatever the second one begins with
                  obtain ⟨oo, wE0, k1, -, -, -⟩ := hcon 0
                  obtain ⟨o2, wE, l1, l2, l3, ⟨p1, p2, p3, oc, hoc, m3, p4, p5, p6, p7⟩⟩ := hcon (oo true).2.2.2.2.2
                  have eA : o2 true = oo true := by
                    obtain ⟨⟨n1, x1, r1, r2⟩, -⟩ := k1 true
                    obtain ⟨⟨n2, x2, r3, r4⟩, -⟩ := l1 true
                    have r5 : x1 = oo true := r2
                    have r6 : x2 = o2 true := r4
                    have := lw_det r3 r1
                    rw [← r5, ← r6]
                    exact this
                  obtain ⟨a1', a2', a3'⟩ := l1 true
                  obtain ⟨b1', b2', b3'⟩ := l1 false
                  have q6 : sy_ru RU (@Bool.rec (fun _ => List Nat) oc.2.2.2.2.2 (pv_tcs RU c.2.2.2.2.2.1 D) f9) wE := by
                    cases f9 with
                    | true => exact pv_tcs_ru hd p3
                    | false => exact p6
                  obtain ⟨u1, u2, hx⟩ := sy_each_mem h oc hoc
                  obtain ⟨K1, i1, i2, i3⟩ := sy_inst_ok (Ko := oc.2.2.2.1) (m := m3) hk vb1 p4
                  unfold lw_aft at hx
                  rw [i1] at hx
                  dsimp only at hx
                  split at hx
                  · rename_i H1 hH1
                    have hh1 : sy_hok (m3 ++ ρ) H1 wE := sy_sH_ok i3 (sy_hok_app (sy_hmods_ok hh p3) m3) p5 hH1
                    split at hx
                    · rename_i st1 hst1
                      obtain ⟨g1, g2, rs, g3, g4⟩ := p7 true
                      obtain ⟨r1, r2, rx, r3, r4⟩ := p7 false
                      have sA := pv_push_ok hst1 i3 g4 (sy_st_app m3 z2)
                      split at hx
                      · rename_i y hy
                        have ex1 : ∃ m, m3 ++ ρ = m ++ ρ0 := by
                          obtain ⟨m8, rfl⟩ := hext
                          obtain ⟨m9, rfl⟩ := hs0
                          exact ⟨m3 ++ (m8 ++ m9), by rw [List.append_assoc, List.append_assoc]⟩
                        obtain ⟨m4, lB, sB, y1, y2, y3, y4, y5⟩ := lw_mid_ok hSc hy (sy_nxt_ok hcur) (m3 ++ ρ) lvc (rs.toList ++ zrc) ex1 i2 (sy_lv_app m3 hlv) sA
                        split at hx
                        · rename_i zB hzB
                          obtain ⟨BM, Bv, Br, Bh⟩ := zB
                          obtain ⟨bE, Bvc, Brc, B1, B2, B3⟩ := pv_arg_ok hzB y3
                          split at hx
                          · rename_i st2 hst2
                            dsimp only at hx hst2
                            cases hg2 : ((Nat.beq c.2.1.1 y.2.1.2.2.2.1 && lw_eqs bv Bv) && pv_fit d bud BM Bv Br) with
                            | false => rw [hg2] at hx; cases hx
                            | true =>
                              rw [hg2, cond_true] at hx
                              simp only [Bool.and_eq_true] at hg2
                              obtain ⟨⟨c1, c2⟩, c3⟩ := hg2
                              obtain ⟨F1, F2, F3, F4, F5, F6⟩ := pv_fit_ok c3 h1 h2 B1 B2
                              have eM : MB = BM := by
                                have n1 : c.2.1.1 = y.2.1.2.2.2.1 := Nat.eq_of_beq_eq_true c1
                                rw [n1] at hMB
                                exact Option.some.inj (hMB.symm.trans bE)
                              subst eM
                              have ev : bvc = Bvc := lw_eqs_ok (ρ := m4 ++ (m3 ++ ρ)) c2 (sy_st_app m4 (sy_st_app m3 hbvc)) B1
                              subst ev
                              have sB2 := pv_push_ok hst2 (sy_sv_app m4 i3) r4 B2
                              -- the first one in the whole world
                              have a1 : sy_Ev E (d2 - 1) (bud2 - (19 + zM.2.2.1)) zM zM.2.2.2.2.2 0 (lv_args 0 zvc) [] (pv_cn (own true) w) 0 0 fr (sy_Pk E (fun x => x = o2 true) []) := a1'
                              obtain ⟨v3, s3, t3⟩ := pv_tr hT a1 (by rw [pv_cn_len, hw.2.1]; exact hal) (pv_le_cn (own := own true) (w := w) (v := w) ⟨rfl, fun _ _ => rfl⟩)
                              have v3o : ∀ q : Nat, own true q = true → v3[q]? = wE[q]? := fun q hq => by
                                rw [← s3.1.2.2 q hq, a3', pv_cn_own hq]
                              have v3n : ∀ q : Nat, own true q = false → v3[q]? = w[q]? := fun q hq => (s3.2.2 q hq).2
                              have v3l : v3.length = w.length := by
                                rw [← s3.1.1, a3', pv_cn_len]; exact l2
                              have tw3 : sy_tw T v3 := fun q c9 hq => by
                                cases ho : own true q with
                                | true => rw [v3o q ho]; exact p1 q c9 hq
                                | false => rw [v3n q ho]; exact hw.1 q c9 hq
                              have b1 : sy_Ev E (d2 - 1) (bud2 - (19 + MB.2.2.1)) MB MB.2.2.2.2.2 0 (lv_args 0 bvc) [] (pv_cn (own false) w) 0 0 (oo true).2.2.2.2.2 (sy_Pk E (fun x => x = o2 false) []) := b1'
                              have agB : pv_ag (own false) w v3 := ⟨v3l.symm, fun q hq => (v3n q (hdj false q hq)).symm⟩
                              obtain ⟨v4, s4, t4⟩ := pv_tr hT b1 (by rw [pv_cn_len, hw.2.1]; exact hal) (pv_le_cn agB)
                              have v4e : v4 = wE := by
                                apply List.ext_getElem?
                                intro q
                                cases ho : own false q with
                                | true => rw [← s4.1.2.2 q ho, b3', pv_cn_own ho]
                                | false =>
                                  rw [(s4.2.2 q ho).2]
                                  cases ho2 : own true q with
                                  | true => exact v3o q ho2
                                  | false => rw [v3n q ho2]; exact (l3 q ho2 ho).symm
                              subst v4e
                              have hw' : sy_WI T C w0 v4 := ⟨p1, p2.trans hw.2.1, sy_mods_trans hw.2.2 p3 e13⟩
                              have kk := hih [] d bud M (y.1 + 1) y.2.2.1 (y.2.1.1 + 3) y.2.2.2.1 st2 H1 _ y.2.2.2.2.2.1 _ _ y.2.2.2.2.2.2 u2 hx (sy_nxt_ok y4) (m4 ++ (m3 ++ ρ)) [] d2 bud2 lB (rx.toList ++ Brc) v4 (o2 false).2.2.2.2.2 (sy_ext_app m4 (sy_ext_app m3 hext)) trivial hb h1 h2 y1 y2 sB2 hw' (sy_hok_app hh1 m4) q6
                              refine z3 w d2 bud2 M nxt lvc nc ns fr Q hw.1 f3 f4 f5 f6 (t3.mono (fun out ho => ?_))
                              have ho2 : out = ((o2 true).1, v3, (o2 true).2.2) := ho
                              subst ho2
                              refine ⟨a2', ?_⟩
                              dsimp only
                              rw [g3]
                              dsimp only
                              rw [g1, g2]
                              refine y5 d2 bud2 v3 _ _ _ Q ?_
                              refine B3 v3 d2 bud2 M y.2.2.1 lB _ _ _ Q tw3 F3 F4 F5 F6 ?_
                              rw [eA]
                              refine t4.mono (fun out ho => ?_)
                              have ho3 : out = ((o2 false).1, v4, (o2 false).2.2) := ho
                              subst ho3
                              refine ⟨b2', ?_⟩
                              dsimp only
                              rw [r3]
                              dsimp only
                              rw [r1, r2]
                              exact kk
                          · cases hx
                        · cases hx
                      · cases hx
                    · cases hx
                  · cases hx
              · cases h
            · cases h
          · cases h
        · cases h
      · cases h
    · cases h
  · cases h
theorem lw_go1_ok {ih : sy_Go} (hih : sy_Sd E T RU C Q ρ0 ρs w0 M0 ih) (hCT : ∀ c ∈ CT, sy_Cok E T RU c) (hal : E.2.2.2.2.2.2.2.1 w0.length = false) (hs0 : ∃ m, ρs = m ++ ρ0) (hn : sy_Hy E T RU C Q ρ0 w0) (hcut : sy_CutOk E T RU C CU μ0 cb Q ρ0 ρs w0 M0) (hdom : ∀ m0, μ0 = some m0 → sy_dom ρs.length m0 = true) : sy_Sd E T RU C Q ρ0 ρs w0 M0 (sy_go (sy_e4 E) T RU CT C CU μ0 cb ih) := by
  have inst : ∀ (fs : List sy_Fr) (d bud : Nat) (M : ri_M) (ix : Nat) (cur : List ri_Op) (pc : Nat) (lv : sy_L) (st : List sy_V) (H : sy_H) (D : List Nat) (K : sy_K) (nc ns : Nat) (hs hs' : List sy_Hn), sy_instr (sy_e4 E) T RU CT C ih fs d bud M ix cur pc lv st H D K nc ns hs = some hs' → cur = M.2.2.2.2.2.drop ix →
      ∀ (ρ : List Int) (gs : List sy_CF) (d2 bud2 : Nat) (lvc : ri_L) (stc : List Value) (w : List ri_E) (fr : Nat), (∃ m, ρ = m ++ ρs) → sy_frs ρ fs gs → sy_bot C M0 gs M d2 bud2 → d ≤ d2 → bud ≤ bud2 → sy_ok ρ K → sy_lv ρ lv lvc → sy_st ρ st stc → sy_WI T C w0 w → sy_hok ρ H w → sy_ru RU D w → sy_Ev E d2 bud2 M cur pc lvc stc w nc ns fr (sy_Pk E Q gs) := by
    intro fs d bud M ix cur pc lv st H D K nc ns hs hs' h hcur ρ gs d2 bud2 lvc stc w fr hext hf hb h1 h2 hk hlv hst hw hh hd
    unfold sy_instr at h
    split at h
    · rename_i o nxt
      obtain ⟨pc9, κ, i, a, b, v, ts⟩ := o
      cases hc : Nat.beq pc9 pc with
      | false => dsimp only at h; rw [hc] at h; cases h
      | true =>
        dsimp only at h
        rw [hc, cond_true] at h
        have e9 : pc9 = pc := Nat.eq_of_beq_eq_true hc
        subst e9
        exact sy_exec_ok hih hCT hal hs0 hn h hcur hext hf hb h1 h2 hk hlv hst hw hh hd
    · cases h
  have stp : ∀ (fs : List sy_Fr) (d bud : Nat) (M : ri_M) (ix : Nat) (cur : List ri_Op) (pc : Nat) (lv : sy_L) (st : List sy_V) (H : sy_H) (D : List Nat) (K : sy_K) (nc ns : Nat) (hs hs' : List sy_Hn), sy_step (sy_e4 E) T RU CT C CU μ0 cb ih fs d bud M ix cur pc lv st H D K nc ns hs = some hs' → cur = M.2.2.2.2.2.drop ix →
      ∀ (ρ : List Int) (gs : List sy_CF) (d2 bud2 : Nat) (lvc : ri_L) (stc : List Value) (w : List ri_E) (fr : Nat), (∃ m, ρ = m ++ ρs) → sy_frs ρ fs gs → sy_bot C M0 gs M d2 bud2 → d ≤ d2 → bud ≤ bud2 → sy_ok ρ K → sy_lv ρ lv lvc → sy_st ρ st stc → sy_WI T C w0 w → sy_hok ρ H w → sy_ru RU D w → sy_Ev E d2 bud2 M cur pc lvc stc w nc ns fr (sy_Pk E Q gs) := by
    intro fs d bud M ix cur pc lv st H D K nc ns hs hs' h hcur ρ gs d2 bud2 lvc stc w fr hext hf hb h1 h2 hk hlv hst hw hh hd
    unfold sy_step at h
    split at h
    · split at h
      · rename_i cu hcu
        obtain ⟨hm, hix⟩ := sy_isc_mem hcu
        cases gs with
        | cons G gs => exact hf.elim
        | nil =>
          obtain ⟨b1, b2, b3⟩ := hb
          subst b1
          split at h
          · rename_i o nxt
            cases hc : Nat.beq o.1 pc with
            | false => rw [hc] at h; cases h
            | true =>
              rw [hc, cond_true] at h
              have e9 : o.1 = pc := Nat.eq_of_beq_eq_true hc
              have hop : M.2.2.2.2.2.drop cu.1 = o :: nxt := by rw [hix]; exact hcur.symm
              have h9 := sy_cut_ok (M0 := M) (o := o) (nxt := nxt) (fr := fr) h hm hcut hdom hs0 hn.1 hext b2 b3 hop hk hlv hst hw hh hd
              rw [hop, e9] at h9
              exact h9
          · cases h
      · exact inst _ _ _ _ _ _ _ _ _ _ _ _ _ _ _ _ h hcur ρ gs d2 bud2 lvc stc w fr hext hf hb h1 h2 hk hlv hst hw hh hd
    · exact inst _ _ _ _ _ _ _ _ _ _ _ _ _ _ _ _ h hcur ρ gs d2 bud2 lvc stc w fr hext hf hb h1 h2 hk hlv hst hw hh hd
  intro fs d bud M ix cur pc lv st H D K nc ns hs hs' h hcur ρ gs d2 bud2 lvc stc w fr hext hf hb h1 h2 hk hlv hst hw hh hd
  have h0 : sy_go (sy_e4 E) T RU CT C CU μ0 cb ih fs d bud M ix cur pc lv st H D K nc ns hs = some hs' := h
  unfold sy_go at h0
  split at h0
  · rename_i h9 t9
    cases hc : (Nat.beq h9.1 0 && Nat.blt h9.2.1 20) with
    | true =>
      rw [hc, cond_true] at h0
      exact sy_cmd_ok hih h0 hcur hext hf hb h1 h2 hk hlv hst hw hh hd
    | false =>
      rw [hc, cond_false] at h0
      exact stp _ _ _ _ _ _ _ _ _ _ _ _ _ _ _ _ h0 hcur ρ gs d2 bud2 lvc stc w fr hext hf hb h1 h2 hk hlv hst hw hh hd
  · exact stp _ _ _ _ _ _ _ _ _ _ _ _ _ _ _ _ h0 hcur ρ gs d2 bud2 lvc stc w fr hext hf hb h1 h2 hk hlv hst hw hh hd
theorem lw_run_ok (hT : ∀ n, 1000000 ≤ n → ri_nth E.2.2.2.1 n = none) (hdj : ∀ s q, own s q = true → own (!s) q = false) (hPC : ∀ c ∈ PC, pv_Cok E own T (pv_RF c.1 RU) c.2) (hSc : sy_Sc E ρ0) (hCT : ∀ c ∈ CT, sy_Cok E T RU c) (hal : E.2.2.2.2.2.2.2.1 w0.length = false) (hs0 : ∃ m, ρs = m ++ ρ0) (hn : sy_Hy E T RU C Q ρ0 w0) (hcut : sy_CutOk E T RU C CU μ0 cb Q ρ0 ρs w0 M0) (hdom : ∀ m0, μ0 = some m0 → sy_dom ρs.length m0 = true) : ∀ n : Nat, sy_Sd E T RU C Q ρ0 ρs w0 M0 (lw_run (sy_e4 E) T RU CT PC C CU μ0 cb n)
  | 0 => by intro fs d bud M ix cur pc lv st H D K nc ns hs hs' h; cases h
  | n + 1 => by
    have hih := lw_run_ok hT hdj hPC hSc hCT hal hs0 hn hcut hdom n
    have go := lw_go1_ok (CU := CU) (CT := CT) (μ0 := μ0) (cb := cb) hih hCT hal hs0 hn hcut hdom
    intro fs d bud M ix cur pc lv st H D K nc ns hs hs' h hcur ρ gs d2 bud2 lvc stc w fr hext hf hb h1 h2 hk hlv hst hw hh hd
    have h0 : lw_go (sy_e4 E) T RU CT PC C CU μ0 cb (lw_run (sy_e4 E) T RU CT PC C CU μ0 cb n) fs d bud M ix cur pc lv st H D K nc ns hs = some hs' := h
    unfold lw_go at h0
    split at h0
    · rename_i h9 t9
      cases hc : (Nat.beq h9.1 0 && Nat.beq h9.2.1 14) with
      | true =>
        rw [hc, cond_true] at h0
        split at h0
        · cases gs with
          | cons G gs => exact (hf : False).elim
          | nil => exact lw_pair_ok hih hT hdj hPC hSc hal hs0 h0 hcur hext hb h1 h2 hk hlv hst hw hh hd
        · cases h0
      | false =>
        rw [hc, cond_false] at h0
        exact go _ _ _ _ _ _ _ _ _ _ _ _ _ _ _ _ h0 hcur ρ gs d2 bud2 lvc stc w fr hext hf hb h1 h2 hk hlv hst hw hh hd
    · exact go _ _ _ _ _ _ _ _ _ _ _ _ _ _ _ _ h0 hcur ρ gs d2 bud2 lvc stc w fr hext hf hb h1 h2 hk hlv hst hw hh hd
end LWS
