/-! ===== two runs side by side, part 7: a call of both ===== -/
section PVA
variable {E : sy_env} {T : Nat → Option sy_C} {ρ : List Int}
theorem pv_arg_ok {o : ri_Op} {st : List sy_V} {stc : List Value} {M2 : ri_M} {vals rest : List sy_V} {hl : Option (List Nat)} (h : pv_arg (sy_e4 E) T o st = some (M2, vals, rest, hl)) (hst : sy_st ρ st stc) : E.1[o.2.2.2.1]? = some M2 ∧ ∃ valsc restc : List Value, sy_st ρ vals valsc ∧ sy_st ρ rest restc ∧ ∀ (w : List ri_E) (d bud : Nat) (M : ri_M) (nxt : List ri_Op) (lv : ri_L) (nc ns fr : Nat) (P : ri_Out → Prop), sy_tw T w → 1 ≤ d → 19 + M2.2.2.1 ≤ bud → ri_cat restc ≤ 8 → (lg_sl valsc).length ≤ M2.2.2.1 →
    sy_Ev E (d - 1) (bud - (19 + M2.2.2.1)) M2 M2.2.2.2.2.2 0 (lv_args 0 valsc) [] w 0 0 fr (sy_after E (d, bud, M, nxt, o.1, lv, restc, nc, ns, hl) P) → sy_Ev E d bud M (o :: nxt) o.1 lv stc w nc ns fr P := by
  obtain ⟨pc, κ, i, a, b, v, ts⟩ := o
  unfold pv_arg at h
  dsimp only at h ⊢
  cases hκ : Nat.beq κ 4 with
  | false => rw [hκ] at h; cases h
  | true =>
    rw [hκ, cond_true] at h
    have eκ : κ = 4 := Nat.eq_of_beq_eq_true hκ
    subst eκ
    split at h
    · rename_i M9 hM2
      rw [ri_nth_eq] at hM2
      split at h
      · rename_i As rest9 hsp
        obtain ⟨Asc, restc, s1, s2, s3⟩ := sy_split_ok (acc := []) (accc := []) trivial hst hsp
        split at h
        · obtain ⟨q, r, rc, h5, e1, hr⟩ := sy_ref_top h s3
          split at h5
          · rename_i c t hc
            cases hcb : (c.1 && Nat.beq c.2.1 t) with
            | false => rw [hcb] at h5; cases h5
            | true =>
              rw [hcb, cond_true] at h5
              cases h5
              rw [Bool.and_eq_true] at hcb
              have et : c.2.1 = t := Nat.eq_of_beq_eq_true hcb.2
              subst e1
              refine ⟨hM2, .ref q :: Asc, rc, ⟨⟨q, rfl, rfl⟩, s2⟩, hr, ?_⟩
              intro w d bud M nxt lv nc ns fr P ht x1 x2 x3 x4 x5
              obtain ⟨vs, k1, k2, k3⟩ := sy_cell_obj ht hc hcb.1
              exact sy_ev_virt hM2 s1 k1 none (Or.inl ⟨rfl, by rw [et], rfl⟩) x1 x2 x3 x4 x5
          · cases h5
        · obtain ⟨q, r, rc, h5, e1, hr⟩ := sy_ref_top h s3
          split at h5
          · rename_i c t l hc
            cases hcb : (c.1 && Nat.beq c.2.1 t) with
            | false => rw [hcb] at h5; cases h5
            | true =>
              rw [hcb, cond_true] at h5
              cases h5
              rw [Bool.and_eq_true] at hcb
              have et : c.2.1 = t := Nat.eq_of_beq_eq_true hcb.2
              subst e1
              refine ⟨hM2, .ref q :: Asc, rc, ⟨⟨q, rfl, rfl⟩, s2⟩, hr, ?_⟩
              intro w d bud M nxt lv nc ns fr P ht x1 x2 x3 x4 x5
              obtain ⟨vs, k1, k2, k3⟩ := sy_cell_obj ht hc hcb.1
              exact sy_ev_virt hM2 s1 k1 (some l) (Or.inr ⟨rfl, l, by rw [et], rfl⟩) x1 x2 x3 x4 x5
          · cases h5
        · cases h
          exact ⟨hM2, Asc, restc, s2, s3, fun w d bud M nxt lv nc ns fr P _ x1 x2 x3 x4 x5 => sy_ev_stat hM2 s1 (Or.inl rfl) x1 x2 x3 x4 x5⟩
        · cases h
          exact ⟨hM2, Asc, restc, s2, s3, fun w d bud M nxt lv nc ns fr P _ x1 x2 x3 x4 x5 => sy_ev_stat hM2 s1 (Or.inr (Or.inl rfl)) x1 x2 x3 x4 x5⟩
        · cases h
          exact ⟨hM2, Asc, restc, s2, s3, fun w d bud M nxt lv nc ns fr P _ x1 x2 x3 x4 x5 => sy_ev_stat hM2 s1 (Or.inr (Or.inr rfl)) x1 x2 x3 x4 x5⟩
        · cases h
      · cases h
    · cases h
theorem pv_fit_ok {d bud d2 bud2 : Nat} {M2 : ri_M} {vals rest : List sy_V} {valsc restc : List Value} (h : pv_fit d bud M2 vals rest = true) (h1 : d ≤ d2) (h2 : bud ≤ bud2) (hv : sy_st ρ vals valsc) (hr : sy_st ρ rest restc) : 1 ≤ d ∧ 19 + M2.2.2.1 ≤ bud ∧ 1 ≤ d2 ∧ 19 + M2.2.2.1 ≤ bud2 ∧ ri_cat restc ≤ 8 ∧ (lg_sl valsc).length ≤ M2.2.2.1 := by
  unfold pv_fit at h
  simp only [Bool.and_eq_true] at h
  obtain ⟨c1, c2, c3, c4⟩ := h
  have c1' := Nat.le_of_ble_eq_true c1
  have c2' := Nat.le_of_ble_eq_true c2
  exact ⟨c1', c2', Nat.le_trans c1' h1, Nat.le_trans c2' h2, by rw [sy_rcat hr]; exact Nat.le_of_ble_eq_true c3, by rw [sy_sl_len hv]; exact Nat.le_of_ble_eq_true c4⟩
theorem pv_push_ok {σ : List sy_E} {τ : List Int} {r : Option sy_V} {rc : Option Value} {rest st : List sy_V} {restc : List Value} (h : pv_push σ r rest = some st) (hs : sy_sv ρ σ τ) (hr : sy_rel τ r rc) (hst : sy_st ρ rest restc) : sy_st ρ st (rc.toList ++ restc) := by
  unfold pv_push at h
  split at h
  · cases h
    cases rc with
    | none => exact hst
    | some v => exact (hr : False).elim
  · rename_i a
    cases rc with
    | none => exact (hr : False).elim
    | some v =>
      split at h
      · rename_i b hb
        cases h
        exact ⟨sy_sV_ok hs hr hb, hst⟩
      · cases h
end PVA
section PVS
variable {E : sy_env} {own : Bool → Nat → Bool} {T : Nat → Option sy_C} {RU : sy_RT} {CT : Bool → List sy_Ct} {PC : List (Bool × pv_Ct)} {C : pv_Ct} {CU : List pv_Cut} {μ0 : Option sy_P} {ρ0 ρs : List Int} {w0 : List ri_E} {M0 : Bool → ri_M} {P : (Bool → ri_Out) → List ri_E → Prop}
theorem pv_call_ok {ih : pv_Go} (hih : pv_Sd E own T RU C ρs w0 M0 P ih) (hPC : ∀ c ∈ PC, pv_Cok E own T (pv_RF c.1 RU) c.2) (hal : E.2.2.2.2.2.2.2.1 w0.length = false) {s : Bool} {xfs : List sy_Fr} {xd xbud : Nat} {xM : ri_M} {xix : Nat} {o2 : ri_Op} {xn : List ri_Op} {xpc : Nat} {xlv : sy_L} {xst : List sy_V} {xnc xns : Nat} {fs : List sy_Fr} {d bud : Nat} {M : ri_M} {ix : Nat} {o : ri_Op} {nxt : List ri_Op} {pc : Nat} {lv : sy_L} {st : List sy_V} {H : sy_H} {D : List Nat} {K : sy_K} {nc ns : Nat} {hs hs' : List sy_Hn} {j : Nat} {cs : List sy_Ce}
    (h : pv_call (sy_e4 E) own T RU PC C ih s xfs xd xbud xM xix o2 xn xpc xlv xst xnc xns fs d bud M ix o nxt pc lv st H D K nc ns hs j cs = some hs') (hcur : o :: nxt = M.2.2.2.2.2.drop ix) (hxc : o2 :: xn = xM.2.2.2.2.2.drop xix)
    {ρ : List Int} {gs xgs : List sy_CF} {d2 bud2 d3 bud3 : Nat} {lvc lv3 : ri_L} {stc st3 : List Value} {w : List ri_E} {fr fr3 : Nat} (hext : ∃ m, ρ = m ++ ρs) (hk : sy_ok ρ K) (hw : pv_WI T C w0 w) (hh : sy_hok ρ H w) (hd : sy_ru RU D w)
    (hf : sy_frs ρ fs gs) (hb : sy_bot (pv_C1 own C s) (M0 s) gs M d2 bud2) (h1 : d ≤ d2) (h2 : bud ≤ bud2) (hlv : sy_lv ρ lv lvc) (hst : sy_st ρ st stc)
    (xf : sy_frs ρ xfs xgs) (xb : sy_bot (pv_C1 own C (!s)) (M0 (!s)) xgs xM d3 bud3) (x1 : xd ≤ d3) (x2 : xbud ≤ bud3) (xl : sy_lv ρ xlv lv3) (xs9 : sy_st ρ xst st3) :
    pv_Ev E own (pv_two s (.inl (gs, d2, bud2, M, o :: nxt, pc, lvc, stc, nc, ns, fr)) (.inl (xgs, d3, bud3, xM, o2 :: xn, xpc, lv3, st3, xnc, xns, fr3))) w P := by
  unfold pv_call at h
  split at h
  · rename_i z hz
    obtain ⟨zM, zv, zr, zh⟩ := z
    split at h
    · rename_i y hy
      obtain ⟨yM, yv, yr, yh⟩ := y
      obtain ⟨zE, zvc, zrc, z1, z2, z3⟩ := pv_arg_ok hz hst
      obtain ⟨yE, yvc, yrc, y1, y2, y3⟩ := pv_arg_ok hy xs9
      dsimp only at h
      split at h
      · rename_i f9 c hcj
        rw [ri_nth_eq] at hcj
        have hc : pv_Cok E own T (pv_RF f9 RU) c := hPC (f9, c) (List.mem_of_getElem? hcj)
        split at h
        · rename_i σ0 hσ0
          split at h
          · rename_i σ hσ
            split at h
            · rename_i σ1 hσ1
              cases hg : (((Nat.beq o.1 pc && Nat.beq o2.1 xpc) && ((pv_fit d bud zM zv zr && pv_fit xd xbud yM yv yr) && (pv_sd (pv_cm c s) o.2.2.2.1 d bud zM && pv_sd (pv_cm c (!s)) o2.2.2.2.1 xd xbud yM))) && ((sy_ent K σ1 c.2.2.1 cs && (f9 || sy_dsub D c.2.2.2.2.1)) && sy_mall c.2.2.2.2.2.1 C.2.2.2.2.2.1)) with
              | false => rw [hg] at h; cases h
              | true =>
                rw [hg, cond_true] at h
                unfold pv_sd at hg
                simp only [Bool.and_eq_true] at hg
                obtain ⟨⟨⟨e1, e2⟩, ⟨e3, e4⟩, ⟨e5, e6, e7⟩, e8, e9, e10⟩, ⟨e11, e12⟩, e13⟩ := hg
                have ep : o.1 = pc := Nat.eq_of_beq_eq_true e1
                have ep2 : o2.1 = xpc := Nat.eq_of_beq_eq_true e2
                subst ep
                subst ep2
                obtain ⟨f1, f2, f3, f4, f5, f6⟩ := pv_fit_ok e3 h1 h2 z1 z2
                obtain ⟨g1, g2, g3, g4, g5, g6⟩ := pv_fit_ok e4 x1 x2 y1 y2
                -- what both are called with
                have va : ∃ m : List Int, sy_sv ρ σ (m ++ []) ∧ (∀ b : Bool, sy_st (m ++ []) (pv_cm c b).2.2.2 (pv_two s zvc yvc b)) := by
                  have tA : sy_st ρ (bif s then zv else yv) (bif s then zvc else yvc) := by cases s; exact y1; exact z1
                  have tB : sy_st ρ (bif s then yv else zv) (bif s then yvc else zvc) := by cases s; exact z1; exact y1
                  obtain ⟨m0, a1, a2⟩ := sy_ms_ok hk tA (show sy_sv ρ [] [] from trivial) hσ0
                  obtain ⟨m1, b1, b2⟩ := sy_ms_ok hk tB a1 hσ
                  refine ⟨m1 ++ m0, by rw [List.append_assoc]; exact b1, fun b => ?_⟩
                  rw [List.append_assoc]
                  cases b with
                  | true =>
                    have a3 := sy_st_app m1 a2
                    cases s <;> exact a3
                  | false => cases s <;> exact b2
                obtain ⟨m, va1, va2⟩ := va
                obtain ⟨m2, vb1, vb2⟩ := sy_mh_ok hk hh va1 hσ1
                have hM : ∀ b : Bool, E.1[(pv_cm c b).1]? = some (pv_two s zM yM b) := by
                  intro b
                  have n1 : (pv_cm c s).1 = o.2.2.2.1 := Nat.eq_of_beq_eq_true e5
                  have n2 : (pv_cm c (!s)).1 = o2.2.2.2.1 := Nat.eq_of_beq_eq_true e8
                  by_cases hq : b = s
                  · subst hq
                    rw [pv_two_s, n1]; exact zE
                  · have hb2 : b = !s := by cases s <;> cases b <;> first | rfl | exact absurd rfl hq
                    subst hb2
                    rw [pv_two_n, n2]; exact yE
                have side2 : ∀ {p : Bool → Prop}, p s → p (!s) → ∀ b, p b := fun {p} p1 p2 b => by
                  by_cases hq : b = s
                  · subst hq; exact p1
                  · have hb2 : b = !s := by cases s <;> cases b <;> first | rfl | exact absurd rfl hq
                    subst hb2; exact p2
                have hco := hc (pv_two s zM yM) (m2 ++ (m ++ [])) (pv_two s zvc yvc) w (pv_two s fr fr3) (pv_two s (d2 - 1) (d3 - 1)) (pv_two s (bud2 - (19 + zM.2.2.1)) (bud3 - (19 + yM.2.2.1))) hM (sy_ent_ok hk vb1 e11) (fun b => sy_st_app m2 (va2 b)) hw.1 vb2 (by
                  cases f9 with
                  | true => exact pv_RU0_ok _ _
                  | false => exact sy_ru_sub hd (sy_dsub_ok e12)) (by rw [hw.2.1]; exact hal)
                  (side2 (by rw [pv_two_s]; have := Nat.le_of_ble_eq_true e6; omega) (by rw [pv_two_n]; have := Nat.le_of_ble_eq_true e9; omega))
                  (side2 (by rw [pv_two_s]; have := Nat.le_of_ble_eq_true e7; omega) (by rw [pv_two_n]; have := Nat.le_of_ble_eq_true e10; omega))
                obtain ⟨oo, wE, k1, k2, k3, ⟨p1, p2, p3, oc, hoc, m3, p4, p5, p6, p7⟩⟩ := hco
                have p6' : sy_ru RU (@Bool.rec (fun _ => List Nat) oc.2.2.2.2.2 (pv_tcs RU c.2.2.2.2.2.1 D) f9) wE := by
                  cases f9 with
                  | true => exact pv_tcs_ru hd p3
                  | false => exact p6
                obtain ⟨u1, u2, hx⟩ := sy_each_mem h oc hoc
                -- behind it
                obtain ⟨K1, i1, i2, i3⟩ := sy_inst_ok (Ko := oc.2.2.2.1) (m := m3) hk vb1 p4
                unfold pv_aft at hx
                rw [i1] at hx
                dsimp only at hx
                split at hx
                · rename_i H1 hH1
                  have hh1 : sy_hok (m3 ++ ρ) H1 wE := sy_sH_ok i3 (sy_hok_app (sy_hmods_ok hh p3) m3) p5 hH1
                  split at hx
                  · rename_i st1 hst1
                    split at hx
                    · rename_i st2 hst2
                      obtain ⟨q1, q2, rs, q3, q4⟩ := p7 s
                      obtain ⟨r1, r2, rx, r3, r4⟩ := p7 (!s)
                      have sA := pv_push_ok hst1 i3 q4 (sy_st_app m3 z2)
                      have sB := pv_push_ok hst2 i3 r4 (sy_st_app m3 y2)
                      have hnx := sy_nxt_ok hcur
                      have hxn := sy_nxt_ok hxc
                      have hw' : pv_WI T C w0 wE := ⟨p1, p2.trans hw.2.1, sy_mods_trans hw.2.2 p3 e13⟩
                      have kk := hih s _ fs d bud M (ix + 1) nxt (o.1 + 3) lv st1 H1 _ K1 _ _ u1 u2 hx hnx (m3 ++ ρ) gs d2 bud2 lvc (rs.toList ++ zrc) wE (oo s).2.2.2.2.2 (.inl (xgs, d3, bud3, xM, xn, o2.1 + 3, lv3, rx.toList ++ yrc, xnc + (pv_on oc (!s)).1, xns + (pv_on oc (!s)).2, (oo (!s)).2.2.2.2.2)) (sy_ext_app m3 hext) (sy_frs_app m3 hf) hb h1 h2 i2 (sy_lv_app m3 hlv) sA hw' hh1 p6' ⟨sy_frs_app m3 xf, xb, x1, x2, rfl, rfl, hxn, rfl, sy_lv_app m3 xl, sB, rfl, rfl⟩
                      obtain ⟨o', wE', j1, j2, j3, j4⟩ := kk
                      refine ⟨o', wE', side2 ?_ ?_, j2.trans k2, fun q a1 a2 => (j3 q a1 a2).trans (k3 q a1 a2), j4⟩
                      · obtain ⟨a1, a2, a3⟩ := j1 s
                        obtain ⟨b1, b2, b3⟩ := k1 s
                        rw [pv_two_s] at a1 ⊢
                        refine ⟨?_, a2, a3⟩
                        have b1' : sy_Ev E (d2 - 1) (bud2 - (19 + zM.2.2.1)) zM zM.2.2.2.2.2 0 (lv_args 0 zvc) [] (pv_cn (own s) w) 0 0 fr (sy_Pk E (fun x => x = oo s) []) := by
                          have b9 := b1
                          simp only [pv_two_s] at b9
                          exact b9
                        refine z3 (pv_cn (own s) w) d2 bud2 M nxt lvc nc ns fr _ (pv_tw hw.1 (fun q hq => pv_cn_own hq)) f3 f4 f5 f6 (b1'.mono (fun out ho => ?_))
                        have ho2 : out = oo s := ho
                        subst ho2
                        refine ⟨b2, ?_⟩
                        rw [q3]
                        dsimp only
                        rw [b3, q1, q2]
                        exact a1
                      · obtain ⟨a1, a2, a3⟩ := j1 (!s)
                        obtain ⟨b1, b2, b3⟩ := k1 (!s)
                        rw [pv_two_n] at a1 ⊢
                        refine ⟨?_, a2, a3⟩
                        have b1' : sy_Ev E (d3 - 1) (bud3 - (19 + yM.2.2.1)) yM yM.2.2.2.2.2 0 (lv_args 0 yvc) [] (pv_cn (own (!s)) w) 0 0 fr3 (sy_Pk E (fun x => x = oo (!s)) []) := by
                          have b9 := b1
                          simp only [pv_two_n] at b9
                          exact b9
                        refine y3 (pv_cn (own (!s)) w) d3 bud3 xM xn lv3 xnc xns fr3 _ (pv_tw hw.1 (fun q hq => pv_cn_own hq)) g3 g4 g5 g6 (b1'.mono (fun out ho => ?_))
                        have ho2 : out = oo (!s) := ho
                        subst ho2
                        refine ⟨b2, ?_⟩
                        rw [r3]
                        dsimp only
                        rw [b3, r1, r2]
                        exact a1
                    · cases hx
                  · cases hx
                · cases hx
            · cases h
          · cases h
        · cases h
      · cases h
    · cases h
  · cases h
end PVS
