/-! ===== the surveyor, part 18: a contract that is checked is kept ===== -/
section SYK
variable {E : sy_env} {T : Nat → Option sy_C} {RU : sy_RT} {CT : List sy_Ct} {C : sy_Ct} {CU : List sy_Cut} {μ0 : Option sy_P} {ρ0 ρs : List Int} {w0 : List ri_E} {M0 : ri_M} {cb : Nat × Nat} {Q : ri_Out → Prop}
theorem sy_exec_ok {ih : sy_Go} (hih : sy_Sd E T RU C Q ρ0 ρs w0 M0 ih) (hCT : ∀ c ∈ CT, sy_Cok E T RU c) (hal : E.2.2.2.2.2.2.2.1 w0.length = false) (hs0 : ∃ m, ρs = m ++ ρ0) (hn : sy_Hy E T RU C Q ρ0 w0) {fs : List sy_Fr} {d bud : Nat} {M : ri_M} {ix : Nat} {nxt : List ri_Op} {pc : Nat} {lv : sy_L} {st : List sy_V} {κ a b : Nat} {ts : List Nat} {nc ns : Nat} {H : sy_H} {D : List Nat} {K : sy_K} {hs hs' : List sy_Hn} {i : Instr} {v : Value} (h : sy_exec (sy_e4 E) T RU CT C ih fs d bud M ix nxt lv st H D K nc ns hs pc κ i a b v ts = some hs')
    (hop : (pc, κ, i, a, b, v, ts) :: nxt = M.2.2.2.2.2.drop ix) {ρ : List Int} {gs : List sy_CF} {d2 bud2 : Nat} {lvc : ri_L} {stc : List Value} {w : List ri_E} {fr : Nat} (hext : ∃ m, ρ = m ++ ρs) (hf : sy_frs ρ fs gs) (hb : sy_bot C M0 gs M d2 bud2) (h1 : d ≤ d2) (h2 : bud ≤ bud2) (hk : sy_ok ρ K) (hlv : sy_lv ρ lv lvc) (hst : sy_st ρ st stc) (hw : sy_WI T C w0 w) (hh : sy_hok ρ H w) (hd : sy_ru RU D w) :
    sy_Ev E d2 bud2 M ((pc, κ, i, a, b, v, ts) :: nxt) pc lvc stc w nc ns fr (sy_Pk E Q gs) := by
  have hnx := sy_nxt_ok hop
  have pure : ∀ l, sy_pure M.2.2.1 i pc lv st K = some l → sy_each (fun o h => ih fs d bud M (sy_nx M ix ts o.1) (ri_next M nxt ts o.1) o.2.1 o.2.2.1 o.2.2.2.1 H D o.2.2.2.2 nc ns h) l hs = some hs' → ∃ z, ri_pure M.2.2.1 i pc lvc stc = some z ∧ sy_Ev E d2 bud2 M (ri_next M nxt ts z.1) z.2.1 z.2.2.1 z.2.2.2 w nc ns fr (sy_Pk E Q gs) := by
    intro l hl he
    obtain ⟨o, ho, m, lz, sz, e1, e2, e3, e4⟩ := sy_pure_ok hl hk hlv hst
    obtain ⟨u1, u2, hx⟩ := sy_each_mem he o ho
    refine ⟨_, e1, ?_⟩
    exact hih _ _ _ _ _ _ _ _ _ _ _ _ _ _ _ _ hx (sy_nx_ok hop) (m ++ ρ) gs d2 bud2 lz sz w fr (sy_ext_app m hext) (sy_frs_app m hf) hb h1 h2 e4 e2 e3 hw (sy_hok_app hh m) hd
  unfold sy_exec at h
  split at h
  · split at h
    · rename_i l hl
      obtain ⟨z, e1, e2⟩ := pure l hl h
      exact sy_ev0 e1 e2
    · cases h
  · cases hc : sy_conc a st with
    | false => rw [hc] at h; cases h
    | true =>
      rw [hc, cond_true] at h
      split at h
      · rename_i l hl
        obtain ⟨z, e1, e2⟩ := pure l hl h
        exact sy_ev17 (sy_conc_ok hc hst) e1 e2
      · cases h
  · split at h
    · rename_i z hz
      obtain ⟨m, sz, e1, e2, e3, e4⟩ := sy_getf_ok (st' := z.1) (H' := z.2.1) (K' := z.2.2) hz hk hst hh hw.1
      exact sy_ev1 e1 (hih _ _ _ _ _ _ _ _ _ _ _ _ _ _ _ _ h hnx (m ++ ρ) gs d2 bud2 lvc sz w fr (sy_ext_app m hext) (sy_frs_app m hf) hb h1 h2 e3 (sy_lv_app m hlv) e2 hw e4 hd)
    · cases h
  · split at h
    · rename_i z hz
      cases hc : sy_mcov z.2.1 C.2.2.2.2.2.2.2.1 with
      | false => rw [hc] at h; cases h
      | true =>
        rw [hc, cond_true] at h
        obtain ⟨sz, w', e1, e2, e3, e4, e5, e6, e7⟩ := sy_putf_ok (st' := z.1) (qq := z.2.1) (H' := z.2.2.1) (D' := z.2.2.2) hz hk hst hh hw.1 hd
        exact sy_ev2 e1 (hih _ _ _ _ _ _ _ _ _ _ _ _ _ _ _ _ h hnx ρ gs d2 bud2 lvc sz w' fr hext hf hb h1 h2 hk hlv e4 ⟨e5, e2.trans hw.2.1, sy_mods_but hw.2.2 e3 hc⟩ e6 e7)
    · cases h
  · split at h
    · rename_i c hc
      exact sy_ev3 (hih _ _ _ _ _ _ _ _ _ _ _ _ _ _ _ _ h hnx ρ gs d2 bud2 lvc (v :: stc) w fr hext hf hb h1 h2 hk hlv ⟨sy_cst_ok hc, hst⟩ hw hh hd)
    · cases h
  · exact sy_call_ok hih hCT hal hs0 hn h hnx hext hf hb h1 h2 hk hlv hst hw hh hd
  · split at h
    · rename_i z hz
      obtain ⟨sz, e1, e2⟩ := sy_alen_ok hz hst hw.1
      exact sy_ev15 e1 (hih _ _ _ _ _ _ _ _ _ _ _ _ _ _ _ _ h hnx ρ gs d2 bud2 lvc sz w fr hext hf hb h1 h2 hk hlv e2 hw hh hd)
    · cases h
  · split at h
    · rename_i r hr
      obtain ⟨rc, e1, e2⟩ := sy_ret_ok hk hst hr w nc ns fr
      refine sy_ev16 e1 ?_
      split at h
      · cases gs with
        | cons G gs => exact hf.elim
        | nil =>
          obtain ⟨m, rfl⟩ := hext
          obtain ⟨ms, rfl⟩ := hs0
          exact hn.2.1 _ (sy_post_ok (ρ := m ++ (ms ++ ρ0)) h ⟨m ++ ms, by rw [List.append_assoc]⟩ hn.1 hk (show sy_res _ (.inl r) (.inl rc) from e2) hw hh hd)
      · rename_i F fs9
        cases gs with
        | nil => exact hf.elim
        | cons G gs =>
          obtain ⟨d3, bud3, M3, ix3, nxt3, pc3, lv3, rest3, nc3, ns3, hl3⟩ := F
          obtain ⟨d4, bud4, M4, nxt4, pc4, lvc4, restc4, nc4, ns4, hl4⟩ := G
          obtain ⟨⟨g1, g2, g3, g4, g5, g6, g7, g8, g9, g10, g11⟩, hf2⟩ := hf
          subst g3; subst g4; subst g6; subst g9; subst g10; subst g11
          refine ⟨rfl, ?_⟩
          have hst2 : sy_st ρ (r.toList ++ rest3) (rc.toList ++ restc4) := by
            cases r with
            | none => cases rc with
              | none => exact g8
              | some v9 => exact (e2 : False).elim
            | some a9 => cases rc with
              | none => exact (e2 : False).elim
              | some v9 => exact ⟨e2, g8⟩
          exact hih _ _ _ _ _ _ _ _ _ _ _ _ _ _ _ _ h g5 ρ gs d4 bud4 lvc4 (rc.toList ++ restc4) w fr hext hf2 hb g1 g2 hk g7 hst2 hw hh hd
    · cases h
  · split at h
    · rename_i z hz
      cases hc : (Nat.ble 1 d && sy_mall z.2.1 C.2.2.2.2.2.2.2.1) with
      | false => rw [hc] at h; cases h
      | true =>
        rw [hc, cond_true] at h
        rw [Bool.and_eq_true] at hc
        obtain ⟨sz, w', e1, e2, e3, e4, e5, e6, e7⟩ := sy_acopy_ok (st' := z.1) (mo := z.2.1) (H' := z.2.2.1) (D' := z.2.2.2) h2 hz hk hst hh hw.1 hd
        exact sy_ev22 (Nat.le_trans (Nat.le_of_ble_eq_true hc.1) h1) e1 (hih _ _ _ _ _ _ _ _ _ _ _ _ _ _ _ _ h hnx ρ gs d2 bud2 lvc sz w' fr hext hf hb h1 h2 hk hlv e3 ⟨e5, e2.trans hw.2.1, sy_mods_trans hw.2.2 (show sy_mods w w' z.2.1 from e4) hc.2⟩ e6 e7)
    · cases h
  · cases hc : (Nat.ble ((sy_e4 E).2.2.2 a + 4) d && Nat.ble (sy_csum st + (13 * ((sy_e4 E).2.2.2 a + 1) + 42)) bud) with
    | false => rw [hc] at h; cases h
    | true =>
      rw [hc, cond_true] at h
      rw [Bool.and_eq_true] at hc
      exact sy_ev23 (Nat.le_trans (Nat.le_of_ble_eq_true hc.1) h1) (by rw [sy_rcat hst]; exact Nat.le_trans (Nat.le_of_ble_eq_true hc.2) h2) (sy_unw_ok hih hal hs0 hn hext hk hw hh hd h hf hb)
  · split at h
    · rename_i h9 t9
      obtain ⟨e, st1, j, rc1, g1, rfl, hj, hs1⟩ := sy_int_top h hst
      obtain ⟨q, r, rc, g2, rfl, hr⟩ := sy_ref_top g1 hs1
      cases hc : ((Nat.beq h9.2.1 24 && Nat.beq C.1 0) && (Nat.beq q 1000000 && (Nat.blt h9.2.2.1 6 && (sy_prv K (sy_te e ++ ((-(h9.2.2.1 : Int), []) :: sy_sc (-1) (sy_te (.inr 0)))) (sy_c0 h9.2.2.2.2.2.2.1) && sy_prv K (((h9.2.2.1 : Int), []) :: (sy_te (.inr 0) ++ sy_sc (-1) (sy_te e))) (sy_c11 h9.2.2.2.2.2.2.1))))) with
      | false => rw [hc] at g2; cases g2
      | true =>
        rw [hc, cond_true] at g2
        simp only [Bool.and_eq_true] at hc
        obtain ⟨⟨-, c1⟩, c2, c5, c3, c4⟩ := hc
        obtain ⟨x0, s2, s3, s4, s5⟩ := hn.2.2 c1
        have eq9 : q = 1000000 := Nat.eq_of_beq_eq_true c2
        subst eq9
        have c6 : h9.2.2.1 < 6 := Nat.le_of_ble_eq_true c5
        obtain ⟨y, hy1, hy2⟩ := s5 h9.2.2.1 c6
        have up : ∀ (k : Nat) (z : Int), sy_at ρ0 k = some z → sy_ev ρ (.inr k) = some z := by
          intro k z hz
          obtain ⟨m, rfl⟩ := hext
          obtain ⟨ms, rfl⟩ := hs0
          exact sy_at_app (sy_at_app hz ms) m
        have a0 := up 0 x0 s2
        have p1 := sy_prv_ok c3 hk
        have p2 := sy_prv_ok c4 hk
        rw [sy_app_ep, (sy_te_ok hj).2] at p1
        have p1' : 0 ≤ j.toInt + (-(h9.2.2.1 : Int) * 1 + sy_ep (sy_tot ρ) (sy_sc (-1) (sy_te (.inr 0)))) := p1
        rw [sy_sc_ep, (sy_te_ok a0).2] at p1'
        have p3 : 0 ≤ (h9.2.2.1 : Int) * 1 + sy_ep (sy_tot ρ) (sy_te (.inr 0) ++ sy_sc (-1) (sy_te e)) := p2
        rw [sy_app_ep, sy_sc_ep, (sy_te_ok hj).2, (sy_te_ok a0).2] at p3
        have j0 : ¬ j < 0 := by
          intro z
          rw [Int32.lt_iff_toInt_lt] at z
          have z0 : (0 : Int32).toInt = 0 := rfl
          omega
        have e5 : (j.toNatClampNeg : Int) = j.toInt := Int.toNat_of_nonneg (by omega)
        have j1 : j.toNatClampNeg < E.2.2.2.2.2.2.1 := by omega
        have j2 : j.toNatClampNeg = x0.toNat + h9.2.2.1 := by omega
        refine sy_ev24 j0 j1 ?_
        rw [j2, hy1]
        exact hih _ _ _ _ _ _ _ _ _ _ _ _ _ _ _ _ g2 hnx ρ gs d2 bud2 lvc (.int y :: rc) w fr hext hf hb h1 h2 hk hlv ⟨⟨y, rfl, up _ _ hy2⟩, hr⟩ hw hh hd
    · cases h
  · split at h
    · rename_i z hz
      obtain ⟨m, sz, e1, e2, e3⟩ := sy_str_ok h1 h2 hk hst hz
      exact sy_ev29 e1 (hih _ _ _ _ _ _ _ _ _ _ _ _ _ _ _ _ h hnx (m ++ ρ) gs d2 bud2 lvc sz w fr (sy_ext_app m hext) (sy_frs_app m hf) hb h1 h2 e3 (sy_lv_app m hlv) e2 hw (sy_hok_app hh m) hd)
    · cases h
  · split at h
    · rename_i g hg
      split at h
      · rename_i z hz
        obtain ⟨m, sz, e1, e2, e3, e4⟩ := sy_ald_ok (st' := z.1) (H' := z.2.1) (K' := z.2.2) hz hk hst hh hw.1
        exact sy_evL hg e1 (hih _ _ _ _ _ _ _ _ _ _ _ _ _ _ _ _ h hnx (m ++ ρ) gs d2 bud2 lvc sz w fr (sy_ext_app m hext) (sy_frs_app m hf) hb h1 h2 e3 (sy_lv_app m hlv) e2 hw e4 hd)
      · cases h
    · split at h
      · rename_i g hg
        split at h
        · rename_i z hz
          cases hc : (sy_mcov z.2.1 C.2.2.2.2.2.2.2.1 && (!(Nat.beq κ 27) || sy_conc 1 st)) with
          | false => rw [hc] at h; cases h
          | true =>
            rw [hc, cond_true] at h
            rw [Bool.and_eq_true, Bool.or_eq_true] at hc
            obtain ⟨m, sz, w', e1, e2, e3, e4, e5, e6, e7, e8⟩ := sy_ast_ok (st' := z.1) (qq := z.2.1) (H' := z.2.2.1) (D' := z.2.2.2.1) (K' := z.2.2.2.2) (sy_tst_of hg) hz hk hst hh hw.1 hd
            refine sy_evS hg (fun e9 => ?_) e1 (hih _ _ _ _ _ _ _ _ _ _ _ _ _ _ _ _ h hnx (m ++ ρ) gs d2 bud2 lvc sz w' fr (sy_ext_app m hext) (sy_frs_app m hf) hb h1 h2 e5 (sy_lv_app m hlv) e4 ⟨e6, e2.trans hw.2.1, sy_mods_but hw.2.2 e3 hc.1⟩ e7 e8)
            rcases hc.2 with h9 | h9
            · rw [e9] at h9
              cases h9
            · exact sy_conc_ok h9 hst
        · cases h
      · cases h
theorem sy_cmd_ok {ih : sy_Go} (hih : sy_Sd E T RU C Q ρ0 ρs w0 M0 ih) {fs : List sy_Fr} {d bud : Nat} {M : ri_M} {ix : Nat} {cur : List ri_Op} {pc : Nat} {lv : sy_L} {st : List sy_V} {nc ns : Nat} {H : sy_H} {D : List Nat} {K : sy_K} {hs hs' : List sy_Hn} {c : sy_Cm} (h : sy_cmd (sy_e4 E) T RU C ih fs d bud M ix cur pc lv st H D K nc ns hs c = some hs')
    (hcur : cur = M.2.2.2.2.2.drop ix) {ρ : List Int} {gs : List sy_CF} {d2 bud2 : Nat} {lvc : ri_L} {stc : List Value} {w : List ri_E} {fr : Nat} (hext : ∃ m, ρ = m ++ ρs) (hf : sy_frs ρ fs gs) (hb : sy_bot C M0 gs M d2 bud2) (h1 : d ≤ d2) (h2 : bud ≤ bud2) (hk : sy_ok ρ K) (hlv : sy_lv ρ lv lvc) (hst : sy_st ρ st stc) (hw : sy_WI T C w0 w) (hh : sy_hok ρ H w) (hd : sy_ru RU D w) :
    sy_Ev E d2 bud2 M cur pc lvc stc w nc ns fr (sy_Pk E Q gs) := by
  unfold sy_cmd at h
  split at h
  · cases hc : Nat.blt c.2.1 K.1.length with
    | false => rw [hc] at h; cases h
    | true =>
      rw [hc, cond_true] at h
      obtain ⟨K1, hm, k1⟩ := sy_spl_ok (c := c.2.2.2.1) (Nat.le_of_ble_eq_true hc) hk
      obtain ⟨u1, u2, hx⟩ := sy_each_mem h K1 hm
      exact hih _ _ _ _ _ _ _ _ _ _ _ _ _ _ _ _ hx hcur ρ gs d2 bud2 lvc stc w fr hext hf hb h1 h2 k1 hlv hst hw hh hd
  · split at h
    · rename_i K1 hK1
      exact hih _ _ _ _ _ _ _ _ _ _ _ _ _ _ _ _ h hcur ρ gs d2 bud2 lvc stc w fr hext hf hb h1 h2 (sy_der_ok hK1 hk) hlv hst hw hh hd
    · cases h
  · split at h
    · rename_i K1 hK1
      exact hih _ _ _ _ _ _ _ _ _ _ _ _ _ _ _ _ h hcur ρ gs d2 bud2 lvc stc w fr hext hf hb h1 h2 (sy_nw_ok hK1 hk) hlv hst hw hh hd
    · cases h
  · split at h
    · rename_i z hz
      obtain ⟨m, v, e1, e2, e3, e4⟩ := sy_ld_ok (a := z.1) (H' := z.2.1) (K' := z.2.2) hk hh hw.1 hz
      exact hih _ _ _ _ _ _ _ _ _ _ _ _ _ _ _ _ h hcur (m ++ ρ) gs d2 bud2 lvc stc w fr (sy_ext_app m hext) (sy_frs_app m hf) hb h1 h2 e3 (sy_lv_app m hlv) (sy_st_app m hst) hw e4 hd
    · cases h
  · split at h
    · rename_i l hl
      obtain ⟨K1, hm, k1⟩ := sy_use_ok hk hh hd hl
      obtain ⟨u1, u2, hx⟩ := sy_each_mem h K1 hm
      exact hih _ _ _ _ _ _ _ _ _ _ _ _ _ _ _ _ hx hcur ρ gs d2 bud2 lvc stc w fr hext hf hb h1 h2 k1 hlv hst hw hh hd
    · cases h
  · split at h
    · rename_i D1 hD1
      exact hih _ _ _ _ _ _ _ _ _ _ _ _ _ _ _ _ h hcur ρ gs d2 bud2 lvc stc w fr hext hf hb h1 h2 hk hlv hst hw hh (sy_prr_ok hk hh hd hD1)
    · cases h
  · cases hc : sy_rfu K (sy_c0 c.2.2.2.2.2.1) with
    | false => rw [hc] at h; cases h
    | true => exact (sy_rfu_ok hc hk).elim
  · exact hih _ _ _ _ _ _ _ _ _ _ _ _ _ _ _ _ h hcur ρ gs d2 bud2 lvc stc w fr hext hf hb h1 h2 ⟨hk.1, hk.2.1, fun p hp => by cases hp⟩ hlv hst hw hh hd
  · split at h
    · rename_i D1 hD1
      exact hih _ _ _ _ _ _ _ _ _ _ _ _ _ _ _ _ h hcur ρ gs d2 bud2 lvc stc w fr hext hf hb h1 h2 hk hlv hst hw hh (sy_trf_ok hh hd hD1)
    · cases h
  · cases hc : sy_dom K.1.length c.2.2.2.2.2.2.1 with
    | false => rw [hc] at h; cases h
    | true =>
      rw [hc, cond_true] at h
      obtain ⟨K1, m1, k1⟩ := sy_sg_ok hc hk
      obtain ⟨u1, u2, hx⟩ := sy_each_mem h K1 m1
      exact hih _ _ _ _ _ _ _ _ _ _ _ _ _ _ _ _ hx hcur ρ gs d2 bud2 lvc stc w fr hext hf hb h1 h2 k1 hlv hst hw hh hd
  · split at h
    · rename_i z hz
      cases hc : sy_mcov (z.2.2.1, 0, 584) C.2.2.2.2.2.2.2.1 with
      | false => rw [hc] at h; cases h
      | true =>
        rw [hc, cond_true] at h
        refine sy_cpl_ok (ie := z.1) (lv' := z.2.1) (dd := z.2.2.1) (H' := z.2.2.2.1) (D' := z.2.2.2.2) hz hcur hlv hst hw.1 hh hd ?_
        intro lvz w' a1 a2 a3 a4 a5 a6
        rw [ri_drop_eq] at h
        exact hih _ _ _ _ _ _ _ _ _ _ _ _ _ _ _ _ h rfl ρ gs d2 bud2 lvz [] w' fr hext hf hb h1 h2 hk a1 trivial ⟨a3, a2.trans hw.2.1, sy_mods_but (x := (z.2.2.1, 0, 584)) hw.2.2 a4 hc⟩ a5 a6
    · cases h
  · exact hih _ _ _ _ _ _ _ _ _ _ _ _ _ _ _ _ h hcur ρ gs d2 bud2 lvc stc w fr hext hf hb h1 h2 hk hlv hst hw (sy_but_hok2 hh (fun _ _ _ => rfl) (sy_same_kok (fun _ _ => rfl) _)) hd
  · split at h
    · rename_i l hl
      obtain ⟨z, hm, k1, k2⟩ := sy_g16_ok hk hh hl
      obtain ⟨u1, u2, hx⟩ := sy_each_mem h z hm
      exact hih _ _ _ _ _ _ _ _ _ _ _ _ _ _ _ _ hx hcur ρ gs d2 bud2 lvc stc w fr hext hf hb h1 h2 k1 hlv hst hw k2 hd
    · cases h
  · split at h
    · rename_i z hz
      obtain ⟨k1, k2⟩ := sy_g17_ok (sy_tw_tv hw.1) hk hh hz
      exact hih _ _ _ _ _ _ _ _ _ _ _ _ _ _ _ _ h hcur ρ gs d2 bud2 lvc stc w fr hext hf hb h1 h2 k1 hlv hst hw k2 hd
    · cases h
  · cases hc : sy_suq K c.2.2.2.2.2.2.2 c.2.2.2.2.2.1 with
    | false => rw [hc] at h; cases h
    | true =>
      rw [hc, cond_true] at h
      have hs := sy_suq_ok hk hc
      exact hih _ _ _ _ _ _ _ _ _ _ _ _ _ _ _ _ h hcur ρ gs d2 bud2 lvc stc w fr hext (sy_suF_ok hs hf) hb h1 h2 hk (sy_suL_ok hs hlv) (sy_suS_ok hs hst) hw (sy_suH_ok hs hh) hd
  · split at h
    · rename_i H1 hH1
      exact hih _ _ _ _ _ _ _ _ _ _ _ _ _ _ _ _ h hcur ρ gs d2 bud2 lvc stc w fr hext hf hb h1 h2 hk hlv hst hw (sy_g19_ok hk hh hH1) hd
    · cases h
  · cases h
theorem sy_run_ok (hCT : ∀ c ∈ CT, sy_Cok E T RU c) (hal : E.2.2.2.2.2.2.2.1 w0.length = false) (hs0 : ∃ m, ρs = m ++ ρ0) (hn : sy_Hy E T RU C Q ρ0 w0) (hcut : sy_CutOk E T RU C CU μ0 cb Q ρ0 ρs w0 M0) (hdom : ∀ m0, μ0 = some m0 → sy_dom ρs.length m0 = true) : ∀ n : Nat, sy_Sd E T RU C Q ρ0 ρs w0 M0 (sy_run (sy_e4 E) T RU CT C CU μ0 cb n)
  | 0 => by intro fs d bud M ix cur pc lv st H D K nc ns hs hs' h; cases h
  | n + 1 => by
    have hih := sy_run_ok hCT hal hs0 hn hcut hdom n
    have inst : ∀ (fs : List sy_Fr) (d bud : Nat) (M : ri_M) (ix : Nat) (cur : List ri_Op) (pc : Nat) (lv : sy_L) (st : List sy_V) (H : sy_H) (D : List Nat) (K : sy_K) (nc ns : Nat) (hs hs' : List sy_Hn), sy_instr (sy_e4 E) T RU CT C (sy_run (sy_e4 E) T RU CT C CU μ0 cb n) fs d bud M ix cur pc lv st H D K nc ns hs = some hs' → cur = M.2.2.2.2.2.drop ix →
        ∀ (ρ : List Int) (gs : List sy_CF) (d2 bud2 : Nat) (lvc : ri_L) (stc : List Value) (w : List ri_E) (fr : Nat), (∃ m, ρ = m ++ ρs) → sy_frs ρ fs gs → sy_bot C M0 gs M d2 bud2 → d ≤ d2 → bud ≤ bud2 → sy_ok ρ K → sy_lv ρ lv lvc → sy_st ρ st stc → sy_WI T C w0 w → sy_hok ρ H w → sy_ru RU D w → sy_Ev E d2 bud2 M cur pc lvc stc w nc ns fr (sy_Pk E Q gs) := by
      intro fs d bud M ix cur pc lv st H D K nc ns hs hs' h hcur ρ gs d2 bud2 lvc stc w fr hext hf hb h1 h2 hk hlv hst hw hh hd
      unfold sy_instr at h
      split at h
      · rename_i o nxt
        obtain ⟨pc9, κ, i, a, b, v, ts⟩ := o
        cases hc : Nat.beq pc9 pc with
        | false => dsimp only at h; rw [hc] at h; cases h
        | true =>
          dsimp only at h
          rw [hc, cond_true] at h
          have e9 : pc9 = pc := Nat.eq_of_beq_eq_true hc
          subst e9
          exact sy_exec_ok hih hCT hal hs0 hn h hcur hext hf hb h1 h2 hk hlv hst hw hh hd
      · cases h
    have stp : ∀ (fs : List sy_Fr) (d bud : Nat) (M : ri_M) (ix : Nat) (cur : List ri_Op) (pc : Nat) (lv : sy_L) (st : List sy_V) (H : sy_H) (D : List Nat) (K : sy_K) (nc ns : Nat) (hs hs' : List sy_Hn), sy_step (sy_e4 E) T RU CT C CU μ0 cb (sy_run (sy_e4 E) T RU CT C CU μ0 cb n) fs d bud M ix cur pc lv st H D K nc ns hs = some hs' → cur = M.2.2.2.2.2.drop ix →
        ∀ (ρ : List Int) (gs : List sy_CF) (d2 bud2 : Nat) (lvc : ri_L) (stc : List Value) (w : List ri_E) (fr : Nat), (∃ m, ρ = m ++ ρs) → sy_frs ρ fs gs → sy_bot C M0 gs M d2 bud2 → d ≤ d2 → bud ≤ bud2 → sy_ok ρ K → sy_lv ρ lv lvc → sy_st ρ st stc → sy_WI T C w0 w → sy_hok ρ H w → sy_ru RU D w → sy_Ev E d2 bud2 M cur pc lvc stc w nc ns fr (sy_Pk E Q gs) := by
      intro fs d bud M ix cur pc lv st H D K nc ns hs hs' h hcur ρ gs d2 bud2 lvc stc w fr hext hf hb h1 h2 hk hlv hst hw hh hd
      unfold sy_step at h
      split at h
      · split at h
        · rename_i cu hcu
          obtain ⟨hm, hix⟩ := sy_isc_mem hcu
          cases gs with
          | cons G gs => exact hf.elim
          | nil =>
            obtain ⟨b1, b2, b3⟩ := hb
            subst b1
            split at h
            · rename_i o nxt
              cases hc : Nat.beq o.1 pc with
              | false => rw [hc] at h; cases h
              | true =>
                rw [hc, cond_true] at h
                have e9 : o.1 = pc := Nat.eq_of_beq_eq_true hc
                have hop : M.2.2.2.2.2.drop cu.1 = o :: nxt := by rw [hix]; exact hcur.symm
                have h9 := sy_cut_ok (M0 := M) (o := o) (nxt := nxt) (fr := fr) h hm hcut hdom hs0 hn.1 hext b2 b3 hop hk hlv hst hw hh hd
                rw [hop, e9] at h9
                exact h9
            · cases h
        · exact inst _ _ _ _ _ _ _ _ _ _ _ _ _ _ _ _ h hcur ρ gs d2 bud2 lvc stc w fr hext hf hb h1 h2 hk hlv hst hw hh hd
      · exact inst _ _ _ _ _ _ _ _ _ _ _ _ _ _ _ _ h hcur ρ gs d2 bud2 lvc stc w fr hext hf hb h1 h2 hk hlv hst hw hh hd
    intro fs d bud M ix cur pc lv st H D K nc ns hs hs' h hcur ρ gs d2 bud2 lvc stc w fr hext hf hb h1 h2 hk hlv hst hw hh hd
    have h0 : sy_go (sy_e4 E) T RU CT C CU μ0 cb (sy_run (sy_e4 E) T RU CT C CU μ0 cb n) fs d bud M ix cur pc lv st H D K nc ns hs = some hs' := h
    unfold sy_go at h0
    split at h0
    · rename_i h9 t9
      cases hc : (Nat.beq h9.1 0 && Nat.blt h9.2.1 20) with
      | true =>
        rw [hc, cond_true] at h0
        exact sy_cmd_ok hih h0 hcur hext hf hb h1 h2 hk hlv hst hw hh hd
      | false =>
        rw [hc, cond_false] at h0
        exact stp _ _ _ _ _ _ _ _ _ _ _ _ _ _ _ _ h0 hcur ρ gs d2 bud2 lvc stc w fr hext hf hb h1 h2 hk hlv hst hw hh hd
    · exact stp _ _ _ _ _ _ _ _ _ _ _ _ _ _ _ _ h0 hcur ρ gs d2 bud2 lvc stc w fr hext hf hb h1 h2 hk hlv hst hw hh hd
end SYK
/-- a segment of a method: from its beginning (no cut) or from a cut; the first instruction is no cut -/
noncomputable def sy_seg (E : sy_en) (T : Nat → Option sy_C) (RU : sy_RT) (CT : List sy_Ct) (C : sy_Ct) (CU : List sy_Cut) (M : ri_M) (n : Nat) (cu : Option sy_Cut) (hs : List sy_Hn) : Bool := match cu with
  | none => (match sy_run E T RU CT C CU none (0, 0) n [] C.2.1 C.2.2.1 M 0 M.2.2.2.2.2 0 (sy_args 0 C.2.2.2.1) [] C.2.2.2.2.2.1 C.2.2.2.2.2.2.1 C.2.2.2.2.1 0 0 hs with
    | some _ => true
    | none => false)
  | some cu => (match ri_drop M.2.2.2.2.2 cu.1 with
    | o :: nxt => sy_dom cu.2.2.1.1.length cu.2.2.2.2.2 && (Nat.ble C.2.2.2.2.1.1.length cu.2.2.1.1.length && (match sy_exec E T RU CT C (sy_run E T RU CT C CU (some cu.2.2.2.2.2) (0, 0) n) [] C.2.1 C.2.2.1 M cu.1 nxt cu.2.1 [] cu.2.2.2.1 cu.2.2.2.2.1 cu.2.2.1 0 0 hs o.1 o.2.1 o.2.2.1 o.2.2.2.1 o.2.2.2.2.1 o.2.2.2.2.2.1 o.2.2.2.2.2.2 with
      | some _ => true
      | none => false))
    | [] => false)
