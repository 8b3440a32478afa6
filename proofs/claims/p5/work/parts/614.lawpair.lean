/-! ===== the law, part 1: a call of both in two calls, one behind the other ===== -/
theorem lw_det {E : sy_env} {n1 n2 d bud : Nat} {M : ri_M} {cur : List ri_Op} {pc : Nat} {lv : ri_L} {st : List Value} {w : List ri_E} {nc ns fr : Nat} {o1 o2 : ri_Out} (h1 : sy_rr E n1 d bud M cur pc lv st w nc ns fr = some o1) (h2 : sy_rr E n2 d bud M cur pc lv st w nc ns fr = some o2) : o1 = o2 := by
  have a := sy_rr_more (Nat.le_max_left n1 n2) h1
  have b := sy_rr_more (Nat.le_max_right n1 n2) h2
  exact Option.some.inj (a.symm.trans b)
/-- what the second one is called with: refs (even codes), what the first one was called with (odd codes) -/
noncomputable def lw_bv (vals : List sy_V) (ks : List Nat) : Option (List sy_V) := List.rec (some []) (fun k _ ih => match ih with
  | some r => bif Nat.beq (k % 2) 0 then some ((3, .inr (k / 2), .inl 0) :: r) else (match ri_nth vals (k / 2) with
    | some a => some (a :: r)
    | none => none)
  | none => none) ks
theorem lw_st_at {ρ : List Int} : ∀ {as : List sy_V} {vs : List Value} {i : Nat} {a : sy_V}, sy_st ρ as vs → as[i]? = some a → ∃ v : Value, sy_is ρ a v
  | [], _, _, _, _, h => by cases h
  | a :: as, [], _, _, h, _ => (h : False).elim
  | a :: as, v :: vs, 0, b, h, e => by
    cases e
    exact ⟨v, h.1⟩
  | a :: as, v :: vs, i + 1, b, h, e => lw_st_at h.2 e
theorem lw_bv_ok {ρ : List Int} {vals : List sy_V} {valsc : List Value} (hv : sy_st ρ vals valsc) : ∀ {ks : List Nat} {bv : List sy_V}, lw_bv vals ks = some bv → ∃ bvc : List Value, sy_st ρ bv bvc
  | [], bv, h => by
    cases h
    exact ⟨[], trivial⟩
  | k :: ks, bv, h => by
    have h2 : (match lw_bv vals ks with
      | some r => bif Nat.beq (k % 2) 0 then some ((3, .inr (k / 2), .inl 0) :: r) else (match ri_nth vals (k / 2) with
        | some a => some (a :: r)
        | none => none)
      | none => none) = some bv := h
    split at h2
    · rename_i r hr
      obtain ⟨rc, hrc⟩ := lw_bv_ok hv hr
      cases hb : Nat.beq (k % 2) 0 with
      | true =>
        rw [hb, cond_true] at h2
        cases h2
        exact ⟨.ref (k / 2) :: rc, ⟨⟨k / 2, rfl, rfl⟩, hrc⟩⟩
      | false =>
        rw [hb, cond_false] at h2
        split at h2
        · rename_i a ha
          cases h2
          rw [ri_nth_eq] at ha
          obtain ⟨v, hv9⟩ := lw_st_at hv ha
          exact ⟨v :: rc, ⟨hv9, hrc⟩⟩
        · cases h2
    · cases h2
noncomputable def lw_eqs : List sy_V → List sy_V → Bool
  | [], [] => true
  | a :: as, b :: bs => ((Nat.beq a.1 b.1 && (Nat.beq a.1 0 || Nat.beq a.1 3)) && sy_eeq a.2.1 b.2.1) && lw_eqs as bs
  | _, _ => false
theorem lw_eqs_ok {ρ : List Int} : ∀ {as bs : List sy_V} {vs us : List Value}, lw_eqs as bs = true → sy_st ρ as vs → sy_st ρ bs us → vs = us
  | [], [], [], [], _, _, _ => rfl
  | [], [], _ :: _, _, _, h, _ => (h : False).elim
  | [], [], [], _ :: _, _, _, h => (h : False).elim
  | [], _ :: _, _, _, h, _, _ => by cases h
  | _ :: _, [], _, _, h, _, _ => by cases h
  | _ :: _, _ :: _, [], _, _, h, _ => (h : False).elim
  | _ :: _, _ :: _, _ :: _, [], _, _, h => (h : False).elim
  | (t, e, e2) :: as, (t2, f, f2) :: bs, v :: vs, u :: us, h, h1, h2 => by
    have h3 : (((Nat.beq t t2 && (Nat.beq t 0 || Nat.beq t 3)) && sy_eeq e f) && lw_eqs as bs) = true := h
    rw [Bool.and_eq_true, Bool.and_eq_true, Bool.and_eq_true, Bool.or_eq_true] at h3
    obtain ⟨⟨⟨a1, a2⟩, a3⟩, a4⟩ := h3
    have b1 : t = t2 := Nat.eq_of_beq_eq_true a1
    subst b1
    have b2 := sy_eeq_ok a3
    subst b2
    rw [lw_eqs_ok a4 h1.2 h2.2]
    rcases a2 with a2 | a2
    · have b3 : t = 0 := Nat.eq_of_beq_eq_true a2
      subst b3
      obtain ⟨x, rfl, g1⟩ := (h1.1 : ∃ x : Int32, v = .int x ∧ sy_ev ρ e = some x.toInt)
      obtain ⟨y, rfl, g2⟩ := (h2.1 : ∃ x : Int32, u = .int x ∧ sy_ev ρ e = some x.toInt)
      rw [Int32.toInt_inj.mp (Option.some.inj (g1.symm.trans g2))]
    · have b3 : t = 3 := Nat.eq_of_beq_eq_true a2
      subst b3
      obtain ⟨x, rfl, g1⟩ := (h1.1 : ∃ q : Nat, v = .ref q ∧ e = .inr q)
      obtain ⟨y, rfl, g2⟩ := (h2.1 : ∃ q : Nat, u = .ref q ∧ e = .inr q)
      rw [g1] at g2
      cases g2
      rfl
/-- what stands between the two calls: instructions that touch no heap -/
abbrev lw_Y : Type := Nat × ri_Op × List ri_Op × sy_L × List sy_V × sy_K × List sy_Hn
noncomputable def lw_pu (M : ri_M) (ih : Nat → List ri_Op → Nat → sy_L → List sy_V → sy_K → List sy_Hn → Option lw_Y) (ix : Nat) (o : ri_Op) (nxt : List ri_Op) (pc : Nat) (lv : sy_L) (st : List sy_V) (K : sy_K) (hs : List sy_Hn) : Option lw_Y := match sy_pure M.2.2.1 o.2.2.1 pc lv st K with
  | some [z] => ih (sy_nx M ix o.2.2.2.2.2.2 z.1) (ri_next M nxt o.2.2.2.2.2.2 z.1) z.2.1 z.2.2.1 z.2.2.2.1 z.2.2.2.2 hs
  | _ => none
noncomputable def lw_st (M : ri_M) (ih : Nat → List ri_Op → Nat → sy_L → List sy_V → sy_K → List sy_Hn → Option lw_Y) (ix : Nat) (cur : List ri_Op) (pc : Nat) (lv : sy_L) (st : List sy_V) (K : sy_K) (hs : List sy_Hn) : Option lw_Y := match cur with
  | o :: nxt => bif Nat.beq o.1 pc then (match o.2.1 with
    | 4 => some (ix, o, nxt, lv, st, K, hs)
    | 0 => lw_pu M ih ix o nxt pc lv st K (sy_tick hs)
    | 17 => bif sy_conc o.2.2.2.1 st then lw_pu M ih ix o nxt pc lv st K (sy_tick hs) else none
    | 24 => (match sy_tick hs with
      | h :: t => sy_q1 0 st (fun e st => sy_q3 st (fun q r => bif Nat.beq h.2.1 24 && (Nat.beq q 1000000 && (Nat.blt h.2.2.1 6 && (sy_prv K (sy_te e ++ ((-(h.2.2.1 : Int), []) :: sy_sc (-1) (sy_te (.inr 0)))) (sy_c0 h.2.2.2.2.2.2.1) && sy_prv K (((h.2.2.1 : Int), []) :: (sy_te (.inr 0) ++ sy_sc (-1) (sy_te e))) (sy_c11 h.2.2.2.2.2.2.1)))) then ih (ix + 1) nxt (pc + 1) lv ((0, .inr (3 + h.2.2.1), .inl 0) :: r) K t else none))
      | [] => none)
    | _ => none) else none
  | [] => none
noncomputable def lw_mid (M : ri_M) (n : Nat) : Nat → List ri_Op → Nat → sy_L → List sy_V → sy_K → List sy_Hn → Option lw_Y := Nat.rec (fun _ _ _ _ _ _ _ => none) (fun _ ih => lw_st M ih) n
theorem lw_mid_ok {E : sy_env} {ρ0 : List Int} (hSc : sy_Sc E ρ0) {M : ri_M} : ∀ {n ix : Nat} {cur : List ri_Op} {pc : Nat} {lv : sy_L} {st : List sy_V} {K : sy_K} {hs : List sy_Hn} {y : lw_Y}, lw_mid M n ix cur pc lv st K hs = some y → cur = M.2.2.2.2.2.drop ix → ∀ (ρ : List Int) (lvc : ri_L) (stc : List Value), (∃ m, ρ = m ++ ρ0) → sy_ok ρ K → sy_lv ρ lv lvc → sy_st ρ st stc →
    ∃ (m : List Int) (l2 : ri_L) (s2 : List Value), sy_ok (m ++ ρ) y.2.2.2.2.2.1 ∧ sy_lv (m ++ ρ) y.2.2.2.1 l2 ∧ sy_st (m ++ ρ) y.2.2.2.2.1 s2 ∧ y.2.1 :: y.2.2.1 = M.2.2.2.2.2.drop y.1 ∧ ∀ (d bud : Nat) (w : List ri_E) (nc ns fr : Nat) (P : ri_Out → Prop), sy_Ev E d bud M (y.2.1 :: y.2.2.1) y.2.1.1 l2 s2 w nc ns fr P → sy_Ev E d bud M cur pc lvc stc w nc ns fr P
  | 0, _, _, _, _, _, _, _, _, h, _ => by cases h
  | n + 1, ix, cur, pc, lv, st, K, hs, y, h, hcur => by
    intro ρ lvc stc hext hk hlv hst
    have h0 : lw_st M (lw_mid M n) ix cur pc lv st K hs = some y := h
    unfold lw_st at h0
    split at h0
    · rename_i o nxt
      obtain ⟨pc9, κ, i, a, b, v, ts⟩ := o
      cases hc : Nat.beq pc9 pc with
      | false => dsimp only at h0; rw [hc] at h0; cases h0
      | true =>
        dsimp only at h0
        rw [hc, cond_true] at h0
        have e9 : pc9 = pc := Nat.eq_of_beq_eq_true hc
        subst e9
        have hnx := sy_nxt_ok hcur
        have pure : ∀ hs2 : List sy_Hn, lw_pu M (lw_mid M n) ix (pc9, κ, i, a, b, v, ts) nxt pc9 lv st K hs2 = some y → ∃ (m : List Int) (l2 : ri_L) (s2 : List Value), sy_ok (m ++ ρ) y.2.2.2.2.2.1 ∧ sy_lv (m ++ ρ) y.2.2.2.1 l2 ∧ sy_st (m ++ ρ) y.2.2.2.2.1 s2 ∧ y.2.1 :: y.2.2.1 = M.2.2.2.2.2.drop y.1 ∧ ∃ z, ri_pure M.2.2.1 i pc9 lvc stc = some z ∧ ∀ (d bud : Nat) (w : List ri_E) (nc ns fr : Nat) (P : ri_Out → Prop), sy_Ev E d bud M (y.2.1 :: y.2.2.1) y.2.1.1 l2 s2 w nc ns fr P → sy_Ev E d bud M (ri_next M nxt ts z.1) z.2.1 z.2.2.1 z.2.2.2 w nc ns fr P := by
          intro hs2 h5
          unfold lw_pu at h5
          dsimp only at h5
          split at h5
          · rename_i z hz
            obtain ⟨o, ho, m, lz, sz, e1, e2, e3, e4⟩ := sy_pure_ok hz hk hlv hst
            have eo : o = z := List.mem_singleton.mp ho
            subst eo
            obtain ⟨m0, rfl⟩ := hext
            obtain ⟨m2, l2, s2, k1, k2, k3, k4, k5⟩ := lw_mid_ok hSc h5 (sy_nx_ok hcur) (m ++ (m0 ++ ρ0)) lz sz ⟨m ++ m0, by rw [List.append_assoc]⟩ e4 e2 e3
            exact ⟨m2 ++ m, l2, s2, by rw [List.append_assoc]; exact k1, by rw [List.append_assoc]; exact k2, by rw [List.append_assoc]; exact k3, k4, _, e1, k5⟩
          · cases h5
        split at h0
        · cases h0
          exact ⟨[], lvc, stc, hk, hlv, hst, hcur, fun d bud w nc ns fr P hP => hP⟩
        · obtain ⟨m, l2, s2, k1, k2, k3, k4, z, e1, k5⟩ := pure _ h0
          exact ⟨m, l2, s2, k1, k2, k3, k4, fun d bud w nc ns fr P hP => sy_ev0 e1 (k5 d bud w nc ns fr P hP)⟩
        · cases hcc : sy_conc a st with
          | false => rw [hcc] at h0; cases h0
          | true =>
            rw [hcc, cond_true] at h0
            obtain ⟨m, l2, s2, k1, k2, k3, k4, z, e1, k5⟩ := pure _ h0
            exact ⟨m, l2, s2, k1, k2, k3, k4, fun d bud w nc ns fr P hP => sy_ev17 (sy_conc_ok hcc hst) e1 (k5 d bud w nc ns fr P hP)⟩
        · split at h0
          · rename_i h9 t9 _
            obtain ⟨e, st1, j, rc1, g1, rfl, hj, hs1⟩ := sy_int_top h0 hst
            obtain ⟨q, r, rc, g2, rfl, hr⟩ := sy_ref_top g1 hs1
            cases hc2 : (Nat.beq h9.2.1 24 && (Nat.beq q 1000000 && (Nat.blt h9.2.2.1 6 && (sy_prv K (sy_te e ++ ((-(h9.2.2.1 : Int), []) :: sy_sc (-1) (sy_te (.inr 0)))) (sy_c0 h9.2.2.2.2.2.2.1) && sy_prv K (((h9.2.2.1 : Int), []) :: (sy_te (.inr 0) ++ sy_sc (-1) (sy_te e))) (sy_c11 h9.2.2.2.2.2.2.1))))) with
            | false => rw [hc2] at g2; cases g2
            | true =>
              rw [hc2, cond_true] at g2
              simp only [Bool.and_eq_true] at hc2
              obtain ⟨-, c2, c5, c3, c4⟩ := hc2
              obtain ⟨x0, s2, s3, s4, s5⟩ := hSc
              have eq9 : q = 1000000 := Nat.eq_of_beq_eq_true c2
              subst eq9
              have c6 : h9.2.2.1 < 6 := Nat.le_of_ble_eq_true c5
              obtain ⟨y9, hy1, hy2⟩ := s5 h9.2.2.1 c6
              have up : ∀ (k : Nat) (z : Int), sy_at ρ0 k = some z → sy_ev ρ (.inr k) = some z := by
                intro k z hz
                obtain ⟨m, rfl⟩ := hext
                exact sy_at_app hz m
              have a0 := up 0 x0 s2
              have p1 := sy_prv_ok c3 hk
              have p2 := sy_prv_ok c4 hk
              rw [sy_app_ep, (sy_te_ok hj).2] at p1
              have p1' : 0 ≤ j.toInt + (-(h9.2.2.1 : Int) * 1 + sy_ep (sy_tot ρ) (sy_sc (-1) (sy_te (.inr 0)))) := p1
              rw [sy_sc_ep, (sy_te_ok a0).2] at p1'
              have p3 : 0 ≤ (h9.2.2.1 : Int) * 1 + sy_ep (sy_tot ρ) (sy_te (.inr 0) ++ sy_sc (-1) (sy_te e)) := p2
              rw [sy_app_ep, sy_sc_ep, (sy_te_ok hj).2, (sy_te_ok a0).2] at p3
              have j0 : ¬ j < 0 := by
                intro z
                rw [Int32.lt_iff_toInt_lt] at z
                have z0 : (0 : Int32).toInt = 0 := rfl
                omega
              have e5 : (j.toNatClampNeg : Int) = j.toInt := Int.toNat_of_nonneg (by omega)
              have j1 : j.toNatClampNeg < E.2.2.2.2.2.2.1 := by omega
              have j2 : j.toNatClampNeg = x0.toNat + h9.2.2.1 := by omega
              obtain ⟨m2, l2, s9, k1, k2, k3, k4, k5⟩ := lw_mid_ok ⟨x0, s2, s3, s4, s5⟩ g2 hnx ρ lvc (.int y9 :: rc) hext hk hlv ⟨⟨y9, rfl, up _ _ hy2⟩, hr⟩
              refine ⟨m2, l2, s9, k1, k2, k3, k4, fun d bud w nc ns fr P hP => sy_ev24 j0 j1 ?_⟩
              rw [j2, hy1]
              exact k5 d bud w nc ns fr P hP
          · cases h0
        · cases h0
    · cases h0
