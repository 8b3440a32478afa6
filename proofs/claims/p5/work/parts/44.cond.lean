/-! ===== the surveyor, part 4: quotients, comparisons ===== -/
section SYD
variable {ρ : List Int} {K K' : sy_K} {t : Nat} {a b : sy_E} {x y z0 : Int} {v : Value} {c : sy_V}
theorem sy_mul_dom {n : Nat} : ∀ {e1 e2 : sy_E}, sy_dom n (sy_te e1) = true → sy_dom n (sy_te e2) = true → sy_dom n (sy_mul (sy_te e1) (sy_te e2)) = true
  | .inl _, .inl _, _, _ => rfl
  | .inl _, .inr _, _, h => h
  | .inr _, .inl _, h, _ => h
  | .inr i1, .inr i2, d1, d2 => by
    have d1' : ((Nat.blt i1 n && true) && true) = true := d1
    have d2' : ((Nat.blt i2 n && true) && true) = true := d2
    rw [Bool.and_true, Bool.and_true] at d1' d2'
    show sy_dom n [(1 * 1, sy_in i1 [i2])] = true
    have e8 : sy_in i1 [i2] = @Bool.rec (fun _ => List Nat) [i2, i1] [i1, i2] (Nat.ble i1 i2) := rfl
    rw [e8]
    cases Nat.ble i1 i2 with
    | true => show ((Nat.blt i1 n && (Nat.blt i2 n && true)) && true) = true; rw [d1', d2']; rfl
    | false => show ((Nat.blt i2 n && (Nat.blt i1 n && true)) && true) = true; rw [d1', d2']; rfl
theorem sy_div_ok (hk : sy_ok ρ K) (ha : sy_ev ρ a = some x) (hb : sy_ev ρ b = some y) (h : sy_div t a b K = some (c, K')) : y ≠ 0 ∧ (sy_nm t v z0 → (sy_lo t ≤ x.tdiv y → x.tdiv y ≤ sy_hi t → z0 = x.tdiv y) → ∃ m : List Int, sy_ok (m ++ ρ) K' ∧ sy_is (m ++ ρ) c v) := by
  unfold sy_div at h
  split at h
  · rename_i r s hr hs
    have i1 := sy_iv_ok hk hr ha
    have i2 := sy_iv_ok hk hs hb
    obtain ⟨d1, p1⟩ := sy_te_ok ha
    obtain ⟨d2, p2⟩ := sy_te_ok hb
    cases hc : (sy_le 0 r.1 && sy_le 1 s.1) with
    | true =>
      rw [hc, cond_true] at h
      rw [Bool.and_eq_true, sy_le_iff, sy_le_iff] at hc
      have e := Option.some.inj h
      refine ⟨by omega, fun hv hw => ?_⟩
      have hx0 : 0 ≤ x := by omega
      have hy0 : 0 < y := by omega
      have eq9 : x.tdiv y = x / y := Int.tdiv_eq_ediv_of_nonneg hx0
      rw [eq9] at hw
      have q1 : x / y * y ≤ x := Int.ediv_mul_le x (by omega)
      have q2 : x < (x / y + 1) * y := Int.lt_ediv_add_one_mul_self x hy0
      have q0 : 0 ≤ x / y := Int.ediv_nonneg hx0 (by omega)
      have b1 : r.1 / s.2 ≤ x / y := by
        apply Int.le_ediv_of_mul_le hy0
        have w1 : r.1 / s.2 * s.2 ≤ r.1 := Int.ediv_mul_le _ (by omega)
        have w0 : 0 ≤ r.1 / s.2 := Int.ediv_nonneg hc.1 (by omega)
        have w2 := Int.mul_le_mul_of_nonneg_left i2.2 w0
        omega
      have b2 : x / y ≤ r.2 / s.1 := by
        apply Int.le_ediv_of_mul_le (by omega)
        have w2 := Int.mul_le_mul_of_nonneg_left i2.1 q0
        omega
      have dn : sy_dom (ρ.length + 1) (sy_te (.inr ρ.length)) = true := by
        show ((Nat.blt ρ.length (ρ.length + 1) && true) && true) = true
        rw [show Nat.blt ρ.length (ρ.length + 1) = true from Nat.ble_eq_true_of_le (Nat.le_refl _)]; rfl
      have d1' := sy_dom_more (Nat.le_succ ρ.length) d1
      have d2' := sy_dom_more (Nat.le_succ ρ.length) d2
      have u1 : sy_ep (sy_tot (x / y :: ρ)) (sy_te a) = x := by
        have := sy_dom_app (m := [x / y]) d1
        rw [p1] at this; exact this
      have u2 : sy_ep (sy_tot (x / y :: ρ)) (sy_te b) = y := by
        have := sy_dom_app (m := [x / y]) d2
        rw [p2] at this; exact this
      have u3 : sy_ep (sy_tot (x / y :: ρ)) (sy_te (.inr ρ.length)) = x / y := by
        have e1 : sy_tot (x / y :: ρ) ρ.length = x / y := by unfold sy_tot; rw [sy_at_new]; rfl
        show 1 * (sy_tot (x / y :: ρ) ρ.length * 1) + 0 = x / y
        rw [e1]; omega
      have h9 := sy_mk_ok (z := x / y) (lo := r.1 / s.2) (hi := r.2 / s.1) (fs := [sy_te a ++ sy_sc (-1) (sy_mul (sy_te (.inr K.1.length)) (sy_te b)), sy_mul (sy_te (.inr K.1.length)) (sy_te b) ++ (sy_te b ++ ((-1, []) :: sy_sc (-1) (sy_te a)))]) hk hv b1 b2 hw ?_
      · rw [e] at h9
        exact h9
      · rw [← hk.1]
        intro p hp
        rcases List.mem_cons.mp hp with rfl | hp
        · refine ⟨sy_app_dom _ d1' (sy_sc_dom _ _ (sy_mul_dom dn d2')), ?_⟩
          rw [sy_app_ep, sy_sc_ep, sy_mul_eq, u1, u2, u3]
          omega
        · rw [List.mem_singleton.mp hp]
          refine ⟨sy_app_dom _ (sy_mul_dom dn d2') (sy_app_dom _ d2' ?_), ?_⟩
          · show (true && sy_dom (ρ.length + 1) (sy_sc (-1) (sy_te a))) = true
            rw [sy_sc_dom _ _ d1']; rfl
          · rw [sy_app_ep, sy_app_ep, sy_mul_eq, u2, u3]
            show 0 ≤ x / y * y + (y + (-1 * 1 + sy_ep (sy_tot (x / y :: ρ)) (sy_sc (-1) (sy_te a))))
            rw [sy_sc_ep, u1]
            rw [Int.add_mul] at q2
            omega
    | false =>
      rw [hc, cond_false] at h
      cases hd : (sy_le 1 s.1 || sy_le s.2 (-1)) with
      | true =>
        rw [hd, cond_true] at h
        rw [Bool.or_eq_true, sy_le_iff, sy_le_iff] at hd
        have e := Option.some.inj h
        refine ⟨by omega, fun hv hw => ?_⟩
        have n1 := Int.natAbs_tdiv_le_natAbs x y
        have m1 := sy_mn_le r.1 (- r.2)
        have m2 := sy_mx_le r.2 (- r.1)
        have h9 := sy_mk_ok (lo := sy_mn r.1 (- r.2)) (hi := sy_mx r.2 (- r.1)) (fs := []) hk hv (by omega) (by omega) hw (fun p hp => by cases hp)
        rw [e] at h9
        exact h9
      | false =>
        rw [hd, cond_false] at h
        cases h
  · cases h
/-- a remainder -/
noncomputable def sy_rem (a b : sy_E) (K : sy_K) : Option (sy_V × sy_K) := match sy_div 0 a b K, sy_iv K a, sy_iv K b with
  | some z, some r, some s => bif (sy_le 0 r.1 && sy_le 1 s.1) && Nat.beq z.1.1 0 then some (sy_mk 0 0 (s.2 - 1) (sy_eq2 z.2.1.length (sy_te a ++ sy_sc (-1) (sy_mul (sy_te z.1.2.1) (sy_te b)))) z.2) else some (sy_any 0 K)
  | _, _, _ => none
theorem sy_rem_ok {p q : Int32} (hk : sy_ok ρ K) (ha : sy_ev ρ a = some p.toInt) (hb : sy_ev ρ b = some q.toInt) (h : sy_rem a b K = some (c, K')) : q ≠ 0 ∧ ∃ m : List Int, sy_ok (m ++ ρ) K' ∧ sy_is (m ++ ρ) c (.int (p - p / q * q)) := by
  unfold sy_rem at h
  split at h
  · rename_i z r s hz hr hs
    have hd := fun (v : Value) (z0 : Int) => sy_div_ok (v := v) (z0 := z0) (c := z.1) (K' := z.2) hk ha hb hz
    have hq0 : q.toInt ≠ 0 := (hd .null 0).1
    refine ⟨fun e9 => hq0 (by rw [e9]; rfl), ?_⟩
    cases hc : ((sy_le 0 r.1 && sy_le 1 s.1) && Nat.beq z.1.1 0) with
    | false =>
      rw [hc, cond_false] at h
      have e9 := Option.some.inj h
      have h9 := sy_any_ok hk (t := 0) (v := .int (p - p / q * q)) ⟨_, rfl, rfl⟩
      rw [e9] at h9
      exact h9
    | true =>
      rw [hc, cond_true] at h
      rw [Bool.and_eq_true, Bool.and_eq_true, sy_le_iff, sy_le_iff] at hc
      have i1 := sy_iv_ok hk hr ha
      have i2 := sy_iv_ok hk hs hb
      have x0 : 0 ≤ p.toInt := by omega
      have y1 : 1 ≤ q.toInt := by omega
      have hi := Int32.toInt_lt p
      have d0 : 0 ≤ p.toInt / q.toInt := Int.ediv_nonneg x0 (by omega)
      have d1 : p.toInt / q.toInt * q.toInt ≤ p.toInt := Int.ediv_mul_le _ (by omega)
      have d2 : p.toInt / q.toInt ≤ p.toInt := Int.ediv_le_self _ x0
      have d3 : p.toInt < (p.toInt / q.toInt + 1) * q.toInt := Int.lt_ediv_add_one_mul_self _ (by omega)
      have d4 : 0 ≤ p.toInt / q.toInt * q.toInt := Int.mul_nonneg d0 (by omega)
      rw [Int.add_mul, Int.one_mul] at d3
      have et : p.toInt.tdiv q.toInt = p.toInt / q.toInt := Int.tdiv_eq_ediv_of_nonneg x0
      have b9 : ∀ w : Int, 0 ≤ w → w ≤ p.toInt → w.bmod (2 ^ 32) = w := fun w w0 w1 => by
        rw [Int.bmod_def]; omega
      have eq9 : (p / q).toInt = p.toInt / q.toInt := by rw [Int32.toInt_div, et, b9 _ d0 d2]
      have em : (p / q * q).toInt = p.toInt / q.toInt * q.toInt := by rw [Int32.toInt_mul, eq9, b9 _ d4 d1]
      have es : (p - p / q * q).toInt = p.toInt - p.toInt / q.toInt * q.toInt := by rw [Int32.toInt_sub, em, b9 _ (by omega) (by omega)]
      obtain ⟨m1, k1, k2⟩ := (hd (.int (p / q)) (p / q).toInt).2 ⟨_, rfl, rfl⟩ (fun _ _ => by rw [eq9, et])
      obtain ⟨⟨t9, e, e2⟩, K9⟩ := z
      dsimp only at h k1 k2 hc
      have ht : t9 = 0 := Nat.eq_of_beq_eq_true hc.2
      subst ht
      obtain ⟨w, hw, he⟩ := sy_is_int k2
      cases hw
      have ha1 := sy_ev_app ha m1
      have hb1 := sy_ev_app hb m1
      obtain ⟨da, pa⟩ := sy_te_ok ha1
      obtain ⟨db, pb⟩ := sy_te_ok hb1
      obtain ⟨de, pe⟩ := sy_te_ok he
      have h9 := sy_mk_ok (t := 0) (lo := 0) (hi := s.2 - 1) (v := .int (p - p / q * q)) (z0 := (p - p / q * q).toInt) (z := p.toInt - p.toInt / q.toInt * q.toInt) (fs := sy_eq2 K9.1.length (sy_te a ++ sy_sc (-1) (sy_mul (sy_te e) (sy_te b)))) k1 ⟨_, rfl, rfl⟩ (by omega) (by omega) (fun _ _ => es) (by
        rw [← k1.1]
        refine sy_eq2_ok (sy_app_dom _ da (sy_sc_dom _ _ (sy_mul_dom de db))) ?_
        rw [sy_app_ep, sy_sc_ep, sy_mul_eq, pa, pb, pe, eq9]
        omega)
      rw [Option.some.inj h] at h9
      obtain ⟨m2, g1, g2⟩ := h9
      exact ⟨m2 ++ m1, by rw [List.append_assoc]; exact g1, by rw [List.append_assoc]; exact g2⟩
  · cases h
end SYD
/-! narrower ranges -/
noncomputable def sy_nar (e : sy_E) (lo hi : Int) (K : sy_K) : Option sy_K := match e with
  | .inl c => bif sy_le lo c && sy_le c hi then some K else none
  | .inr i => (match sy_at K.1 i with
    | some r => bif sy_le (sy_mx r.1 lo) (sy_mn r.2 hi) then some (ri_upd (sy_mx r.1 lo, sy_mn r.2 hi) K.1 (K.1.length - 1 - i), K.2) else none
    | none => none)
theorem sy_mx_lub {a b z : Int} (h1 : a ≤ z) (h2 : b ≤ z) : sy_mx a b ≤ z := by
  unfold sy_mx
  cases sy_le a b <;> assumption
theorem sy_mn_glb {a b z : Int} (h1 : z ≤ a) (h2 : z ≤ b) : z ≤ sy_mn a b := by
  unfold sy_mn
  cases sy_le a b <;> assumption
theorem sy_at_upd {α : Type} {l : List α} {i j : Nat} {x y : α} (hi : i < l.length) (h : sy_at (l.set (l.length - 1 - i) x) j = some y) : (j = i ∧ y = x) ∨ (j ≠ i ∧ sy_at l j = some y) := by
  have hj := sy_at_lt h
  rw [sy_at_eq, if_pos hj, List.length_set] at h
  rw [List.length_set] at hj
  by_cases e : j = i
  · subst e
    rw [List.getElem?_set_self (by omega)] at h
    exact Or.inl ⟨rfl, (Option.some.inj h).symm⟩
  · rw [List.getElem?_set_ne (by omega)] at h
    refine Or.inr ⟨e, ?_⟩
    rw [sy_at_eq, if_pos hj]; exact h
theorem sy_nar_ok {ρ : List Int} {K : sy_K} {e : sy_E} {lo hi x : Int} (hk : sy_ok ρ K) (hx : sy_ev ρ e = some x) (h1 : lo ≤ x) (h2 : x ≤ hi) : ∃ K' : sy_K, sy_nar e lo hi K = some K' ∧ sy_ok ρ K' := by
  cases e with
  | inl c =>
    cases hx
    refine ⟨K, ?_, hk⟩
    show (bif sy_le lo x && sy_le x hi then some K else none) = some K
    rw [sy_le_iff.mpr h1, sy_le_iff.mpr h2]; rfl
  | inr i =>
    obtain ⟨R, F⟩ := K
    have hl : ρ.length = R.length := hk.1
    have hx2 : sy_at ρ i = some x := hx
    have hi9 := sy_at_lt hx2
    obtain ⟨r, hr⟩ := sy_at_some (l := R) (i := i) (by rw [← hl]; exact hi9)
    have b := hk.2.1 i r hr x hx2
    have c1 := sy_mx_lub b.1 h1
    have c2 := sy_mn_glb b.2 h2
    refine ⟨(R.set (R.length - 1 - i) (sy_mx r.1 lo, sy_mn r.2 hi), F), ?_, ?_, ?_, ?_⟩
    · show (match sy_at R i with
        | some r => bif sy_le (sy_mx r.1 lo) (sy_mn r.2 hi) then some (ri_upd (sy_mx r.1 lo, sy_mn r.2 hi) R (R.length - 1 - i), F) else none
        | none => none) = _
      rw [hr]
      dsimp only
      rw [sy_le_iff.mpr (Int.le_trans c1 c2), cond_true, ri_upd_eq]
    · show ρ.length = (R.set _ _).length
      rw [List.length_set]; exact hl
    · intro j s hs y hy
      rcases sy_at_upd (by rw [← hl]; exact hi9) hs with ⟨rfl, rfl⟩ | ⟨hne, hs2⟩
      · rw [hx2] at hy
        cases hy
        exact ⟨c1, c2⟩
      · exact hk.2.1 j s hs2 y hy
    · exact hk.2.2
/-- lo of a number -/
noncomputable def sy_fact (a b : sy_E) (c : Int) (K : sy_K) : sy_K := match a, b with
  | .inr i, .inr j => (K.1, ((1, [j]) :: (-1, [i]) :: (c, []) :: []) :: K.2)
  | _, _ => K
theorem sy_fact_ok {ρ : List Int} {K : sy_K} {a b : sy_E} {x y c : Int} (hk : sy_ok ρ K) (hx : sy_ev ρ a = some x) (hy : sy_ev ρ b = some y) (h : 0 ≤ y - x + c) : sy_ok ρ (sy_fact a b c K) := by
  cases a with
  | inl c => exact hk
  | inr i => cases b with
    | inl c => exact hk
    | inr j =>
      have hx2 : sy_at ρ i = some x := hx
      have hy2 : sy_at ρ j = some y := hy
      refine ⟨hk.1, hk.2.1, ?_⟩
      intro p hp
      have hp2 : p = ((1, [j]) :: (-1, [i]) :: (c, []) :: []) ∨ p ∈ K.2 := List.mem_cons.mp hp
      rcases hp2 with rfl | hp2
      · refine ⟨?_, ?_⟩
        · show ((Nat.blt j ρ.length && true) && ((Nat.blt i ρ.length && true) && (true && true))) = true
          rw [show Nat.blt j ρ.length = true from Nat.ble_eq_true_of_le (sy_at_lt hy2), show Nat.blt i ρ.length = true from Nat.ble_eq_true_of_le (sy_at_lt hx2)]; rfl
        · show 0 ≤ 1 * (sy_tot ρ j * 1) + (-1 * (sy_tot ρ i * 1) + (c * 1 + 0))
          unfold sy_tot
          rw [hx2, hy2]
          show 0 ≤ 1 * (y * 1) + (-1 * (x * 1) + (c * 1 + 0))
          omega
      · exact hk.2.2 p hp2
/-- a is at most b + c (c 0: not above, c -1: below) -/
noncomputable def sy_asl (a b : sy_E) (c : Int) (K : sy_K) : Option sy_K := match sy_iv K a, sy_iv K b with
  | some r, some s => (match sy_nar a r.1 (s.2 + c) K with
    | some K1 => (match sy_nar b (r.1 - c) s.2 K1 with
      | some K2 => some (sy_fact a b c K2)
      | none => none)
    | none => none)
  | _, _ => none
theorem sy_iv_some {ρ : List Int} {K : sy_K} {e : sy_E} {x : Int} (hk : sy_ok ρ K) (hx : sy_ev ρ e = some x) : ∃ r, sy_iv K e = some r := by
  cases e with
  | inl c => exact ⟨(c, c), rfl⟩
  | inr i => exact sy_at_some (by rw [← hk.1]; exact sy_at_lt (show sy_at ρ i = some x from hx))
theorem sy_asl_ok {ρ : List Int} {K : sy_K} {a b : sy_E} {x y c : Int} (hk : sy_ok ρ K) (hx : sy_ev ρ a = some x) (hy : sy_ev ρ b = some y) (h : x ≤ y + c) : ∃ K' : sy_K, sy_asl a b c K = some K' ∧ sy_ok ρ K' := by
  obtain ⟨r, hr⟩ := sy_iv_some hk hx
  obtain ⟨s, hs⟩ := sy_iv_some hk hy
  have b1 := sy_iv_ok hk hr hx
  have b2 := sy_iv_ok hk hs hy
  obtain ⟨K1, e1, k1⟩ := sy_nar_ok (lo := r.1) (hi := s.2 + c) hk hx b1.1 (by omega)
  obtain ⟨K2, e2, k2⟩ := sy_nar_ok (lo := r.1 - c) (hi := s.2) k1 hy (by omega) b2.2
  refine ⟨sy_fact a b c K2, ?_, sy_fact_ok k2 hx hy (by omega)⟩
  unfold sy_asl
  rw [hr, hs]
  dsimp only
  rw [e1]
  dsimp only
  rw [e2]
noncomputable def sy_ase (a b : sy_E) (K : sy_K) : Option sy_K := match sy_asl a b 0 K with
  | some K1 => sy_asl b a 0 K1
  | none => none
theorem sy_ase_ok {ρ : List Int} {K : sy_K} {a b : sy_E} {x y : Int} (hk : sy_ok ρ K) (hx : sy_ev ρ a = some x) (hy : sy_ev ρ b = some y) (h : x = y) : ∃ K' : sy_K, sy_ase a b K = some K' ∧ sy_ok ρ K' := by
  obtain ⟨K1, e1, k1⟩ := sy_asl_ok (c := 0) hk hx hy (by omega)
  obtain ⟨K2, e2, k2⟩ := sy_asl_ok (c := 0) k1 hy hx (by omega)
  refine ⟨K2, ?_, k2⟩
  unfold sy_ase
  rw [e1]
  exact e2
/-- small enough to be told apart -/
noncomputable def sy_small (a : sy_E) (K : sy_K) : Bool := match sy_iv K a with
  | some r => sy_le (r.2 - r.1) 8
  | none => false
/-- the square of the difference, less 1 -/
noncomputable def sy_sq (a b : sy_E) : sy_P := (-1, []) :: (sy_mul (sy_te a) (sy_te a) ++ (sy_sc (-2) (sy_mul (sy_te a) (sy_te b)) ++ sy_mul (sy_te b) (sy_te b)))
theorem sy_sq_ok {ρ : List Int} {K : sy_K} {a b : sy_E} {x y : Int} (hk : sy_ok ρ K) (hx : sy_ev ρ a = some x) (hy : sy_ev ρ b = some y) (h : x ≠ y) : sy_ok ρ (K.1, sy_sq a b :: K.2) := by
  obtain ⟨d1, p1⟩ := sy_te_ok hx
  obtain ⟨d2, p2⟩ := sy_te_ok hy
  refine ⟨hk.1, hk.2.1, fun p hp => ?_⟩
  rcases List.mem_cons.mp hp with rfl | hp
  · refine ⟨?_, ?_⟩
    · show (true && sy_dom ρ.length (sy_mul (sy_te a) (sy_te a) ++ (sy_sc (-2) (sy_mul (sy_te a) (sy_te b)) ++ sy_mul (sy_te b) (sy_te b)))) = true
      rw [Bool.true_and]
      exact sy_app_dom _ (sy_mul_dom d1 d1) (sy_app_dom _ (sy_sc_dom _ _ (sy_mul_dom d1 d2)) (sy_mul_dom d2 d2))
    · show 0 ≤ -1 * 1 + sy_ep (sy_tot ρ) (sy_mul (sy_te a) (sy_te a) ++ (sy_sc (-2) (sy_mul (sy_te a) (sy_te b)) ++ sy_mul (sy_te b) (sy_te b)))
      rw [sy_app_ep, sy_app_ep, sy_sc_ep, sy_mul_eq, sy_mul_eq, sy_mul_eq, p1, p2]
      have hd : 1 ≤ (x - y) * (x - y) := by
        rcases Int.lt_or_gt_of_ne h with h1 | h1
        · have h2 : 1 ≤ y - x := by omega
          have h3 := Int.mul_le_mul h2 h2 (by decide) (by omega)
          have h4 : (y - x) * (y - x) = (x - y) * (x - y) := by rw [← Int.neg_sub x y, Int.neg_mul_neg]
          omega
        · have h2 : 1 ≤ x - y := by omega
          have h3 := Int.mul_le_mul h2 h2 (by decide) (by omega)
          omega
      have he : (x - y) * (x - y) = x * x - 2 * (x * y) + y * y := by
        rw [Int.sub_mul, Int.mul_sub, Int.mul_sub, Int.mul_comm y x]; omega
      omega
  · exact hk.2.2 p hp
noncomputable def sy_asn (a b : sy_E) (K : sy_K) : List sy_K := match sy_asl a b (-1) K with
  | some K1 => (match sy_asl b a (-1) K with
    | some K2 => bif sy_small a K && sy_small b K then [K1, K2] else [(K.1, sy_sq a b :: K.2)]
    | none => [K1])
  | none => (match sy_asl b a (-1) K with
    | some K2 => [K2]
    | none => [])
theorem sy_asn_ok {ρ : List Int} {K : sy_K} {a b : sy_E} {x y : Int} (hk : sy_ok ρ K) (hx : sy_ev ρ a = some x) (hy : sy_ev ρ b = some y) (h : x ≠ y) : ∃ K' ∈ sy_asn a b K, sy_ok ρ K' := by
  unfold sy_asn
  by_cases hc : x < y
  · obtain ⟨K1, e1, k1⟩ := sy_asl_ok (c := -1) hk hx hy (by omega)
    rw [e1]
    dsimp only
    split
    · cases (sy_small a K && sy_small b K) with
      | true => exact ⟨K1, List.mem_cons_self, k1⟩
      | false => exact ⟨_, List.mem_cons_self, sy_sq_ok hk hx hy h⟩
    · exact ⟨K1, List.mem_cons_self, k1⟩
  · obtain ⟨K2, e2, k2⟩ := sy_asl_ok (c := -1) hk hy hx (by omega)
    rw [e2]
    dsimp only
    split
    · cases (sy_small a K && sy_small b K) with
      | true => exact ⟨K2, List.mem_cons_of_mem _ List.mem_cons_self, k2⟩
      | false => exact ⟨_, List.mem_cons_self, sy_sq_ok hk hx hy h⟩
    · exact ⟨K2, List.mem_cons_self, k2⟩
/-- how a comparison can come out so -/
noncomputable def sy_alt (c : Jvm.ClassFile.Cond) (g : Bool) (a b : sy_E) (K : sy_K) : List sy_K := match c, g with
  | .eq, true => (sy_ase a b K).toList
  | .eq, false => sy_asn a b K
  | .ne, true => sy_asn a b K
  | .ne, false => (sy_ase a b K).toList
  | .lt, true => (sy_asl a b (-1) K).toList
  | .lt, false => (sy_asl b a 0 K).toList
  | .ge, true => (sy_asl b a 0 K).toList
  | .ge, false => (sy_asl a b (-1) K).toList
  | .gt, true => (sy_asl b a (-1) K).toList
  | .gt, false => (sy_asl a b 0 K).toList
  | .le, true => (sy_asl a b 0 K).toList
  | .le, false => (sy_asl b a (-1) K).toList
def sy_cz (c : Jvm.ClassFile.Cond) (x y : Int) : Bool := match c with
  | .eq => decide (x = y)
  | .ne => !decide (x = y)
  | .lt => decide (x < y)
  | .ge => decide (y ≤ x)
  | .gt => decide (y < x)
  | .le => decide (x ≤ y)
theorem sy_alt_ok {ρ : List Int} {K : sy_K} {a b : sy_E} {x y : Int} (hk : sy_ok ρ K) (hx : sy_ev ρ a = some x) (hy : sy_ev ρ b = some y) (c : Jvm.ClassFile.Cond) : ∃ K' ∈ sy_alt c (sy_cz c x y) a b K, sy_ok ρ K' := by
  have tl : ∀ {o : Option sy_K}, (∃ K' : sy_K, o = some K' ∧ sy_ok ρ K') → ∃ K' ∈ o.toList, sy_ok ρ K' := by
    rintro o ⟨K', rfl, h⟩
    exact ⟨K', List.mem_cons_self, h⟩
  unfold sy_alt
  cases c with
  | eq =>
    cases hc : sy_cz .eq x y with
    | true => exact tl (sy_ase_ok hk hx hy (of_decide_eq_true hc))
    | false => exact sy_asn_ok hk hx hy (of_decide_eq_false hc)
  | ne =>
    cases hc : sy_cz .ne x y with
    | true => exact sy_asn_ok hk hx hy (of_decide_eq_false (by have h2 : (!decide (x = y)) = true := hc; simpa using h2))
    | false => exact tl (sy_ase_ok hk hx hy (by have h2 : (!decide (x = y)) = false := hc; simpa using h2))
  | lt =>
    cases hc : sy_cz .lt x y with
    | true => have h2 : x < y := of_decide_eq_true hc; exact tl (sy_asl_ok hk hx hy (by omega))
    | false => have h2 : ¬ x < y := of_decide_eq_false hc; exact tl (sy_asl_ok hk hy hx (by omega))
  | ge =>
    cases hc : sy_cz .ge x y with
    | true => have h2 : y ≤ x := of_decide_eq_true hc; exact tl (sy_asl_ok hk hy hx (by omega))
    | false => have h2 : ¬ y ≤ x := of_decide_eq_false hc; exact tl (sy_asl_ok hk hx hy (by omega))
  | gt =>
    cases hc : sy_cz .gt x y with
    | true => have h2 : y < x := of_decide_eq_true hc; exact tl (sy_asl_ok hk hy hx (by omega))
    | false => have h2 : ¬ y < x := of_decide_eq_false hc; exact tl (sy_asl_ok hk hx hy (by omega))
  | le =>
    cases hc : sy_cz .le x y with
    | true => have h2 : x ≤ y := of_decide_eq_true hc; exact tl (sy_asl_ok hk hx hy (by omega))
    | false => have h2 : ¬ x ≤ y := of_decide_eq_false hc; exact tl (sy_asl_ok hk hy hx (by omega))
