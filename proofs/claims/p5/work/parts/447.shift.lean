/-! ===== the surveyor, part 44b: shifts right, bytes, bits ===== -/
theorem sy_sh5 : ∀ n : Fin 25, (((Int32.ofNat n.val &&& 31).toBitVec.smod 32).toNat = n.val) := by decide
theorem sy_sh6 : ∀ n : Fin 25, ((((Int32.ofNat n.val).toInt64 &&& 63).toBitVec.smod 64).toNat = n.val) := by decide
theorem sy_shr32 (x : Int32) (n : Nat) (h : n < 25) : (x >>> (Int32.ofNat n &&& 31)).toInt = x.toInt / (2 ^ n : Nat) := by
  have e : (x >>> (Int32.ofNat n &&& 31)).toInt = (x.toBitVec.sshiftRight (((Int32.ofNat n &&& 31).toBitVec.smod 32).toNat)).toInt := rfl
  rw [e, sy_sh5 ⟨n, h⟩, BitVec.toInt_sshiftRight, Int.shiftRight_eq_div_pow]
  rfl
theorem sy_shr64 (x : Int64) (n : Nat) (h : n < 25) : (x >>> ((Int32.ofNat n).toInt64 &&& 63)).toInt = x.toInt / (2 ^ n : Nat) := by
  have e : (x >>> ((Int32.ofNat n).toInt64 &&& 63)).toInt = (x.toBitVec.sshiftRight ((((Int32.ofNat n).toInt64 &&& 63).toBitVec.smod 64).toNat)).toInt := rfl
  rw [e, sy_sh6 ⟨n, h⟩, BitVec.toInt_sshiftRight, Int.shiftRight_eq_div_pow]
  rfl
/-- the quotient by q, rounded down -/
noncomputable def sy_fl (t : Nat) (a : sy_E) (q : Nat) (K : sy_K) : Option (sy_V × sy_K) := match sy_iv K a with
  | some r => some (sy_mk t (r.1 / (q : Int)) (r.2 / (q : Int)) [sy_te a ++ [(-(q : Int), [K.1.length])], ((q : Int), [K.1.length]) :: ((q : Int) - 1, []) :: sy_sc (-1) (sy_te a)] K)
  | none => none
theorem sy_fl_ok {ρ : List Int} {K K' : sy_K} {t q : Nat} {a : sy_E} {c : sy_V} {x z0 : Int} {v : Value} (hq : 0 < q) (hk : sy_ok ρ K) (ha : sy_ev ρ a = some x) (h : sy_fl t a q K = some (c, K')) (hv : sy_nm t v z0) (hw : z0 = x / (q : Int)) : ∃ m : List Int, sy_ok (m ++ ρ) K' ∧ sy_is (m ++ ρ) c v := by
  unfold sy_fl at h
  split at h
  · rename_i r hr
    have i1 := sy_iv_ok hk hr ha
    obtain ⟨d1, p1⟩ := sy_te_ok (ρ := x / (q : Int) :: ρ) (sy_ev_app ha [x / (q : Int)])
    have hq1 : (0 : Int) < (q : Int) := by omega
    have e1 : r.1 / (q : Int) ≤ x / (q : Int) := Int.ediv_le_ediv hq1 i1.1
    have e2 : x / (q : Int) ≤ r.2 / (q : Int) := Int.ediv_le_ediv hq1 i1.2
    have f1 : x / (q : Int) * (q : Int) ≤ x := Int.ediv_mul_le _ (by omega)
    have f2 : x < (x / (q : Int) + 1) * (q : Int) := Int.lt_ediv_add_one_mul_self _ hq1
    rw [Int.add_mul, Int.one_mul] at f2
    have hn : sy_tot (x / (q : Int) :: ρ) K.1.length = x / (q : Int) := by
      unfold sy_tot
      rw [← hk.1, sy_at_new]
      rfl
    have hl : Nat.blt K.1.length (ρ.length + 1) = true := Nat.ble_eq_true_of_le (by rw [hk.1]; exact Nat.le_refl _)
    have h9 := sy_mk_ok (t := t) (lo := r.1 / (q : Int)) (hi := r.2 / (q : Int)) (fs := [sy_te a ++ [(-(q : Int), [K.1.length])], ((q : Int), [K.1.length]) :: ((q : Int) - 1, []) :: sy_sc (-1) (sy_te a)]) hk hv e1 e2 (fun _ _ => hw) (by
      intro p hp
      rcases List.mem_cons.mp hp with rfl | hp
      · refine ⟨sy_app_dom _ d1 ?_, ?_⟩
        · show ((Nat.blt K.1.length (ρ.length + 1) && true) && true) = true
          rw [hl]; rfl
        · rw [sy_app_ep, p1]
          show 0 ≤ x + (-(q : Int) * (sy_tot (x / (q : Int) :: ρ) K.1.length * 1) + 0)
          rw [hn, Int.neg_mul, Int.mul_one, Int.mul_comm]
          omega
      · rcases List.mem_cons.mp hp with rfl | hp
        · refine ⟨?_, ?_⟩
          · show ((Nat.blt K.1.length (ρ.length + 1) && true) && (true && sy_dom (ρ.length + 1) (sy_sc (-1) (sy_te a)))) = true
            have d1' : sy_dom (ρ.length + 1) (sy_te a) = true := d1
            rw [hl, sy_sc_dom _ _ d1']; rfl
          · show 0 ≤ (q : Int) * (sy_tot (x / (q : Int) :: ρ) K.1.length * 1) + (((q : Int) - 1) * 1 + sy_ep (sy_tot (x / (q : Int) :: ρ)) (sy_sc (-1) (sy_te a)))
            rw [hn, sy_sc_ep, p1, Int.mul_one, Int.mul_one, Int.mul_comm]
            omega
        · cases hp)
    rw [Option.some.inj h] at h9
    exact h9
  · cases h
/-- a number that is known and not below 0 -/
noncomputable def sy_kc0 (K : sy_K) (e : sy_E) : Option Nat := match sy_iv K e with
  | some r => bif sy_le r.2 r.1 && sy_le 0 r.1 then some r.1.toNat else none
  | none => none
theorem sy_kc0_ok {ρ : List Int} {K : sy_K} {e : sy_E} {n : Nat} {x : Int} (hk : sy_ok ρ K) (h : sy_kc0 K e = some n) (hx : sy_ev ρ e = some x) : x = (n : Int) := by
  unfold sy_kc0 at h
  split at h
  · rename_i r hr
    cases hb : (sy_le r.2 r.1 && sy_le 0 r.1) with
    | false => rw [hb] at h; cases h
    | true =>
      rw [hb, cond_true] at h
      cases h
      rw [Bool.and_eq_true, sy_le_iff, sy_le_iff] at hb
      have b := sy_iv_ok hk hr hx
      omega
  · cases h
/-- shifts right by a number that is known -/
noncomputable def sy_shr (t : Nat) (a b : sy_E) (K : sy_K) : Option (sy_V × sy_K) := match sy_kc0 K b with
  | some n => bif Nat.beq n 0 then some ((t, a, .inl 0), K) else bif Nat.blt n 25 then sy_fl t a (2 ^ n) K else some (sy_any t K)
  | none => some (sy_any t K)
theorem sy_ofn {y : Int32} {n : Nat} (h : y.toInt = (n : Int)) : y = Int32.ofNat n := by
  apply Int32.toInt_inj.mp
  have h1 := Int32.toInt_lt y
  rw [h] at h1 ⊢
  rw [Int32.toInt_ofNat_of_lt (by omega)]
theorem sy_shr_ok32 {ρ : List Int} {K K' : sy_K} {a b : sy_E} {c : sy_V} {x y : Int32} (hk : sy_ok ρ K) (ha : sy_ev ρ a = some x.toInt) (hb : sy_ev ρ b = some y.toInt) (h : sy_shr 0 a b K = some (c, K')) : ∃ m : List Int, sy_ok (m ++ ρ) K' ∧ sy_is (m ++ ρ) c (.int (x >>> (y &&& 31))) := by
  unfold sy_shr at h
  have any : ∀ {c : sy_V} {K' : sy_K}, some (sy_any 0 K) = some (c, K') → ∃ m : List Int, sy_ok (m ++ ρ) K' ∧ sy_is (m ++ ρ) c (.int (x >>> (y &&& 31))) := by
    intro c K' h
    have h9 := sy_any_ok hk (t := 0) (v := .int (x >>> (y &&& 31))) ⟨_, rfl, rfl⟩
    rw [Option.some.inj h] at h9
    exact h9
  split at h
  · rename_i n hn
    have e := sy_ofn (sy_kc0_ok hk hn hb)
    subst e
    cases h0 : Nat.beq n 0 with
    | true =>
      rw [h0, cond_true] at h
      have e0 : n = 0 := Nat.eq_of_beq_eq_true h0
      subst e0
      cases h
      refine ⟨[], hk, ?_⟩
      have e1 : x >>> (Int32.ofNat 0 &&& 31) = x := by
        have e2 : (Int32.ofNat 0 : Int32) &&& 31 = 0 := by decide
        rw [e2]
        exact Int32.shiftRight_zero
      rw [e1]
      exact ⟨x, rfl, ha⟩
    | false =>
      rw [h0, cond_false] at h
      cases h1 : Nat.blt n 25 with
      | false => rw [h1, cond_false] at h; exact any h
      | true =>
        rw [h1, cond_true] at h
        have h2 : n < 25 := Nat.le_of_ble_eq_true h1
        exact sy_fl_ok (Nat.pos_of_ne_zero (by have := Nat.two_pow_pos n; omega)) hk ha h ⟨_, rfl, rfl⟩ (sy_shr32 x n h2)
  · exact any h
theorem sy_shr_ok64 {ρ : List Int} {K K' : sy_K} {a b : sy_E} {c : sy_V} {x : Int64} {y : Int32} (hk : sy_ok ρ K) (ha : sy_ev ρ a = some x.toInt) (hb : sy_ev ρ b = some y.toInt) (h : sy_shr 1 a b K = some (c, K')) : ∃ m : List Int, sy_ok (m ++ ρ) K' ∧ sy_is (m ++ ρ) c (.long (x >>> (y.toInt64 &&& 63))) := by
  unfold sy_shr at h
  have any : ∀ {c : sy_V} {K' : sy_K}, some (sy_any 1 K) = some (c, K') → ∃ m : List Int, sy_ok (m ++ ρ) K' ∧ sy_is (m ++ ρ) c (.long (x >>> (y.toInt64 &&& 63))) := by
    intro c K' h
    have h9 := sy_any_ok hk (t := 1) (v := .long (x >>> (y.toInt64 &&& 63))) ⟨_, rfl, rfl⟩
    rw [Option.some.inj h] at h9
    exact h9
  split at h
  · rename_i n hn
    have e := sy_ofn (sy_kc0_ok hk hn hb)
    subst e
    cases h0 : Nat.beq n 0 with
    | true =>
      rw [h0, cond_true] at h
      have e0 : n = 0 := Nat.eq_of_beq_eq_true h0
      subst e0
      cases h
      refine ⟨[], hk, ?_⟩
      have e1 : x >>> ((Int32.ofNat 0).toInt64 &&& 63) = x := by
        have e2 : (Int32.ofNat 0 : Int32).toInt64 &&& 63 = 0 := by decide
        rw [e2]
        exact Int64.shiftRight_zero
      rw [e1]
      exact ⟨x, rfl, ha⟩
    | false =>
      rw [h0, cond_false] at h
      cases h1 : Nat.blt n 25 with
      | false => rw [h1, cond_false] at h; exact any h
      | true =>
        rw [h1, cond_true] at h
        have h2 : n < 25 := Nat.le_of_ble_eq_true h1
        exact sy_fl_ok (Nat.pos_of_ne_zero (by have := Nat.two_pow_pos n; omega)) hk ha h ⟨_, rfl, rfl⟩ (sy_shr64 x n h2)
  · exact any h
