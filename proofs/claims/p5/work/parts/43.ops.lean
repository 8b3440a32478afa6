/-! ===== the surveyor, part 3: what steps make of numbers that aren't known ===== -/
def sy_nm (t : Nat) (v : Value) (z : Int) : Prop := match t with
  | 0 => ∃ x : Int32, v = .int x ∧ x.toInt = z
  | 1 => ∃ x : Int64, v = .long x ∧ x.toInt = z
  | 2 => ∃ x : UInt64, v = .double x ∧ sy_db z x
  | 6 => ∃ x : UInt64, v = .long x.toInt64 ∧ sy_db z x
  | _ => False
theorem sy_nm_in {t : Nat} {v : Value} {z : Int} (h : sy_nm t v z) : sy_lo t ≤ z ∧ z ≤ sy_hi t := by
  unfold sy_nm at h
  split at h
  · obtain ⟨x, -, rfl⟩ := h
    have h1 := Int32.le_toInt x
    have h2 := Int32.toInt_lt x
    show (-2147483648 : Int) ≤ _ ∧ _ ≤ (2147483647 : Int)
    omega
  · obtain ⟨x, -, rfl⟩ := h
    have h1 := Int64.le_toInt x
    have h2 := Int64.toInt_lt x
    show (-9223372036854775808 : Int) ≤ _ ∧ _ ≤ (9223372036854775807 : Int)
    omega
  · obtain ⟨x, -, -, -, h1, h2⟩ := h
    exact ⟨h1, h2⟩
  · obtain ⟨x, -, -, -, h1, h2⟩ := h
    exact ⟨h1, h2⟩
  · exact h.elim
theorem sy_is_of {ρ : List Int} {t : Nat} {e : sy_E} {v : Value} {z : Int} (h : sy_nm t v z) (he : sy_ev ρ e = some z) : sy_is ρ (t, e, .inl 0) v := by
  unfold sy_nm at h
  split at h
  · obtain ⟨x, rfl, rfl⟩ := h; exact ⟨x, rfl, he⟩
  · obtain ⟨x, rfl, rfl⟩ := h; exact ⟨x, rfl, he⟩
  · obtain ⟨x, rfl, hd⟩ := h; exact ⟨x, z, rfl, he, hd, fun q => by cases q⟩
  · obtain ⟨x, rfl, hd⟩ := h; exact ⟨x, z, rfl, he, hd⟩
  · exact h.elim
theorem sy_is_int {ρ : List Int} {e e2 : sy_E} {v : Value} (h : sy_is ρ (0, e, e2) v) : ∃ x : Int32, v = .int x ∧ sy_ev ρ e = some x.toInt := h
theorem sy_is_long {ρ : List Int} {e e2 : sy_E} {v : Value} (h : sy_is ρ (1, e, e2) v) : ∃ x : Int64, v = .long x ∧ sy_ev ρ e = some x.toInt := h
/-- what a step leaves: known, or a new unknown between lo and hi of which fs is known; all of its kind where it may go over -/
noncomputable def sy_mk (t : Nat) (lo hi : Int) (fs : List sy_P) (K : sy_K) : sy_V × sy_K :=
  bif sy_le (sy_lo t) lo && sy_le hi (sy_hi t) then
    (bif sy_le hi lo then ((t, .inl lo, .inl 0), K) else ((t, .inr K.1.length, .inl 0), ((lo, hi) :: K.1, fs ++ K.2)))
  else ((t, .inr K.1.length, .inl 0), ((sy_lo t, sy_hi t) :: K.1, K.2))
theorem sy_mk_ok {ρ : List Int} {K : sy_K} (hk : sy_ok ρ K) {t : Nat} {lo hi : Int} {fs : List sy_P} {v : Value} {z0 z : Int} (hv : sy_nm t v z0) (h1 : lo ≤ z) (h2 : z ≤ hi) (hw : sy_lo t ≤ z → z ≤ sy_hi t → z0 = z) (hf : ∀ p ∈ fs, sy_dom (ρ.length + 1) p = true ∧ 0 ≤ sy_ep (sy_tot (z :: ρ)) p) :
    ∃ m : List Int, sy_ok (m ++ ρ) (sy_mk t lo hi fs K).2 ∧ sy_is (m ++ ρ) (sy_mk t lo hi fs K).1 v := by
  obtain ⟨R, F⟩ := K
  have hl : ρ.length = R.length := hk.1
  unfold sy_mk
  cases hb : (sy_le (sy_lo t) lo && sy_le hi (sy_hi t)) with
  | true =>
    rw [Bool.and_eq_true, sy_le_iff, sy_le_iff] at hb
    have hz : z0 = z := hw (by omega) (by omega)
    subst hz
    rw [cond_true]
    cases hc : sy_le hi lo with
    | true =>
      rw [sy_le_iff] at hc
      rw [cond_true]
      have e9 : lo = z0 := by omega
      subst e9
      exact ⟨[], hk, sy_is_of hv rfl⟩
    | false =>
      rw [cond_false]
      refine ⟨[z0], sy_ok_app hk z0 h1 h2 hf, sy_is_of hv ?_⟩
      show sy_at (z0 :: ρ) R.length = some z0
      rw [← hl]; exact sy_at_new _ _
  | false =>
    rw [cond_false]
    obtain ⟨g1, g2⟩ := sy_nm_in hv
    refine ⟨[z0], ?_, sy_is_of hv ?_⟩
    · have h9 := sy_ok_app hk z0 g1 g2 (fs := []) (fun p hp => by cases hp)
      exact h9
    · show sy_at (z0 :: ρ) R.length = some z0
      rw [← hl]; exact sy_at_new _ _
/-- anything of its kind -/
noncomputable def sy_any (t : Nat) (K : sy_K) : sy_V × sy_K := sy_mk t (sy_lo t) (sy_hi t) [] K
theorem sy_any_ok {ρ : List Int} {K : sy_K} (hk : sy_ok ρ K) {t : Nat} {v : Value} {z : Int} (hv : sy_nm t v z) : ∃ m : List Int, sy_ok (m ++ ρ) (sy_any t K).2 ∧ sy_is (m ++ ρ) (sy_any t K).1 v :=
  sy_mk_ok hk hv (sy_nm_in hv).1 (sy_nm_in hv).2 (fun _ _ => rfl) (fun p hp => by cases hp)
/-! sums, differences, products, quotients -/
noncomputable def sy_add (t : Nat) (a b : sy_E) (K : sy_K) : Option (sy_V × sy_K) := match sy_iv K a, sy_iv K b with
  | some r, some s => some (sy_mk t (r.1 + s.1) (r.2 + s.2) (sy_eq2 K.1.length (sy_te a ++ sy_te b)) K)
  | _, _ => none
noncomputable def sy_sub (t : Nat) (a b : sy_E) (K : sy_K) : Option (sy_V × sy_K) := match sy_iv K a, sy_iv K b with
  | some r, some s => some (sy_mk t (r.1 - s.2) (r.2 - s.1) (sy_eq2 K.1.length (sy_te a ++ sy_sc (-1) (sy_te b))) K)
  | _, _ => none
noncomputable def sy_mn (a b : Int) : Int := bif sy_le a b then a else b
noncomputable def sy_mx (a b : Int) : Int := bif sy_le a b then b else a
theorem sy_mn_le (a b : Int) : sy_mn a b ≤ a ∧ sy_mn a b ≤ b := by
  unfold sy_mn
  cases h : sy_le a b with
  | true => rw [sy_le_iff] at h; exact ⟨Int.le_refl _, h⟩
  | false => rw [sy_le_not] at h; exact ⟨Int.le_of_lt h, Int.le_refl _⟩
theorem sy_mx_le (a b : Int) : a ≤ sy_mx a b ∧ b ≤ sy_mx a b := by
  unfold sy_mx
  cases h : sy_le a b with
  | true => rw [sy_le_iff] at h; exact ⟨h, Int.le_refl _⟩
  | false => rw [sy_le_not] at h; exact ⟨Int.le_refl _, Int.le_of_lt h⟩
noncomputable def sy_mul2 (t : Nat) (a b : sy_E) (K : sy_K) : Option (sy_V × sy_K) := match sy_iv K a, sy_iv K b with
  | some r, some s => some (sy_mk t (sy_mn (sy_mn (r.1 * s.1) (r.1 * s.2)) (sy_mn (r.2 * s.1) (r.2 * s.2))) (sy_mx (sy_mx (r.1 * s.1) (r.1 * s.2)) (sy_mx (r.2 * s.1) (r.2 * s.2))) (sy_eq2 K.1.length (sy_mul (sy_te a) (sy_te b))) K)
  | _, _ => none
noncomputable def sy_ng (t : Nat) (a : sy_E) (K : sy_K) : Option (sy_V × sy_K) := match sy_iv K a with
  | some r => some (sy_mk t (- r.2) (- r.1) (sy_eq2 K.1.length (sy_sc (-1) (sy_te a))) K)
  | _ => none
/-- a quotient: the divisor is never 0 -/
noncomputable def sy_div (t : Nat) (a b : sy_E) (K : sy_K) : Option (sy_V × sy_K) := match sy_iv K a, sy_iv K b with
  | some r, some s => bif sy_le 0 r.1 && sy_le 1 s.1 then
      some (sy_mk t (r.1 / s.2) (r.2 / s.1) [sy_te a ++ sy_sc (-1) (sy_mul (sy_te (.inr K.1.length)) (sy_te b)), sy_mul (sy_te (.inr K.1.length)) (sy_te b) ++ (sy_te b ++ ((-1, []) :: sy_sc (-1) (sy_te a)))] K)
    else bif sy_le 1 s.1 || sy_le s.2 (-1) then some (sy_mk t (sy_mn r.1 (- r.2)) (sy_mx r.2 (- r.1)) [] K)
    else none
  | _, _ => none
section SYO
variable {ρ : List Int} {K K' : sy_K} {t : Nat} {a b : sy_E} {x y z0 : Int} {v : Value} {c : sy_V}
theorem sy_add_ok (hk : sy_ok ρ K) (ha : sy_ev ρ a = some x) (hb : sy_ev ρ b = some y) (h : sy_add t a b K = some (c, K')) (hv : sy_nm t v z0) (hw : sy_lo t ≤ x + y → x + y ≤ sy_hi t → z0 = x + y) : ∃ m : List Int, sy_ok (m ++ ρ) K' ∧ sy_is (m ++ ρ) c v := by
  unfold sy_add at h
  split at h
  · rename_i r s hr hs
    have e := Option.some.inj h
    have i1 := sy_iv_ok hk hr ha
    have i2 := sy_iv_ok hk hs hb
    obtain ⟨d1, p1⟩ := sy_te_ok ha
    obtain ⟨d2, p2⟩ := sy_te_ok hb
    have h9 := sy_mk_ok (lo := r.1 + s.1) (hi := r.2 + s.2) (fs := sy_eq2 K.1.length (sy_te a ++ sy_te b)) hk hv (by omega) (by omega) hw (by rw [← hk.1]; exact sy_eq2_ok (sy_app_dom _ d1 d2) (by rw [sy_app_ep, p1, p2]))
    rw [e] at h9
    exact h9
  · cases h
theorem sy_sub_ok (hk : sy_ok ρ K) (ha : sy_ev ρ a = some x) (hb : sy_ev ρ b = some y) (h : sy_sub t a b K = some (c, K')) (hv : sy_nm t v z0) (hw : sy_lo t ≤ x - y → x - y ≤ sy_hi t → z0 = x - y) : ∃ m : List Int, sy_ok (m ++ ρ) K' ∧ sy_is (m ++ ρ) c v := by
  unfold sy_sub at h
  split at h
  · rename_i r s hr hs
    have e := Option.some.inj h
    have i1 := sy_iv_ok hk hr ha
    have i2 := sy_iv_ok hk hs hb
    obtain ⟨d1, p1⟩ := sy_te_ok ha
    obtain ⟨d2, p2⟩ := sy_te_ok hb
    have h9 := sy_mk_ok (lo := r.1 - s.2) (hi := r.2 - s.1) (fs := sy_eq2 K.1.length (sy_te a ++ sy_sc (-1) (sy_te b))) hk hv (by omega) (by omega) hw (by rw [← hk.1]; exact sy_eq2_ok (sy_app_dom _ d1 (sy_sc_dom _ _ d2)) (by rw [sy_app_ep, sy_sc_ep, p1, p2]; omega))
    rw [e] at h9
    exact h9
  · cases h
theorem sy_ng_ok (hk : sy_ok ρ K) (ha : sy_ev ρ a = some x) (h : sy_ng t a K = some (c, K')) (hv : sy_nm t v z0) (hw : sy_lo t ≤ - x → - x ≤ sy_hi t → z0 = - x) : ∃ m : List Int, sy_ok (m ++ ρ) K' ∧ sy_is (m ++ ρ) c v := by
  unfold sy_ng at h
  split at h
  · rename_i r hr
    have e := Option.some.inj h
    have i1 := sy_iv_ok hk hr ha
    obtain ⟨d1, p1⟩ := sy_te_ok ha
    have h9 := sy_mk_ok (lo := - r.2) (hi := - r.1) (fs := sy_eq2 K.1.length (sy_sc (-1) (sy_te a))) hk hv (by omega) (by omega) hw (by rw [← hk.1]; exact sy_eq2_ok (sy_sc_dom _ _ d1) (by rw [sy_sc_ep, p1]; omega))
    rw [e] at h9
    exact h9
  · cases h
theorem sy_between {a b x y : Int} (h1 : a ≤ x) (h2 : x ≤ b) : sy_mn (a * y) (b * y) ≤ x * y ∧ x * y ≤ sy_mx (a * y) (b * y) := by
  have m1 := sy_mn_le (a * y) (b * y)
  have m2 := sy_mx_le (a * y) (b * y)
  by_cases hy : 0 ≤ y
  · have q1 := Int.mul_le_mul_of_nonneg_right h1 hy
    have q2 := Int.mul_le_mul_of_nonneg_right h2 hy
    omega
  · have hy2 : 0 ≤ -y := by omega
    have q1 := Int.mul_le_mul_of_nonneg_right h1 hy2
    have q2 := Int.mul_le_mul_of_nonneg_right h2 hy2
    rw [Int.mul_neg, Int.mul_neg] at q1 q2
    omega
theorem sy_mul2_ok (hk : sy_ok ρ K) (ha : sy_ev ρ a = some x) (hb : sy_ev ρ b = some y) (h : sy_mul2 t a b K = some (c, K')) (hv : sy_nm t v z0) (hw : sy_lo t ≤ x * y → x * y ≤ sy_hi t → z0 = x * y) : ∃ m : List Int, sy_ok (m ++ ρ) K' ∧ sy_is (m ++ ρ) c v := by
  unfold sy_mul2 at h
  split at h
  · rename_i r s hr hs
    have e := Option.some.inj h
    have i1 := sy_iv_ok hk hr ha
    have i2 := sy_iv_ok hk hs hb
    obtain ⟨d1, p1⟩ := sy_te_ok ha
    obtain ⟨d2, p2⟩ := sy_te_ok hb
    have j0 := sy_between (y := y) i1.1 i1.2
    have j1 := sy_between (y := r.1) i2.1 i2.2
    have j2 := sy_between (y := r.2) i2.1 i2.2
    rw [Int.mul_comm s.1 r.1, Int.mul_comm s.2 r.1, Int.mul_comm y r.1] at j1
    rw [Int.mul_comm s.1 r.2, Int.mul_comm s.2 r.2, Int.mul_comm y r.2] at j2
    have m1 := sy_mn_le (sy_mn (r.1 * s.1) (r.1 * s.2)) (sy_mn (r.2 * s.1) (r.2 * s.2))
    have m2 := sy_mx_le (sy_mx (r.1 * s.1) (r.1 * s.2)) (sy_mx (r.2 * s.1) (r.2 * s.2))
    have k1 : sy_mn (r.1 * y) (r.2 * y) = r.1 * y ∨ sy_mn (r.1 * y) (r.2 * y) = r.2 * y := by unfold sy_mn; cases sy_le (r.1 * y) (r.2 * y) <;> simp
    have k2 : sy_mx (r.1 * y) (r.2 * y) = r.1 * y ∨ sy_mx (r.1 * y) (r.2 * y) = r.2 * y := by unfold sy_mx; cases sy_le (r.1 * y) (r.2 * y) <;> simp
    have h9 := sy_mk_ok (z := x * y) (lo := sy_mn (sy_mn (r.1 * s.1) (r.1 * s.2)) (sy_mn (r.2 * s.1) (r.2 * s.2))) (hi := sy_mx (sy_mx (r.1 * s.1) (r.1 * s.2)) (sy_mx (r.2 * s.1) (r.2 * s.2))) (fs := sy_eq2 K.1.length (sy_mul (sy_te a) (sy_te b))) hk hv (by rcases k1 with k | k <;> omega) (by rcases k2 with k | k <;> omega) hw ?_
    · rw [e] at h9
      exact h9
    · rw [← hk.1]
      refine sy_eq2_ok ?_ (by rw [sy_mul_eq, p1, p2])
      cases a with
      | inl c1 => cases b with
        | inl c2 => rfl
        | inr i2 => exact d2
      | inr i1 => cases b with
        | inl c2 => exact d1
        | inr i2 =>
          have d1' : ((Nat.blt i1 ρ.length && true) && true) = true := d1
          have d2' : ((Nat.blt i2 ρ.length && true) && true) = true := d2
          rw [Bool.and_true, Bool.and_true] at d1' d2'
          show sy_dom ρ.length [(1 * 1, sy_in i1 [i2])] = true
          have e8 : sy_in i1 [i2] = @Bool.rec (fun _ => List Nat) [i2, i1] [i1, i2] (Nat.ble i1 i2) := rfl
          rw [e8]
          cases Nat.ble i1 i2 with
          | true => show ((Nat.blt i1 ρ.length && (Nat.blt i2 ρ.length && true)) && true) = true; rw [d1', d2']; rfl
          | false => show ((Nat.blt i2 ρ.length && (Nat.blt i1 ρ.length && true)) && true) = true; rw [d1', d2']; rfl
  · cases h
end SYO
