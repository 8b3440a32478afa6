/-! ===== the surveyor, part 4b: steps on doubles, by their floors ===== -/
def sy_wh (e : sy_E) : Bool := match e with
  | .inl (.ofNat 1) => true
  | _ => false
theorem sy_wh_ok {e : sy_E} (h : sy_wh e = true) : e = .inl 1 := by
  unfold sy_wh at h
  split at h
  · rfl
  · cases h
/-- what a double may have above its floor -/
def sy_dl (e : sy_E) : Int := bif sy_wh e then 0 else 1
theorem sy_dl_01 (e : sy_E) : 0 ≤ sy_dl e ∧ sy_dl e ≤ 1 := by
  unfold sy_dl
  cases sy_wh e with
  | true => rw [cond_true]; omega
  | false => rw [cond_false]; omega
theorem sy_dl_ok {e2 : sy_E} {k : Int} {x : UInt64} (h : sy_dx e2 k x) : FP.Core.DFin x ∧ k * sd_U ≤ sd_z x ∧ sd_z x ≤ (k + sy_dl e2) * sd_U := by
  obtain ⟨⟨h1, ⟨h2, h3⟩, -⟩, h4⟩ := h
  refine ⟨h1, h2, ?_⟩
  unfold sy_dl
  cases hb : sy_wh e2 with
  | true => rw [cond_true, Int.add_zero, h4 (sy_wh_ok hb)]; exact Int.le_refl _
  | false => rw [cond_false]; exact Int.le_of_lt h3
/-- the new unknown, number n, times c is between p and q -/
noncomputable def sy_btw (n : Nat) (c : Int) (p q : sy_P) : List sy_P := [(c, [n]) :: sy_sc (-1) p, (-c, [n]) :: q]
theorem sy_btw_ok {ρ : List Int} {p q : sy_P} {x c : Int} (hp : sy_dom ρ.length p = true) (hq : sy_dom ρ.length q = true) (h1 : sy_ep (sy_tot ρ) p ≤ c * x) (h2 : c * x ≤ sy_ep (sy_tot ρ) q) : ∀ r ∈ sy_btw ρ.length c p q, sy_dom (ρ.length + 1) r = true ∧ 0 ≤ sy_ep (sy_tot (x :: ρ)) r := by
  have e1 : sy_tot (x :: ρ) ρ.length = x := by unfold sy_tot; rw [sy_at_new]; rfl
  have e2 : sy_ep (sy_tot (x :: ρ)) p = sy_ep (sy_tot ρ) p := sy_dom_app (m := [x]) hp
  have e3 : sy_ep (sy_tot (x :: ρ)) q = sy_ep (sy_tot ρ) q := sy_dom_app (m := [x]) hq
  have d2 : Nat.blt ρ.length (ρ.length + 1) = true := Nat.ble_eq_true_of_le (Nat.le_refl _)
  intro r hr
  have hr2 : r = (c, [ρ.length]) :: sy_sc (-1) p ∨ r = (-c, [ρ.length]) :: q := by
    rcases List.mem_cons.mp hr with h | h
    · exact Or.inl h
    · exact Or.inr (List.mem_singleton.mp h)
  rcases hr2 with rfl | rfl
  · refine ⟨?_, ?_⟩
    · show ((Nat.blt ρ.length (ρ.length + 1) && true) && sy_dom (ρ.length + 1) (sy_sc (-1) p)) = true
      rw [d2, sy_sc_dom _ _ (sy_dom_more (Nat.le_succ _) hp)]; rfl
    · show 0 ≤ c * (sy_tot (x :: ρ) ρ.length * 1) + sy_ep (sy_tot (x :: ρ)) (sy_sc (-1) p)
      rw [sy_sc_ep, e1, e2, Int.mul_one]; omega
  · refine ⟨?_, ?_⟩
    · show ((Nat.blt ρ.length (ρ.length + 1) && true) && sy_dom (ρ.length + 1) q) = true
      rw [d2, sy_dom_more (Nat.le_succ _) hq]; rfl
    · show 0 ≤ -c * (sy_tot (x :: ρ) ρ.length * 1) + sy_ep (sy_tot (x :: ρ)) q
      rw [e1, e3, Int.mul_one, Int.neg_mul]; omega
theorem sy_c_ep (f : Nat → Int) (d : Int) : sy_ep f [(d, [])] = d := by
  show d * 1 + 0 = d
  omega
/-- ints that a double holds exactly -/
noncomputable def sy_in53 (lo hi : Int) : Bool := sy_le (-9007199254740991) lo && sy_le hi 9007199254740991
theorem sy_in53_ok {lo hi : Int} (h : sy_in53 lo hi = true) : -9007199254740992 < lo ∧ hi < 9007199254740992 := by
  unfold sy_in53 at h
  rw [Bool.and_eq_true, sy_le_iff, sy_le_iff] at h
  omega
/-- how many digits a double of this size drops -/
noncomputable def sy_sn (lo hi : Int) : Nat := Nat.log2 (lo.natAbs + hi.natAbs) + 1 - 52
noncomputable def sy_inb (s : Nat) (lo hi : Int) : Bool := (Nat.ble s 900 && (sy_le (-(4503599627370496 * sd_P s)) lo && sy_le hi (4503599627370496 * sd_P s))) && (sy_le (-sd_B) (lo - sd_e s) && sy_le (hi + sd_e s) sd_B)
noncomputable def sy_fk (lo hi : Int) (g : Int → sy_V × sy_K) : Option (sy_V × sy_K) := bif sy_inb (sy_sn lo hi) lo hi then some (g (sd_e (sy_sn lo hi))) else none
theorem sy_fk_eq {lo hi : Int} {g : Int → sy_V × sy_K} {z : sy_V × sy_K} (h : sy_fk lo hi g = some z) : ∃ s : Nat, g (sd_e s) = z ∧ -sd_B ≤ lo - sd_e s ∧ hi + sd_e s ≤ sd_B ∧ 0 ≤ sd_e s ∧ ∀ k : Int, lo ≤ k → k ≤ hi → (sd_rep (sd_dn s k) ∧ sd_dn s k ≤ k ∧ k - sd_e s ≤ sd_dn s k) ∧ (sd_rep (sd_up s k) ∧ k ≤ sd_up s k ∧ sd_up s k ≤ k + sd_e s) := by
  unfold sy_fk at h
  cases hb : sy_inb (sy_sn lo hi) lo hi with
  | false => rw [hb] at h; cases h
  | true =>
    rw [hb, cond_true] at h
    generalize sy_sn lo hi = s at *
    unfold sy_inb at hb
    rw [Bool.and_eq_true, Bool.and_eq_true, Bool.and_eq_true, Bool.and_eq_true, sy_le_iff, sy_le_iff, sy_le_iff, sy_le_iff] at hb
    obtain ⟨⟨b1, b2, b3⟩, b4, b5⟩ := hb
    have hs : s ≤ 900 := Nat.le_of_ble_eq_true b1
    refine ⟨s, Option.some.inj h, b4, b5, sd_e_0 s, fun k k1 k2 => ⟨⟨sd_dn_rep hs (by omega) (by omega), sd_dn_le s k⟩, ⟨sd_up_rep hs (by omega) (by omega), sd_up_le s k⟩⟩⟩
/-- a double as a polynomial with something more -/
noncomputable def sy_tc (a : sy_E) (d : Int) : sy_P := sy_te a ++ [(d, [])]
theorem sy_tc_ok {ρ : List Int} {a : sy_E} {n d : Int} (h : sy_ev ρ a = some n) : sy_dom ρ.length (sy_tc a d) = true ∧ sy_ep (sy_tot ρ) (sy_tc a d) = n + d := by
  obtain ⟨d1, p1⟩ := sy_te_ok h
  exact ⟨sy_app_dom _ d1 rfl, by unfold sy_tc; rw [sy_app_ep, sy_c_ep, p1]⟩
noncomputable def sy_tm (a : sy_E) (d : Int) : sy_P := sy_sc (-1) (sy_te a) ++ [(d, [])]
theorem sy_tm_ok {ρ : List Int} {a : sy_E} {n d : Int} (h : sy_ev ρ a = some n) : sy_dom ρ.length (sy_tm a d) = true ∧ sy_ep (sy_tot ρ) (sy_tm a d) = d - n := by
  obtain ⟨d1, p1⟩ := sy_te_ok h
  exact ⟨sy_app_dom _ (sy_sc_dom _ _ d1) rfl, by unfold sy_tm; rw [sy_app_ep, sy_c_ep, sy_sc_ep, p1]; omega⟩
noncomputable def sy_fadd (a b : sy_E × sy_E) (K : sy_K) : Option (sy_V × sy_K) := match sy_iv K a.1, sy_iv K b.1 with
  | some r, some q => sy_fk (r.1 + q.1) (r.2 + q.2 + (sy_dl a.2 + sy_dl b.2)) (fun e => sy_mk 2 (r.1 + q.1 - e) (r.2 + q.2 + (sy_dl a.2 + sy_dl b.2) + e) (sy_btw K.1.length 1 (sy_te a.1 ++ sy_tc b.1 (-e)) (sy_te a.1 ++ sy_tc b.1 (sy_dl a.2 + sy_dl b.2 + e))) K)
  | _, _ => none
noncomputable def sy_fsub (a b : sy_E × sy_E) (K : sy_K) : Option (sy_V × sy_K) := match sy_iv K a.1, sy_iv K b.1 with
  | some r, some q => sy_fk (r.1 - q.2 - sy_dl b.2) (r.2 - q.1 + sy_dl a.2) (fun e => sy_mk 2 (r.1 - q.2 - sy_dl b.2 - e) (r.2 - q.1 + sy_dl a.2 + e) (sy_btw K.1.length 1 (sy_te a.1 ++ sy_tm b.1 (-sy_dl b.2 - e)) (sy_te a.1 ++ sy_tm b.1 (sy_dl a.2 + e))) K)
  | _, _ => none
noncomputable def sy_fneg (a : sy_E × sy_E) (K : sy_K) : Option (sy_V × sy_K) := match sy_iv K a.1 with
  | some r => bif sy_le (-sd_B) (-r.2 - sy_dl a.2) && sy_le (-r.1) sd_B then some (sy_mk 2 (-r.2 - sy_dl a.2) (-r.1) (sy_btw K.1.length 1 (sy_tm a.1 (-sy_dl a.2)) (sy_tm a.1 0)) K) else none
  | none => none
noncomputable def sy_fmul (a b : sy_E × sy_E) (K : sy_K) : Option (sy_V × sy_K) := match sy_iv K a.1, sy_iv K b.1 with
  | some r, some q => (fun lo hi => sy_fk lo hi (fun e => sy_mk 2 (lo - e) (hi + e) [] K))
      (sy_mn (sy_mn (r.1 * q.1) (r.1 * (q.2 + sy_dl b.2))) (sy_mn ((r.2 + sy_dl a.2) * q.1) ((r.2 + sy_dl a.2) * (q.2 + sy_dl b.2))))
      (sy_mx (sy_mx (r.1 * q.1) (r.1 * (q.2 + sy_dl b.2))) (sy_mx ((r.2 + sy_dl a.2) * q.1) ((r.2 + sy_dl a.2) * (q.2 + sy_dl b.2))))
  | _, _ => none
/-- a quotient by a whole number that is known, or by one that is at least 1 -/
noncomputable def sy_fdiv (a b : sy_E × sy_E) (K : sy_K) : Option (sy_V × sy_K) := match sy_iv K a.1, sy_iv K b.1 with
  | some r, some q => (match b.1 with
    | .inl c => bif sy_wh b.2 && sy_le 1 c then sy_fk (r.1 / c) ((r.2 + sy_dl a.2 + (c - 1)) / c) (fun e => sy_mk 2 (r.1 / c - e) ((r.2 + sy_dl a.2 + (c - 1)) / c + e) (sy_btw K.1.length c (sy_tc a.1 (1 - c - c * e)) (sy_tc a.1 (sy_dl a.2 + (c - 1) + c * e))) K) else none
    | .inr _ => bif sy_le 1 q.1 then sy_fk (sy_mn r.1 0) (sy_mx (r.2 + sy_dl a.2) 0) (fun e => sy_mk 2 (sy_mn r.1 0 - e) (sy_mx (r.2 + sy_dl a.2) 0 + e) [] K) else none)
  | _, _ => none
/-- a long as a double -/
noncomputable def sy_fl2d (a : sy_E) (K : sy_K) : Option (sy_V × sy_K) := match sy_iv K a with
  | some r => bif sy_in53 r.1 r.2 then some ((2, a, .inl 1), K) else sy_fk r.1 r.2 (fun e => sy_mk 2 (r.1 - e) (r.2 + e) (sy_btw K.1.length 1 (sy_tc a (-e)) (sy_tc a e)) K)
  | none => none
theorem sd_int_db {n : Int} {x : UInt64} (h : FP.Core.DInt n x) (h2 : n.natAbs < 9007199254740992) (e2 : sy_E) : sy_dx e2 n x := by
  have hU := sd_U_pos
  have hB := sd_B_53
  have hz : sd_z x = n * sd_U := FP.Core.DInt_zval h
  have fx : FP.Core.DFin x := sd_fin (lo := n) (hi := n) (FP.Core.DInt_ne_nan h) (sd_rep_53 h2) (sd_rep_53 h2) (Int.le_of_eq hz.symm) (Int.le_of_eq hz)
  exact ⟨⟨fx, ⟨Int.le_of_eq hz.symm, by rw [hz, Int.add_mul]; omega⟩, by omega, by omega⟩, fun _ => hz⟩
section SYF
variable {ρ : List Int} {K K' : sy_K} {a b : sy_E × sy_E} {n m : Int} {x y : UInt64} {c : sy_V}
theorem sy_mkd_ok (hk : sy_ok ρ K) {lo hi k : Int} {fs : List sy_P} (hd : sy_db k x) (h1 : lo ≤ k) (h2 : k ≤ hi) (hf : ∀ p ∈ fs, sy_dom (ρ.length + 1) p = true ∧ 0 ≤ sy_ep (sy_tot (k :: ρ)) p) : ∃ m : List Int, sy_ok (m ++ ρ) (sy_mk 2 lo hi fs K).2 ∧ sy_is (m ++ ρ) (sy_mk 2 lo hi fs K).1 (.double x) :=
  sy_mk_ok hk (t := 2) (v := .double x) (z0 := k) (z := k) ⟨x, rfl, hd⟩ h1 h2 (fun _ _ => rfl) hf
theorem sy_fadd_ok (hk : sy_ok ρ K) (ha : sy_ev ρ a.1 = some n) (hx : sy_dx a.2 n x) (hb : sy_ev ρ b.1 = some m) (hy : sy_dx b.2 m y) (h : sy_fadd a b K = some (c, K')) : FP.Core.DFin (FP.dadd x y) ∧ ∃ m : List Int, sy_ok (m ++ ρ) K' ∧ sy_is (m ++ ρ) c (.double (FP.dadd x y)) := by
  unfold sy_fadd at h
  split at h
  · rename_i r q hr hq
    obtain ⟨s, e, g1, g2, g3, g4⟩ := sy_fk_eq h
    have i1 := sy_iv_ok hk hr ha
    have i2 := sy_iv_ok hk hq hb
    have l1 := sy_dl_01 a.2
    have l2 := sy_dl_01 b.2
    obtain ⟨f1, x1, x2⟩ := sy_dl_ok hx
    obtain ⟨f2, y1, y2⟩ := sy_dl_ok hy
    obtain ⟨d1, p1⟩ := sy_te_ok ha
    obtain ⟨d2, p2⟩ := sy_tc_ok (d := -sd_e s) hb
    obtain ⟨d3, p3⟩ := sy_tc_ok (d := sy_dl a.2 + sy_dl b.2 + sd_e s) hb
    rw [Int.add_mul] at x2 y2
    obtain ⟨⟨u1, u2, u3⟩, -⟩ := g4 (n + m) (by omega) (by omega)
    obtain ⟨-, v1, v2, v3⟩ := g4 (n + m + (sy_dl a.2 + sy_dl b.2)) (by omega) (by omega)
    obtain ⟨f3, z1, z2⟩ := sd_add f1 f2 u1 v1 (Int.le_trans (sd_mulr u2) (by rw [Int.add_mul]; omega)) (Int.le_trans (by rw [Int.add_mul, Int.add_mul, Int.add_mul]; omega) (sd_mulr v2))
    obtain ⟨k, w1, w2, w3⟩ := sd_floor f3 z1 z2 (by omega) (by omega)
    have h8 := sy_mkd_ok (lo := r.1 + q.1 - sd_e s) (hi := r.2 + q.2 + (sy_dl a.2 + sy_dl b.2) + sd_e s) (fs := sy_btw K.1.length 1 (sy_te a.1 ++ sy_tc b.1 (-sd_e s)) (sy_te a.1 ++ sy_tc b.1 (sy_dl a.2 + sy_dl b.2 + sd_e s))) hk w1 (by omega) (by omega) (by rw [← hk.1]; exact sy_btw_ok (sy_app_dom _ d1 d2) (sy_app_dom _ d1 d3) (by rw [sy_app_ep, p1, p2]; omega) (by rw [sy_app_ep, p1, p3]; omega))
    rw [e] at h8
    exact ⟨f3, h8⟩
  · cases h
theorem sy_fsub_ok (hk : sy_ok ρ K) (ha : sy_ev ρ a.1 = some n) (hx : sy_dx a.2 n x) (hb : sy_ev ρ b.1 = some m) (hy : sy_dx b.2 m y) (h : sy_fsub a b K = some (c, K')) : FP.Core.DFin (FP.dsub x y) ∧ ∃ m : List Int, sy_ok (m ++ ρ) K' ∧ sy_is (m ++ ρ) c (.double (FP.dsub x y)) := by
  unfold sy_fsub at h
  split at h
  · rename_i r q hr hq
    obtain ⟨s, e, g1, g2, g3, g4⟩ := sy_fk_eq h
    have i1 := sy_iv_ok hk hr ha
    have i2 := sy_iv_ok hk hq hb
    have l1 := sy_dl_01 a.2
    have l2 := sy_dl_01 b.2
    obtain ⟨f1, x1, x2⟩ := sy_dl_ok hx
    obtain ⟨f2, y1, y2⟩ := sy_dl_ok hy
    obtain ⟨d1, p1⟩ := sy_te_ok ha
    obtain ⟨d2, p2⟩ := sy_tm_ok (d := -sy_dl b.2 - sd_e s) hb
    obtain ⟨d3, p3⟩ := sy_tm_ok (d := sy_dl a.2 + sd_e s) hb
    rw [Int.add_mul] at x2 y2
    obtain ⟨⟨u1, u2, u3⟩, -⟩ := g4 (n - m - sy_dl b.2) (by omega) (by omega)
    obtain ⟨-, v1, v2, v3⟩ := g4 (n - m + sy_dl a.2) (by omega) (by omega)
    obtain ⟨f3, z1, z2⟩ := sd_sub f1 f2 u1 v1 (Int.le_trans (sd_mulr u2) (by rw [Int.sub_mul, Int.sub_mul]; omega)) (Int.le_trans (by rw [Int.add_mul, Int.sub_mul]; omega) (sd_mulr v2))
    obtain ⟨k, w1, w2, w3⟩ := sd_floor f3 z1 z2 (by omega) (by omega)
    have h8 := sy_mkd_ok (lo := r.1 - q.2 - sy_dl b.2 - sd_e s) (hi := r.2 - q.1 + sy_dl a.2 + sd_e s) (fs := sy_btw K.1.length 1 (sy_te a.1 ++ sy_tm b.1 (-sy_dl b.2 - sd_e s)) (sy_te a.1 ++ sy_tm b.1 (sy_dl a.2 + sd_e s))) hk w1 (by omega) (by omega) (by rw [← hk.1]; exact sy_btw_ok (sy_app_dom _ d1 d2) (sy_app_dom _ d1 d3) (by rw [sy_app_ep, p1, p2]; omega) (by rw [sy_app_ep, p1, p3]; omega))
    rw [e] at h8
    exact ⟨f3, h8⟩
  · cases h
theorem sy_fneg_ok (hk : sy_ok ρ K) (ha : sy_ev ρ a.1 = some n) (hx : sy_dx a.2 n x) (h : sy_fneg a K = some (c, K')) : ∃ m : List Int, sy_ok (m ++ ρ) K' ∧ sy_is (m ++ ρ) c (.double (FP.dneg x)) := by
  unfold sy_fneg at h
  split at h
  · rename_i r hr
    cases h9 : (sy_le (-sd_B) (-r.2 - sy_dl a.2) && sy_le (-r.1) sd_B) with
    | false => rw [h9] at h; cases h
    | true =>
      rw [h9, cond_true] at h
      have e := Option.some.inj h
      rw [Bool.and_eq_true, sy_le_iff, sy_le_iff] at h9
      obtain ⟨g1, g2⟩ := h9
      have i1 := sy_iv_ok hk hr ha
      have l1 := sy_dl_01 a.2
      obtain ⟨f1, x1, x2⟩ := sy_dl_ok hx
      obtain ⟨d2, p2⟩ := sy_tm_ok (d := -sy_dl a.2) ha
      obtain ⟨d3, p3⟩ := sy_tm_ok (d := 0) ha
      rw [Int.add_mul] at x2
      obtain ⟨k, w1, w2, w3⟩ := sd_floor (x := FP.dneg x) (lo := -n - sy_dl a.2) (hi := -n) (sd_neg_fin f1) (by rw [sd_neg, Int.sub_mul, Int.neg_mul]; omega) (by rw [sd_neg, Int.neg_mul]; omega) (by omega) (by omega)
      have h8 := sy_mkd_ok (lo := -r.2 - sy_dl a.2) (hi := -r.1) (fs := sy_btw K.1.length 1 (sy_tm a.1 (-sy_dl a.2)) (sy_tm a.1 0)) hk w1 (by omega) (by omega) (by rw [← hk.1]; exact sy_btw_ok d2 d3 (by rw [p2]; omega) (by rw [p3]; omega))
      rw [e] at h8
      exact h8
  · cases h
theorem sy_fmul_ok (hk : sy_ok ρ K) (ha : sy_ev ρ a.1 = some n) (hx : sy_dx a.2 n x) (hb : sy_ev ρ b.1 = some m) (hy : sy_dx b.2 m y) (h : sy_fmul a b K = some (c, K')) : FP.Core.DFin (FP.dmul x y) ∧ ∃ m : List Int, sy_ok (m ++ ρ) K' ∧ sy_is (m ++ ρ) c (.double (FP.dmul x y)) := by
  unfold sy_fmul at h
  split at h
  · rename_i r q hr hq
    have i1 := sy_iv_ok hk hr ha
    have i2 := sy_iv_ok hk hq hb
    obtain ⟨f1, x1, x2⟩ := sy_dl_ok hx
    obtain ⟨f2, y1, y2⟩ := sy_dl_ok hy
    have X1 : r.1 * sd_U ≤ sd_z x := Int.le_trans (sd_mulr i1.1) x1
    have X2 : sd_z x ≤ (r.2 + sy_dl a.2) * sd_U := Int.le_trans x2 (sd_mulr (by omega))
    have Y1 : q.1 * sd_U ≤ sd_z y := Int.le_trans (sd_mulr i2.1) y1
    have Y2 : sd_z y ≤ (q.2 + sy_dl b.2) * sd_U := Int.le_trans y2 (sd_mulr (by omega))
    generalize r.2 + sy_dl a.2 = R2 at *
    generalize q.2 + sy_dl b.2 = Q2 at *
    generalize r.1 = R1 at *
    generalize q.1 = Q1 at *
    have m1 := sy_mn_le (sy_mn (R1 * Q1) (R1 * Q2)) (sy_mn (R2 * Q1) (R2 * Q2))
    have m2 := sy_mx_le (sy_mx (R1 * Q1) (R1 * Q2)) (sy_mx (R2 * Q1) (R2 * Q2))
    have m3 := sy_mn_le (R1 * Q1) (R1 * Q2)
    have m4 := sy_mn_le (R2 * Q1) (R2 * Q2)
    have m5 := sy_mx_le (R1 * Q1) (R1 * Q2)
    have m6 := sy_mx_le (R2 * Q1) (R2 * Q2)
    generalize sy_mn (sy_mn (R1 * Q1) (R1 * Q2)) (sy_mn (R2 * Q1) (R2 * Q2)) = lo at *
    generalize sy_mx (sy_mx (R1 * Q1) (R1 * Q2)) (sy_mx (R2 * Q1) (R2 * Q2)) = hi at *
    dsimp only at h
    obtain ⟨s, e, g1, g2, g3, g4⟩ := sy_fk_eq h
    have hU := sd_U_pos
    have hUU : 0 ≤ sd_U * sd_U := Int.mul_nonneg (by omega) (by omega)
    have sc : ∀ A B : Int, A * sd_U * (B * sd_U) = A * B * (sd_U * sd_U) := fun A B => by rw [Int.mul_assoc, ← Int.mul_assoc sd_U B sd_U, Int.mul_comm sd_U B, Int.mul_assoc B sd_U sd_U, ← Int.mul_assoc]
    have lh : lo ≤ hi := by omega
    obtain ⟨⟨u1, u2, u3⟩, -⟩ := g4 lo (by omega) (by omega)
    obtain ⟨-, v1, v2, v3⟩ := g4 hi (by omega) (by omega)
    have low : ∀ C : Int, lo ≤ C → sd_dn s lo * (sd_U * sd_U) ≤ C * (sd_U * sd_U) := fun C hC => Int.mul_le_mul_of_nonneg_right (by omega) hUU
    have high : ∀ C : Int, C ≤ hi → C * (sd_U * sd_U) ≤ sd_up s hi * (sd_U * sd_U) := fun C hC => Int.mul_le_mul_of_nonneg_right (by omega) hUU
    have j0 := sy_between (y := sd_z y) X1 X2
    have j1 := sy_between (y := R1 * sd_U) Y1 Y2
    have j2 := sy_between (y := R2 * sd_U) Y1 Y2
    rw [Int.mul_comm (Q1 * sd_U) (R1 * sd_U), Int.mul_comm (Q2 * sd_U) (R1 * sd_U), Int.mul_comm (sd_z y) (R1 * sd_U), sc, sc] at j1
    rw [Int.mul_comm (Q1 * sd_U) (R2 * sd_U), Int.mul_comm (Q2 * sd_U) (R2 * sd_U), Int.mul_comm (sd_z y) (R2 * sd_U), sc, sc] at j2
    have c1 := low (R1 * Q1) (by omega)
    have c2 := low (R1 * Q2) (by omega)
    have c3 := low (R2 * Q1) (by omega)
    have c4 := low (R2 * Q2) (by omega)
    have c5 := high (R1 * Q1) (by omega)
    have c6 := high (R1 * Q2) (by omega)
    have c7 := high (R2 * Q1) (by omega)
    have c8 := high (R2 * Q2) (by omega)
    have mn2 : ∀ A B : Int, sy_mn A B = A ∨ sy_mn A B = B := fun A B => by unfold sy_mn; cases sy_le A B <;> simp
    have mx2 : ∀ A B : Int, sy_mx A B = A ∨ sy_mx A B = B := fun A B => by unfold sy_mx; cases sy_le A B <;> simp
    have L1 : sd_dn s lo * (sd_U * sd_U) ≤ R1 * sd_U * sd_z y := Int.le_trans (by rcases mn2 (R1 * Q1 * (sd_U * sd_U)) (R1 * Q2 * (sd_U * sd_U)) with k | k <;> rw [k] <;> assumption) j1.1
    have L2 : sd_dn s lo * (sd_U * sd_U) ≤ R2 * sd_U * sd_z y := Int.le_trans (by rcases mn2 (R2 * Q1 * (sd_U * sd_U)) (R2 * Q2 * (sd_U * sd_U)) with k | k <;> rw [k] <;> assumption) j2.1
    have H1 : R1 * sd_U * sd_z y ≤ sd_up s hi * (sd_U * sd_U) := Int.le_trans j1.2 (by rcases mx2 (R1 * Q1 * (sd_U * sd_U)) (R1 * Q2 * (sd_U * sd_U)) with k | k <;> rw [k] <;> assumption)
    have H2 : R2 * sd_U * sd_z y ≤ sd_up s hi * (sd_U * sd_U) := Int.le_trans j2.2 (by rcases mx2 (R2 * Q1 * (sd_U * sd_U)) (R2 * Q2 * (sd_U * sd_U)) with k | k <;> rw [k] <;> assumption)
    have L : sd_dn s lo * sd_U * sd_U ≤ sd_z x * sd_z y := by
      rw [Int.mul_assoc]
      exact Int.le_trans (by rcases mn2 (R1 * sd_U * sd_z y) (R2 * sd_U * sd_z y) with k | k <;> rw [k] <;> assumption) j0.1
    have H : sd_z x * sd_z y ≤ sd_up s hi * sd_U * sd_U := by
      rw [Int.mul_assoc]
      exact Int.le_trans j0.2 (by rcases mx2 (R1 * sd_U * sd_z y) (R2 * sd_U * sd_z y) with k | k <;> rw [k] <;> assumption)
    obtain ⟨f3, z1, z2⟩ := sd_mul f1 f2 u1 v1 L H
    obtain ⟨k, w1, w2, w3⟩ := sd_floor f3 z1 z2 (by omega) (by omega)
    have h8 := sy_mkd_ok (lo := lo - sd_e s) (hi := hi + sd_e s) (fs := []) hk w1 (by omega) (by omega) (fun p hp => by cases hp)
    rw [e] at h8
    exact ⟨f3, h8⟩
  · cases h
theorem sy_fdiv_ok (hk : sy_ok ρ K) (ha : sy_ev ρ a.1 = some n) (hx : sy_dx a.2 n x) (hb : sy_ev ρ b.1 = some m) (hy : sy_dx b.2 m y) (h : sy_fdiv a b K = some (c, K')) : FP.Core.DFin (FP.ddiv x y) ∧ ∃ m : List Int, sy_ok (m ++ ρ) K' ∧ sy_is (m ++ ρ) c (.double (FP.ddiv x y)) := by
  have hU := sd_U_pos
  obtain ⟨f1, x1, x2⟩ := sy_dl_ok hx
  obtain ⟨f2, y1, y2⟩ := sy_dl_ok hy
  have l1 := sy_dl_01 a.2
  unfold sy_fdiv at h
  split at h
  · rename_i r q hr hq
    have i1 := sy_iv_ok hk hr ha
    have i2 := sy_iv_ok hk hq hb
    split at h
    · rename_i d hd
      cases h9 : (sy_wh b.2 && sy_le 1 d) with
      | false => rw [h9] at h; cases h
      | true =>
        rw [h9, cond_true] at h
        rw [Bool.and_eq_true, sy_le_iff] at h9
        obtain ⟨hw, hd1⟩ := h9
        obtain ⟨s, e, g1, g2, g3, g4⟩ := sy_fk_eq h
        rw [hd] at hb
        have em : d = m := Option.some.inj hb
        subst em
        have zy : sd_z y = d * sd_U := hy.2 (sy_wh_ok hw)
        have q1 : r.1 / d ≤ n / d := Int.ediv_le_ediv (by omega) i1.1
        have q2 : (n + sy_dl a.2 + (d - 1)) / d ≤ (r.2 + sy_dl a.2 + (d - 1)) / d := Int.ediv_le_ediv (by omega) (by omega)
        have s1 : n / d * d ≤ n := Int.ediv_mul_le _ (by omega)
        have s2 : n < (n / d + 1) * d := Int.lt_ediv_add_one_mul_self _ (by omega)
        have s3 : (n + sy_dl a.2 + (d - 1)) / d * d ≤ n + sy_dl a.2 + (d - 1) := Int.ediv_mul_le _ (by omega)
        have s4 : n + sy_dl a.2 + (d - 1) < ((n + sy_dl a.2 + (d - 1)) / d + 1) * d := Int.lt_ediv_add_one_mul_self _ (by omega)
        have s5 : n / d ≤ (n + sy_dl a.2 + (d - 1)) / d := Int.ediv_le_ediv (by omega) (by omega)
        obtain ⟨⟨u1, u2, u3⟩, -⟩ := g4 (n / d) (by omega) (by omega)
        obtain ⟨-, v1, v2, v3⟩ := g4 ((n + sy_dl a.2 + (d - 1)) / d) (by omega) (by omega)
        generalize (n + sy_dl a.2 + (d - 1)) / d = H at *
        generalize n / d = L at *
        rw [Int.add_mul, Int.one_mul] at s2 s4
        have zp : 0 < sd_z y := by rw [zy]; exact Int.mul_pos (by omega) hU
        have t3 : sd_dn s L * d ≤ L * d := Int.mul_le_mul_of_nonneg_right u2 (by omega)
        have t4 : H * d ≤ sd_up s H * d := Int.mul_le_mul_of_nonneg_right v2 (by omega)
        obtain ⟨f3, z1, z2⟩ := sd_div f1 f2 zp u1 v1
          (by rw [zy, ← Int.mul_assoc]; exact Int.le_trans (sd_mulr (by omega)) x1)
          (by rw [zy, ← Int.mul_assoc]; exact Int.le_trans x2 (sd_mulr (by omega)))
        obtain ⟨k, w1, w2, w3⟩ := sd_floor f3 z1 z2 (by omega) (by omega)
        have t1 : d * (L - sd_e s) ≤ d * k := Int.mul_le_mul_of_nonneg_left (by omega) (by omega)
        have t2 : d * k ≤ d * (H + sd_e s) := Int.mul_le_mul_of_nonneg_left (by omega) (by omega)
        rw [Int.mul_sub, Int.mul_comm d L] at t1
        rw [Int.mul_add, Int.mul_comm d H] at t2
        obtain ⟨d3, p3⟩ := sy_tc_ok (d := 1 - d - d * sd_e s) ha
        obtain ⟨d4, p4⟩ := sy_tc_ok (d := sy_dl a.2 + (d - 1) + d * sd_e s) ha
        have h8 := sy_mkd_ok (lo := r.1 / d - sd_e s) (hi := (r.2 + sy_dl a.2 + (d - 1)) / d + sd_e s) (fs := sy_btw K.1.length d (sy_tc a.1 (1 - d - d * sd_e s)) (sy_tc a.1 (sy_dl a.2 + (d - 1) + d * sd_e s))) hk w1 (by omega) (by omega) (by rw [← hk.1]; exact sy_btw_ok d3 d4 (by rw [p3]; omega) (by rw [p4]; omega))
        rw [e] at h8
        exact ⟨f3, h8⟩
    · rename_i j hj
      cases h9 : sy_le 1 q.1 with
      | false => rw [h9] at h; cases h
      | true =>
        rw [h9, cond_true] at h
        rw [sy_le_iff] at h9
        obtain ⟨s, e, g1, g2, g3, g4⟩ := sy_fk_eq h
        have m1 := sy_mn_le r.1 0
        have m2 := sy_mx_le (r.2 + sy_dl a.2) 0
        have e1 := sd_mulr (show 1 ≤ m by omega)
        rw [Int.one_mul] at e1
        have zU : sd_U ≤ sd_z y := Int.le_trans e1 y1
        generalize sy_mn r.1 0 = L at *
        generalize sy_mx (r.2 + sy_dl a.2) 0 = H at *
        obtain ⟨⟨u1, u2, u3⟩, -⟩ := g4 L (by omega) (by omega)
        obtain ⟨-, v1, v2, v3⟩ := g4 H (by omega) (by omega)
        have k1 : sd_dn s L * sd_z y ≤ sd_dn s L * sd_U := by
          have := Int.mul_le_mul_of_nonneg_left zU (show 0 ≤ -sd_dn s L by omega)
          rw [Int.neg_mul, Int.neg_mul] at this; omega
        have k2 : sd_up s H * sd_U ≤ sd_up s H * sd_z y := Int.mul_le_mul_of_nonneg_left zU (by omega)
        obtain ⟨f3, z1, z2⟩ := sd_div f1 f2 (by omega) u1 v1
          (Int.le_trans k1 (Int.le_trans (sd_mulr (by omega)) x1))
          (Int.le_trans x2 (Int.le_trans (sd_mulr (by omega)) k2))
        obtain ⟨k, w1, w2, w3⟩ := sd_floor f3 z1 z2 (by omega) (by omega)
        have h8 := sy_mkd_ok (lo := L - sd_e s) (hi := H + sd_e s) (fs := []) hk w1 (by omega) (by omega) (fun p hp => by cases hp)
        rw [e] at h8
        exact ⟨f3, h8⟩
  · cases h
theorem sy_fl2d_ok {a : sy_E} {v : Int64} (hk : sy_ok ρ K) (ha : sy_ev ρ a = some v.toInt) (h : sy_fl2d a K = some (c, K')) : ∃ m : List Int, sy_ok (m ++ ρ) K' ∧ sy_is (m ++ ρ) c (.double (FP.l2d v)) := by
  unfold sy_fl2d at h
  split at h
  · rename_i r hr
    have i1 := sy_iv_ok hk hr ha
    cases hb : sy_in53 r.1 r.2 with
    | true =>
      rw [hb, cond_true] at h
      cases h
      have g := sy_in53_ok hb
      exact ⟨[], hk, FP.l2d v, v.toInt, rfl, ha, sd_int_db (FP.Core.l2d_int (by omega)) (by omega) _⟩
    | false =>
      rw [hb, cond_false] at h
      obtain ⟨s, e, g1, g2, g3, g4⟩ := sy_fk_eq h
      obtain ⟨⟨u1, u2, u3⟩, v1, v2, v3⟩ := g4 v.toInt (by omega) (by omega)
      obtain ⟨f3, z1, z2⟩ := sd_l2d u1 v1 u2 v2
      obtain ⟨k, w1, w2, w3⟩ := sd_floor f3 z1 z2 (by omega) (by omega)
      obtain ⟨d3, p3⟩ := sy_tc_ok (d := -sd_e s) ha
      obtain ⟨d4, p4⟩ := sy_tc_ok (d := sd_e s) ha
      have h8 := sy_mkd_ok (lo := r.1 - sd_e s) (hi := r.2 + sd_e s) (fs := sy_btw K.1.length 1 (sy_tc a (-sd_e s)) (sy_tc a (sd_e s))) hk w1 (by omega) (by omega) (by rw [← hk.1]; exact sy_btw_ok d3 d4 (by rw [p3]; omega) (by rw [p4]; omega))
      rw [e] at h8
      exact h8
  · cases h
end SYF
/-! absolute values, ints of doubles, comparisons -/
theorem sd_ms {d z : Int} {x : UInt64} (h : sd_z x = z) (f : FP.Core.DFin x) : (z < 0 → FP.Core.dcmp x 0 = some .lt) ∧ (0 < z → FP.Core.dcmp x 0 = some .gt) ∧ (z = 0 → FP.Core.dcmp x 0 = some .eq) := by
  have hz : FP.Core.val64 0 ≠ .nan := by rw [FP.Core.val64_zero]; exact FP.Core.Datum.noConfusion
  have h0 := FP.Core.zval64_zero
  unfold sd_z at h
  exact ⟨fun q => FP.Core.dcmp_lt.mpr ⟨f.ne_nan, hz, by omega⟩, fun q => FP.Core.dcmp_gt.mpr ⟨f.ne_nan, hz, by omega⟩, fun q => FP.Core.dcmp_eq.mpr ⟨f.ne_nan, hz, by omega⟩⟩
theorem sd_abs {x : UInt64} (f : FP.Core.DFin x) : FP.Core.DFin (x &&& 9223372036854775807) ∧ 0 ≤ sd_z (x &&& 9223372036854775807) ∧ (sd_z (x &&& 9223372036854775807) = sd_z x ∨ sd_z (x &&& 9223372036854775807) = -sd_z x) := by
  obtain ⟨c1, c2, c3⟩ := sd_ms (d := 0) (x := x) rfl f
  have hm : ∀ y : UInt64, x &&& 0x7fffffffffffffff = y → x &&& 9223372036854775807 = y := fun y h => h
  have t : sd_z x < 0 ∨ 0 < sd_z x ∨ sd_z x = 0 := by omega
  rcases t with h | h | h
  · have e := hm _ (FP.Core.abs_neg (c1 h))
    have ez : sd_z (FP.Core.dneg x) = -sd_z x := by unfold sd_z; rw [FP.Core.val64_dneg, FP.Core.zval_negate]
    obtain ⟨s, c, q, ef⟩ := f
    rw [e, ez]
    exact ⟨⟨!s, c, q, by rw [FP.Core.val64_dneg, ef]; rfl⟩, by omega, Or.inr rfl⟩
  · rw [hm _ (FP.Core.abs_pos (c2 h))]
    exact ⟨f, by omega, Or.inl rfl⟩
  · have e := hm _ (FP.Core.abs_zero (c3 h))
    have ez : sd_z 0 = 0 := FP.Core.zval64_zero
    rw [e, ez, h]
    exact ⟨⟨false, 0, _, FP.Core.val64_zero⟩, by omega, Or.inl rfl⟩
/-- the bits of the absolute value -/
noncomputable def sy_fabs (a : sy_E) (K : sy_K) : Option (sy_V × sy_K) := match sy_iv K a with
  | some r => bif sy_le (sy_mx (r.2 + 1) (-r.1)) sd_B then some (sy_mk 6 0 (sy_mx (r.2 + 1) (-r.1)) [] K) else none
  | none => none
theorem sy_fabs_ok {ρ : List Int} {K K' : sy_K} {a : sy_E} {c : sy_V} {x : UInt64} {n : Int} (hk : sy_ok ρ K) (ha : sy_ev ρ a = some n) (hx : sy_db n x) (h : sy_fabs a K = some (c, K')) : ∃ m : List Int, sy_ok (m ++ ρ) K' ∧ sy_is (m ++ ρ) c (.long (x &&& 9223372036854775807).toInt64) := by
  unfold sy_fabs at h
  split at h
  · rename_i r hr
    cases h9 : sy_le (sy_mx (r.2 + 1) (-r.1)) sd_B with
    | false => rw [h9] at h; cases h
    | true =>
      rw [h9, cond_true] at h
      have e := Option.some.inj h
      rw [sy_le_iff] at h9
      have g1 : 0 ≤ sd_B := Int.le_of_lt (sd_P_pos 960)
      have i1 := sy_iv_ok hk hr ha
      obtain ⟨f, ⟨x1, x2⟩, -⟩ := hx
      obtain ⟨f2, z1, z2⟩ := sd_abs f
      have m2 := sy_mx_le (r.2 + 1) (-r.1)
      generalize sy_mx (r.2 + 1) (-r.1) = H at *
      have e1 := sd_mulr (show n + 1 ≤ H by omega)
      have e2 := sd_mulr (show -n ≤ H by omega)
      rw [Int.neg_mul] at e2
      obtain ⟨k, w1, w2, w3⟩ := sd_floor (lo := 0) (hi := H) f2 (by rw [Int.zero_mul]; exact z1) (by rcases z2 with z | z <;> omega) (by omega) (by omega)
      have h8 := sy_mk_ok hk (t := 6) (lo := 0) (hi := H) (fs := []) (v := .long (x &&& 9223372036854775807).toInt64) (z0 := k) (z := k) ⟨_, rfl, w1⟩ w2 w3 (fun _ _ => rfl) (fun p hp => by cases hp)
      rw [e] at h8
      exact h8
  · cases h
theorem sd_d2i {x : UInt64} {n : Int} (h : sy_db n x) (h1 : 0 ≤ n) (h2 : n ≤ 2147483647) : (FP.d2i x).toInt = n := by
  have hU := sd_U_pos
  have hn := sd_num h
  obtain ⟨f, ⟨x1, x2⟩, -⟩ := h
  have hv : (FP.d2i x).toInt = _ := FP.Core.d2i_val f.ne_nan
  have hp : 0 ≤ n * sd_U := Int.mul_nonneg h1 (by omega)
  have hz : sd_z x = FP.Core.signed (FP.Core.sgn (FP.Core.val64 x)) (FP.Core.zmag FP.Core.b64 (FP.Core.val64 x)) := rfl
  rw [hv]
  cases hs : FP.Core.sgn (FP.Core.val64 x) with
  | false =>
    rw [hs] at hz
    have hz2 : sd_z x = ((FP.Core.zmag FP.Core.b64 (FP.Core.val64 x) : Nat) : Int) := hz
    have e : ((FP.Core.zmag FP.Core.b64 (FP.Core.val64 x) / FP.Core.one64 : Nat) : Int) = n := by
      rw [Int.natCast_ediv, ← hz2]; exact hn
    show max _ (min _ ((FP.Core.zmag FP.Core.b64 (FP.Core.val64 x) / FP.Core.one64 : Nat) : Int)) = n
    rw [e]; omega
  | true =>
    rw [hs] at hz
    have hz2 : sd_z x = -((FP.Core.zmag FP.Core.b64 (FP.Core.val64 x) : Nat) : Int) := hz
    have e0 : FP.Core.zmag FP.Core.b64 (FP.Core.val64 x) = 0 := by omega
    have en : n = 0 := by
      rw [hz2, e0] at hn
      have : (-((0 : Nat) : Int)) / sd_U = 0 := Int.zero_ediv _
      rw [this] at hn; exact hn.symm
    rw [e0, Nat.zero_div, en]
    rfl
/-- the three ways in which two doubles may stand -/
noncomputable def sy_fcmp (a b : sy_E × sy_E) (K : sy_K) : List (Int × sy_K) :=
  (sy_asl a.1 b.1 (sy_dl b.2 - 1) K).toList.map (fun K' => (-1, K')) ++ ((sy_ase a.1 b.1 K).toList.map (fun K' => (0, K')) ++ (sy_asl b.1 a.1 (sy_dl a.2 - 1) K).toList.map (fun K' => (1, K')))
theorem sd_lt_of {a b : Int} (h : a * sd_U < b * sd_U) : a < b := by
  have hU := sd_U_pos
  refine Int.lt_of_not_ge fun q => ?_
  have := sd_mulr q
  omega
theorem sy_fcmp_ok {ρ : List Int} {K : sy_K} {a b : sy_E × sy_E} {n m : Int} {x y : UInt64} (op : Jvm.ClassFile.CmpOp) (hk : sy_ok ρ K) (ha : sy_ev ρ a.1 = some n) (hx : sy_dx a.2 n x) (hb : sy_ev ρ b.1 = some m) (hy : sy_dx b.2 m y) : ∃ o ∈ sy_fcmp a b K, (Op.cmpValue (FP.dcmp x y) op).toInt = o.1 ∧ sy_ok ρ o.2 := by
  obtain ⟨f1, x1, x2⟩ := sy_dl_ok hx
  obtain ⟨f2, y1, y2⟩ := sy_dl_ok hy
  have x3 := hx.1.2.1.2
  have y3 := hy.1.2.1.2
  unfold sy_fcmp
  have t : sd_z x < sd_z y ∨ sd_z x = sd_z y ∨ sd_z y < sd_z x := by omega
  rcases t with h | h | h
  · have e : FP.dcmp x y = some .lt := FP.Core.dcmp_lt.mpr ⟨f1.ne_nan, f2.ne_nan, h⟩
    have l := sd_lt_of (Int.lt_of_le_of_lt x1 (Int.lt_of_lt_of_le h y2))
    obtain ⟨K', k1, k2⟩ := sy_asl_ok (c := sy_dl b.2 - 1) hk ha hb (by omega)
    refine ⟨(-1, K'), List.mem_append_left _ (List.mem_map.mpr ⟨K', ?_, rfl⟩), ?_, k2⟩
    · rw [k1]; exact List.mem_singleton.mpr rfl
    · rw [e]; rfl
  · have e : FP.dcmp x y = some .eq := FP.Core.dcmp_eq.mpr ⟨f1.ne_nan, f2.ne_nan, h⟩
    have l1 := sd_lt_of (Int.lt_of_le_of_lt x1 (Int.lt_of_le_of_lt (Int.le_of_eq h) y3))
    have l2 := sd_lt_of (Int.lt_of_le_of_lt y1 (Int.lt_of_le_of_lt (Int.le_of_eq h.symm) x3))
    obtain ⟨K', k1, k2⟩ := sy_ase_ok hk ha hb (by omega)
    refine ⟨(0, K'), List.mem_append_right _ (List.mem_append_left _ (List.mem_map.mpr ⟨K', ?_, rfl⟩)), ?_, k2⟩
    · rw [k1]; exact List.mem_singleton.mpr rfl
    · rw [e]; rfl
  · have e : FP.dcmp x y = some .gt := FP.Core.dcmp_gt.mpr ⟨f1.ne_nan, f2.ne_nan, h⟩
    have l := sd_lt_of (Int.lt_of_le_of_lt y1 (Int.lt_of_lt_of_le h x2))
    obtain ⟨K', k1, k2⟩ := sy_asl_ok (c := sy_dl a.2 - 1) hk hb ha (by omega)
    refine ⟨(1, K'), List.mem_append_right _ (List.mem_append_right _ (List.mem_map.mpr ⟨K', ?_, rfl⟩)), ?_, k2⟩
    · rw [k1]; exact List.mem_singleton.mpr rfl
    · rw [e]; rfl
/-- the constants that are doubles -/
def sd_tab : List (Nat × Int) := [(0, 0), (4643211215818981376, 256), (4679240012837945344, 65536), (4652007308841189376, 1000), (4726483295817170944, 99999999), (4702751419730493440, 2559744), (13926123456585269248, -2559744), (4786511204640096256, 1000000000000), (14009883241494872064, -1000000000000)]
theorem sd_tab_ok : ∀ p ∈ sd_tab, (FP.l2d (Int64.ofInt p.2)).toNat = p.1 ∧ (Int64.ofInt p.2).toInt = p.2 ∧ p.2.natAbs < 9007199254740992 := by decide +kernel
noncomputable def sd_cst (x : UInt64) : Option Int := List.rec none (fun p _ ih => bif Nat.beq p.1 x.toNat then some p.2 else ih) sd_tab
theorem sd_cst_ok {x : UInt64} {n : Int} (h : sd_cst x = some n) (e2 : sy_E) : sy_dx e2 n x := by
  have key : ∀ l : List (Nat × Int), (∀ p ∈ l, (FP.l2d (Int64.ofInt p.2)).toNat = p.1 ∧ (Int64.ofInt p.2).toInt = p.2 ∧ p.2.natAbs < 9007199254740992) → (List.rec none (fun p _ ih => bif Nat.beq p.1 x.toNat then some p.2 else ih) l : Option Int) = some n → sy_dx e2 n x := by
    intro l
    induction l with
    | nil => intro _ h; cases h
    | cons p l ih =>
      intro hl h
      have h2 : (bif Nat.beq p.1 x.toNat then some p.2 else (List.rec none (fun p _ ih => bif Nat.beq p.1 x.toNat then some p.2 else ih) l : Option Int)) = some n := h
      cases hb : Nat.beq p.1 x.toNat with
      | false => rw [hb, cond_false] at h2; exact ih (fun q hq => hl q (List.mem_cons_of_mem _ hq)) h2
      | true =>
        rw [hb, cond_true] at h2
        obtain ⟨a1, a2, a3⟩ := hl p List.mem_cons_self
        have e : FP.l2d (Int64.ofInt p.2) = x := UInt64.toNat.inj (by rw [a1]; exact Nat.eq_of_beq_eq_true hb)
        have d := FP.Core.l2d_int (a := Int64.ofInt p.2) (by rw [a2]; omega)
        rw [a2] at d
        rw [← Option.some.inj h2, ← e]
        exact sd_int_db d a3 e2
  exact key sd_tab sd_tab_ok h
/-- the greatest long -/
def sy_mx63 (e : sy_E) : Bool := match e with
  | .inl (.ofNat n) => Nat.beq n 9223372036854775807
  | _ => false
theorem sy_mx63_ok {ρ : List Int} {e : sy_E} {y : Int64} (h : sy_mx63 e = true) (hy : sy_ev ρ e = some y.toInt) : y = (9223372036854775807 : UInt64).toInt64 := by
  unfold sy_mx63 at h
  split at h
  · rename_i n
    have h2 := Nat.eq_of_beq_eq_true h
    subst h2
    refine Int64.toInt_inj.mp ?_
    have h3 : (Int.ofNat 9223372036854775807) = y.toInt := Option.some.inj hy
    rw [← h3]
    decide +kernel
  · cases h
