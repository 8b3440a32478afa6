/-! ===== the surveyor, part 9: arrays ===== -/
/-- one for all of n + 1 places -/
noncomputable def sy_jn (n : Nat) : List sy_FS → Option sy_FS := Nat.rec (fun l => match l with
  | f :: _ => bif Nat.ble f.1 1 then some f else none
  | [] => none) (fun _ ih l => match l with
  | f :: t => (match ih t with
    | some g => bif Nat.beq f.1 g.1 then some (g.1, sy_mn f.2.1 g.2.1, sy_mx f.2.2 g.2.2) else none
    | none => none)
  | [] => none) n
def sy_sub1 (f g : sy_FS) : Prop := f.1 = g.1 ∧ g.2.1 ≤ f.2.1 ∧ f.2.2 ≤ g.2.2
theorem sy_jn_ok : ∀ {n : Nat} {l : List sy_FS} {g : sy_FS}, sy_jn n l = some g → g.1 ≤ 1 ∧ ∀ k : Nat, k ≤ n → ∃ f : sy_FS, l[k]? = some f ∧ sy_sub1 f g
  | 0, [], g, h => by cases h
  | 0, f :: t, g, h => by
    have h2 : (bif Nat.ble f.1 1 then some f else none) = some g := h
    cases hb : Nat.ble f.1 1 with
    | false => rw [hb] at h2; cases h2
    | true =>
      rw [hb, cond_true] at h2
      cases h2
      exact ⟨Nat.le_of_ble_eq_true hb, fun k hk => ⟨f, by rw [Nat.le_zero.mp hk]; rfl, rfl, Int.le_refl _, Int.le_refl _⟩⟩
  | n + 1, [], g, h => by cases h
  | n + 1, f :: t, g, h => by
    have h2 : (match sy_jn n t with
      | some g => bif Nat.beq f.1 g.1 then some (g.1, sy_mn f.2.1 g.2.1, sy_mx f.2.2 g.2.2) else none
      | none => none) = some g := h
    split at h2
    · rename_i g2 hg2
      cases hb : Nat.beq f.1 g2.1 with
      | false => rw [hb] at h2; cases h2
      | true =>
        rw [hb, cond_true] at h2
        cases h2
        obtain ⟨i1, i2⟩ := sy_jn_ok hg2
        refine ⟨i1, fun k hk => ?_⟩
        cases k with
        | zero => exact ⟨f, rfl, Nat.eq_of_beq_eq_true hb, (sy_mn_le _ _).1, (sy_mx_le _ _).1⟩
        | succ k =>
          obtain ⟨f2, j1, j2, j3, j4⟩ := i2 k (by omega)
          exact ⟨f2, j1, j2, Int.le_trans (sy_mn_le _ _).2 j3, Int.le_trans j4 (sy_mx_le _ _).2⟩
    · cases h2
theorem sy_fv_sub {f g : sy_FS} {v : Value} (h : sy_fv f v) (hs : sy_sub1 f g) (hg : g.1 ≤ 1) : sy_fv g v := by
  obtain ⟨t, lo, hi⟩ := f
  obtain ⟨t2, lo2, hi2⟩ := g
  obtain ⟨e9, h1, h2⟩ := hs
  have e9' : t = t2 := e9
  subst e9'
  dsimp only at h1 h2 hg
  have ht : t = 0 ∨ t = 1 := by omega
  rcases ht with rfl | rfl
  · obtain ⟨x, rfl, a1, a2⟩ := (h : ∃ x : Int32, v = .int x ∧ lo ≤ x.toInt ∧ x.toInt ≤ hi)
    exact ⟨x, rfl, Int.le_trans h1 a1, Int.le_trans a2 h2⟩
  · obtain ⟨x, rfl, a1, a2⟩ := (h : ∃ x : Int64, v = .long x ∧ lo ≤ x.toInt ∧ x.toInt ≤ hi)
    exact ⟨x, rfl, Int.le_trans h1 a1, Int.le_trans a2 h2⟩
/-- one for all places from lo to hi -/
noncomputable def sy_all1 (c : sy_C) (lo hi : Nat) : Option sy_FS := match c.2.2.2 with
  | .inl f => some f
  | .inr l => sy_jn (hi - lo) (ri_drop l lo)
theorem sy_all1_ok {c : sy_C} {lo hi : Nat} {g : sy_FS} (h : sy_all1 c lo hi = some g) {j : Nat} (h1 : lo ≤ j) (h2 : j ≤ hi) (hn : j < c.2.2.1) : ∃ f : sy_FS, sy_fs c j = some f ∧ ∀ v : Value, sy_fv f v → sy_fv g v := by
  obtain ⟨o, t, n, q⟩ := c
  unfold sy_all1 at h
  unfold sy_fs
  dsimp only at h hn ⊢
  rw [show Nat.blt j n = true from Nat.ble_eq_true_of_le hn, cond_true]
  split at h
  · cases h
    exact ⟨g, rfl, fun v hv => hv⟩
  · rename_i l
    obtain ⟨i1, i2⟩ := sy_jn_ok h
    obtain ⟨f, j1, j2⟩ := i2 (j - lo) (by omega)
    rw [ri_drop_eq, List.getElem?_drop, show lo + (j - lo) = j by omega] at j1
    exact ⟨f, by show ri_nth l j = some f; rw [ri_nth_eq]; exact j1, fun v hv => sy_fv_sub hv j2 i1⟩
section SYA
variable {T : Nat → Option sy_C} {ρ : List Int} {w : List ri_E} {RU : sy_RT} {tyL : List FieldType}
/-- an index within an array -/
theorem sy_idx {i : Int32} {lo hi : Int} (h1 : lo ≤ i.toInt) (h2 : i.toInt ≤ hi) (h0 : 0 ≤ lo) : ¬ i < 0 ∧ lo.toNat ≤ i.toNatClampNeg ∧ i.toNatClampNeg ≤ hi.toNat ∧ (i.toNatClampNeg : Int) = i.toInt := by
  have e : (i.toNatClampNeg : Int) = i.toInt := Int.toNat_of_nonneg (by omega)
  refine ⟨fun q => ?_, by omega, by omega, e⟩
  rw [Int32.lt_iff_toInt_lt] at q
  have z : (0 : Int32).toInt = 0 := rfl
  omega
noncomputable def sy_ald (T : Nat → Option sy_C) (tyL : List FieldType) (g : FieldType → Bool) (st : List sy_V) (H : sy_H) (K : sy_K) : Option (List sy_V × sy_H × sy_K) := sy_q1 0 st (fun e st => sy_q3 st (fun q r => match T q, sy_iv K e with
  | some c, some s => (match ri_nth tyL c.2.1 with
    | some ty => bif (!c.1 && g ty) && (sy_le 0 s.1 && sy_le (s.2 + 1) (Int.ofNat c.2.2.1)) then
        (bif sy_le s.2 s.1 then (match sy_ld T q s.1.toNat H K with
          | some z => some (z.1 :: r, z.2.1, z.2.2)
          | none => none)
        else (match sy_all1 c s.1.toNat s.2.toNat with
          | some f => (match sy_fresh f K with
            | some z => some (z.1 :: r, H, z.2)
            | none => none)
          | none => none))
      else none
    | none => none)
  | _, _ => none))
theorem sy_ald_ok {g : FieldType → Bool} {st st' : List sy_V} {stc : List Value} {H H' : sy_H} {K K' : sy_K} (h : sy_ald T tyL g st H K = some (st', H', K')) (hk : sy_ok ρ K) (hs : sy_st ρ st stc) (hh : sy_hok ρ H w) (ht : sy_tw T w) :
    ∃ (m : List Int) (sz : List Value), ri_ald tyL g stc w = some sz ∧ sy_st (m ++ ρ) st' sz ∧ sy_ok (m ++ ρ) K' ∧ sy_hok (m ++ ρ) H' w := by
  obtain ⟨e, st1, i, rc1, h1, rfl, hi, hs1⟩ := sy_int_top h hs
  obtain ⟨q, r, rc, h2, rfl, hr⟩ := sy_ref_top h1 hs1
  split at h2
  · rename_i c s hc hsv
    split at h2
    · rename_i ty hty
      cases hb : ((!c.1 && g ty) && (sy_le 0 s.1 && sy_le (s.2 + 1) (Int.ofNat c.2.2.1))) with
      | false => rw [hb] at h2; cases h2
      | true =>
        rw [hb, cond_true] at h2
        rw [Bool.and_eq_true, Bool.and_eq_true, Bool.and_eq_true, sy_le_iff, sy_le_iff] at hb
        obtain ⟨⟨b1, b2⟩, b3, b4⟩ := hb
        have b1' : c.1 = false := by simpa using b1
        have b4' : s.2 + 1 ≤ ((c.2.2.1 : Nat) : Int) := b4
        have iv := sy_iv_ok hk hsv hi
        obtain ⟨x1, x2, x3, x4⟩ := sy_idx iv.1 iv.2 b3
        obtain ⟨vs, k1, k2, k3⟩ := sy_cell_arr ht hc b1'
        have fin : ∀ v : Value, sy_wv w q i.toNatClampNeg = some v → ri_ald tyL g (.int i :: .ref q :: rc) w = some (v :: rc) := by
          intro v hv
          unfold ri_ald
          dsimp only
          rw [ri_nth_eq w, k1]
          dsimp only
          rw [hty]
          dsimp only
          rw [b2, decide_eq_false x1, ri_nth_eq vs, ← k3, hv]
          rfl
        cases hq : sy_le s.2 s.1 with
        | true =>
          rw [hq, cond_true] at h2
          rw [sy_le_iff] at hq
          split at h2
          · rename_i z hz
            cases h2
            obtain ⟨m, v, g1, g2, g3, g4⟩ := sy_ld_ok (a := z.1) (H' := z.2.1) (K' := z.2.2) hk hh ht hz
            have e9 : s.1.toNat = i.toNatClampNeg := by omega
            rw [e9] at g1
            exact ⟨m, v :: rc, fin v g1, ⟨g2, sy_st_app m hr⟩, g3, g4⟩
          · cases h2
        | false =>
          rw [hq, cond_false] at h2
          split at h2
          · rename_i f hf
            split at h2
            · rename_i z hz
              cases h2
              obtain ⟨f2, f3, f4⟩ := sy_all1_ok hf (j := i.toNatClampNeg) x2 x3 (by omega)
              obtain ⟨vs2, g1, g2, g3⟩ := ht q c hc
              obtain ⟨v, g4, g5⟩ := g3 _ f2 f3
              have hv : sy_wv w q i.toNatClampNeg = some v := by unfold sy_wv; rw [g1]; dsimp only; rw [sy_vals_mk]; exact g4
              obtain ⟨m, p1, p2⟩ := sy_fresh_ok (a := z.1) (K' := z.2) hk hz (f4 v g5)
              exact ⟨m, v :: rc, fin v hv, ⟨p2, sy_st_app m hr⟩, p1, sy_hok_app hh m⟩
            · cases h2
          · cases h2
    · cases h2
  · cases h2
/-! stores -/
/-- what an array of this type keeps of a value -/
noncomputable def sy_nrw (ty : FieldType) (x : sy_V) (K : sy_K) : Option (sy_V × sy_K) := match ty with
  | .int => bif Nat.beq x.1 0 then some (x, K) else none
  | .long => bif Nat.beq x.1 1 then some (x, K) else none
  | .double => bif Nat.beq x.1 2 then some (x, K) else none
  | .byte => bif Nat.beq x.1 0 then some (sy_mk 0 (-128) 127 [] K) else none
  | .boolean => (match sy_iv K x.2.1 with
    | some s => bif Nat.beq x.1 0 && (sy_le 0 s.1 && sy_le s.2 1) then some (x, K) else none
    | none => none)
  | _ => none
def sy_gof (ty : FieldType) (v : Value) : Option Value := match ty with
  | .int => ri_gI ty v
  | .long => ri_gL ty v
  | .double => ri_gD ty v
  | _ => ri_gB ty v
theorem sy_nrw_ok {ty : FieldType} {x y : sy_V} {K K' : sy_K} {v : Value} (hk : sy_ok ρ K) (hx : sy_is ρ x v) (h : sy_nrw ty x K = some (y, K')) : ∃ (m : List Int) (u : Value), sy_gof ty v = some u ∧ sy_ok (m ++ ρ) K' ∧ sy_is (m ++ ρ) y u := by
  obtain ⟨t, e, e2⟩ := x
  unfold sy_nrw at h
  split at h
  · cases hb : Nat.beq t 0 with
    | false => dsimp only at h; rw [hb] at h; cases h
    | true =>
      dsimp only at h
      rw [hb, cond_true] at h
      cases h
      have e9 : t = 0 := Nat.eq_of_beq_eq_true hb
      subst e9
      obtain ⟨z, rfl, hz⟩ := sy_is_int hx
      exact ⟨[], _, rfl, hk, hx⟩
  · cases hb : Nat.beq t 1 with
    | false => dsimp only at h; rw [hb] at h; cases h
    | true =>
      dsimp only at h
      rw [hb, cond_true] at h
      cases h
      have e9 : t = 1 := Nat.eq_of_beq_eq_true hb
      subst e9
      obtain ⟨z, rfl, hz⟩ := sy_is_long hx
      exact ⟨[], _, rfl, hk, hx⟩
  · cases hb : Nat.beq t 2 with
    | false => dsimp only at h; rw [hb] at h; cases h
    | true =>
      dsimp only at h
      rw [hb, cond_true] at h
      cases h
      have e9 : t = 2 := Nat.eq_of_beq_eq_true hb
      subst e9
      have hx2 := hx
      obtain ⟨z, k, rfl, hz⟩ := (hx : ∃ (z : UInt64) (k : Int), v = .double z ∧ sy_ev ρ e = some k ∧ sy_dx e2 k z)
      exact ⟨[], _, rfl, hk, hx2⟩
  · cases hb : Nat.beq t 0 with
    | false => dsimp only at h; rw [hb] at h; cases h
    | true =>
      dsimp only at h
      rw [hb, cond_true] at h
      have e9 : t = 0 := Nat.eq_of_beq_eq_true hb
      subst e9
      obtain ⟨z, rfl, hz⟩ := sy_is_int hx
      have b1 := Int8.le_toInt z.toInt8
      have b2 := Int8.toInt_lt z.toInt8
      have e8 : (z.toInt8.toInt32).toInt = z.toInt8.toInt := Int8.toInt_toInt32 _
      have h9 := sy_mk_ok (t := 0) (lo := -128) (hi := 127) (fs := []) (v := .int z.toInt8.toInt32) (z0 := z.toInt8.toInt32.toInt) (z := z.toInt8.toInt32.toInt) hk ⟨_, rfl, rfl⟩ (by omega) (by omega) (fun _ _ => rfl) (fun p hp => by cases hp)
      rw [Option.some.inj h] at h9
      obtain ⟨m, p1, p2⟩ := h9
      exact ⟨m, .int z.toInt8.toInt32, rfl, p1, p2⟩
  · split at h
    · rename_i s hsv
      cases hb : (Nat.beq t 0 && (sy_le 0 s.1 && sy_le s.2 1)) with
      | false => dsimp only at h; rw [hb] at h; cases h
      | true =>
        dsimp only at h
        rw [hb, cond_true] at h
        cases h
        rw [Bool.and_eq_true, Bool.and_eq_true, sy_le_iff, sy_le_iff] at hb
        have e9 : t = 0 := Nat.eq_of_beq_eq_true hb.1
        subst e9
        obtain ⟨z, rfl, hz⟩ := sy_is_int hx
        have iv := sy_iv_ok hk hsv hz
        have h2 := hb.2
        have h5 : z.toInt = 0 ∨ z.toInt = 1 := by omega
        rcases h5 with h5 | h5
        · have e7 : z = 0 := Int32.toInt_inj.mp h5
          subst e7
          exact ⟨[], .int 0, by decide +kernel, hk, hx⟩
        · have e7 : z = 1 := Int32.toInt_inj.mp h5
          subst e7
          exact ⟨[], .int 1, by decide +kernel, hk, hx⟩
    · cases h
  · cases h
noncomputable def sy_ast (T : Nat → Option sy_C) (RU : sy_RT) (tyL : List FieldType) (tt : FieldType → Bool) (st : List sy_V) (H : sy_H) (D : List Nat) (K : sy_K) : Option (List sy_V × (Nat × Nat × Nat) × sy_H × List Nat × sy_K) := match st with
  | x :: st => sy_q1 0 st (fun e st => sy_q3 st (fun q r => match T q, sy_iv K e with
    | some c, some s => (match ri_nth tyL c.2.1 with
      | some ty => bif (!c.1 && tt ty) && (sy_le 0 s.1 && sy_le (s.2 + 1) (Int.ofNat c.2.2.1)) then (match sy_nrw ty x K with
        | some y => (bif sy_le s.2 s.1 then (match sy_fs c s.1.toNat with
            | some f => bif sy_fits f y.1 y.2 then some (r, (q, s.1.toNat, s.1.toNat), ((q, s.1.toNat), y.1) :: sy_hdrop q s.1.toNat s.1.toNat H, sy_tch q s.1.toNat y.1 H RU D, y.2) else none
            | none => none)
          else (match c.2.2.2 with
            | .inl f => bif sy_fits f y.1 y.2 then some (r, (q, s.1.toNat, s.2.toNat), sy_hdrop q s.1.toNat s.2.toNat H, sy_touch q s.1.toNat s.2.toNat RU D, y.2) else none
            | .inr l => bif Nat.blt s.2.toNat l.length && ((ri_drop l s.1.toNat).take (s.2.toNat - s.1.toNat + 1)).all (fun f => sy_fits f y.1 y.2) then some (r, (q, s.1.toNat, s.2.toNat), sy_hdrop q s.1.toNat s.2.toNat H, sy_touch q s.1.toNat s.2.toNat RU D, y.2) else none))
        | none => none)
        else none
      | none => none)
    | _, _ => none))
  | [] => none
theorem sy_ast_ok {tt : FieldType → Bool} {g : FieldType → Value → Option Value} (hg : ∀ (ty : FieldType) (v : Value), tt ty = true → g ty v = sy_gof ty v) {st st' : List sy_V} {stc : List Value} {H H' : sy_H} {D D' : List Nat} {K K' : sy_K} {qq : Nat × Nat × Nat} (h : sy_ast T RU tyL tt st H D K = some (st', qq, H', D', K')) (hk : sy_ok ρ K) (hs : sy_st ρ st stc) (hh : sy_hok ρ H w) (ht : sy_tw T w) (hd : sy_ru RU D w) :
    ∃ (m : List Int) (sz : List Value) (w' : List ri_E), ri_ast tyL g stc w = some (sz, w') ∧ w'.length = w.length ∧ sy_but w w' qq.1 qq.2.1 qq.2.2 ∧ sy_st (m ++ ρ) st' sz ∧ sy_ok (m ++ ρ) K' ∧ sy_tw T w' ∧ sy_hok (m ++ ρ) H' w' ∧ sy_ru RU D' w' := by
  unfold sy_ast at h
  split at h
  · rename_i x st0
    obtain ⟨v, rc0, rfl, hv, hs0⟩ := sy_st_cons hs
    obtain ⟨e, st1, i, rc1, h1, rfl, hi, hs1⟩ := sy_int_top h hs0
    obtain ⟨q, r, rc, h2, rfl, hr⟩ := sy_ref_top h1 hs1
    split at h2
    · rename_i c s hc hsv
      split at h2
      · rename_i ty hty
        cases hb : ((!c.1 && tt ty) && (sy_le 0 s.1 && sy_le (s.2 + 1) (Int.ofNat c.2.2.1))) with
        | false => rw [hb] at h2; cases h2
        | true =>
          rw [hb, cond_true] at h2
          rw [Bool.and_eq_true, Bool.and_eq_true, Bool.and_eq_true, sy_le_iff, sy_le_iff] at hb
          obtain ⟨⟨b1, b2⟩, b3, b4⟩ := hb
          have b1' : c.1 = false := by simpa using b1
          have b4' : s.2 + 1 ≤ ((c.2.2.1 : Nat) : Int) := b4
          have iv := sy_iv_ok hk hsv hi
          obtain ⟨x1, x2, x3, x4⟩ := sy_idx iv.1 iv.2 b3
          obtain ⟨vs, k1, k2, k3⟩ := sy_cell_arr ht hc b1'
          split at h2
          · rename_i y hy
            obtain ⟨m, u, u1, u2, u3⟩ := sy_nrw_ok (y := y.1) (K' := y.2) hk hv hy
            have hlt : i.toNatClampNeg < vs.length := by omega
            have e1 : sy_put w q i.toNatClampNeg u = w.set q (.inl (c.2.1, vs.set i.toNatClampNeg u)) := by unfold sy_put; rw [k1]
            have fin : ri_ast tyL g (v :: .int i :: .ref q :: rc) w = some (rc, sy_put w q i.toNatClampNeg u) := by
              unfold ri_ast
              dsimp only
              rw [ri_nth_eq w, k1]
              dsimp only
              rw [hty]
              dsimp only
              rw [hg ty v b2, u1]
              dsimp only
              rw [decide_eq_false x1, ri_nth_eq vs, List.getElem?_eq_getElem hlt]
              dsimp only [ri_ok, Bool.not_false]
              rw [ri_upd_eq, ri_upd_eq, e1]
              rfl
            have hn9 : i.toNatClampNeg < c.2.2.1 := by omega
            have len : (sy_put w q i.toNatClampNeg u).length = w.length := by rw [e1, List.length_set]
            have hu0 : sy_wv w q i.toNatClampNeg = some vs[i.toNatClampNeg] := by rw [k3, List.getElem?_eq_getElem hlt]
            cases hq : sy_le s.2 s.1 with
            | true =>
              rw [hq, cond_true] at h2
              rw [sy_le_iff] at hq
              have e9 : s.1.toNat = i.toNatClampNeg := by omega
              rw [e9] at h2
              split at h2
              · rename_i f hf
                cases hfit : sy_fits f y.1 y.2 with
                | false => rw [hfit] at h2; cases h2
                | true =>
                  rw [hfit, cond_true] at h2
                  cases h2
                  have hfv := sy_fits_ok u2 hfit u3
                  obtain ⟨s1, s2, s3⟩ := sy_store_ok ht (sy_hok_app hh m) hd hc hf hfv u3
                  exact ⟨m, rc, _, fin, len, sy_put_but hu0, sy_st_app m hr, u2, s1, s2, s3⟩
              · cases h2
            | false =>
              rw [hq, cond_false] at h2
              have but : sy_but w (sy_put w q i.toNatClampNeg u) q s.1.toNat s.2.toNat := by
                intro q2 j2 hn
                rw [sy_put_wv hu0, if_neg (fun z => hn ⟨z.1, by omega, by omega⟩)]
              have done : ∀ f : sy_FS, sy_fs c i.toNatClampNeg = some f → sy_fits f y.1 y.2 = true → some (r, (q, s.1.toNat, s.2.toNat), sy_hdrop q s.1.toNat s.2.toNat H, sy_touch q s.1.toNat s.2.toNat RU D, y.2) = some (st', qq, H', D', K') → ∃ (m : List Int) (sz : List Value) (w' : List ri_E), ri_ast tyL g (v :: .int i :: .ref q :: rc) w = some (sz, w') ∧ w'.length = w.length ∧ sy_but w w' qq.1 qq.2.1 qq.2.2 ∧ sy_st (m ++ ρ) st' sz ∧ sy_ok (m ++ ρ) K' ∧ sy_tw T w' ∧ sy_hok (m ++ ρ) H' w' ∧ sy_ru RU D' w' := by
                intro f hf hfit h3
                cases h3
                exact ⟨m, rc, _, fin, len, but, sy_st_app m hr, u2, sy_put_tw ht hc hf (sy_fits_ok u2 hfit u3), sy_but_hok (sy_hok_app hh m) but, sy_but_ru hd but⟩
              split at h2
              · rename_i f hcf
                cases hfit : sy_fits f y.1 y.2 with
                | false => rw [hfit] at h2; cases h2
                | true =>
                  rw [hfit, cond_true] at h2
                  refine done f ?_ hfit h2
                  unfold sy_fs
                  rw [show Nat.blt i.toNatClampNeg c.2.2.1 = true from Nat.ble_eq_true_of_le hn9, cond_true, hcf]
              · rename_i l hcf
                cases hfit : (Nat.blt s.2.toNat l.length && ((ri_drop l s.1.toNat).take (s.2.toNat - s.1.toNat + 1)).all (fun f => sy_fits f y.1 y.2)) with
                | false => rw [hfit] at h2; cases h2
                | true =>
                  rw [hfit, cond_true] at h2
                  rw [Bool.and_eq_true, List.all_eq_true] at hfit
                  have hl8 : s.2.toNat < l.length := Nat.le_of_ble_eq_true hfit.1
                  have hl7 : i.toNatClampNeg < l.length := by omega
                  have hl9 : l[i.toNatClampNeg]? = some l[i.toNatClampNeg] := List.getElem?_eq_getElem hl7
                  refine done l[i.toNatClampNeg] ?_ (hfit.2 _ ?_) h2
                  · unfold sy_fs
                    rw [show Nat.blt i.toNatClampNeg c.2.2.1 = true from Nat.ble_eq_true_of_le hn9, cond_true, hcf]
                    dsimp only
                    rw [ri_nth_eq]; exact hl9
                  · rw [ri_drop_eq]
                    apply List.mem_of_getElem? (i := i.toNatClampNeg - s.1.toNat)
                    rw [List.getElem?_take, if_pos (by omega), List.getElem?_drop, show s.1.toNat + (i.toNatClampNeg - s.1.toNat) = i.toNatClampNeg by omega]
                    exact hl9
          · cases h2
      · cases h2
    · cases h2
  · cases h
end SYA
