/-! ===== the surveyor, part 9: arrays ===== -/
/-- one for all of n + 1 places -/
noncomputable def sy_jn (n : Nat) : List sy_FS → Option sy_FS := Nat.rec (fun l => match l with
  | f :: _ => bif Nat.ble f.1 1 then some f else none
  | [] => none) (fun _ ih l => match l with
  | f :: t => (match ih t with
    | some g => bif Nat.beq f.1 g.1 then some (g.1, sy_mn f.2.1 g.2.1, sy_mx f.2.2 g.2.2) else none
    | none => none)
  | [] => none) n
def sy_sub1 (f g : sy_FS) : Prop := f.1 = g.1 ∧ g.2.1 ≤ f.2.1 ∧ f.2.2 ≤ g.2.2
theorem sy_jn_ok : ∀ {n : Nat} {l : List sy_FS} {g : sy_FS}, sy_jn n l = some g → g.1 ≤ 1 ∧ ∀ k : Nat, k ≤ n → ∃ f : sy_FS, l[k]? = some f ∧ sy_sub1 f g
  | 0, [], g, h => by cases h
  | 0, f :: t, g, h => by
    have h2 : (bif Nat.ble f.1 1 then some f else none) = some g := h
    cases hb : Nat.ble f.1 1 with
    | false => rw [hb] at h2; cases h2
    | true =>
      rw [hb, cond_true] at h2
      cases h2
      exact ⟨Nat.le_of_ble_eq_true hb, fun k hk => ⟨f, by rw [Nat.le_zero.mp hk]; rfl, rfl, Int.le_refl _, Int.le_refl _⟩⟩
  | n + 1, [], g, h => by cases h
  | n + 1, f :: t, g, h => by
    have h2 : (match sy_jn n t with
      | some g => bif Nat.beq f.1 g.1 then some (g.1, sy_mn f.2.1 g.2.1, sy_mx f.2.2 g.2.2) else none
      | none => none) = some g := h
    split at h2
    · rename_i g2 hg2
      cases hb : Nat.beq f.1 g2.1 with
      | false => rw [hb] at h2; cases h2
      | true =>
        rw [hb, cond_true] at h2
        cases h2
        obtain ⟨i1, i2⟩ := sy_jn_ok hg2
        refine ⟨i1, fun k hk => ?_⟩
        cases k with
        | zero => exact ⟨f, rfl, Nat.eq_of_beq_eq_true hb, (sy_mn_le _ _).1, (sy_mx_le _ _).1⟩
        | succ k =>
          obtain ⟨f2, j1, j2, j3, j4⟩ := i2 k (by omega)
          exact ⟨f2, j1, j2, Int.le_trans (sy_mn_le _ _).2 j3, Int.le_trans j4 (sy_mx_le _ _).2⟩
    · cases h2
theorem sy_fv_sub {f g : sy_FS} {v : Value} (h : sy_fv f v) (hs : sy_sub1 f g) (hg : g.1 ≤ 1) : sy_fv g v := by
  obtain ⟨t, lo, hi⟩ := f
  obtain ⟨t2, lo2, hi2⟩ := g
  obtain ⟨e9, h1, h2⟩ := hs
  have e9' : t = t2 := e9
  subst e9'
  dsimp only at h1 h2 hg
  have ht : t = 0 ∨ t = 1 := by omega
  rcases ht with rfl | rfl
  · obtain ⟨x, rfl, a1, a2⟩ := (h : ∃ x : Int32, v = .int x ∧ lo ≤ x.toInt ∧ x.toInt ≤ hi)
    exact ⟨x, rfl, Int.le_trans h1 a1, Int.le_trans a2 h2⟩
  · obtain ⟨x, rfl, a1, a2⟩ := (h : ∃ x : Int64, v = .long x ∧ lo ≤ x.toInt ∧ x.toInt ≤ hi)
    exact ⟨x, rfl, Int.le_trans h1 a1, Int.le_trans a2 h2⟩
/-- one for all places from lo to hi -/
noncomputable def sy_all1 (c : sy_C) (lo hi : Nat) : Option sy_FS := match c.2.2.2 with
  | .inl f => some f
  | .inr l => sy_jn (hi - lo) (ri_drop l lo)
theorem sy_all1_ok {c : sy_C} {lo hi : Nat} {g : sy_FS} (h : sy_all1 c lo hi = some g) {j : Nat} (h1 : lo ≤ j) (h2 : j ≤ hi) (hn : j < c.2.2.1) : ∃ f : sy_FS, sy_fs c j = some f ∧ ∀ v : Value, sy_fv f v → sy_fv g v := by
  obtain ⟨o, t, n, q⟩ := c
  unfold sy_all1 at h
  unfold sy_fs
  dsimp only at h hn ⊢
  rw [show Nat.blt j n = true from Nat.ble_eq_true_of_le hn, cond_true]
  split at h
  · cases h
    exact ⟨g, rfl, fun v hv => hv⟩
  · rename_i l
    obtain ⟨i1, i2⟩ := sy_jn_ok h
    obtain ⟨f, j1, j2⟩ := i2 (j - lo) (by omega)
    rw [ri_drop_eq, List.getElem?_drop, show lo + (j - lo) = j by omega] at j1
    exact ⟨f, by show ri_nth l j = some f; rw [ri_nth_eq]; exact j1, fun v hv => sy_fv_sub hv j2 i1⟩
section SYA
variable {T : Nat → Option sy_C} {ρ : List Int} {w : List ri_E} {RU : sy_RT} {tyL : List FieldType}
/-- an index within an array -/
theorem sy_idx {i : Int32} {lo hi : Int} (h1 : lo ≤ i.toInt) (h2 : i.toInt ≤ hi) (h0 : 0 ≤ lo) : ¬ i < 0 ∧ lo.toNat ≤ i.toNatClampNeg ∧ i.toNatClampNeg ≤ hi.toNat ∧ (i.toNatClampNeg : Int) = i.toInt := by
  have e : (i.toNatClampNeg : Int) = i.toInt := Int.toNat_of_nonneg (by omega)
  refine ⟨fun q => ?_, by omega, by omega, e⟩
  rw [Int32.lt_iff_toInt_lt] at q
  have z : (0 : Int32).toInt = 0 := rfl
  omega
/-- what is known of the number at an index -/
noncomputable def sy_glk (q : Nat) (e : sy_E) (H : sy_H) : Option sy_E := List.rec none (fun x _ ih => @Bool.rec (fun _ => Option sy_E) ih (some x.2.2.2) ((Nat.beq x.1.1 q && Nat.beq x.1.2 0) && (Nat.beq x.2.1 10 && sy_eeq0 x.2.2.1 e))) H
theorem sy_glk_ok {q : Nat} {e e2 : sy_E} (hn : ∀ v : Value, ∀ e3 : sy_E, ¬ sy_is ρ (10, e, e3) v) : ∀ {H : sy_H}, sy_hok ρ H w → sy_glk q e H = some e2 → ∃ i v : Int, sy_ev ρ e = some i ∧ sy_ev ρ e2 = some v ∧ sy_nv w q i.toNat = v
  | [], _, h => by cases h
  | x :: H, hh, h => by
    have h2 : (@Bool.rec (fun _ => Option sy_E) (sy_glk q e H) (some x.2.2.2) ((Nat.beq x.1.1 q && Nat.beq x.1.2 0) && (Nat.beq x.2.1 10 && sy_eeq0 x.2.2.1 e))) = some e2 := h
    cases hb : ((Nat.beq x.1.1 q && Nat.beq x.1.2 0) && (Nat.beq x.2.1 10 && sy_eeq0 x.2.2.1 e)) with
    | false => rw [hb] at h2; exact sy_glk_ok hn (fun y hy => hh y (List.mem_cons_of_mem _ hy)) h2
    | true =>
      rw [hb] at h2
      simp only [Bool.and_eq_true] at hb
      obtain ⟨⟨b1, b2⟩, b3, b4⟩ := hb
      obtain ⟨⟨q9, k9⟩, t9, a9, c9⟩ := x
      have e1 : q9 = q := Nat.eq_of_beq_eq_true b1
      have e3 : k9 = 0 := Nat.eq_of_beq_eq_true b2
      have e4 : t9 = 10 := Nat.eq_of_beq_eq_true b3
      have e5 : a9 = e := sy_eeq0_ok b4
      have e6 : c9 = e2 := Option.some.inj h2
      subst e1
      subst e3
      subst e4
      subst e5
      subst e6
      rcases hh _ List.mem_cons_self with ⟨v, -, g⟩ | ⟨-, g⟩ | ⟨g, -⟩
      · exact (hn v _ g).elim
      · exact g
      · cases g
noncomputable def sy_aldb (c : sy_C) (q : Nat) (e : sy_E) (s : Int × Int) (r : List sy_V) (H : sy_H) (K : sy_K) : Option (List sy_V × sy_H × sy_K) := match sy_all1 c s.1.toNat s.2.toNat with
  | some f => bif Nat.beq f.1 0 then (match sy_glk q e H with
    | some e2 => some ((0, e2, .inl 0) :: r, H, K)
    | none => (match sy_fresh f K with
      | some z => some (z.1 :: r, ((q, 0), (10, e, z.1.2.1)) :: H, z.2)
      | none => none)) else none
  | none => none
noncomputable def sy_ald (T : Nat → Option sy_C) (tyL : List FieldType) (g : FieldType → Bool) (st : List sy_V) (H : sy_H) (K : sy_K) : Option (List sy_V × sy_H × sy_K) := sy_q1 0 st (fun e st => sy_q3 st (fun q r => match T q, sy_iv K e with
  | some c, some s => (match ri_nth tyL c.2.1 with
    | some ty => bif (!c.1 && g ty) && (sy_le 0 s.1 && sy_le (s.2 + 1) (Int.ofNat c.2.2.1)) then
        (bif Nat.beq c.2.1 3 then sy_aldb c q e s r H K else bif sy_le s.2 s.1 then (match sy_ld T q s.1.toNat H K with
          | some z => some (z.1 :: r, z.2.1, z.2.2)
          | none => none)
        else (match sy_all1 c s.1.toNat s.2.toNat with
          | some f => (match sy_fresh f K with
            | some z => some (z.1 :: r, H, z.2)
            | none => none)
          | none => none))
      else none
    | none => none)
  | _, _ => none))
theorem sy_ald_ok {g : FieldType → Bool} {st st' : List sy_V} {stc : List Value} {H H' : sy_H} {K K' : sy_K} (h : sy_ald T tyL g st H K = some (st', H', K')) (hk : sy_ok ρ K) (hs : sy_st ρ st stc) (hh : sy_hok ρ H w) (ht : sy_tw T w) :
    ∃ (m : List Int) (sz : List Value), ri_ald tyL g stc w = some sz ∧ sy_st (m ++ ρ) st' sz ∧ sy_ok (m ++ ρ) K' ∧ sy_hok (m ++ ρ) H' w := by
  obtain ⟨e, st1, i, rc1, h1, rfl, hi, hs1⟩ := sy_int_top h hs
  obtain ⟨q, r, rc, h2, rfl, hr⟩ := sy_ref_top h1 hs1
  split at h2
  · rename_i c s hc hsv
    split at h2
    · rename_i ty hty
      cases hb : ((!c.1 && g ty) && (sy_le 0 s.1 && sy_le (s.2 + 1) (Int.ofNat c.2.2.1))) with
      | false => rw [hb] at h2; cases h2
      | true =>
        rw [hb, cond_true] at h2
        rw [Bool.and_eq_true, Bool.and_eq_true, Bool.and_eq_true, sy_le_iff, sy_le_iff] at hb
        obtain ⟨⟨b1, b2⟩, b3, b4⟩ := hb
        have b1' : c.1 = false := by simpa using b1
        have b4' : s.2 + 1 ≤ ((c.2.2.1 : Nat) : Int) := b4
        have iv := sy_iv_ok hk hsv hi
        obtain ⟨x1, x2, x3, x4⟩ := sy_idx iv.1 iv.2 b3
        obtain ⟨vs, k1, k2, k3⟩ := sy_cell_arr ht hc b1'
        have fin : ∀ v : Value, sy_wv w q i.toNatClampNeg = some v → ri_ald tyL g (.int i :: .ref q :: rc) w = some (v :: rc) := by
          intro v hv
          unfold ri_ald
          dsimp only
          rw [ri_nth_eq w, k1]
          dsimp only
          rw [hty]
          dsimp only
          rw [b2, decide_eq_false x1, ri_nth_eq vs, ← k3, hv]
          rfl
        cases h3 : Nat.beq c.2.1 3 with
        | true =>
          rw [h3, cond_true] at h2
          unfold sy_aldb at h2
          split at h2
          · rename_i f hf
            cases h0 : Nat.beq f.1 0 with
            | false => rw [h0] at h2; cases h2
            | true =>
              rw [h0, cond_true] at h2
              obtain ⟨t9, flo, fhi⟩ := f
              have e0 : t9 = 0 := Nat.eq_of_beq_eq_true h0
              subst e0
              obtain ⟨f2, f3, f4⟩ := sy_all1_ok hf (j := i.toNatClampNeg) x2 x3 (by omega)
              obtain ⟨vs2, g1, g2, g3⟩ := ht q c hc
              obtain ⟨v, g4, g5⟩ := g3 _ f2 f3
              have hv : sy_wv w q i.toNatClampNeg = some v := by unfold sy_wv; rw [g1]; dsimp only; rw [sy_vals_mk]; exact g4
              obtain ⟨xx, ev, -, -⟩ := (f4 v g5 : ∃ xx : Int32, v = .int xx ∧ flo ≤ xx.toInt ∧ xx.toInt ≤ fhi)
              have hnv : sy_nv w q i.toInt.toNat = xx.toInt := by
                have e5 : i.toInt.toNat = i.toNatClampNeg := rfl
                unfold sy_nv
                rw [e5, hv, ev]
                rfl
              split at h2
              · rename_i e2 he2
                cases h2
                obtain ⟨i9, v9, p1, p2, p3⟩ := sy_glk_ok (fun v e3 z => by cases z) hh he2
                rw [hi] at p1
                cases p1
                rw [hnv] at p3
                subst p3
                exact ⟨[], v :: rc, fin v hv, ⟨⟨xx, ev, p2⟩, hr⟩, hk, hh⟩
              · split at h2
                · rename_i z hz
                  cases h2
                  obtain ⟨m, p1, p2⟩ := sy_fresh_ok (a := z.1) (K' := z.2) hk hz (f4 v g5)
                  refine ⟨m, v :: rc, fin v hv, ⟨p2, sy_st_app m hr⟩, p1, fun y hy => ?_⟩
                  rcases List.mem_cons.mp hy with rfl | hy
                  · refine Or.inr (Or.inl ⟨rfl, i.toInt, xx.toInt, sy_ev_app hi m, ?_, hnv⟩)
                    obtain ⟨⟨t8, e8, e88⟩, K8⟩ := z
                    have ht8 : t8 = 0 := by
                      have h8 : some (sy_mk 0 flo fhi [] K) = some ((t8, e8, e88), K8) := hz
                      have h9 := sy_mk_t 0 flo fhi [] K
                      rw [Option.some.inj h8] at h9
                      exact h9
                    subst ht8
                    obtain ⟨x8, hx8, he8⟩ := sy_is_int p2
                    rw [ev] at hx8
                    cases hx8
                    exact he8
                  · exact sy_hok_app hh m y hy
                · cases h2
          · cases h2
        | false =>
        rw [h3, cond_false] at h2
        cases hq : sy_le s.2 s.1 with
        | true =>
          rw [hq, cond_true] at h2
          rw [sy_le_iff] at hq
          split at h2
          · rename_i z hz
            cases h2
            obtain ⟨m, v, g1, g2, g3, g4⟩ := sy_ld_ok (a := z.1) (H' := z.2.1) (K' := z.2.2) hk hh ht hz
            have e9 : s.1.toNat = i.toNatClampNeg := by omega
            rw [e9] at g1
            exact ⟨m, v :: rc, fin v g1, ⟨g2, sy_st_app m hr⟩, g3, g4⟩
          · cases h2
        | false =>
          rw [hq, cond_false] at h2
          split at h2
          · rename_i f hf
            split at h2
            · rename_i z hz
              cases h2
              obtain ⟨f2, f3, f4⟩ := sy_all1_ok hf (j := i.toNatClampNeg) x2 x3 (by omega)
              obtain ⟨vs2, g1, g2, g3⟩ := ht q c hc
              obtain ⟨v, g4, g5⟩ := g3 _ f2 f3
              have hv : sy_wv w q i.toNatClampNeg = some v := by unfold sy_wv; rw [g1]; dsimp only; rw [sy_vals_mk]; exact g4
              obtain ⟨m, p1, p2⟩ := sy_fresh_ok (a := z.1) (K' := z.2) hk hz (f4 v g5)
              exact ⟨m, v :: rc, fin v hv, ⟨p2, sy_st_app m hr⟩, p1, sy_hok_app hh m⟩
            · cases h2
          · cases h2
    · cases h2
  · cases h2
/-! stores -/
/-- what an array of this type keeps of a value -/
noncomputable def sy_nrw (ty : FieldType) (x : sy_V) (K : sy_K) : Option (sy_V × sy_K) := match ty with
  | .int => bif Nat.beq x.1 0 then some (x, K) else none
  | .long => bif Nat.beq x.1 1 then some (x, K) else none
  | .double => bif Nat.beq x.1 2 then some (x, K) else none
  | .byte => bif Nat.beq x.1 0 then (match sy_iv K x.2.1 with
    | some s => bif sy_le (-128) s.1 && sy_le s.2 127 then some ((0, x.2.1, .inl 0), K) else some (sy_mk 0 (-128) 127 [] K)
    | none => none) else none
  | .boolean => (match sy_iv K x.2.1 with
    | some s => bif Nat.beq x.1 0 && (sy_le 0 s.1 && sy_le s.2 1) then some (x, K) else none
    | none => none)
  | _ => none
def sy_gof (ty : FieldType) (v : Value) : Option Value := match ty with
  | .int => ri_gI ty v
  | .long => ri_gL ty v
  | .double => ri_gD ty v
  | _ => ri_gB ty v
theorem sy_nrw_ok {ty : FieldType} {x y : sy_V} {K K' : sy_K} {v : Value} (hk : sy_ok ρ K) (hx : sy_is ρ x v) (h : sy_nrw ty x K = some (y, K')) : ∃ (m : List Int) (u : Value), sy_gof ty v = some u ∧ sy_ok (m ++ ρ) K' ∧ sy_is (m ++ ρ) y u := by
  obtain ⟨t, e, e2⟩ := x
  unfold sy_nrw at h
  split at h
  · cases hb : Nat.beq t 0 with
    | false => dsimp only at h; rw [hb] at h; cases h
    | true =>
      dsimp only at h
      rw [hb, cond_true] at h
      cases h
      have e9 : t = 0 := Nat.eq_of_beq_eq_true hb
      subst e9
      obtain ⟨z, rfl, hz⟩ := sy_is_int hx
      exact ⟨[], _, rfl, hk, hx⟩
  · cases hb : Nat.beq t 1 with
    | false => dsimp only at h; rw [hb] at h; cases h
    | true =>
      dsimp only at h
      rw [hb, cond_true] at h
      cases h
      have e9 : t = 1 := Nat.eq_of_beq_eq_true hb
      subst e9
      obtain ⟨z, rfl, hz⟩ := sy_is_long hx
      exact ⟨[], _, rfl, hk, hx⟩
  · cases hb : Nat.beq t 2 with
    | false => dsimp only at h; rw [hb] at h; cases h
    | true =>
      dsimp only at h
      rw [hb, cond_true] at h
      cases h
      have e9 : t = 2 := Nat.eq_of_beq_eq_true hb
      subst e9
      have hx2 := hx
      obtain ⟨z, k, rfl, hz⟩ := (hx : ∃ (z : UInt64) (k : Int), v = .double z ∧ sy_ev ρ e = some k ∧ sy_dx e2 k z)
      exact ⟨[], _, rfl, hk, hx2⟩
  · cases hb : Nat.beq t 0 with
    | false => dsimp only at h; rw [hb] at h; cases h
    | true =>
      dsimp only at h
      rw [hb, cond_true] at h
      have e9 : t = 0 := Nat.eq_of_beq_eq_true hb
      subst e9
      obtain ⟨z, rfl, hz⟩ := sy_is_int hx
      split at h
      · rename_i s hsv
        have iv := sy_iv_ok hk hsv hz
        cases hb2 : (sy_le (-128) s.1 && sy_le s.2 127) with
        | true =>
          rw [hb2, cond_true] at h
          cases h
          rw [Bool.and_eq_true, sy_le_iff, sy_le_iff] at hb2
          have e7 : z.toInt8.toInt32 = z := by
            apply Int32.toInt_inj.mp
            rw [Int8.toInt_toInt32, Int32.toInt_toInt8, Int.bmod_def]
            omega
          exact ⟨[], .int z.toInt8.toInt32, rfl, hk, ⟨z.toInt8.toInt32, rfl, by rw [e7]; exact hz⟩⟩
        | false =>
          rw [hb2, cond_false] at h
          have b1 := Int8.le_toInt z.toInt8
          have b2 := Int8.toInt_lt z.toInt8
          have e8 : (z.toInt8.toInt32).toInt = z.toInt8.toInt := Int8.toInt_toInt32 _
          have h9 := sy_mk_ok (t := 0) (lo := -128) (hi := 127) (fs := []) (v := .int z.toInt8.toInt32) (z0 := z.toInt8.toInt32.toInt) (z := z.toInt8.toInt32.toInt) hk ⟨_, rfl, rfl⟩ (by omega) (by omega) (fun _ _ => rfl) (fun p hp => by cases hp)
          rw [Option.some.inj h] at h9
          obtain ⟨m, p1, p2⟩ := h9
          exact ⟨m, .int z.toInt8.toInt32, rfl, p1, p2⟩
      · cases h
  · split at h
    · rename_i s hsv
      cases hb : (Nat.beq t 0 && (sy_le 0 s.1 && sy_le s.2 1)) with
      | false => dsimp only at h; rw [hb] at h; cases h
      | true =>
        dsimp only at h
        rw [hb, cond_true] at h
        cases h
        rw [Bool.and_eq_true, Bool.and_eq_true, sy_le_iff, sy_le_iff] at hb
        have e9 : t = 0 := Nat.eq_of_beq_eq_true hb.1
        subst e9
        obtain ⟨z, rfl, hz⟩ := sy_is_int hx
        have iv := sy_iv_ok hk hsv hz
        have h2 := hb.2
        have h5 : z.toInt = 0 ∨ z.toInt = 1 := by omega
        rcases h5 with h5 | h5
        · have e7 : z = 0 := Int32.toInt_inj.mp h5
          subst e7
          exact ⟨[], .int 0, by decide +kernel, hk, hx⟩
        · have e7 : z = 1 := Int32.toInt_inj.mp h5
          subst e7
          exact ⟨[], .int 1, by decide +kernel, hk, hx⟩
    · cases h
  · cases h
/-- a store into a row of bytes: rows that are alike below that place stay so -/
noncomputable def sy_hde (e : sy_E) (q lo hi : Nat) (x : (Nat × Nat) × sy_V) : Bool := sy_hdc q lo hi x && !((Nat.beq x.2.1 10 && Nat.beq x.1.2 7) && sy_eeq0 x.2.2.1 e)
noncomputable def sy_hdb (e : sy_E) (q lo hi : Nat) (H : sy_H) : sy_H := List.rec [] (fun x _ ih => @Bool.rec (fun _ => sy_H) (sy_hkm (pg_kr q lo hi) x :: ih) ih (sy_hde e q lo hi x)) H
theorem sy_hdb_mem {e : sy_E} {q lo hi : Nat} {x : (Nat × Nat) × sy_V} : ∀ {H : sy_H}, x ∈ sy_hdb e q lo hi H → ∃ y ∈ H, sy_hde e q lo hi y = false ∧ x = sy_hkm (pg_kr q lo hi) y
  | [], h => by cases h
  | y :: H, h => by
    have h2 : x ∈ (@Bool.rec (fun _ => sy_H) (sy_hkm (pg_kr q lo hi) y :: sy_hdb e q lo hi H) (sy_hdb e q lo hi H) (sy_hde e q lo hi y)) := h
    cases hb : sy_hde e q lo hi y with
    | true =>
      rw [hb] at h2
      obtain ⟨z, a, b⟩ := sy_hdb_mem h2
      exact ⟨z, List.mem_cons_of_mem _ a, b⟩
    | false =>
      rw [hb] at h2
      rcases List.mem_cons.mp h2 with h3 | h3
      · exact ⟨y, List.mem_cons_self, hb, h3⟩
      · obtain ⟨z, a, b⟩ := sy_hdb_mem h3
        exact ⟨z, List.mem_cons_of_mem _ a, b⟩
theorem sy_hdb_ok {e : sy_E} {q lo hi n : Nat} {i : Int} {u v : Value} {H : sy_H} (hh : sy_hok ρ H w) (he : sy_ev ρ e = some i) (hn : (n : Int) = i) (hu : sy_wv w q n = some u) (h1 : lo ≤ n) (h2 : n ≤ hi) : sy_hok ρ (sy_hdb e q lo hi H) (sy_put w q n v) := by
  have but : sy_but w (sy_put w q n v) q lo hi := by
    intro q2 j2 hne
    rw [sy_put_wv hu, if_neg (fun z => hne ⟨z.1, by omega, by omega⟩)]
  intro x hx
  obtain ⟨y, g1, g2, rfl⟩ := sy_hdb_mem hx
  cases hc : sy_hdc q lo hi y with
  | false => exact sy_but_hx but (sy_but_kok but) (hh y g1) hc
  | true =>
    unfold sy_hde at g2
    rw [hc, Bool.true_and, Bool.not_eq_false', Bool.and_eq_true, Bool.and_eq_true] at g2
    obtain ⟨⟨b1, b2⟩, b3⟩ := g2
    have k10 : y.2.1 = 10 := Nat.eq_of_beq_eq_true b1
    rw [sy_hkm_no (by rw [k10]; decide)]
    rcases hh y g1 with ⟨v9, -, g⟩ | ⟨-, g⟩ | ⟨g, -⟩
    · exact absurd k10 (sy_is_lt g).1
    · refine Or.inr (Or.inl ⟨k10, ?_⟩)
      rw [Nat.eq_of_beq_eq_true b2] at g ⊢
      obtain ⟨b, q2, f1, f2, f3⟩ := g
      have eb : b = i := by
        rw [sy_eeq0_ok b3, he] at f1
        exact (Option.some.inj f1).symm
      have nv9 : ∀ q9 j : Nat, (j : Int) < b → sy_nv (sy_put w q n v) q9 j = sy_nv w q9 j := fun q9 j hj => sy_wv_nv (by rw [sy_put_wv hu, if_neg (fun z => by have := z.2; omega)])
      exact ⟨b, q2, f1, f2, fun j hj => by rw [nv9 _ j hj, nv9 _ j hj]; exact f3 j hj⟩
    · rw [k10] at g; cases g
noncomputable def sy_astb (RU : sy_RT) (c : sy_C) (q : Nat) (e : sy_E) (s : Int × Int) (r : List sy_V) (y : sy_V × sy_K) (H : sy_H) (D : List Nat) : Option (List sy_V × (Nat × Nat × Nat) × sy_H × List Nat × sy_K) := match c.2.2.2 with
  | .inl f => bif Nat.beq y.1.1 0 && sy_fits f y.1 y.2 then some (r, (q, s.1.toNat, s.2.toNat), ((q, 0), (10, e, y.1.2.1)) :: sy_hdb e q s.1.toNat s.2.toNat H, sy_touch q s.1.toNat s.2.toNat RU D, y.2) else none
  | .inr _ => none
noncomputable def sy_ast (T : Nat → Option sy_C) (RU : sy_RT) (tyL : List FieldType) (tt : FieldType → Bool) (st : List sy_V) (H : sy_H) (D : List Nat) (K : sy_K) : Option (List sy_V × (Nat × Nat × Nat) × sy_H × List Nat × sy_K) := match st with
  | x :: st => sy_q1 0 st (fun e st => sy_q3 st (fun q r => match T q, sy_iv K e with
    | some c, some s => (match ri_nth tyL c.2.1 with
      | some ty => bif (!c.1 && tt ty) && (sy_le 0 s.1 && sy_le (s.2 + 1) (Int.ofNat c.2.2.1)) then (match sy_nrw ty x K with
        | some y => (bif Nat.beq c.2.1 3 then sy_astb RU c q e s r y H D else bif sy_le s.2 s.1 then (match sy_fs c s.1.toNat with
            | some f => bif sy_fits f y.1 y.2 then some (r, (q, s.1.toNat, s.1.toNat), sy_hst q s.1.toNat y.1 H, sy_tch q s.1.toNat y.1 H RU D, y.2) else none
            | none => none)
          else (match c.2.2.2 with
            | .inl f => bif sy_fits f y.1 y.2 then some (r, (q, s.1.toNat, s.2.toNat), sy_hdrop q s.1.toNat s.2.toNat H, sy_touch q s.1.toNat s.2.toNat RU D, y.2) else none
            | .inr l => bif Nat.blt s.2.toNat l.length && ((ri_drop l s.1.toNat).take (s.2.toNat - s.1.toNat + 1)).all (fun f => sy_fits f y.1 y.2) then some (r, (q, s.1.toNat, s.2.toNat), sy_hdrop q s.1.toNat s.2.toNat H, sy_touch q s.1.toNat s.2.toNat RU D, y.2) else none))
        | none => none)
        else none
      | none => none)
    | _, _ => none))
  | [] => none
theorem sy_ast_ok {tt : FieldType → Bool} {g : FieldType → Value → Option Value} (hg : ∀ (ty : FieldType) (v : Value), tt ty = true → g ty v = sy_gof ty v) {st st' : List sy_V} {stc : List Value} {H H' : sy_H} {D D' : List Nat} {K K' : sy_K} {qq : Nat × Nat × Nat} (h : sy_ast T RU tyL tt st H D K = some (st', qq, H', D', K')) (hk : sy_ok ρ K) (hs : sy_st ρ st stc) (hh : sy_hok ρ H w) (ht : sy_tw T w) (hd : sy_ru RU D w) :
    ∃ (m : List Int) (sz : List Value) (w' : List ri_E), ri_ast tyL g stc w = some (sz, w') ∧ w'.length = w.length ∧ sy_but w w' qq.1 qq.2.1 qq.2.2 ∧ sy_st (m ++ ρ) st' sz ∧ sy_ok (m ++ ρ) K' ∧ sy_tw T w' ∧ sy_hok (m ++ ρ) H' w' ∧ sy_ru RU D' w' := by
  unfold sy_ast at h
  split at h
  · rename_i x st0
    obtain ⟨v, rc0, rfl, hv, hs0⟩ := sy_st_cons hs
    obtain ⟨e, st1, i, rc1, h1, rfl, hi, hs1⟩ := sy_int_top h hs0
    obtain ⟨q, r, rc, h2, rfl, hr⟩ := sy_ref_top h1 hs1
    split at h2
    · rename_i c s hc hsv
      split at h2
      · rename_i ty hty
        cases hb : ((!c.1 && tt ty) && (sy_le 0 s.1 && sy_le (s.2 + 1) (Int.ofNat c.2.2.1))) with
        | false => rw [hb] at h2; cases h2
        | true =>
          rw [hb, cond_true] at h2
          rw [Bool.and_eq_true, Bool.and_eq_true, Bool.and_eq_true, sy_le_iff, sy_le_iff] at hb
          obtain ⟨⟨b1, b2⟩, b3, b4⟩ := hb
          have b1' : c.1 = false := by simpa using b1
          have b4' : s.2 + 1 ≤ ((c.2.2.1 : Nat) : Int) := b4
          have iv := sy_iv_ok hk hsv hi
          obtain ⟨x1, x2, x3, x4⟩ := sy_idx iv.1 iv.2 b3
          obtain ⟨vs, k1, k2, k3⟩ := sy_cell_arr ht hc b1'
          split at h2
          · rename_i y hy
            obtain ⟨m, u, u1, u2, u3⟩ := sy_nrw_ok (y := y.1) (K' := y.2) hk hv hy
            have hlt : i.toNatClampNeg < vs.length := by omega
            have e1 : sy_put w q i.toNatClampNeg u = w.set q (.inl (c.2.1, vs.set i.toNatClampNeg u)) := by unfold sy_put; rw [k1]
            have fin : ri_ast tyL g (v :: .int i :: .ref q :: rc) w = some (rc, sy_put w q i.toNatClampNeg u) := by
              unfold ri_ast
              dsimp only
              rw [ri_nth_eq w, k1]
              dsimp only
              rw [hty]
              dsimp only
              rw [hg ty v b2, u1]
              dsimp only
              rw [decide_eq_false x1, ri_nth_eq vs, List.getElem?_eq_getElem hlt]
              dsimp only [ri_ok, Bool.not_false]
              rw [ri_upd_eq, ri_upd_eq, e1]
              rfl
            have hn9 : i.toNatClampNeg < c.2.2.1 := by omega
            have len : (sy_put w q i.toNatClampNeg u).length = w.length := by rw [e1, List.length_set]
            have hu0 : sy_wv w q i.toNatClampNeg = some vs[i.toNatClampNeg] := by rw [k3, List.getElem?_eq_getElem hlt]
            cases h3 : Nat.beq c.2.1 3 with
            | true =>
              rw [h3, cond_true] at h2
              unfold sy_astb at h2
              split at h2
              · rename_i f hcf
                cases hfit : (Nat.beq y.1.1 0 && sy_fits f y.1 y.2) with
                | false => rw [hfit] at h2; cases h2
                | true =>
                  rw [hfit, cond_true] at h2
                  cases h2
                  rw [Bool.and_eq_true] at hfit
                  have hf : sy_fs c i.toNatClampNeg = some f := by
                    unfold sy_fs
                    rw [show Nat.blt i.toNatClampNeg c.2.2.1 = true from Nat.ble_eq_true_of_le hn9, cond_true, hcf]
                  have but : sy_but w (sy_put w q i.toNatClampNeg u) q s.1.toNat s.2.toNat := by
                    intro q2 j2 hn
                    rw [sy_put_wv hu0, if_neg (fun z => hn ⟨z.1, by omega, by omega⟩)]
                  refine ⟨m, rc, _, fin, len, but, sy_st_app m hr, u2, sy_put_tw ht hc hf (sy_fits_ok u2 hfit.2 u3), ?_, sy_but_ru hd but⟩
                  intro z hz
                  rcases List.mem_cons.mp hz with rfl | hz
                  · obtain ⟨⟨t8, e8, e88⟩, K8⟩ := y
                    have ht8 : t8 = 0 := Nat.eq_of_beq_eq_true hfit.1
                    subst ht8
                    obtain ⟨x8, hx8, he8⟩ := sy_is_int u3
                    refine Or.inr (Or.inl ⟨rfl, i.toInt, x8.toInt, sy_ev_app hi m, he8, ?_⟩)
                    have e5 : i.toInt.toNat = i.toNatClampNeg := rfl
                    show sy_nv (sy_put w q i.toNatClampNeg u) q i.toInt.toNat = _
                    unfold sy_nv
                    rw [e5, sy_put_wv hu0, if_pos ⟨rfl, rfl⟩, hx8]
                    rfl
                  · exact sy_hdb_ok (sy_hok_app hh m) (sy_ev_app hi m) x4 hu0 x2 x3 z hz
              · cases h2
            | false =>
            rw [h3, cond_false] at h2
            cases hq : sy_le s.2 s.1 with
            | true =>
              rw [hq, cond_true] at h2
              rw [sy_le_iff] at hq
              have e9 : s.1.toNat = i.toNatClampNeg := by omega
              rw [e9] at h2
              split at h2
              · rename_i f hf
                cases hfit : sy_fits f y.1 y.2 with
                | false => rw [hfit] at h2; cases h2
                | true =>
                  rw [hfit, cond_true] at h2
                  cases h2
                  have hfv := sy_fits_ok u2 hfit u3
                  obtain ⟨s1, s2, s3⟩ := sy_store_ok ht (sy_hok_app hh m) hd hc hf hfv u3
                  exact ⟨m, rc, _, fin, len, sy_put_but hu0, sy_st_app m hr, u2, s1, s2, s3⟩
              · cases h2
            | false =>
              rw [hq, cond_false] at h2
              have but : sy_but w (sy_put w q i.toNatClampNeg u) q s.1.toNat s.2.toNat := by
                intro q2 j2 hn
                rw [sy_put_wv hu0, if_neg (fun z => hn ⟨z.1, by omega, by omega⟩)]
              have done : ∀ f : sy_FS, sy_fs c i.toNatClampNeg = some f → sy_fits f y.1 y.2 = true → some (r, (q, s.1.toNat, s.2.toNat), sy_hdrop q s.1.toNat s.2.toNat H, sy_touch q s.1.toNat s.2.toNat RU D, y.2) = some (st', qq, H', D', K') → ∃ (m : List Int) (sz : List Value) (w' : List ri_E), ri_ast tyL g (v :: .int i :: .ref q :: rc) w = some (sz, w') ∧ w'.length = w.length ∧ sy_but w w' qq.1 qq.2.1 qq.2.2 ∧ sy_st (m ++ ρ) st' sz ∧ sy_ok (m ++ ρ) K' ∧ sy_tw T w' ∧ sy_hok (m ++ ρ) H' w' ∧ sy_ru RU D' w' := by
                intro f hf hfit h3
                cases h3
                exact ⟨m, rc, _, fin, len, but, sy_st_app m hr, u2, sy_put_tw ht hc hf (sy_fits_ok u2 hfit u3), sy_but_hok (sy_hok_app hh m) but, sy_but_ru hd but⟩
              split at h2
              · rename_i f hcf
                cases hfit : sy_fits f y.1 y.2 with
                | false => rw [hfit] at h2; cases h2
                | true =>
                  rw [hfit, cond_true] at h2
                  refine done f ?_ hfit h2
                  unfold sy_fs
                  rw [show Nat.blt i.toNatClampNeg c.2.2.1 = true from Nat.ble_eq_true_of_le hn9, cond_true, hcf]
              · rename_i l hcf
                cases hfit : (Nat.blt s.2.toNat l.length && ((ri_drop l s.1.toNat).take (s.2.toNat - s.1.toNat + 1)).all (fun f => sy_fits f y.1 y.2)) with
                | false => rw [hfit] at h2; cases h2
                | true =>
                  rw [hfit, cond_true] at h2
                  rw [Bool.and_eq_true, List.all_eq_true] at hfit
                  have hl8 : s.2.toNat < l.length := Nat.le_of_ble_eq_true hfit.1
                  have hl7 : i.toNatClampNeg < l.length := by omega
                  have hl9 : l[i.toNatClampNeg]? = some l[i.toNatClampNeg] := List.getElem?_eq_getElem hl7
                  refine done l[i.toNatClampNeg] ?_ (hfit.2 _ ?_) h2
                  · unfold sy_fs
                    rw [show Nat.blt i.toNatClampNeg c.2.2.1 = true from Nat.ble_eq_true_of_le hn9, cond_true, hcf]
                    dsimp only
                    rw [ri_nth_eq]; exact hl9
                  · rw [ri_drop_eq]
                    apply List.mem_of_getElem? (i := i.toNatClampNeg - s.1.toNat)
                    rw [List.getElem?_take, if_pos (by omega), List.getElem?_drop, show s.1.toNat + (i.toNatClampNeg - s.1.toNat) = i.toNatClampNeg by omega]
                    exact hl9
          · cases h2
      · cases h2
    · cases h2
  · cases h
end SYA
