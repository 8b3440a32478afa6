/-! ===== the surveyor, part 8: instructions that touch the heap ===== -/
def sy_eeq0 (a b : sy_E) : Bool := match a, b with
  | .inl c, .inl d => decide (c = d)
  | .inr i, .inr j => Nat.beq i j
  | _, _ => false
theorem sy_eeq0_ok {a b : sy_E} (h : sy_eeq0 a b = true) : a = b := by
  cases a with
  | inl c => cases b with
    | inl d => rw [of_decide_eq_true h]
    | inr j => cases h
  | inr i => cases b with
    | inl d => cases h
    | inr j => rw [Nat.eq_of_beq_eq_true h]
/-- a type that takes all that a place may hold -/
def sy_fT (ty : FieldType) (f : sy_FS) : Bool := match ty with
  | .int => Nat.beq f.1 0
  | .long => Nat.beq f.1 1
  | .double => Nat.beq f.1 2
  | .boolean => Nat.beq f.1 0 && (sy_le 0 f.2.1 && sy_le f.2.2 1)
  | _ => false
theorem sy_fT_fit {ty : FieldType} {f : sy_FS} {v : Value} (h : sy_fT ty f = true) (hv : sy_fv f v) : ri_fit ty v = true := by
  obtain ⟨t, lo, hi⟩ := f
  unfold sy_fT at h
  split at h
  · have e9 : t = 0 := Nat.eq_of_beq_eq_true h
    subst e9
    obtain ⟨x, rfl, -, -⟩ := (hv : ∃ x : Int32, v = .int x ∧ lo ≤ x.toInt ∧ x.toInt ≤ hi)
    rfl
  · have e9 : t = 1 := Nat.eq_of_beq_eq_true h
    subst e9
    obtain ⟨x, rfl, -, -⟩ := (hv : ∃ x : Int64, v = .long x ∧ lo ≤ x.toInt ∧ x.toInt ≤ hi)
    rfl
  · have e9 : t = 2 := Nat.eq_of_beq_eq_true h
    subst e9
    obtain ⟨x, k, rfl, -⟩ := (hv : ∃ (x : UInt64) (k : Int), v = .double x ∧ sy_db k x ∧ lo ≤ k ∧ k ≤ hi)
    rfl
  · rw [Bool.and_eq_true, Bool.and_eq_true, sy_le_iff, sy_le_iff] at h
    have e9 : t = 0 := Nat.eq_of_beq_eq_true h.1
    subst e9
    obtain ⟨x, rfl, h1, h2⟩ := (hv : ∃ x : Int32, v = .int x ∧ lo ≤ x.toInt ∧ x.toInt ≤ hi)
    have h3 := h.2
    have h4 : x = 0 ∨ x = 1 := by
      have h5 : x.toInt = 0 ∨ x.toInt = 1 := by omega
      rcases h5 with h5 | h5
      · exact Or.inl (Int32.toInt_inj.mp h5)
      · exact Or.inr (Int32.toInt_inj.mp h5)
    rcases h4 with rfl | rfl <;> rfl
  · cases h
/-- the same number is laid there again -/
noncomputable def sy_same (x : sy_V) (o : Option sy_V) : Bool := match o with
  | some a => (Nat.beq a.1 x.1 && Nat.ble a.1 1) && sy_eeq0 a.2.1 x.2.1
  | none => false
/-- the rules that don't hold behind a store -/
noncomputable def sy_tch (q j : Nat) (x : sy_V) (H : sy_H) (RU : sy_RT) (D : List Nat) : List Nat := bif sy_same x (sy_lk q j H) then D else sy_touch q j j RU D
/-- numbers that are known, of a store: what stood there, what is laid there -/
noncomputable def sy_on (x : sy_V) (o : Option sy_V) : Option (Int × Int) := match o with
  | some a => (match a.2.1, x.2.1 with
    | .inl c, .inl d => bif Nat.ble a.1 1 && Nat.ble x.1 1 then some (c, d) else none
    | _, _ => none)
  | none => none
/-- what is known behind a store -/
noncomputable def sy_hst (q j : Nat) (x : sy_V) (H : sy_H) : sy_H := ((q, j), x) :: sy_hdk (@Bool.rec (fun _ => Nat) (pg_kill q j (sy_on x (sy_lk q j H))) 0 (sy_same x (sy_lk q j H))) q j j H
section SYH
variable {T : Nat → Option sy_C} {ρ : List Int} {w : List ri_E} {RU : sy_RT}
theorem sy_cell_obj {q : Nat} {c : sy_C} (ht : sy_tw T w) (hc : T q = some c) (ho : c.1 = true) : ∃ vs : List Value, w[q]? = some (.inr (c.2.1, vs)) ∧ vs.length = c.2.2.1 ∧ ∀ j : Nat, sy_wv w q j = vs[j]? := by
  obtain ⟨vs, g1, g2, -⟩ := ht q c hc
  rw [ho] at g1
  exact ⟨vs, g1, g2, fun j => by unfold sy_wv; rw [g1]; rfl⟩
theorem sy_cell_arr {q : Nat} {c : sy_C} (ht : sy_tw T w) (hc : T q = some c) (ho : c.1 = false) : ∃ vs : List Value, w[q]? = some (.inl (c.2.1, vs)) ∧ vs.length = c.2.2.1 ∧ ∀ j : Nat, sy_wv w q j = vs[j]? := by
  obtain ⟨vs, g1, g2, -⟩ := ht q c hc
  rw [ho] at g1
  exact ⟨vs, g1, g2, fun j => by unfold sy_wv; rw [g1]; rfl⟩
/-- the reference on top -/
noncomputable def sy_q3 {α : Type} (st : List sy_V) (f : Nat → List sy_V → Option α) : Option α := match st with
  | a :: r => (match a.2.1 with
    | .inr q => bif Nat.beq a.1 3 then f q r else none
    | .inl _ => none)
  | [] => none
theorem sy_ref_top {α : Type} {st : List sy_V} {stc : List Value} {L : α} {f : Nat → List sy_V → Option α} (h : sy_q3 st f = some L) (hs : sy_st ρ st stc) : ∃ (q : Nat) (r : List sy_V) (rc : List Value), f q r = some L ∧ stc = .ref q :: rc ∧ sy_st ρ r rc := by
  unfold sy_q3 at h
  split at h
  · rename_i a r
    obtain ⟨t, e, e2⟩ := a
    dsimp only at h
    split at h
    · rename_i q
      cases hb : Nat.beq t 3 with
      | true =>
        rw [hb, cond_true] at h
        have e9 : t = 3 := Nat.eq_of_beq_eq_true hb
        subst e9
        obtain ⟨v, rc, rfl, hv, hr⟩ := sy_st_cons hs
        obtain ⟨q9, rfl, e8⟩ := (hv : ∃ q9 : Nat, v = .ref q9 ∧ (Sum.inr q : sy_E) = .inr q9)
        cases e8
        exact ⟨q, r, rc, h, rfl, hr⟩
      | false => rw [hb] at h; cases h
    · cases h
  · cases h
/-! fields -/
noncomputable def sy_getf (T : Nat → Option sy_C) (a b : Nat) (st : List sy_V) (H : sy_H) (K : sy_K) : Option (List sy_V × sy_H × sy_K) := sy_q3 st (fun q r => match T q with
  | some c => bif c.1 && Nat.beq c.2.1 a then (match sy_ld T q b H K with
    | some z => some (z.1 :: r, z.2.1, z.2.2)
    | none => none) else none
  | none => none)
theorem sy_getf_ok {a b : Nat} {st st' : List sy_V} {stc : List Value} {H H' : sy_H} {K K' : sy_K} (h : sy_getf T a b st H K = some (st', H', K')) (hk : sy_ok ρ K) (hs : sy_st ρ st stc) (hh : sy_hok ρ H w) (ht : sy_tw T w) :
    ∃ (m : List Int) (sz : List Value), ri_getf a b stc w = some sz ∧ sy_st (m ++ ρ) st' sz ∧ sy_ok (m ++ ρ) K' ∧ sy_hok (m ++ ρ) H' w := by
  obtain ⟨q, r, rc, h1, rfl, hr⟩ := sy_ref_top h hs
  split at h1
  · rename_i c hc
    cases hb : (c.1 && Nat.beq c.2.1 a) with
    | false => rw [hb] at h1; cases h1
    | true =>
      rw [hb, cond_true] at h1
      rw [Bool.and_eq_true] at hb
      split at h1
      · rename_i z hz
        cases h1
        obtain ⟨m, v, g1, g2, g3, g4⟩ := sy_ld_ok (a := z.1) (H' := z.2.1) (K' := z.2.2) hk hh ht hz
        obtain ⟨vs, k1, k2, k3⟩ := sy_cell_obj ht hc hb.1
        refine ⟨m, v :: rc, ?_, ⟨g2, sy_st_app m hr⟩, g3, g4⟩
        unfold ri_getf
        dsimp only
        rw [ri_nth_eq, k1]
        dsimp only
        rw [hb.2, ri_nth_eq, ← k3 b, g1]
        rfl
      · cases h1
  · cases h1
noncomputable def sy_putf (T : Nat → Option sy_C) (RU : sy_RT) (ty : FieldType) (a b : Nat) (st : List sy_V) (H : sy_H) (D : List Nat) (K : sy_K) : Option (List sy_V × (Nat × Nat × Nat) × sy_H × List Nat) := match st with
  | x :: st => sy_q3 st (fun q r => match T q with
    | some c => (match sy_fs c b with
      | some f => bif (c.1 && Nat.beq c.2.1 a) && (sy_fT ty f && sy_fits f x K) then some (r, (q, b, b), sy_hst q b x H, sy_tch q b x H RU D) else none
      | none => none)
    | none => none)
  | [] => none
theorem sy_num_is {a : sy_V} {v : Value} (hv : sy_is ρ a v) (ht : Nat.ble a.1 1 = true) : sy_ev ρ a.2.1 = some (sy_num v) := by
  obtain ⟨t, e1, e2⟩ := a
  have ht2 : t = 0 ∨ t = 1 := by have := Nat.le_of_ble_eq_true ht; dsimp only at this; omega
  rcases ht2 with rfl | rfl
  · obtain ⟨y, rfl, hy⟩ := sy_is_int hv
    exact hy
  · obtain ⟨y, rfl, hy⟩ := sy_is_long hv
    exact hy
/-- the same number was laid there again -/
theorem sy_same_num {q j : Nat} {u v : Value} {x : sy_V} {H : sy_H} (hh : sy_hok ρ H w) (hu : sy_wv w q j = some u) (hx : sy_is ρ x v) (hs : sy_same x (sy_lk q j H) = true) (q2 j2 : Nat) : sy_nv (sy_put w q j v) q2 j2 = sy_nv w q2 j2 := by
  unfold sy_same at hs
  split at hs
  · rename_i a ha
    rw [Bool.and_eq_true, Bool.and_eq_true] at hs
    obtain ⟨⟨h1, h2⟩, h3⟩ := hs
    obtain ⟨u2, g1, g2⟩ := sy_lk_ok hh ha
    rw [hu] at g1
    cases g1
    have e1 := sy_num_is g2 h2
    have h2' : Nat.ble x.1 1 = true := by rw [← Nat.eq_of_beq_eq_true h1]; exact h2
    have e2 := sy_num_is hx h2'
    rw [sy_eeq0_ok h3, e2] at e1
    have e3 : sy_num v = sy_num u := Option.some.inj e1
    unfold sy_nv
    rw [sy_put_wv hu]
    by_cases hq : q2 = q ∧ j2 = j
    · rw [if_pos hq, hq.1, hq.2, hu]
      exact e3
    · rw [if_neg hq]
  · cases hs
theorem sy_on_ok {q j : Nat} {u v : Value} {x : sy_V} {H : sy_H} (hh : sy_hok ρ H w) (hu : sy_wv w q j = some u) (hx : sy_is ρ x v) (z : Int × Int) (h : sy_on x (sy_lk q j H) = some z) : sy_nv w q j = z.1 ∧ sy_nv (sy_put w q j v) q j = z.2 := by
  unfold sy_on at h
  split at h
  · rename_i a ha
    split at h
    · rename_i c d hc hd
      cases hb : (Nat.ble a.1 1 && Nat.ble x.1 1) with
      | false => rw [hb] at h; cases h
      | true =>
        rw [hb, cond_true] at h
        cases h
        rw [Bool.and_eq_true] at hb
        obtain ⟨u2, g1, g2⟩ := sy_lk_ok hh ha
        rw [hu] at g1
        cases g1
        have e1 := sy_num_is g2 hb.1
        have e2 := sy_num_is hx hb.2
        rw [hc] at e1
        rw [hd] at e2
        refine ⟨?_, ?_⟩
        · unfold sy_nv
          rw [hu]
          exact (Option.some.inj e1).symm
        · unfold sy_nv
          rw [sy_put_wv hu, if_pos ⟨rfl, rfl⟩]
          exact (Option.some.inj e2).symm
    · cases h
  · cases h
theorem sy_hst_ok {q j : Nat} {u v : Value} {x : sy_V} {H : sy_H} (hh : sy_hok ρ H w) (hu : sy_wv w q j = some u) (hx : sy_is ρ x v) : sy_hok ρ (sy_hst q j x H) (sy_put w q j v) := by
  intro y hy
  unfold sy_hst at hy
  rcases List.mem_cons.mp hy with rfl | hy
  · exact Or.inl ⟨v, by rw [sy_put_wv hu, if_pos ⟨rfl, rfl⟩], hx⟩
  · refine sy_but_hok2 hh (sy_put_but hu) ?_ y hy
    cases hs : sy_same x (sy_lk q j H) with
    | true => exact sy_same_kok (sy_same_num hh hu hx hs) _
    | false => exact fun g h1 h2 => pg_kill_ok (fun q2 j2 hn => sy_wv_nv (by rw [sy_put_wv hu, if_neg hn])) (sy_on_ok hh hu hx) h1 h2
theorem sy_tch_ok {q j : Nat} {u v : Value} {x : sy_V} {H : sy_H} {D : List Nat} (hh : sy_hok ρ H w) (hd : sy_ru RU D w) (hu : sy_wv w q j = some u) (hx : sy_is ρ x v) : sy_ru RU (sy_tch q j x H RU D) (sy_put w q j v) := by
  unfold sy_tch
  cases hs : sy_same x (sy_lk q j H) with
  | false => exact sy_but_ru hd (sy_put_but hu)
  | true =>
    rw [cond_true]
    unfold sy_same at hs
    split at hs
    · rename_i a ha
      rw [Bool.and_eq_true, Bool.and_eq_true] at hs
      obtain ⟨⟨h1, h2⟩, h3⟩ := hs
      obtain ⟨u2, g1, g2⟩ := sy_lk_ok hh ha
      have g1' : sy_wv w q j = some u2 := g1
      rw [hu] at g1'
      cases g1'
      have e1 := sy_num_is g2 h2
      have h2' : Nat.ble x.1 1 = true := by rw [← Nat.eq_of_beq_eq_true h1]; exact h2
      have e2 := sy_num_is hx h2'
      try dsimp only at e1
      rw [sy_eeq0_ok h3, e2] at e1
      have e3 : sy_num v = sy_num u := Option.some.inj e1
      refine ⟨hd.1, ?_⟩
      intro i r hr hi c hc
      obtain ⟨p, hp, h4⟩ := hd.2 i r hr hi c hc
      refine ⟨p, hp, ?_⟩
      have e : sy_rv (sy_put w q j v) r.1 = sy_rv w r.1 := by
        funext k
        unfold sy_rv
        cases hk : r.1[k]? with
        | none => rfl
        | some y =>
          dsimp only
          unfold sy_nv
          rw [sy_put_wv hu]
          by_cases hq : y.1 = q ∧ y.2 = j
          · rw [if_pos hq, hq.1, hq.2, hu]
            exact e3
          · rw [if_neg hq]
      rw [e]; exact h4
    · cases hs
/-- what holds of a world behind a store -/
theorem sy_store_ok {q j : Nat} {c : sy_C} {f : sy_FS} {v : Value} {x : sy_V} {H : sy_H} {D : List Nat} (ht : sy_tw T w) (hh : sy_hok ρ H w) (hd : sy_ru RU D w) (hc : T q = some c) (hf : sy_fs c j = some f) (hv : sy_fv f v) (hx : sy_is ρ x v) :
    sy_tw T (sy_put w q j v) ∧ sy_hok ρ (sy_hst q j x H) (sy_put w q j v) ∧ sy_ru RU (sy_tch q j x H RU D) (sy_put w q j v) := by
  obtain ⟨vs, g1, g2, g3⟩ := ht q c hc
  obtain ⟨u, g4, -⟩ := g3 j f hf
  have hu : sy_wv w q j = some u := by unfold sy_wv; rw [g1]; dsimp only; rw [sy_vals_mk]; exact g4
  exact ⟨sy_put_tw ht hc hf hv, sy_hst_ok hh hu hx, sy_tch_ok hh hd hu hx⟩
theorem sy_putf_ok {ty : FieldType} {a b : Nat} {st st' : List sy_V} {stc : List Value} {H H' : sy_H} {D D' : List Nat} {K : sy_K} {qq : Nat × Nat × Nat} (h : sy_putf T RU ty a b st H D K = some (st', qq, H', D')) (hk : sy_ok ρ K) (hs : sy_st ρ st stc) (hh : sy_hok ρ H w) (ht : sy_tw T w) (hd : sy_ru RU D w) :
    ∃ (sz : List Value) (w' : List ri_E), ri_putf ty a b stc w = some (sz, w') ∧ w'.length = w.length ∧ sy_but w w' qq.1 qq.2.1 qq.2.2 ∧ sy_st ρ st' sz ∧ sy_tw T w' ∧ sy_hok ρ H' w' ∧ sy_ru RU D' w' := by
  unfold sy_putf at h
  split at h
  · rename_i x st1
    obtain ⟨v, rc1, rfl, hv, hs1⟩ := sy_st_cons hs
    obtain ⟨q, r, rc, h1, rfl, hr⟩ := sy_ref_top h hs1
    split at h1
    · rename_i c hc
      split at h1
      · rename_i f hf
        cases hb : ((c.1 && Nat.beq c.2.1 a) && (sy_fT ty f && sy_fits f x K)) with
        | false => rw [hb] at h1; cases h1
        | true =>
          rw [hb, cond_true] at h1
          cases h1
          rw [Bool.and_eq_true, Bool.and_eq_true, Bool.and_eq_true] at hb
          obtain ⟨⟨b1, b2⟩, b3, b4⟩ := hb
          have hfv := sy_fits_ok hk b4 hv
          obtain ⟨s1, s2, s3⟩ := sy_store_ok ht hh hd hc hf hfv hv
          obtain ⟨vs, k1, k2, k3⟩ := sy_cell_obj ht hc b1
          obtain ⟨vs2, g1, g2, g3⟩ := ht q c hc
          obtain ⟨u, g4, -⟩ := g3 b f hf
          have hu : vs[b]? = some u := by
            rw [← k3 b]
            unfold sy_wv; rw [g1]; dsimp only; rw [sy_vals_mk]; exact g4
          have e1 : sy_put w q b v = w.set q (.inr (c.2.1, vs.set b v)) := by unfold sy_put; rw [k1]
          refine ⟨rc, sy_put w q b v, ?_, by rw [e1, List.length_set], sy_put_but (by rw [k3]; exact hu), hr, s1, s2, s3⟩
          unfold ri_putf
          dsimp only
          rw [ri_nth_eq, k1]
          dsimp only
          rw [b2, ri_nth_eq, hu]
          dsimp only [ri_ok]
          rw [sy_fT_fit b3 hfv, ri_upd_eq, ri_upd_eq, e1]
      · cases h1
    · cases h1
  · cases h
end SYH
