/-! ===== the surveyor, part 7: worlds of which ranges are known ===== -/
/-- what a place of a cell holds: 0 an int between, 1 a long between, 2 a double whose floor is between, 3 the reference of that number -/
abbrev sy_FS : Type := Nat × Int × Int
/-- a cell: an object (true) or an array, of which kind, how many places, what each holds (one for all, or one each) -/
abbrev sy_C : Type := Bool × Nat × Nat × (sy_FS ⊕ List sy_FS)
noncomputable def sy_fs (c : sy_C) (j : Nat) : Option sy_FS := bif Nat.blt j c.2.2.1 then (match c.2.2.2 with
  | .inl f => some f
  | .inr l => ri_nth l j) else none
def sy_fv (f : sy_FS) (v : Value) : Prop := match f.1 with
  | 0 => ∃ x : Int32, v = .int x ∧ f.2.1 ≤ x.toInt ∧ x.toInt ≤ f.2.2
  | 1 => ∃ x : Int64, v = .long x ∧ f.2.1 ≤ x.toInt ∧ x.toInt ≤ f.2.2
  | 2 => ∃ (x : UInt64) (k : Int), v = .double x ∧ sy_db k x ∧ f.2.1 ≤ k ∧ k ≤ f.2.2
  | 3 => v = .ref f.2.1.toNat
  | _ => False
def sy_mkE (o : Bool) (t : Nat) (vs : List Value) : ri_E := match o with
  | true => .inr (t, vs)
  | false => .inl (t, vs)
def sy_vals (e : ri_E) : List Value := match e with
  | .inl a => a.2
  | .inr a => a.2
theorem sy_vals_mk (o : Bool) (t : Nat) (vs : List Value) : sy_vals (sy_mkE o t vs) = vs := by cases o <;> rfl
/-- every cell that T tells of is as it tells -/
def sy_tw (T : Nat → Option sy_C) (w : List ri_E) : Prop := ∀ (q : Nat) (c : sy_C), T q = some c → ∃ vs : List Value, w[q]? = some (sy_mkE c.1 c.2.1 vs) ∧ vs.length = c.2.2.1 ∧ ∀ (j : Nat) (f : sy_FS), sy_fs c j = some f → ∃ v : Value, vs[j]? = some v ∧ sy_fv f v
/-- what a place holds -/
def sy_wv (w : List ri_E) (q j : Nat) : Option Value := match w[q]? with
  | some e => (sy_vals e)[j]?
  | none => none
abbrev sy_H : Type := List ((Nat × Nat) × sy_V)
def sy_hok (ρ : List Int) (H : sy_H) (w : List ri_E) : Prop := ∀ x ∈ H, ∃ v : Value, sy_wv w x.1.1 x.1.2 = some v ∧ sy_is ρ x.2 v
theorem sy_hok_app {ρ : List Int} {H : sy_H} {w : List ri_E} (h : sy_hok ρ H w) (m : List Int) : sy_hok (m ++ ρ) H w := fun x hx => by
  obtain ⟨v, h1, h2⟩ := h x hx
  exact ⟨v, h1, sy_is_app h2 m⟩
noncomputable def sy_lk (q j : Nat) (H : sy_H) : Option sy_V := List.rec none (fun x _ ih => @Bool.rec (fun _ => Option sy_V) ih (some x.2) (Nat.beq x.1.1 q && Nat.beq x.1.2 j)) H
theorem sy_lk_mem {q j : Nat} {a : sy_V} : ∀ {H : sy_H}, sy_lk q j H = some a → ((q, j), a) ∈ H
  | [], h => by cases h
  | ((q2, j2), b) :: H, h => by
    have h2 : (@Bool.rec (fun _ => Option sy_V) (sy_lk q j H) (some b) (Nat.beq q2 q && Nat.beq j2 j)) = some a := h
    cases hb : (Nat.beq q2 q && Nat.beq j2 j) with
    | true =>
      rw [hb] at h2
      rw [Bool.and_eq_true] at hb
      rw [Nat.eq_of_beq_eq_true hb.1, Nat.eq_of_beq_eq_true hb.2, Option.some.inj h2]
      exact List.mem_cons_self
    | false =>
      rw [hb] at h2
      exact List.mem_cons_of_mem _ (sy_lk_mem h2)
/-- a value of which no more is known than its place tells -/
noncomputable def sy_fresh (f : sy_FS) (K : sy_K) : Option (sy_V × sy_K) := match f.1 with
  | 0 => some (sy_mk 0 f.2.1 f.2.2 [] K)
  | 1 => some (sy_mk 1 f.2.1 f.2.2 [] K)
  | 2 => some (sy_mk 2 f.2.1 f.2.2 [] K)
  | 3 => some ((3, .inr f.2.1.toNat, .inl 0), K)
  | _ => none
theorem sy_fresh_ok {ρ : List Int} {f : sy_FS} {K K' : sy_K} {a : sy_V} {v : Value} (hk : sy_ok ρ K) (h : sy_fresh f K = some (a, K')) (hv : sy_fv f v) : ∃ m : List Int, sy_ok (m ++ ρ) K' ∧ sy_is (m ++ ρ) a v := by
  obtain ⟨t, lo, hi⟩ := f
  unfold sy_fresh at h
  unfold sy_fv at hv
  dsimp only at h hv
  split at h
  · obtain ⟨x, rfl, h1, h2⟩ := hv
    have h9 := sy_mk_ok (t := 0) (lo := lo) (hi := hi) (fs := []) (v := .int x) (z0 := x.toInt) (z := x.toInt) hk ⟨x, rfl, rfl⟩ h1 h2 (fun _ _ => rfl) (fun p hp => by cases hp)
    rw [Option.some.inj h] at h9
    exact h9
  · obtain ⟨x, rfl, h1, h2⟩ := hv
    have h9 := sy_mk_ok (t := 1) (lo := lo) (hi := hi) (fs := []) (v := .long x) (z0 := x.toInt) (z := x.toInt) hk ⟨x, rfl, rfl⟩ h1 h2 (fun _ _ => rfl) (fun p hp => by cases hp)
    rw [Option.some.inj h] at h9
    exact h9
  · obtain ⟨x, k, rfl, hd, h1, h2⟩ := hv
    have h9 := sy_mk_ok (t := 2) (lo := lo) (hi := hi) (fs := []) (v := .double x) (z0 := k) (z := k) hk ⟨x, rfl, hd⟩ h1 h2 (fun _ _ => rfl) (fun p hp => by cases hp)
    rw [Option.some.inj h] at h9
    exact h9
  · cases h
    exact ⟨[], hk, _, hv, rfl⟩
  · cases h
/-- a place that is read -/
noncomputable def sy_ld (T : Nat → Option sy_C) (q j : Nat) (H : sy_H) (K : sy_K) : Option (sy_V × sy_H × sy_K) := match sy_lk q j H with
  | some a => some (a, H, K)
  | none => (match T q with
    | some c => (match sy_fs c j with
      | some f => (match sy_fresh f K with
        | some z => some (z.1, ((q, j), z.1) :: H, z.2)
        | none => none)
      | none => none)
    | none => none)
theorem sy_ld_ok {T : Nat → Option sy_C} {ρ : List Int} {q j : Nat} {H H' : sy_H} {K K' : sy_K} {a : sy_V} {w : List ri_E} (hk : sy_ok ρ K) (hh : sy_hok ρ H w) (ht : sy_tw T w) (h : sy_ld T q j H K = some (a, H', K')) :
    ∃ (m : List Int) (v : Value), sy_wv w q j = some v ∧ sy_is (m ++ ρ) a v ∧ sy_ok (m ++ ρ) K' ∧ sy_hok (m ++ ρ) H' w := by
  unfold sy_ld at h
  split at h
  · rename_i b hb
    cases h
    obtain ⟨v, h1, h2⟩ := hh _ (sy_lk_mem hb)
    exact ⟨[], v, h1, h2, hk, hh⟩
  · split at h
    · rename_i c hc
      split at h
      · rename_i f hf
        split at h
        · rename_i z hz
          cases h
          obtain ⟨vs, g1, g2, g3⟩ := ht q c hc
          obtain ⟨v, g4, g5⟩ := g3 j f hf
          obtain ⟨m, k1, k2⟩ := sy_fresh_ok (a := z.1) (K' := z.2) hk hz g5
          have hv : sy_wv w q j = some v := by unfold sy_wv; rw [g1]; dsimp only; rw [sy_vals_mk]; exact g4
          refine ⟨m, v, hv, k2, k1, ?_⟩
          intro x hx
          rcases List.mem_cons.mp hx with rfl | hx
          · exact ⟨v, hv, k2⟩
          · exact sy_hok_app hh m x hx
        · cases h
      · cases h
    · cases h
/-! stores -/
/-- a value that a place may take -/
noncomputable def sy_fits (f : sy_FS) (a : sy_V) (K : sy_K) : Bool := Nat.beq f.1 a.1 && (match f.1 with
  | 0 => (match sy_iv K a.2.1 with | some r => sy_le f.2.1 r.1 && sy_le r.2 f.2.2 | none => false)
  | 1 => (match sy_iv K a.2.1 with | some r => sy_le f.2.1 r.1 && sy_le r.2 f.2.2 | none => false)
  | 2 => (match sy_iv K a.2.1 with | some r => sy_le f.2.1 r.1 && sy_le r.2 f.2.2 | none => false)
  | _ => false)
theorem sy_fits_ok {ρ : List Int} {f : sy_FS} {a : sy_V} {K : sy_K} {v : Value} (hk : sy_ok ρ K) (h : sy_fits f a K = true) (hv : sy_is ρ a v) : sy_fv f v := by
  obtain ⟨t, lo, hi⟩ := f
  obtain ⟨t2, e, e2⟩ := a
  unfold sy_fits at h
  rw [Bool.and_eq_true] at h
  have e9 : t = t2 := Nat.eq_of_beq_eq_true h.1
  subst e9
  have h2 := h.2
  unfold sy_is at hv
  unfold sy_fv
  dsimp only at h2 hv ⊢
  split at h2
  · obtain ⟨x, rfl, hx⟩ := hv
    split at h2
    · rename_i r hr
      have b := sy_iv_ok hk hr hx
      rw [Bool.and_eq_true, sy_le_iff, sy_le_iff] at h2
      exact ⟨x, rfl, by omega, by omega⟩
    · cases h2
  · obtain ⟨x, rfl, hx⟩ := hv
    split at h2
    · rename_i r hr
      have b := sy_iv_ok hk hr hx
      rw [Bool.and_eq_true, sy_le_iff, sy_le_iff] at h2
      exact ⟨x, rfl, by omega, by omega⟩
    · cases h2
  · obtain ⟨x, k, rfl, hx, hd⟩ := hv
    split at h2
    · rename_i r hr
      have b := sy_iv_ok hk hr hx
      rw [Bool.and_eq_true, sy_le_iff, sy_le_iff] at h2
      exact ⟨x, k, rfl, hd.1, by omega, by omega⟩
    · cases h2
  · cases h2
/-- facts that a store between lo and hi of a cell leaves -/
noncomputable def sy_hdrop (q lo hi : Nat) (H : sy_H) : sy_H := List.rec [] (fun x _ ih => @Bool.rec (fun _ => sy_H) (x :: ih) ih (Nat.beq x.1.1 q && (Nat.ble lo x.1.2 && Nat.ble x.1.2 hi))) H
theorem sy_hdrop_mem {q lo hi : Nat} {x : (Nat × Nat) × sy_V} : ∀ {H : sy_H}, x ∈ sy_hdrop q lo hi H → x ∈ H ∧ ¬ (x.1.1 = q ∧ lo ≤ x.1.2 ∧ x.1.2 ≤ hi)
  | [], h => by cases h
  | y :: H, h => by
    have h2 : x ∈ (@Bool.rec (fun _ => sy_H) (y :: sy_hdrop q lo hi H) (sy_hdrop q lo hi H) (Nat.beq y.1.1 q && (Nat.ble lo y.1.2 && Nat.ble y.1.2 hi))) := h
    cases hb : (Nat.beq y.1.1 q && (Nat.ble lo y.1.2 && Nat.ble y.1.2 hi)) with
    | true =>
      rw [hb] at h2
      obtain ⟨a, b⟩ := sy_hdrop_mem h2
      exact ⟨List.mem_cons_of_mem _ a, b⟩
    | false =>
      rw [hb] at h2
      rcases List.mem_cons.mp h2 with rfl | h3
      · refine ⟨List.mem_cons_self, fun ⟨c1, c2, c3⟩ => ?_⟩
        have e9 : (Nat.beq x.1.1 q && (Nat.ble lo x.1.2 && Nat.ble x.1.2 hi)) = true := by
          rw [Bool.and_eq_true, Bool.and_eq_true]
          exact ⟨by rw [Nat.beq_eq]; exact c1, Nat.ble_eq_true_of_le c2, Nat.ble_eq_true_of_le c3⟩
        rw [e9] at hb
        cases hb
      · obtain ⟨a, b⟩ := sy_hdrop_mem h3
        exact ⟨List.mem_cons_of_mem _ a, b⟩
/-- one place of a cell is another value -/
def sy_put (w : List ri_E) (q j : Nat) (v : Value) : List ri_E := match w[q]? with
  | some (.inl a) => w.set q (.inl (a.1, a.2.set j v))
  | some (.inr a) => w.set q (.inr (a.1, a.2.set j v))
  | none => w
theorem sy_put_wv {w : List ri_E} {q j : Nat} {v u : Value} (h : sy_wv w q j = some u) (q2 j2 : Nat) : sy_wv (sy_put w q j v) q2 j2 = if q2 = q ∧ j2 = j then some v else sy_wv w q2 j2 := by
  unfold sy_wv at h
  split at h
  · rename_i e he
    have hq := (List.getElem?_eq_some_iff.mp he).1
    unfold sy_put
    rw [he]
    cases e with
    | inl a =>
      dsimp only
      have hj : j < a.2.length := (List.getElem?_eq_some_iff.mp h).1
      by_cases c1 : q2 = q
      · subst c1
        unfold sy_wv
        rw [List.getElem?_set_self hq, he]
        show (a.2.set j v)[j2]? = _
        by_cases c2 : j2 = j
        · subst c2
          rw [if_pos ⟨rfl, rfl⟩, List.getElem?_set_self hj]
        · rw [if_neg (fun z => c2 z.2), List.getElem?_set_ne (fun z => c2 z.symm)]
          rfl
      · unfold sy_wv
        rw [if_neg (fun z => c1 z.1), List.getElem?_set_ne (fun z => c1 z.symm)]
    | inr a =>
      dsimp only
      have hj : j < a.2.length := (List.getElem?_eq_some_iff.mp h).1
      by_cases c1 : q2 = q
      · subst c1
        unfold sy_wv
        rw [List.getElem?_set_self hq, he]
        show (a.2.set j v)[j2]? = _
        by_cases c2 : j2 = j
        · subst c2
          rw [if_pos ⟨rfl, rfl⟩, List.getElem?_set_self hj]
        · rw [if_neg (fun z => c2 z.2), List.getElem?_set_ne (fun z => c2 z.symm)]
          rfl
      · unfold sy_wv
        rw [if_neg (fun z => c1 z.1), List.getElem?_set_ne (fun z => c1 z.symm)]
  · cases h
theorem sy_put_tw {T : Nat → Option sy_C} {w : List ri_E} {q j : Nat} {c : sy_C} {f : sy_FS} {v : Value} (ht : sy_tw T w) (hc : T q = some c) (hf : sy_fs c j = some f) (hv : sy_fv f v) : sy_tw T (sy_put w q j v) := by
  intro q2 c2 hc2
  obtain ⟨vs, g1, g2, g3⟩ := ht q c hc
  have hq := (List.getElem?_eq_some_iff.mp g1).1
  obtain ⟨u, g4, -⟩ := g3 j f hf
  have hj := (List.getElem?_eq_some_iff.mp g4).1
  have e : sy_put w q j v = w.set q (sy_mkE c.1 c.2.1 (vs.set j v)) := by
    unfold sy_put
    rw [g1]
    cases c.1 <;> rfl
  rw [e]
  by_cases h : q2 = q
  · subst h
    cases Option.some.inj (hc2.symm.trans hc)
    refine ⟨vs.set j v, List.getElem?_set_self hq, by rw [List.length_set]; exact g2, ?_⟩
    intro j2 f2 hf2
    by_cases h2 : j2 = j
    · subst h2
      cases Option.some.inj (hf2.symm.trans hf)
      exact ⟨v, List.getElem?_set_self hj, hv⟩
    · obtain ⟨u2, k1, k2⟩ := g3 j2 f2 hf2
      exact ⟨u2, by rw [List.getElem?_set_ne (fun z => h2 z.symm)]; exact k1, k2⟩
  · rw [List.getElem?_set_ne (fun z => h z.symm)]
    exact ht q2 c2 hc2
/-! rules: places, and polynomials in what they hold: of each row one is at least 0 -/
abbrev sy_R : Type := List (Nat × Nat) × List (List sy_P)
noncomputable def sy_num (v : Value) : Int := match v with
  | .int x => x.toInt
  | .long x => x.toInt
  | .double x => sd_z x / sd_U
  | _ => 0
noncomputable def sy_nv (w : List ri_E) (q j : Nat) : Int := match sy_wv w q j with
  | some v => sy_num v
  | none => 0
noncomputable def sy_rv (w : List ri_E) (S : List (Nat × Nat)) (i : Nat) : Int := match S[i]? with
  | some x => sy_nv w x.1 x.2
  | none => 0
def sy_holds (w : List ri_E) (r : sy_R) : Prop := ∀ c ∈ r.2, ∃ p ∈ c, 0 ≤ sy_ep (sy_rv w r.1) p
/-- the rules by their numbers, and the numbers of those that speak of a place -/
abbrev sy_RT : Type := (Nat → Option sy_R) × (Nat → Nat → List Nat)
def sy_ru (RU : sy_RT) (D : List Nat) (w : List ri_E) : Prop := (∀ (i : Nat) (r : sy_R), RU.1 i = some r → ∀ x ∈ r.1, i ∈ RU.2 x.1 x.2) ∧ ∀ (i : Nat) (r : sy_R), RU.1 i = some r → i ∉ D → sy_holds w r
noncomputable def sy_inD (n : Nat) (D : List Nat) : Bool := List.rec false (fun x _ ih => Nat.beq x n || ih) D
theorem sy_inD_no {n : Nat} : ∀ {D : List Nat}, sy_inD n D = false → n ∉ D
  | [], _, h => by cases h
  | x :: D, h, hm => by
    have h2 : (Nat.beq x n || sy_inD n D) = false := h
    rw [Bool.or_eq_false_iff] at h2
    rcases List.mem_cons.mp hm with e | e
    · rw [e, show Nat.beq x x = true by rw [Nat.beq_eq]] at h2
      cases h2.1
    · exact sy_inD_no h2.2 e
theorem sy_inD_yes {n : Nat} : ∀ {D : List Nat}, sy_inD n D = true → n ∈ D
  | [], h => by cases h
  | x :: D, h => by
    have h2 : (Nat.beq x n || sy_inD n D) = true := h
    rw [Bool.or_eq_true] at h2
    rcases h2 with h2 | h2
    · rw [Nat.eq_of_beq_eq_true h2]; exact List.mem_cons_self
    · exact List.mem_cons_of_mem _ (sy_inD_yes h2)
/-- numbers laid into a row where they aren't there yet -/
noncomputable def sy_ins (l D : List Nat) : List Nat := List.rec D (fun i _ ih => @Bool.rec (fun _ => List Nat) (i :: ih) ih (sy_inD i ih)) l
theorem sy_ins_no {D : List Nat} {k : Nat} : ∀ {l : List Nat}, k ∉ sy_ins l D → k ∉ D ∧ k ∉ l
  | [], h => ⟨h, fun z => by cases z⟩
  | i :: l, h => by
    have h2 : k ∉ (@Bool.rec (fun _ => List Nat) (i :: sy_ins l D) (sy_ins l D) (sy_inD i (sy_ins l D))) := h
    have h3 : k ∉ sy_ins l D ∧ k ≠ i := by
      cases hb : sy_inD i (sy_ins l D) with
      | true =>
        rw [hb] at h2
        exact ⟨h2, fun z => h2 (by rw [z]; exact sy_inD_yes hb)⟩
      | false =>
        rw [hb] at h2
        exact ⟨fun z => h2 (List.mem_cons_of_mem _ z), fun z => h2 (by rw [z]; exact List.mem_cons_self)⟩
    obtain ⟨h4, h5⟩ := sy_ins_no h3.1
    refine ⟨h4, fun z => ?_⟩
    rcases List.mem_cons.mp z with e | e
    · exact h3.2 e
    · exact h5 e
/-- the rules that a store between lo and hi of a cell touches -/
noncomputable def sy_tchn (q lo : Nat) (RU : sy_RT) (D : List Nat) (n : Nat) : List Nat := Nat.rec D (fun k ih => sy_ins (RU.2 q (lo + k)) ih) n
noncomputable def sy_touch (q lo hi : Nat) (RU : sy_RT) (D : List Nat) : List Nat := sy_tchn q lo RU D (hi + 1 - lo)
theorem sy_tchn_no {q lo : Nat} {RU : sy_RT} {D : List Nat} {i : Nat} : ∀ {n : Nat}, i ∉ sy_tchn q lo RU D n → i ∉ D ∧ ∀ k : Nat, k < n → i ∉ RU.2 q (lo + k)
  | 0, h => ⟨h, fun k hk => absurd hk (Nat.not_lt_zero _)⟩
  | n + 1, h => by
    have h2 : i ∉ sy_ins (RU.2 q (lo + n)) (sy_tchn q lo RU D n) := h
    obtain ⟨h3, h4⟩ := sy_ins_no h2
    obtain ⟨h5, h6⟩ := sy_tchn_no h3
    refine ⟨h5, fun k hk => ?_⟩
    by_cases e : k = n
    · rw [e]; exact h4
    · exact h6 k (by omega)
theorem sy_touch_no {q lo hi i : Nat} {RU : sy_RT} {D : List Nat} (h : i ∉ sy_touch q lo hi RU D) : i ∉ D ∧ ∀ j : Nat, lo ≤ j → j ≤ hi → i ∉ RU.2 q j := by
  obtain ⟨h1, h2⟩ := sy_tchn_no h
  refine ⟨h1, fun j a b => ?_⟩
  have h3 := h2 (j - lo) (by omega)
  rw [show lo + (j - lo) = j by omega] at h3
  exact h3
/-- worlds that are alike but between lo and hi of a cell -/
def sy_but (w w' : List ri_E) (q lo hi : Nat) : Prop := ∀ q2 j2 : Nat, ¬ (q2 = q ∧ lo ≤ j2 ∧ j2 ≤ hi) → sy_wv w' q2 j2 = sy_wv w q2 j2
theorem sy_but_ru {RU : sy_RT} {D : List Nat} {w w' : List ri_E} {q lo hi : Nat} (h : sy_ru RU D w) (hb : sy_but w w' q lo hi) : sy_ru RU (sy_touch q lo hi RU D) w' := by
  refine ⟨h.1, ?_⟩
  intro i r hr hi9
  obtain ⟨h1, h2⟩ := sy_touch_no hi9
  intro c hc
  obtain ⟨p, hp, h4⟩ := h.2 i r hr h1 c hc
  refine ⟨p, hp, ?_⟩
  have e : sy_rv w' r.1 = sy_rv w r.1 := by
    funext k
    unfold sy_rv
    cases hk : r.1[k]? with
    | none => rfl
    | some x =>
      dsimp only
      unfold sy_nv
      have hx := h.1 i r hr x (List.mem_of_getElem? hk)
      rw [hb x.1 x.2 (fun z => h2 x.2 z.2.1 z.2.2 (by rw [← z.1]; exact hx))]
  rw [e]; exact h4
theorem sy_but_hok {ρ : List Int} {H : sy_H} {w w' : List ri_E} {q lo hi : Nat} (h : sy_hok ρ H w) (hb : sy_but w w' q lo hi) : sy_hok ρ (sy_hdrop q lo hi H) w' := by
  intro x hx
  obtain ⟨h1, h2⟩ := sy_hdrop_mem hx
  obtain ⟨v, g1, g2⟩ := h x h1
  exact ⟨v, by rw [hb x.1.1 x.1.2 h2]; exact g1, g2⟩
theorem sy_put_but {w : List ri_E} {q j : Nat} {v u : Value} (h : sy_wv w q j = some u) : sy_but w (sy_put w q j v) q j j := by
  intro q2 j2 hn
  rw [sy_put_wv h, if_neg (fun z => hn ⟨z.1, by omega, by omega⟩)]
