/-! ===== the surveyor, part 2: values that aren't known, their ranges ===== -/
/-- a whole number: known, or the number of an unknown -/
abbrev sy_E : Type := Int ⊕ Nat
/-- a value: 0 int, 1 long, 2 double (its floor; the second 1: a whole number), 3 reference, 4 null, 5 the comparison of two longs, 6 a double's bits as a long -/
abbrev sy_V : Type := Nat × sy_E × sy_E
/-- ranges of the unknowns (the newest first), numbers that are at least 0 -/
abbrev sy_K : Type := List (Int × Int) × List sy_P
abbrev sy_L : Type := List (Nat × sy_V)
noncomputable def sy_ev (ρ : List Int) (e : sy_E) : Option Int := match e with
  | .inl c => some c
  | .inr i => sy_at ρ i
/-- the floor, all of it where e2 says so -/
def sy_dx (e2 : sy_E) (k : Int) (x : UInt64) : Prop := sy_db k x ∧ (e2 = .inl 1 → sd_z x = k * sd_U)
def sy_is (ρ : List Int) (a : sy_V) (v : Value) : Prop := match a.1 with
  | 0 => ∃ x : Int32, v = .int x ∧ sy_ev ρ a.2.1 = some x.toInt
  | 1 => ∃ x : Int64, v = .long x ∧ sy_ev ρ a.2.1 = some x.toInt
  | 2 => ∃ (x : UInt64) (k : Int), v = .double x ∧ sy_ev ρ a.2.1 = some k ∧ sy_dx a.2.2 k x
  | 3 => ∃ q : Nat, v = .ref q ∧ a.2.1 = .inr q
  | 4 => v = .null
  | 5 => ∃ x y : Int64, v = .int (lg_cmp x y) ∧ sy_ev ρ a.2.1 = some x.toInt ∧ sy_ev ρ a.2.2 = some y.toInt
  | 6 => ∃ (x : UInt64) (k : Int), v = .long x.toInt64 ∧ sy_ev ρ a.2.1 = some k ∧ sy_db k x
  | 7 => ∃ k : Nat, v = .retAddr k
  | _ => False
def sy_ok (ρ : List Int) (K : sy_K) : Prop := ρ.length = K.1.length ∧ (∀ (i : Nat) (r : Int × Int), sy_at K.1 i = some r → ∀ x : Int, sy_at ρ i = some x → r.1 ≤ x ∧ x ≤ r.2) ∧ ∀ p ∈ K.2, sy_dom ρ.length p = true ∧ 0 ≤ sy_ep (sy_tot ρ) p
theorem sy_ev_app {ρ : List Int} {e : sy_E} {x : Int} (h : sy_ev ρ e = some x) (m : List Int) : sy_ev (m ++ ρ) e = some x := by
  cases e with
  | inl c => exact h
  | inr i => exact sy_at_app h m
theorem sy_is_app {ρ : List Int} {a : sy_V} {v : Value} (h : sy_is ρ a v) (m : List Int) : sy_is (m ++ ρ) a v := by
  unfold sy_is at h ⊢
  split at h
  · obtain ⟨x, h1, h2⟩ := h; exact ⟨x, h1, sy_ev_app h2 m⟩
  · obtain ⟨x, h1, h2⟩ := h; exact ⟨x, h1, sy_ev_app h2 m⟩
  · obtain ⟨x, k, h1, h2, h3⟩ := h; exact ⟨x, k, h1, sy_ev_app h2 m, h3⟩
  · exact h
  · exact h
  · obtain ⟨x, y, h1, h2, h3⟩ := h; exact ⟨x, y, h1, sy_ev_app h2 m, sy_ev_app h3 m⟩
  · obtain ⟨x, k, h1, h2, h3⟩ := h; exact ⟨x, k, h1, sy_ev_app h2 m, h3⟩
  · exact h
  · exact h
def sy_cat (a : sy_V) : Nat := match a.1 with
  | 1 => 2
  | 2 => 2
  | 6 => 2
  | _ => 1
theorem sy_is_cat {ρ : List Int} {a : sy_V} {v : Value} (h : sy_is ρ a v) : v.category = sy_cat a := by
  obtain ⟨t, e1, e2⟩ := a
  unfold sy_is at h
  unfold sy_cat
  dsimp only at h ⊢
  split at h
  · obtain ⟨x, rfl, -⟩ := h; rfl
  · obtain ⟨x, rfl, -⟩ := h; rfl
  · obtain ⟨x, k, rfl, -⟩ := h; rfl
  · obtain ⟨q, rfl, -⟩ := h; rfl
  · rw [h]; rfl
  · obtain ⟨x, y, rfl, -⟩ := h; rfl
  · obtain ⟨x, k, rfl, -⟩ := h; rfl
  · obtain ⟨k, rfl⟩ := h; rfl
  · exact h.elim
/-! stacks, locals -/
def sy_st (ρ : List Int) : List sy_V → List Value → Prop
  | [], [] => True
  | a :: as, v :: vs => sy_is ρ a v ∧ sy_st ρ as vs
  | _, _ => False
def sy_lv (ρ : List Int) (lv : sy_L) (vs : ri_L) : Prop := ∀ x ∈ lv, ∃ v : Value, ri_get x.1 vs = some v ∧ sy_is ρ x.2 v
theorem sy_st_app {ρ : List Int} (m : List Int) : ∀ {as : List sy_V} {vs : List Value}, sy_st ρ as vs → sy_st (m ++ ρ) as vs
  | [], [], _ => trivial
  | _ :: _, _ :: _, h => ⟨sy_is_app h.1 m, sy_st_app m h.2⟩
  | [], _ :: _, h => h.elim
  | _ :: _, [], h => h.elim
theorem sy_lv_app {ρ : List Int} (m : List Int) {as : sy_L} {vs : ri_L} (h : sy_lv ρ as vs) : sy_lv (m ++ ρ) as vs := fun x hx => by
  obtain ⟨v, h1, h2⟩ := h x hx
  exact ⟨v, h1, sy_is_app h2 m⟩
theorem sy_st_cons {ρ : List Int} {a : sy_V} {as : List sy_V} {vs : List Value} (h : sy_st ρ (a :: as) vs) : ∃ (v : Value) (r : List Value), vs = v :: r ∧ sy_is ρ a v ∧ sy_st ρ as r := by
  cases vs with
  | nil => exact h.elim
  | cons v r => exact ⟨v, r, rfl, h.1, h.2⟩
theorem sy_st_nil {ρ : List Int} {vs : List Value} (h : sy_st ρ [] vs) : vs = [] := by
  cases vs with
  | nil => rfl
  | cons v r => exact h.elim
noncomputable def sy_get (i : Nat) (lv : sy_L) : Option sy_V := List.rec none (fun q _ ih => @Bool.rec (fun _ => Option sy_V) ih (some q.2) (Nat.beq q.1 i)) lv
theorem sy_get_mem {i : Nat} {a : sy_V} : ∀ {lv : sy_L}, sy_get i lv = some a → (i, a) ∈ lv
  | [], h => by cases h
  | (j, b) :: lv, h => by
    have h2 : (@Bool.rec (fun _ => Option sy_V) (sy_get i lv) (some b) (Nat.beq j i)) = some a := h
    cases hb : Nat.beq j i with
    | true =>
      rw [hb] at h2
      rw [Nat.eq_of_beq_eq_true hb, Option.some.inj h2]
      exact List.mem_cons_self
    | false =>
      rw [hb] at h2
      exact List.mem_cons_of_mem _ (sy_get_mem h2)
theorem sy_get_ok {ρ : List Int} {i : Nat} {a : sy_V} {lv : sy_L} {vs : ri_L} (hl : sy_lv ρ lv vs) (h : sy_get i lv = some a) : ∃ v : Value, ri_get i vs = some v ∧ sy_is ρ a v := hl _ (sy_get_mem h)
noncomputable def sy_fil (f : Nat × sy_V → Bool) (lv : sy_L) : sy_L := List.rec [] (fun q _ ih => @Bool.rec (fun _ => sy_L) ih (q :: ih) (f q)) lv
theorem sy_fil_mem {f : Nat × sy_V → Bool} {x : Nat × sy_V} : ∀ {lv : sy_L}, x ∈ sy_fil f lv → x ∈ lv ∧ f x = true
  | [], h => by cases h
  | y :: lv, h => by
    have h2 : x ∈ (@Bool.rec (fun _ => sy_L) (sy_fil f lv) (y :: sy_fil f lv) (f y)) := h
    cases hb : f y with
    | true =>
      rw [hb] at h2
      rcases List.mem_cons.mp h2 with rfl | h3
      · exact ⟨List.mem_cons_self, hb⟩
      · exact ⟨List.mem_cons_of_mem _ (sy_fil_mem h3).1, (sy_fil_mem h3).2⟩
    | false =>
      rw [hb] at h2
      exact ⟨List.mem_cons_of_mem _ (sy_fil_mem h2).1, (sy_fil_mem h2).2⟩
theorem sy_get_fil {j : Nat} {u : Value} {f : Nat × Value → Bool} (hf : f (j, u) = true) : ∀ {vs : ri_L}, ri_get j vs = some u → ri_get j (vs.filter f) = some u
  | [], h => by cases h
  | (k, v) :: vs, h => by
    have h2 : (@Bool.rec (fun _ => Option Value) (ri_get j vs) (some v) (Nat.beq k j)) = some u := h
    rw [List.filter_cons]
    cases hb : Nat.beq k j with
    | true =>
      rw [hb] at h2
      have e1 : k = j := Nat.eq_of_beq_eq_true hb
      have e2 : v = u := Option.some.inj h2
      subst e1; subst e2
      rw [if_pos hf]
      show (@Bool.rec (fun _ => Option Value) (ri_get k (vs.filter f)) (some v) (Nat.beq k k)) = some v
      rw [hb]
    | false =>
      rw [hb] at h2
      have ih := sy_get_fil hf h2
      cases hv : f (k, v) with
      | true =>
        rw [if_pos rfl]
        show (@Bool.rec (fun _ => Option Value) (ri_get j (vs.filter f)) (some v) (Nat.beq k j)) = some u
        rw [hb]; exact ih
      | false => rw [if_neg (fun z => by cases z)]; exact ih
theorem sy_nb (x y : Nat) : (x == y) = Nat.beq x y := by
  rw [Bool.eq_iff_iff, beq_iff_eq, Nat.beq_eq]
noncomputable def sy_f1 (i : Nat) (q : Nat × sy_V) : Bool := !(Nat.beq q.1 i) && !(Nat.beq (q.1 + 1) i && Nat.beq (sy_cat q.2) 2)
noncomputable def sy_f2 (i : Nat) (q : Nat × sy_V) : Bool := !(Nat.beq q.1 i) && (!(Nat.beq q.1 (i + 1)) && !(Nat.beq (q.1 + 1) i && Nat.beq (sy_cat q.2) 2))
noncomputable def sy_s1 (i : Nat) (a : sy_V) (lv : sy_L) : sy_L := (i, a) :: sy_fil (sy_f1 i) lv
noncomputable def sy_s2 (i : Nat) (a : sy_V) (lv : sy_L) : sy_L := (i, a) :: sy_fil (sy_f2 i) lv
theorem sy_sx_ok {ρ : List Int} {i : Nat} {a : sy_V} {v : Value} {lv : sy_L} {vs : ri_L} {f : Nat × sy_V → Bool} {g : Nat × Value → Bool} (h : sy_lv ρ lv vs) (ha : sy_is ρ a v) (hfg : ∀ (j : Nat) (b : sy_V) (u : Value), u.category = sy_cat b → f (j, b) = true → g (j, u) = true ∧ j ≠ i) : sy_lv ρ ((i, a) :: sy_fil f lv) ((i, v) :: vs.filter g) := by
  intro x hx
  rcases List.mem_cons.mp hx with rfl | hx
  · refine ⟨v, ?_, ha⟩
    show (@Bool.rec (fun _ => Option Value) (ri_get i (vs.filter g)) (some v) (Nat.beq i i)) = some v
    rw [show Nat.beq i i = true by rw [Nat.beq_eq]]
  · obtain ⟨h1, h2⟩ := sy_fil_mem hx
    obtain ⟨u, h3, h4⟩ := h x h1
    obtain ⟨g1, g2⟩ := hfg x.1 x.2 u (sy_is_cat h4) h2
    refine ⟨u, ?_, h4⟩
    show (@Bool.rec (fun _ => Option Value) (ri_get x.1 (vs.filter g)) (some v) (Nat.beq i x.1)) = some u
    have e : Nat.beq i x.1 = false := by
      cases hb : Nat.beq i x.1 with
      | false => rfl
      | true => exact absurd (Nat.eq_of_beq_eq_true hb).symm g2
    rw [e]
    exact sy_get_fil g1 h3
theorem sy_s1_ok {ρ : List Int} {i : Nat} {a : sy_V} {v : Value} {lv : sy_L} {vs : ri_L} (h : sy_lv ρ lv vs) (ha : sy_is ρ a v) : sy_lv ρ (sy_s1 i a lv) (ri_s1 i v vs) :=
  sy_sx_ok h ha (fun j b u hc hf => by
    have e : ri_f1 i (j, u) = sy_f1 i (j, b) := by
      show (!(j == i) && !(j + 1 == i && u.category == 2)) = _
      rw [hc, sy_nb, sy_nb, sy_nb]; rfl
    refine ⟨by rw [e]; exact hf, fun e9 => ?_⟩
    have hf2 : (!(Nat.beq j i) && !(Nat.beq (j + 1) i && Nat.beq (sy_cat b) 2)) = true := hf
    rw [e9, show Nat.beq i i = true by rw [Nat.beq_eq]] at hf2
    cases hf2)
theorem sy_s2_ok {ρ : List Int} {i : Nat} {a : sy_V} {v : Value} {lv : sy_L} {vs : ri_L} (h : sy_lv ρ lv vs) (ha : sy_is ρ a v) : sy_lv ρ (sy_s2 i a lv) (ri_s2 i v vs) :=
  sy_sx_ok h ha (fun j b u hc hf => by
    have e : ri_f2 i (j, u) = sy_f2 i (j, b) := by
      show (!(j == i) && (!(j == i + 1) && !(j + 1 == i && u.category == 2))) = _
      rw [hc, sy_nb, sy_nb, sy_nb, sy_nb]; rfl
    refine ⟨by rw [e]; exact hf, fun e9 => ?_⟩
    have hf2 : (!(Nat.beq j i) && (!(Nat.beq j (i + 1)) && !(Nat.beq (j + 1) i && Nat.beq (sy_cat b) 2))) = true := hf
    rw [e9, show Nat.beq i i = true by rw [Nat.beq_eq]] at hf2
    cases hf2)
/-! ranges -/
def sy_le (a b : Int) : Bool := match b - a with
  | .ofNat _ => true
  | .negSucc _ => false
theorem sy_le_iff {a b : Int} : sy_le a b = true ↔ a ≤ b := by
  unfold sy_le
  split
  · rename_i n h
    constructor
    · intro _; have h2 : (0 : Int) ≤ Int.ofNat n := Int.natCast_nonneg n; omega
    · intro _; rfl
  · rename_i n h
    constructor
    · intro q; cases q
    · intro _; have h2 := Int.negSucc_lt_zero n; omega
theorem sy_le_not {a b : Int} : sy_le a b = false ↔ b < a := by
  cases h : sy_le a b with
  | true => have := sy_le_iff.mp h; constructor; (intro q; cases q); (intro q; omega)
  | false => constructor; (intro _; have : ¬ a ≤ b := fun q => by rw [sy_le_iff.mpr q] at h; cases h); omega; (intro _; rfl)
noncomputable def sy_iv (K : sy_K) (e : sy_E) : Option (Int × Int) := match e with
  | .inl c => some (c, c)
  | .inr i => sy_at K.1 i
theorem sy_iv_ok {ρ : List Int} {K : sy_K} {e : sy_E} {r : Int × Int} {x : Int} (hk : sy_ok ρ K) (h : sy_iv K e = some r) (hx : sy_ev ρ e = some x) : r.1 ≤ x ∧ x ≤ r.2 := by
  cases e with
  | inl c => cases h; cases hx; exact ⟨Int.le_refl _, Int.le_refl _⟩
  | inr i => exact hk.2.1 i r h x hx
/-- the least and the greatest of a kind -/
def sy_lo (t : Nat) : Int := match t with
  | 0 => -2147483648
  | 2 => -sd_B
  | 6 => -sd_B
  | _ => -9223372036854775808
def sy_hi (t : Nat) : Int := match t with
  | 0 => 2147483647
  | 2 => sd_B
  | 6 => sd_B
  | _ => 9223372036854775807
/-- a number as a polynomial -/
def sy_te (e : sy_E) : sy_P := match e with
  | .inl c => [(c, [])]
  | .inr i => [(1, [i])]
theorem sy_te_ok {ρ : List Int} {e : sy_E} {x : Int} (h : sy_ev ρ e = some x) : sy_dom ρ.length (sy_te e) = true ∧ sy_ep (sy_tot ρ) (sy_te e) = x := by
  cases e with
  | inl c =>
    cases h
    refine ⟨rfl, ?_⟩
    show x * 1 + 0 = x
    omega
  | inr i =>
    have h1 : sy_at ρ i = some x := h
    have h2 : (Nat.blt i ρ.length && true) = true := by
      rw [Bool.and_true]; exact Nat.ble_eq_true_of_le (sy_at_lt h1)
    refine ⟨?_, ?_⟩
    · show ((Nat.blt i ρ.length && true) && true) = true
      rw [h2]; rfl
    · show 1 * (sy_tot ρ i * 1) + 0 = x
      unfold sy_tot
      rw [h1]
      show 1 * (x * 1) + 0 = x
      omega
/-- all terms times k -/
noncomputable def sy_sc (k : Int) (p : sy_P) : sy_P := List.rec [] (fun d _ ih => (k * d.1, d.2) :: ih) p
theorem sy_sc_ep (f : Nat → Int) (k : Int) : ∀ p : sy_P, sy_ep f (sy_sc k p) = k * sy_ep f p
  | [] => (Int.mul_zero k).symm
  | d :: t => by
    show k * d.1 * sy_em f d.2 + sy_ep f (sy_sc k t) = k * (d.1 * sy_em f d.2 + sy_ep f t)
    rw [sy_sc_ep f k t, Int.mul_add, Int.mul_assoc]
theorem sy_sc_dom (n : Nat) (k : Int) : ∀ {p : sy_P}, sy_dom n p = true → sy_dom n (sy_sc k p) = true
  | [], _ => rfl
  | d :: t, h => by
    have h2 : (sy_dm n d.2 && sy_dom n t) = true := h
    rw [Bool.and_eq_true] at h2
    show (sy_dm n d.2 && sy_dom n (sy_sc k t)) = true
    rw [h2.1, sy_sc_dom n k h2.2]; rfl
theorem sy_app_ep (f : Nat → Int) : ∀ p q : sy_P, sy_ep f (p ++ q) = sy_ep f p + sy_ep f q
  | [], q => (Int.zero_add _).symm
  | d :: t, q => by
    show d.1 * sy_em f d.2 + sy_ep f (t ++ q) = d.1 * sy_em f d.2 + sy_ep f t + sy_ep f q
    rw [sy_app_ep f t q]; omega
theorem sy_app_dom (n : Nat) : ∀ {p q : sy_P}, sy_dom n p = true → sy_dom n q = true → sy_dom n (p ++ q) = true
  | [], _, _, h => h
  | d :: t, q, h, hq => by
    have h2 : (sy_dm n d.2 && sy_dom n t) = true := h
    rw [Bool.and_eq_true] at h2
    show (sy_dm n d.2 && sy_dom n (t ++ q)) = true
    rw [h2.1, sy_app_dom n h2.2 hq]; rfl
/-- the new unknown, number n, is what p says -/
noncomputable def sy_eq2 (n : Nat) (p : sy_P) : List sy_P := [(1, [n]) :: sy_sc (-1) p, (-1, [n]) :: p]
theorem sy_ok_app {ρ : List Int} {R : List (Int × Int)} {F : List sy_P} (hk : sy_ok ρ (R, F)) (x : Int) {lo hi : Int} (h1 : lo ≤ x) (h2 : x ≤ hi) {fs : List sy_P} (hf : ∀ p ∈ fs, sy_dom (ρ.length + 1) p = true ∧ 0 ≤ sy_ep (sy_tot (x :: ρ)) p) : sy_ok (x :: ρ) ((lo, hi) :: R, fs ++ F) := by
  obtain ⟨a1, a2, a3⟩ := hk
  have a1' : ρ.length = R.length := a1
  refine ⟨by show ρ.length + 1 = R.length + 1; rw [a1'], ?_, ?_⟩
  · intro i r hr y hy
    by_cases hi9 : i = ρ.length
    · subst hi9
      rw [sy_at_new] at hy
      have hr2 : sy_at ((lo, hi) :: R) R.length = some r := by rw [← a1']; exact hr
      rw [sy_at_new] at hr2
      cases hr2
      cases hy
      exact ⟨h1, h2⟩
    · have hl : i < ρ.length := by
        have := sy_at_lt hy
        rw [List.length_cons] at this
        omega
      obtain ⟨y2, hy2⟩ := sy_at_some hl
      obtain ⟨r2, hr2⟩ := sy_at_some (l := R) (i := i) (by rw [← a1']; exact hl)
      have e1 := (sy_at_cons (y := x) hy2).symm.trans hy
      have e2 := (sy_at_cons (y := (lo, hi)) hr2).symm.trans hr
      rw [← Option.some.inj e1, ← Option.some.inj e2]
      exact a2 i r2 hr2 y2 hy2
  · intro p hp
    rcases List.mem_append.mp hp with hp | hp
    · exact hf p hp
    · obtain ⟨b1, b2⟩ := a3 p hp
      refine ⟨sy_dom_more (Nat.le_succ _) b1, ?_⟩
      have e := sy_dom_app (m := [x]) b1
      show 0 ≤ sy_ep (sy_tot ([x] ++ ρ)) p
      rw [e]; exact b2
theorem sy_eq2_ok {ρ : List Int} {p : sy_P} {x : Int} (hd : sy_dom ρ.length p = true) (he : sy_ep (sy_tot ρ) p = x) : ∀ q ∈ sy_eq2 ρ.length p, sy_dom (ρ.length + 1) q = true ∧ 0 ≤ sy_ep (sy_tot (x :: ρ)) q := by
  have e1 : sy_tot (x :: ρ) ρ.length = x := by unfold sy_tot; rw [sy_at_new]; rfl
  have e2 : sy_ep (sy_tot ([x] ++ ρ)) p = x := by rw [sy_dom_app hd, he]
  have e2' : sy_ep (sy_tot (x :: ρ)) p = x := e2
  have d1 : sy_dom (ρ.length + 1) p = true := sy_dom_more (Nat.le_succ _) hd
  have d2 : Nat.blt ρ.length (ρ.length + 1) = true := Nat.ble_eq_true_of_le (Nat.le_refl _)
  intro q hq
  have hq2 : q = (1, [ρ.length]) :: sy_sc (-1) p ∨ q = (-1, [ρ.length]) :: p := by
    rcases List.mem_cons.mp hq with h | h
    · exact Or.inl h
    · exact Or.inr (List.mem_singleton.mp h)
  rcases hq2 with rfl | rfl
  · refine ⟨?_, ?_⟩
    · show ((Nat.blt ρ.length (ρ.length + 1) && true) && sy_dom (ρ.length + 1) (sy_sc (-1) p)) = true
      rw [d2, sy_sc_dom _ _ d1]; rfl
    · show 0 ≤ 1 * (sy_tot (x :: ρ) ρ.length * 1) + sy_ep (sy_tot (x :: ρ)) (sy_sc (-1) p)
      rw [sy_sc_ep, e1, e2']; omega
  · refine ⟨?_, ?_⟩
    · show ((Nat.blt ρ.length (ρ.length + 1) && true) && sy_dom (ρ.length + 1) p) = true
      rw [d2, d1]; rfl
    · show 0 ≤ -1 * (sy_tot (x :: ρ) ρ.length * 1) + sy_ep (sy_tot (x :: ρ)) p
      rw [e1, e2']; omega
