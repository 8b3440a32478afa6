/-! ===== the surveyor, part 11: what follows from what is known ===== -/
section SYP
variable {ρ : List Int} {K : sy_K}
/-- what ranges say, as numbers that are at least 0 -/
noncomputable def sy_rf (K : sy_K) (rs : List Nat) : List sy_P := List.rec [] (fun i _ ih => match sy_at K.1 i with
  | some r => [(1, [i]), (- r.1, [])] :: [(-1, [i]), (r.2, [])] :: ih
  | none => ih) rs
theorem sy_tot_at {i : Nat} {x : Int} (h : sy_at ρ i = some x) : sy_tot ρ i = x := by unfold sy_tot; rw [h]; rfl
theorem sy_rf_ok (hk : sy_ok ρ K) : ∀ {rs : List Nat}, ∀ p ∈ sy_rf K rs, 0 ≤ sy_ep (sy_tot ρ) p
  | [], p, hp => by cases hp
  | i :: rs, p, hp => by
    have hp2 : p ∈ (match sy_at K.1 i with
      | some r => [(1, [i]), (- r.1, [])] :: [(-1, [i]), (r.2, [])] :: sy_rf K rs
      | none => sy_rf K rs) := hp
    split at hp2
    · rename_i r hr
      obtain ⟨x, hx⟩ := sy_at_some (l := ρ) (i := i) (by rw [hk.1]; exact sy_at_lt hr)
      have b := hk.2.1 i r hr x hx
      have e := sy_tot_at hx
      rcases List.mem_cons.mp hp2 with rfl | hp3
      · show 0 ≤ 1 * (sy_tot ρ i * 1) + (- r.1 * 1 + 0)
        rw [e]; omega
      · rcases List.mem_cons.mp hp3 with rfl | hp4
        · show 0 ≤ -1 * (sy_tot ρ i * 1) + (r.2 * 1 + 0)
          rw [e]; omega
        · exact sy_rf_ok hk p hp4
    · exact sy_rf_ok hk p hp2
abbrev sy_Ce : Type := List Nat × List (Nat × List Nat)
/-- p is at least 0: were it below, the facts could not all hold -/
noncomputable def sy_prv (K : sy_K) (p : sy_P) (c : sy_Ce) : Bool := sy_ref (((-1, []) :: sy_sc (-1) p) :: (sy_rf K c.1 ++ K.2)) c.2
theorem sy_prv_ok {p : sy_P} {c : sy_Ce} (h : sy_prv K p c = true) (hk : sy_ok ρ K) : 0 ≤ sy_ep (sy_tot ρ) p := by
  by_cases hp : 0 ≤ sy_ep (sy_tot ρ) p
  · exact hp
  · refine (sy_ref_ok (f := sy_tot ρ) h ?_).elim
    intro q hq
    rcases List.mem_cons.mp hq with rfl | hq
    · show 0 ≤ -1 * 1 + sy_ep (sy_tot ρ) (sy_sc (-1) p)
      rw [sy_sc_ep]; omega
    · rcases List.mem_append.mp hq with hq | hq
      · exact sy_rf_ok hk q hq
      · exact (hk.2.2 q hq).2
/-- the path can't be -/
noncomputable def sy_rfu (K : sy_K) (c : sy_Ce) : Bool := sy_ref (sy_rf K c.1 ++ K.2) c.2
theorem sy_rfu_ok {c : sy_Ce} (h : sy_rfu K c = true) (hk : sy_ok ρ K) : False := by
  refine sy_ref_ok (f := sy_tot ρ) h ?_
  intro q hq
  rcases List.mem_append.mp hq with hq | hq
  · exact sy_rf_ok hk q hq
  · exact (hk.2.2 q hq).2
noncomputable def sy_der (p : sy_P) (c : sy_Ce) (K : sy_K) : Option sy_K := bif sy_dom K.1.length p && sy_prv K p c then some (K.1, p :: K.2) else none
theorem sy_der_ok {p : sy_P} {c : sy_Ce} {K' : sy_K} (h : sy_der p c K = some K') (hk : sy_ok ρ K) : sy_ok ρ K' := by
  unfold sy_der at h
  cases hb : (sy_dom K.1.length p && sy_prv K p c) with
  | false => rw [hb] at h; cases h
  | true =>
    rw [hb, cond_true] at h
    cases h
    rw [Bool.and_eq_true] at hb
    refine ⟨hk.1, hk.2.1, ?_⟩
    intro q hq
    rcases List.mem_cons.mp hq with rfl | hq
    · exact ⟨by rw [hk.1]; exact hb.1, sy_prv_ok hb.2 hk⟩
    · exact hk.2.2 q hq
noncomputable def sy_nw (i : Nat) (lo hi : Int) (c1 c2 : sy_Ce) (K : sy_K) : Option sy_K := bif sy_prv K [(1, [i]), (- lo, [])] c1 && sy_prv K [(-1, [i]), (hi, [])] c2 then sy_nar (.inr i) lo hi K else none
theorem sy_nw_ok {i : Nat} {lo hi : Int} {c1 c2 : sy_Ce} {K' : sy_K} (h : sy_nw i lo hi c1 c2 K = some K') (hk : sy_ok ρ K) : sy_ok ρ K' := by
  unfold sy_nw at h
  cases hb : (sy_prv K [(1, [i]), (- lo, [])] c1 && sy_prv K [(-1, [i]), (hi, [])] c2) with
  | false => rw [hb] at h; cases h
  | true =>
    rw [hb, cond_true] at h
    rw [Bool.and_eq_true] at hb
    have p1 : 0 ≤ 1 * (sy_tot ρ i * 1) + (- lo * 1 + 0) := sy_prv_ok hb.1 hk
    have p2 : 0 ≤ -1 * (sy_tot ρ i * 1) + (hi * 1 + 0) := sy_prv_ok hb.2 hk
    have hi9 : i < K.1.length := by
      have h2 : (match sy_at K.1 i with
        | some r => bif sy_le (sy_mx r.1 lo) (sy_mn r.2 hi) then some (ri_upd (sy_mx r.1 lo, sy_mn r.2 hi) K.1 (K.1.length - 1 - i), K.2) else none
        | none => none) = some K' := h
      split at h2
      · rename_i r hr
        exact sy_at_lt hr
      · cases h2
    obtain ⟨x, hx⟩ := sy_at_some (l := ρ) (i := i) (by rw [hk.1]; exact hi9)
    have e := sy_tot_at hx
    rw [e] at p1 p2
    obtain ⟨K2, e2, k2⟩ := sy_nar_ok (e := .inr i) (lo := lo) (hi := hi) hk hx (by omega) (by omega)
    rw [h] at e2
    cases e2
    exact k2
/-- an unknown up to c, or above -/
noncomputable def sy_spl (i : Nat) (c : Int) (K : sy_K) : List sy_K := (sy_asl (.inr i) (.inl c) 0 K).toList ++ (sy_asl (.inl (c + 1)) (.inr i) 0 K).toList
theorem sy_spl_ok {i : Nat} {c : Int} (hi : i < K.1.length) (hk : sy_ok ρ K) : ∃ K' ∈ sy_spl i c K, sy_ok ρ K' := by
  obtain ⟨x, hx⟩ := sy_at_some (l := ρ) (i := i) (by rw [hk.1]; exact hi)
  by_cases h : x ≤ c
  · obtain ⟨K', e, k⟩ := sy_asl_ok (a := .inr i) (b := .inl c) (c := 0) hk hx rfl (by omega)
    exact ⟨K', List.mem_append_left _ (by rw [e]; exact List.mem_cons_self), k⟩
  · obtain ⟨K', e, k⟩ := sy_asl_ok (a := .inl (c + 1)) (b := .inr i) (c := 0) hk rfl hx (by omega)
    exact ⟨K', List.mem_append_right _ (by rw [e]; exact List.mem_cons_self), k⟩
/-- a polynomial is at least 0, or below -/
noncomputable def sy_sg (p : sy_P) (K : sy_K) : List sy_K := [(K.1, p :: K.2), (K.1, ((-1, []) :: sy_sc (-1) p) :: K.2)]
theorem sy_sg_ok {p : sy_P} (hd : sy_dom K.1.length p = true) (hk : sy_ok ρ K) : ∃ K' ∈ sy_sg p K, sy_ok ρ K' := by
  have hd' : sy_dom ρ.length p = true := by rw [hk.1]; exact hd
  by_cases h : 0 ≤ sy_ep (sy_tot ρ) p
  · refine ⟨_, List.mem_cons_self, hk.1, hk.2.1, fun q hq => ?_⟩
    rcases List.mem_cons.mp hq with rfl | hq
    · exact ⟨hd', h⟩
    · exact hk.2.2 q hq
  · refine ⟨_, List.mem_cons_of_mem _ List.mem_cons_self, hk.1, hk.2.1, fun q hq => ?_⟩
    rcases List.mem_cons.mp hq with rfl | hq
    · refine ⟨?_, ?_⟩
      · show (true && sy_dom ρ.length (sy_sc (-1) p)) = true
        rw [sy_sc_dom _ _ hd']; rfl
      · show 0 ≤ -1 * 1 + sy_ep (sy_tot ρ) (sy_sc (-1) p)
        rw [sy_sc_ep]; omega
    · exact hk.2.2 q hq
end SYP
/-! other numbers in the unknowns' places -/
noncomputable def sy_sm (s : Nat → Option sy_E) (m : List Nat) : Option sy_P := List.rec (some [(1, [])]) (fun i _ ih => match s i with
  | some e => (match ih with
    | some p => some (sy_mul (sy_te e) p)
    | none => none)
  | none => none) m
noncomputable def sy_sp (s : Nat → Option sy_E) (p : sy_P) : Option sy_P := List.rec (some []) (fun d _ ih => match sy_sm s d.2 with
  | some q => (match ih with
    | some r => some (sy_adk d.1 [] q r)
    | none => none)
  | none => none) p
theorem sy_sm_ok {f g : Nat → Int} {s : Nat → Option sy_E} (hs : ∀ (i : Nat) (e : sy_E), s i = some e → sy_ep f (sy_te e) = g i) : ∀ {m : List Nat} {p : sy_P}, sy_sm s m = some p → sy_ep f p = sy_em g m
  | [], p, h => by cases h; rfl
  | i :: m, p, h => by
    have h2 : (match s i with
      | some e => (match sy_sm s m with
        | some p => some (sy_mul (sy_te e) p)
        | none => none)
      | none => none) = some p := h
    split at h2
    · rename_i e he
      split at h2
      · rename_i q hq
        cases h2
        rw [sy_mul_eq, hs i e he, sy_sm_ok hs hq]
        rfl
      · cases h2
    · cases h2
theorem sy_sp_ok {f g : Nat → Int} {s : Nat → Option sy_E} (hs : ∀ (i : Nat) (e : sy_E), s i = some e → sy_ep f (sy_te e) = g i) : ∀ {p q : sy_P}, sy_sp s p = some q → sy_ep f q = sy_ep g p
  | [], q, h => by cases h; rfl
  | d :: p, q, h => by
    have h2 : (match sy_sm s d.2 with
      | some q => (match sy_sp s p with
        | some r => some (sy_adk d.1 [] q r)
        | none => none)
      | none => none) = some q := h
    split at h2
    · rename_i a ha
      split at h2
      · rename_i b hb
        cases h2
        rw [sy_adk_eq, sy_sm_ok hs ha, sy_sp_ok hs hb]
        show d.1 * 1 * sy_em g d.2 + sy_ep g p = d.1 * sy_em g d.2 + sy_ep g p
        rw [Int.mul_one]
      · cases h2
    · cases h2
/-- the values of a list of numbers -/
def sy_sv (ρ : List Int) : List sy_E → List Int → Prop
  | [], [] => True
  | e :: σ, x :: τ => sy_ev ρ e = some x ∧ sy_sv ρ σ τ
  | _, _ => False
theorem sy_sv_len {ρ : List Int} : ∀ {σ : List sy_E} {τ : List Int}, sy_sv ρ σ τ → σ.length = τ.length
  | [], [], _ => rfl
  | _ :: _, _ :: _, h => by rw [List.length_cons, List.length_cons, sy_sv_len h.2]
  | [], _ :: _, h => h.elim
  | _ :: _, [], h => h.elim
theorem sy_sv_at {ρ : List Int} : ∀ {σ : List sy_E} {τ : List Int} {i : Nat} {e : sy_E}, sy_sv ρ σ τ → sy_at σ i = some e → ∃ x : Int, sy_ev ρ e = some x ∧ sy_at τ i = some x
  | [], [], i, e, _, h => absurd (sy_at_lt h) (Nat.not_lt_zero _)
  | a :: σ, x :: τ, i, e, hs, h => by
    have hl := sy_sv_len hs.2
    by_cases hi : i = σ.length
    · subst hi
      rw [sy_at_new] at h
      cases h
      exact ⟨x, hs.1, by rw [hl]; exact sy_at_new _ _⟩
    · have hlt : i < σ.length := by have := sy_at_lt h; rw [List.length_cons] at this; omega
      obtain ⟨e2, he2⟩ := sy_at_some hlt
      have e3 := (sy_at_cons (y := a) he2).symm.trans h
      cases e3
      obtain ⟨y, h1, h2⟩ := sy_sv_at hs.2 he2
      exact ⟨y, h1, sy_at_cons h2⟩
  | [], _ :: _, _, _, hs, _ => hs.elim
  | _ :: _, [], _, _, hs, _ => hs.elim
theorem sy_sv_app {ρ : List Int} (m : List Int) : ∀ {σ : List sy_E} {τ : List Int}, sy_sv ρ σ τ → sy_sv (m ++ ρ) σ τ
  | [], [], _ => trivial
  | _ :: _, _ :: _, h => ⟨sy_ev_app h.1 m, sy_sv_app m h.2⟩
  | [], _ :: _, h => h.elim
  | _ :: _, [], h => h.elim
/-- a polynomial in the pattern's numbers, said of these -/
theorem sy_sv_sp {ρ : List Int} {σ : List sy_E} {τ : List Int} {p q : sy_P} (hs : sy_sv ρ σ τ) (h : sy_sp (sy_at σ) p = some q) : sy_ep (sy_tot ρ) q = sy_ep (sy_tot τ) p := by
  refine sy_sp_ok (g := sy_tot τ) ?_ h
  intro i e he
  obtain ⟨x, h1, h2⟩ := sy_sv_at hs he
  rw [(sy_te_ok h1).2, sy_tot_at h2]
/-! a value against a pattern: σ are the pattern's numbers so far -/
def sy_eeq (a b : sy_E) : Bool := match a, b with
  | .inl c, .inl d => decide (c = d)
  | .inr i, .inr j => Nat.beq i j
  | _, _ => false
theorem sy_eeq_ok {a b : sy_E} (h : sy_eeq a b = true) : a = b := by
  cases a with
  | inl c => cases b with
    | inl d => rw [of_decide_eq_true h]
    | inr j => cases h
  | inr i => cases b with
    | inl d => cases h
    | inr j => rw [Nat.eq_of_beq_eq_true h]
noncomputable def sy_me (K : sy_K) (t c : sy_E) (σ : List sy_E) : Option (List sy_E) := match t with
  | .inl n => (match sy_iv K c with
    | some r => bif sy_le n r.1 && sy_le r.2 n then some σ else none
    | none => none)
  | .inr i => bif Nat.beq i σ.length then some (c :: σ) else (match sy_at σ i with
    | some e => bif sy_eeq e c then some σ else none
    | none => none)
theorem sy_me_ok {ρ : List Int} {K : sy_K} {t c : sy_E} {σ σ' : List sy_E} {τ : List Int} {x : Int} (hk : sy_ok ρ K) (hc : sy_ev ρ c = some x) (hs : sy_sv ρ σ τ) (h : sy_me K t c σ = some σ') : ∃ m : List Int, sy_sv ρ σ' (m ++ τ) ∧ sy_ev (m ++ τ) t = some x := by
  unfold sy_me at h
  split at h
  · rename_i n
    split at h
    · rename_i r hr
      cases hb : (sy_le n r.1 && sy_le r.2 n) with
      | false => rw [hb] at h; cases h
      | true =>
        rw [hb, cond_true] at h
        cases h
        rw [Bool.and_eq_true, sy_le_iff, sy_le_iff] at hb
        have b := sy_iv_ok hk hr hc
        refine ⟨[], hs, ?_⟩
        show some n = some x
        rw [show n = x by omega]
    · cases h
  · rename_i i
    cases hb : Nat.beq i σ.length with
    | true =>
      rw [hb, cond_true] at h
      cases h
      refine ⟨[x], ⟨hc, hs⟩, ?_⟩
      show sy_at (x :: τ) i = some x
      rw [Nat.eq_of_beq_eq_true hb, sy_sv_len hs]
      exact sy_at_new _ _
    | false =>
      rw [hb, cond_false] at h
      split at h
      · rename_i e he
        cases hb2 : sy_eeq e c with
        | false => rw [hb2] at h; cases h
        | true =>
          rw [hb2, cond_true] at h
          cases h
          obtain ⟨y, h1, h2⟩ := sy_sv_at hs he
          rw [sy_eeq_ok hb2, hc] at h1
          cases h1
          exact ⟨[], hs, h2⟩
      · cases h
noncomputable def sy_mv (K : sy_K) (t c : sy_V) (σ : List sy_E) : Option (List sy_E) := bif Nat.beq t.1 c.1 then (match t.1 with
  | 0 => sy_me K t.2.1 c.2.1 σ
  | 1 => sy_me K t.2.1 c.2.1 σ
  | 2 => bif sy_is0 t.2.2 then sy_me K t.2.1 c.2.1 σ else none
  | 3 => bif sy_eeq t.2.1 c.2.1 then some σ else none
  | 4 => some σ
  | _ => none) else none
theorem sy_mv_ok {ρ : List Int} {K : sy_K} {t c : sy_V} {σ σ' : List sy_E} {τ : List Int} {v : Value} (hk : sy_ok ρ K) (hc : sy_is ρ c v) (hs : sy_sv ρ σ τ) (h : sy_mv K t c σ = some σ') : ∃ m : List Int, sy_sv ρ σ' (m ++ τ) ∧ sy_is (m ++ τ) t v := by
  obtain ⟨t1, e1, e2⟩ := t
  obtain ⟨c1, d1, d2⟩ := c
  unfold sy_mv at h
  dsimp only at h
  cases hb : Nat.beq t1 c1 with
  | false => rw [hb] at h; cases h
  | true =>
    rw [hb, cond_true] at h
    have e9 : t1 = c1 := Nat.eq_of_beq_eq_true hb
    subst e9
    unfold sy_is at hc
    dsimp only at hc
    split at h
    · obtain ⟨x, rfl, hx⟩ := hc
      obtain ⟨m, h1, h2⟩ := sy_me_ok hk hx hs h
      exact ⟨m, h1, x, rfl, h2⟩
    · obtain ⟨x, rfl, hx⟩ := hc
      obtain ⟨m, h1, h2⟩ := sy_me_ok hk hx hs h
      exact ⟨m, h1, x, rfl, h2⟩
    · obtain ⟨x, k, rfl, hx, hd⟩ := hc
      cases hb2 : sy_is0 e2 with
      | false => rw [hb2] at h; cases h
      | true =>
        rw [hb2, cond_true] at h
        obtain ⟨m, h1, h2⟩ := sy_me_ok hk hx hs h
        refine ⟨m, h1, x, k, rfl, h2, hd.1, fun q => ?_⟩
        have q2 : e2 = .inl 1 := q
        rw [q2] at hb2
        cases hb2
    · cases hb2 : sy_eeq e1 d1 with
      | false => rw [hb2] at h; cases h
      | true =>
        rw [hb2, cond_true] at h
        cases h
        obtain ⟨q, rfl, hq⟩ := hc
        exact ⟨[], hs, q, rfl, by show e1 = _; rw [sy_eeq_ok hb2]; exact hq⟩
    · cases h
      exact ⟨[], hs, hc⟩
    · cases h
/-- lists of values -/
noncomputable def sy_ms (K : sy_K) : List sy_V → List sy_V → List sy_E → Option (List sy_E)
  | [], [], σ => some σ
  | t :: ts, c :: cs, σ => (match sy_mv K t c σ with
    | some σ1 => sy_ms K ts cs σ1
    | none => none)
  | _, _, _ => none
theorem sy_ms_ok {ρ : List Int} {K : sy_K} (hk : sy_ok ρ K) : ∀ {ts cs : List sy_V} {σ σ' : List sy_E} {τ : List Int} {vs : List Value}, sy_st ρ cs vs → sy_sv ρ σ τ → sy_ms K ts cs σ = some σ' → ∃ m : List Int, sy_sv ρ σ' (m ++ τ) ∧ sy_st (m ++ τ) ts vs
  | [], [], σ, σ', τ, vs, hv, hs, h => by
    unfold sy_ms at h
    cases h
    rw [sy_st_nil hv]
    exact ⟨[], hs, trivial⟩
  | t :: ts, c :: cs, σ, σ', τ, vs, hv, hs, h => by
    unfold sy_ms at h
    split at h
    · rename_i σ1 h1
      obtain ⟨v, r, rfl, hv1, hv2⟩ := sy_st_cons hv
      obtain ⟨m1, a1, a2⟩ := sy_mv_ok hk hv1 hs h1
      obtain ⟨m2, b1, b2⟩ := sy_ms_ok hk hv2 a1 h
      refine ⟨m2 ++ m1, by rw [List.append_assoc]; exact b1, ?_⟩
      rw [List.append_assoc]
      exact ⟨sy_is_app a2 m2, b2⟩
    · cases h
  | [], _ :: _, σ, σ', τ, vs, hv, hs, h => by unfold sy_ms at h; cases h
  | _ :: _, [], σ, σ', τ, vs, hv, hs, h => by unfold sy_ms at h; cases h
/-- locals: what the pattern names must be there -/
noncomputable def sy_ml (K : sy_K) (lv : sy_L) : sy_L → List sy_E → Option (List sy_E)
  | [], σ => some σ
  | t :: ts, σ => (match sy_get t.1 lv with
    | some c => (match sy_mv K t.2 c σ with
      | some σ1 => sy_ml K lv ts σ1
      | none => none)
    | none => none)
theorem sy_ml_ok {ρ : List Int} {K : sy_K} {lv : sy_L} {lvc : ri_L} (hk : sy_ok ρ K) (hl : sy_lv ρ lv lvc) : ∀ {ts : sy_L} {σ σ' : List sy_E} {τ : List Int}, sy_sv ρ σ τ → sy_ml K lv ts σ = some σ' → ∃ m : List Int, sy_sv ρ σ' (m ++ τ) ∧ sy_lv (m ++ τ) ts lvc
  | [], σ, σ', τ, hs, h => by
    unfold sy_ml at h
    cases h
    exact ⟨[], hs, fun x hx => by cases hx⟩
  | t :: ts, σ, σ', τ, hs, h => by
    unfold sy_ml at h
    split at h
    · rename_i c hc
      split at h
      · rename_i σ1 h1
        obtain ⟨v, hv, hv2⟩ := sy_get_ok hl hc
        obtain ⟨m1, a1, a2⟩ := sy_mv_ok hk hv2 hs h1
        obtain ⟨m2, b1, b2⟩ := sy_ml_ok hk hl a1 h
        refine ⟨m2 ++ m1, by rw [List.append_assoc]; exact b1, ?_⟩
        intro x hx
        rw [List.append_assoc]
        rcases List.mem_cons.mp hx with rfl | hx
        · exact ⟨v, hv, sy_is_app a2 m2⟩
        · exact b2 x hx
      · cases h
    · cases h
