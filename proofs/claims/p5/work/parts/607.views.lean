/-! ===== two runs side by side, part 1: each sees its own cells alone ===== -/
def pm_bar (x : ri_E) : ri_E := match x with
  | .inl a => .inl (1000000 + a.1, a.2)
  | .inr a => .inl (1000000 + a.1, a.2)
/-- a world in which all cells but the own are barred; what they hold can still be told -/
def pv_mk (own : Nat → Bool) (w : List ri_E) : List ri_E := w.mapIdx (fun q x => bif own q then x else pm_bar x)
/-- .. and in which nothing can be told of them -/
def pv_cn (own : Nat → Bool) (w : List ri_E) : List ri_E := w.mapIdx (fun q x => bif own q then x else .inl (1000000, []))
theorem pm_bar_isb (x : ri_E) : pm_isb (pm_bar x) := by
  cases x with
  | inl a => exact ⟨a.1, a.2, rfl⟩
  | inr a => exact ⟨a.1, a.2, rfl⟩
theorem pv_mk_at (own : Nat → Bool) (w : List ri_E) (q : Nat) : (pv_mk own w)[q]? = (w[q]?).map (fun x => bif own q then x else pm_bar x) := by
  unfold pv_mk
  rw [List.getElem?_mapIdx]
theorem pv_cn_at (own : Nat → Bool) (w : List ri_E) (q : Nat) : (pv_cn own w)[q]? = (w[q]?).map (fun x => bif own q then x else .inl (1000000, [])) := by
  unfold pv_cn
  rw [List.getElem?_mapIdx]
theorem pv_mk_len (own : Nat → Bool) (w : List ri_E) : (pv_mk own w).length = w.length := by
  unfold pv_mk
  rw [List.length_mapIdx]
theorem pv_cn_len (own : Nat → Bool) (w : List ri_E) : (pv_cn own w).length = w.length := by
  unfold pv_cn
  rw [List.length_mapIdx]
theorem pv_mk_own {own : Nat → Bool} {w : List ri_E} {q : Nat} (h : own q = true) : (pv_mk own w)[q]? = w[q]? := by
  rw [pv_mk_at, h]
  cases w[q]? <;> rfl
theorem pv_cn_own {own : Nat → Bool} {w : List ri_E} {q : Nat} (h : own q = true) : (pv_cn own w)[q]? = w[q]? := by
  rw [pv_cn_at, h]
  cases w[q]? <;> rfl
theorem pm_bar_vals (x : ri_E) : sy_vals (pm_bar x) = sy_vals x := by cases x <;> rfl
theorem pv_mk_wv (own : Nat → Bool) (w : List ri_E) (q j : Nat) : sy_wv (pv_mk own w) q j = sy_wv w q j := by
  unfold sy_wv
  rw [pv_mk_at]
  cases hw : w[q]? with
  | none => rfl
  | some x =>
    cases ho : own q with
    | true => rfl
    | false =>
      show (sy_vals (pm_bar x))[j]? = (sy_vals x)[j]?
      rw [pm_bar_vals]
/-- the own cells are the same -/
def pv_ag (own : Nat → Bool) (v w : List ri_E) : Prop := v.length = w.length ∧ ∀ q : Nat, own q = true → v[q]? = w[q]?
theorem pv_ag_sym {own : Nat → Bool} {v w : List ri_E} (h : pv_ag own v w) : pv_ag own w v := ⟨h.1.symm, fun q hq => (h.2 q hq).symm⟩
theorem pv_ag_trans {own : Nat → Bool} {u v w : List ri_E} (h : pv_ag own u v) (h2 : pv_ag own v w) : pv_ag own u w := ⟨h.1.trans h2.1, fun q hq => (h.2 q hq).trans (h2.2 q hq)⟩
theorem pv_ag_mk (own : Nat → Bool) (w : List ri_E) : pv_ag own (pv_mk own w) w := ⟨pv_mk_len own w, fun _ hq => pv_mk_own hq⟩
theorem pv_ag_cn (own : Nat → Bool) (w : List ri_E) : pv_ag own (pv_cn own w) w := ⟨pv_cn_len own w, fun _ hq => pv_cn_own hq⟩
theorem pv_le_mk {own : Nat → Bool} {w v : List ri_E} (h : pv_ag own w v) : pm_le own (pv_mk own w) v := by
  refine ⟨by rw [pv_mk_len]; exact h.1, fun q x hq hx => ?_, fun q hq => by rw [pv_mk_own hq]; exact h.2 q hq⟩
  rw [pv_mk_at, hq] at hx
  cases hw : w[q]? with
  | none => rw [hw] at hx; cases hx
  | some y =>
    rw [hw] at hx
    cases hx
    exact pm_bar_isb y
theorem pv_le_cn {own : Nat → Bool} {w v : List ri_E} (h : pv_ag own w v) : pm_le own (pv_cn own w) v := by
  refine ⟨by rw [pv_cn_len]; exact h.1, fun q x hq hx => ?_, fun q hq => by rw [pv_cn_own hq]; exact h.2 q hq⟩
  rw [pv_cn_at, hq] at hx
  cases hw : w[q]? with
  | none => rw [hw] at hx; cases hx
  | some y =>
    rw [hw] at hx
    cases hx
    exact ⟨0, [], rfl⟩
theorem pv_cn_eq {own : Nat → Bool} {w v : List ri_E} (h : pv_ag own w v) : pv_cn own w = pv_cn own v := by
  apply List.ext_getElem?
  intro q
  rw [pv_cn_at, pv_cn_at]
  cases ho : own q with
  | true =>
    rw [h.2 q ho]
  | false =>
    by_cases hq : q < w.length
    · rw [List.getElem?_eq_getElem hq, List.getElem?_eq_getElem (show q < v.length by rw [← h.1]; exact hq)]
      rfl
    · rw [List.getElem?_eq_none (Nat.le_of_not_lt hq), List.getElem?_eq_none (show v.length ≤ q by rw [← h.1]; exact Nat.le_of_not_lt hq)]
theorem pv_le_ag {own : Nat → Bool} {w v : List ri_E} (h : pm_le own w v) : pv_ag own w v := ⟨h.1, h.2.2⟩
theorem pv_cn_cn (own : Nat → Bool) (w : List ri_E) : pv_cn own (pv_cn own w) = pv_cn own w := pv_cn_eq (pv_ag_cn own w)
/-- what is told of a world hangs on its places' values -/
theorem pv_hok {ρ : List Int} {H : sy_H} {w v : List ri_E} (h : sy_hok ρ H w) (e : ∀ q j : Nat, sy_wv v q j = sy_wv w q j) : sy_hok ρ H v := sy_hok_eq h e
theorem pv_ru {RU : sy_RT} {D : List Nat} {w v : List ri_E} (h : sy_ru RU D w) (e : ∀ q j : Nat, sy_wv v q j = sy_wv w q j) : sy_ru RU D v := sy_ru_eq h e
/-- the kinds of the own cells -/
noncomputable def pv_T (own : Nat → Bool) (T : Nat → Option sy_C) (q : Nat) : Option sy_C := bif own q then T q else none
theorem pv_tw {own : Nat → Bool} {T : Nat → Option sy_C} {w v : List ri_E} (h : sy_tw T w) (ha : ∀ q : Nat, own q = true → v[q]? = w[q]?) : sy_tw (pv_T own T) v := by
  intro q c hc
  unfold pv_T at hc
  cases ho : own q with
  | false => rw [ho] at hc; cases hc
  | true =>
    rw [ho, cond_true] at hc
    obtain ⟨vs, h1, h2, h3⟩ := h q c hc
    exact ⟨vs, by rw [ha q ho]; exact h1, h2, h3⟩
/-- the own cells of v, the others of w -/
def pv_mg (own : Nat → Bool) (v w : List ri_E) : List ri_E := w.mapIdx (fun q x => bif own q then (v[q]?).getD x else x)
theorem pv_mg_at (own : Nat → Bool) (v w : List ri_E) (q : Nat) : (pv_mg own v w)[q]? = (w[q]?).map (fun x => bif own q then (v[q]?).getD x else x) := by
  unfold pv_mg
  rw [List.getElem?_mapIdx]
theorem pv_mg_len (own : Nat → Bool) (v w : List ri_E) : (pv_mg own v w).length = w.length := by
  unfold pv_mg
  rw [List.length_mapIdx]
theorem pv_mg_own {own : Nat → Bool} {v w : List ri_E} (hl : v.length = w.length) {q : Nat} (h : own q = true) : (pv_mg own v w)[q]? = v[q]? := by
  rw [pv_mg_at, h]
  by_cases hq : q < w.length
  · rw [List.getElem?_eq_getElem hq, List.getElem?_eq_getElem (show q < v.length by rw [hl]; exact hq)]
    rfl
  · rw [List.getElem?_eq_none (Nat.le_of_not_lt hq), List.getElem?_eq_none (show v.length ≤ q by rw [hl]; exact Nat.le_of_not_lt hq)]
    rfl
theorem pv_mg_oth {own : Nat → Bool} {v w : List ri_E} {q : Nat} (h : own q = false) : (pv_mg own v w)[q]? = w[q]? := by
  rw [pv_mg_at, h]
  cases w[q]? <;> rfl
/-! a run to the end of its lowest frame -/
theorem pv_exP {E : sy_env} {Q : ri_Out → Prop} : ∀ {gs : List sy_CF} {o : ri_Out}, sy_Pk E Q gs o → ∃ out : ri_Out, Q out ∧ sy_Pk E (fun o => o = out) gs o
  | [], o, h => ⟨o, h, rfl⟩
  | G :: gs, (res, w, nc, ns, cs, fr), h => by
    obtain ⟨h1, h2⟩ := h
    dsimp only at h1 h2
    cases res with
    | inl r =>
      dsimp only at h2
      obtain ⟨n, o2, r2, h3⟩ := h2
      obtain ⟨out, q1, q2⟩ := pv_exP h3
      exact ⟨out, q1, h1, n, o2, r2, q2⟩
    | inr x =>
      dsimp only at h2
      cases hG : G.2.2.2.2.2.2.2.2.2 with
      | none =>
        rw [hG] at h2
        dsimp only at h2
        obtain ⟨out, q1, q2⟩ := pv_exP h2
        refine ⟨out, q1, h1, ?_⟩
        dsimp only
        rw [hG]
        exact q2
      | some hl =>
        rw [hG] at h2
        dsimp only at h2
        obtain ⟨t, oh, nx, k, pc2, g1, g2, g3, g4, g5, n, o2, r2, h3⟩ := h2
        obtain ⟨out, q1, q2⟩ := pv_exP h3
        refine ⟨out, q1, h1, ?_⟩
        dsimp only
        rw [hG]
        exact ⟨t, oh, nx, k, pc2, g1, g2, g3, g4, g5, n, o2, r2, q2⟩
theorem pv_monoP {E : sy_env} {Q Q2 : ri_Out → Prop} (hq : ∀ out, Q out → Q2 out) : ∀ {gs : List sy_CF} {o : ri_Out}, sy_Pk E Q gs o → sy_Pk E Q2 gs o
  | [], o, h => hq o h
  | G :: gs, (res, w, nc, ns, cs, fr), h => by
    obtain ⟨h1, h2⟩ := h
    dsimp only at h1 h2
    refine ⟨h1, ?_⟩
    dsimp only
    cases res with
    | inl r =>
      dsimp only at h2 ⊢
      obtain ⟨n, o2, r2, h3⟩ := h2
      exact ⟨n, o2, r2, pv_monoP hq h3⟩
    | inr x =>
      dsimp only at h2 ⊢
      cases hG : G.2.2.2.2.2.2.2.2.2 with
      | none =>
        rw [hG] at h2
        exact pv_monoP hq h2
      | some hl =>
        rw [hG] at h2
        obtain ⟨t, oh, nx, k, pc2, g1, g2, g3, g4, g5, n, o2, r2, h3⟩ := h2
        exact ⟨t, oh, nx, k, pc2, g1, g2, g3, g4, g5, n, o2, r2, pv_monoP hq h3⟩
section PVR
variable {E : sy_env} {own : Nat → Bool}
theorem pv_rr (hT : ∀ n, 1000000 ≤ n → ri_nth E.2.2.2.1 n = none) {n d bud : Nat} {M : ri_M} {cur : List ri_Op} {pc : Nat} {lv : ri_L} {st : List Value} {w : List ri_E} {nc ns fr : Nat} {out : ri_Out} (h : sy_rr E n d bud M cur pc lv st w nc ns fr = some out) (hal : E.2.2.2.2.2.2.2.1 w.length = false) {w2 : List ri_E} (hL : pm_le own w w2) : ∃ w3 : List ri_E, sy_rr E n d bud M cur pc lv st w2 nc ns fr = some (out.1, w3, out.2.2) ∧ pm_st own w out.2.1 w2 w3 :=
  pm_run (own := own) (Ms := E.1) (ty := E.2.1) (df := E.2.2.1) (tyL := E.2.2.2.1) (exl := E.2.2.2.2.1) (xs := E.2.2.2.2.2.1) (L := E.2.2.2.2.2.2.1) (al := E.2.2.2.2.2.2.2.1) (orc := E.2.2.2.2.2.2.2.2) hT n _ _ _ _ _ _ _ _ _ _ _ _ h hal w2 hL
theorem pv_trP (hT : ∀ n, 1000000 ≤ n → ri_nth E.2.2.2.1 n = none) : ∀ {gs : List sy_CF} {o out : ri_Out} {v : List ri_E}, sy_Pk E (fun o => o = out) gs o → E.2.2.2.2.2.2.2.1 o.2.1.length = false → pm_le own o.2.1 v → ∃ v3 : List ri_E, pm_st own o.2.1 out.2.1 v v3 ∧ sy_Pk E (fun o => o = (out.1, v3, out.2.2)) gs (o.1, v, o.2.2)
  | [], o, out, v, h, hal, hL => by
    have e : o = out := h
    subst e
    exact ⟨v, pm_st_refl hL, rfl⟩
  | G :: gs, (res, w, nc, ns, cs, fr), out, v, h, hal, hL => by
    obtain ⟨h1, h2⟩ := h
    dsimp only at h1 h2 hal hL
    cases res with
    | inl r =>
      dsimp only at h2
      obtain ⟨n, o2, r2, h3⟩ := h2
      obtain ⟨v2, r3, s1⟩ := pv_rr hT r2 hal hL
      obtain ⟨v3, s2, h4⟩ := pv_trP hT h3 (by rw [s1.2.1]; exact hal) s1.1
      exact ⟨v3, pm_st_trans s1 s2, h1, n, _, r3, h4⟩
    | inr x =>
      dsimp only at h2
      cases hG : G.2.2.2.2.2.2.2.2.2 with
      | none =>
        rw [hG] at h2
        dsimp only at h2
        obtain ⟨v3, s2, h4⟩ := pv_trP hT (v := v) h2 hal hL
        refine ⟨v3, s2, h1, ?_⟩
        dsimp only
        rw [hG]
        exact h4
      | some hl =>
        rw [hG] at h2
        dsimp only at h2
        obtain ⟨t, oh, nx, k, pc2, g1, g2, g3, g4, g5, n, o2, r2, h3⟩ := h2
        obtain ⟨v2, r3, s1⟩ := pv_rr hT r2 hal hL
        obtain ⟨v3, s2, h4⟩ := pv_trP hT h3 (by rw [s1.2.1]; exact hal) s1.1
        refine ⟨v3, pm_st_trans s1 s2, h1, ?_⟩
        dsimp only
        rw [hG]
        exact ⟨t, oh, nx, k, pc2, g1, g2, g3, g4, by rw [← hL.1]; exact g5, n, _, r3, h4⟩
/-- a run to its lowest frame's end, told of another world that agrees on the own cells -/
theorem pv_tr (hT : ∀ n, 1000000 ≤ n → ri_nth E.2.2.2.1 n = none) {gs : List sy_CF} {d bud : Nat} {M : ri_M} {cur : List ri_Op} {pc : Nat} {lv : ri_L} {st : List Value} {w v : List ri_E} {nc ns fr : Nat} {out : ri_Out} (h : sy_Ev E d bud M cur pc lv st w nc ns fr (sy_Pk E (fun o => o = out) gs)) (hal : E.2.2.2.2.2.2.2.1 w.length = false) (hL : pm_le own w v) : ∃ v3 : List ri_E, pm_st own w out.2.1 v v3 ∧ sy_Ev E d bud M cur pc lv st v nc ns fr (sy_Pk E (fun o => o = (out.1, v3, out.2.2)) gs) := by
  obtain ⟨n, o, h1, h2⟩ := h
  obtain ⟨v2, e2, s1⟩ := pv_rr hT h1 hal hL
  obtain ⟨v3, s2, h4⟩ := pv_trP hT h2 (by rw [s1.2.1]; exact hal) s1.1
  exact ⟨v3, pm_st_trans s1 s2, n, _, e2, h4⟩
end PVR
