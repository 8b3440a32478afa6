/-! ===== two runs side by side, part 2: both end, and what they leave together ===== -/
/-- where one of the two stands: waiting frames, d, bud, method, what comes, pc, locals, stack, cells, slots, the next number -/
abbrev pv_cx : Type := List sy_CF × Nat × Nat × ri_M × List ri_Op × Nat × ri_L × List Value × Nat × Nat × Nat
/-- under way, or ended: with what, cells and slots made -/
abbrev pv_C : Type := pv_cx ⊕ (Option Value × Nat × Nat × Nat)
def pv_side (E : sy_env) (own : Nat → Bool) (c : pv_C) (w : List ri_E) (out : ri_Out) : Prop := match c with
  | .inl (gs, d, bud, M, cur, pc, lv, st, nc, ns, fr) => sy_Ev E d bud M cur pc lv st (pv_cn own w) nc ns fr (sy_Pk E (fun o => o = out) gs)
  | .inr (r, nc, ns, fr) => out = (.inl r, pv_cn own w, nc, ns, [], fr)
/-- both come to their ends, and P says what they leave -/
def pv_Ev (E : sy_env) (own : Bool → Nat → Bool) (c : Bool → pv_C) (w : List ri_E) (P : (Bool → ri_Out) → List ri_E → Prop) : Prop := ∃ (o : Bool → ri_Out) (wE : List ri_E), (∀ s : Bool, pv_side E (own s) (c s) w (o s) ∧ (o s).2.2.2.2.1 = [] ∧ (o s).2.1 = pv_cn (own s) wE) ∧ wE.length = w.length ∧ (∀ q : Nat, own true q = false → own false q = false → wE[q]? = w[q]?) ∧ P o wE
def pv_two {α : Type} (s : Bool) (a b : α) (s2 : Bool) : α := bif s2 == s then a else b
theorem pv_two_s {α : Type} (s : Bool) (a b : α) : pv_two s a b s = a := by cases s <;> rfl
theorem pv_two_n {α : Type} (s : Bool) (a b : α) : pv_two s a b (!s) = b := by cases s <;> rfl
theorem pv_two_sw {α : Type} (s : Bool) (a b : α) : pv_two (!s) b a = pv_two s a b := by
  funext x
  cases s <;> cases x <;> rfl
/-- a finished side's own cells stay -/
theorem pv_side_ag {E : sy_env} {own : Nat → Bool} {c : pv_C} {w v : List ri_E} {out : ri_Out} (h : pv_side E own c w out) (ha : pv_ag own w v) : pv_side E own c v out := by
  unfold pv_side at h ⊢
  rw [← pv_cn_eq ha]
  exact h
section PVE
variable {E : sy_env} {own : Bool → Nat → Bool} {c : pv_C} {w : List ri_E} {P : (Bool → ri_Out) → List ri_E → Prop} {s : Bool}
/-- what is asked of the end of the active one, while the other one stands at c -/
def pv_Q (E : sy_env) (own : Bool → Nat → Bool) (s : Bool) (c : pv_C) (w : List ri_E) (P : (Bool → ri_Out) → List ri_E → Prop) (out : ri_Out) : Prop := ∃ (o2 : ri_Out) (wE : List ri_E), out.2.2.2.2.1 = [] ∧ pv_side E (own (!s)) c w o2 ∧ o2.2.2.2.2.1 = [] ∧ pv_ag (own s) out.2.1 wE ∧ o2.2.1 = pv_cn (own (!s)) wE ∧ wE.length = w.length ∧ (∀ q : Nat, own true q = false → own false q = false → wE[q]? = w[q]?) ∧ P (pv_two s (out.1, pv_cn (own s) wE, out.2.2) o2) wE
theorem pv_of_Q (hT : ∀ n, 1000000 ≤ n → ri_nth E.2.2.2.1 n = none) (hal : E.2.2.2.2.2.2.2.1 w.length = false) {gs : List sy_CF} {d bud : Nat} {M : ri_M} {cur : List ri_Op} {pc : Nat} {lv : ri_L} {st : List Value} {nc ns fr : Nat} (h : sy_Ev E d bud M cur pc lv st (pv_mk (own s) w) nc ns fr (sy_Pk E (pv_Q E own s c w P) gs)) :
    pv_Ev E own (pv_two s (.inl (gs, d, bud, M, cur, pc, lv, st, nc, ns, fr)) c) w P := by
  obtain ⟨n, o, h1, h2⟩ := h
  obtain ⟨out, ⟨o2, wE, q1, q2, q3, q4, q5, q6, q7, q8⟩, h3⟩ := pv_exP h2
  have hL : pm_le (own s) (pv_mk (own s) w) (pv_cn (own s) w) := pv_le_mk (pv_ag_sym (pv_ag_cn (own s) w))
  obtain ⟨v3, s1, e1⟩ := pv_tr hT (show sy_Ev E d bud M cur pc lv st (pv_mk (own s) w) nc ns fr (sy_Pk E (fun o => o = out) gs) from ⟨n, o, h1, h3⟩) (by rw [pv_mk_len]; exact hal) hL
  have a1 : pv_ag (own s) out.2.1 v3 := pv_le_ag s1.1
  have e9 : v3 = pv_cn (own s) wE := by
    apply List.ext_getElem?
    intro q
    cases ho : own s q with
    | true => rw [← a1.2 q ho, q4.2 q ho, pv_cn_own ho]
    | false =>
      rw [(s1.2.2 q ho).2, pv_cn_at, pv_cn_at, ho]
      by_cases hq : q < w.length
      · rw [List.getElem?_eq_getElem hq, List.getElem?_eq_getElem (show q < wE.length by rw [q6]; exact hq)]
        rfl
      · rw [List.getElem?_eq_none (Nat.le_of_not_lt hq), List.getElem?_eq_none (show wE.length ≤ q by rw [q6]; exact Nat.le_of_not_lt hq)]
  rw [e9] at e1
  refine ⟨pv_two s (out.1, pv_cn (own s) wE, out.2.2) o2, wE, fun s2 => ?_, q6, q7, q8⟩
  by_cases hs : s2 = s
  · subst hs
    rw [pv_two_s, pv_two_s]
    exact ⟨e1, q1, rfl⟩
  · have hs2 : s2 = !s := by cases s <;> cases s2 <;> first | rfl | exact absurd rfl hs
    subst hs2
    rw [pv_two_n, pv_two_n]
    exact ⟨q2, q3, q5⟩
/-- .. and the other way round, of a world whose own cells are those of a later one -/
theorem pv_to_Q (hT : ∀ n, 1000000 ≤ n → ri_nth E.2.2.2.1 n = none) (hdj : ∀ q, own s q = true → own (!s) q = false) {w2 v : List ri_E} (hal : E.2.2.2.2.2.2.2.1 w.length = false) (h2 : ∀ q : Nat, own s q = false → w2[q]? = w[q]?) (hl : w2.length = w.length) (hv : pv_ag (own s) w2 v) {gs : List sy_CF} {d bud : Nat} {M : ri_M} {cur : List ri_Op} {pc : Nat} {lv : ri_L} {st : List Value} {nc ns fr : Nat} (h : pv_Ev E own (pv_two s (.inl (gs, d, bud, M, cur, pc, lv, st, nc, ns, fr)) c) w2 P) :
    sy_Ev E d bud M cur pc lv st v nc ns fr (sy_Pk E (pv_Q E own s c w P) gs) := by
  obtain ⟨o, wE, k1, k2, k3, k4⟩ := h
  obtain ⟨a1, a2, a3⟩ := k1 s
  obtain ⟨b1, b2, b3⟩ := k1 (!s)
  rw [pv_two_s] at a1
  rw [pv_two_n] at b1
  have a1' : sy_Ev E d bud M cur pc lv st (pv_cn (own s) w2) nc ns fr (sy_Pk E (fun x => x = o s) gs) := a1
  obtain ⟨v3, s1, e1⟩ := pv_tr hT a1' (by rw [pv_cn_len, hl]; exact hal) (pv_le_cn hv)
  obtain ⟨n, o9, e2, e3⟩ := e1
  refine ⟨n, o9, e2, pv_monoP (fun out ho => ?_) e3⟩
  have ho2 : out = ((o s).1, v3, (o s).2.2) := ho
  subst ho2
  have hn : ∀ q, own (!s) q = true → own s q = false := fun q hq => by
    cases hx : own s q with
    | false => rfl
    | true => rw [hdj q hx] at hq; cases hq
  have ag : pv_ag (own (!s)) w2 w := ⟨hl, fun q hq => h2 q (hn q hq)⟩
  have a9 : pv_ag (own s) v3 wE := by
    have a8 := pv_ag_sym (pv_le_ag s1.1)
    rw [a3] at a8
    exact pv_ag_trans a8 (pv_ag_cn (own s) wE)
  refine ⟨o (!s), wE, a2, pv_side_ag b1 ag, b2, a9, b3, k2.trans hl, fun q x y => ?_, ?_⟩
  · rw [k3 q x y]
    cases s with
    | true => exact h2 q x
    | false => exact h2 q y
  · have e9 : (pv_two s (((o s).1, v3, (o s).2.2).1, pv_cn (own s) wE, ((o s).1, v3, (o s).2.2).2.2) (o (!s))) = o := by
      funext x
      have hs : ((o s).1, pv_cn (own s) wE, (o s).2.2) = o s := by rw [← a3]
      cases s <;> cases x <;> first | exact hs | rfl
    rw [e9]
    exact k4
end PVE
/-! ===== two runs side by side, part 3: the survey of both ===== -/
/-- one that waits, as the survey knows it: frames, d, bud, method, place, what comes, pc, locals, stack, cells, slots; or what it ended with -/
abbrev pv_sx : Type := List sy_Fr × Nat × Nat × ri_M × Nat × List ri_Op × Nat × sy_L × List sy_V × Nat × Nat
abbrev pv_S : Type := pv_sx ⊕ (Option sy_V × Nat × Nat)
/-- an end of both: what they hand back, cells and slots, what is known, of the world, which rules don't hold -/
abbrev pv_Oc : Type := (Option sy_V × Option sy_V) × (Nat × Nat) × (Nat × Nat) × sy_K × sy_H × List Nat
/-- a contract of two methods: number, frames, places, what it is called with (twice); what is known, of the world, which rules needn't hold, what may change, the ends -/
abbrev pv_Ct : Type := (Nat × Nat × Nat × List sy_V) × (Nat × Nat × Nat × List sy_V) × sy_K × sy_H × List Nat × List (Nat × Nat × Nat) × List pv_Oc
def pv_cm (C : pv_Ct) (s : Bool) : Nat × Nat × Nat × List sy_V := bif s then C.1 else C.2.1
/-- the changes that are the side's own -/
noncomputable def pv_ml (own : Nat → Bool) (m : List (Nat × Nat × Nat)) : List (Nat × Nat × Nat) := List.rec [] (fun x _ ih => bif own x.1 then x :: ih else ih) m
theorem pv_ml_mem {own : Nat → Bool} {x : Nat × Nat × Nat} : ∀ {m : List (Nat × Nat × Nat)}, x ∈ pv_ml own m → x ∈ m ∧ own x.1 = true
  | [], h => by cases h
  | y :: m, h => by
    have h2 : x ∈ (bif own y.1 then y :: pv_ml own m else pv_ml own m) := h
    cases ho : own y.1 with
    | true =>
      rw [ho, cond_true] at h2
      rcases List.mem_cons.mp h2 with e | e
      · subst e; exact ⟨List.mem_cons_self, ho⟩
      · exact ⟨List.mem_cons_of_mem _ (pv_ml_mem e).1, (pv_ml_mem e).2⟩
    | false =>
      rw [ho, cond_false] at h2
      exact ⟨List.mem_cons_of_mem _ (pv_ml_mem h2).1, (pv_ml_mem h2).2⟩
/-- the contract of one side as the survey of one takes it: no ends of its own -/
noncomputable def pv_C1 (own : Bool → Nat → Bool) (C : pv_Ct) (s : Bool) : sy_Ct := (1, (pv_cm C s).2.1, (pv_cm C s).2.2.1, [], C.2.2.1, C.2.2.2.1, [], pv_ml (own s) C.2.2.2.2.2.1, [])
/-- a cut of both: places, locals, what is known, of the world, which rules needn't hold, what falls -/
abbrev pv_Cut : Type := (Nat × sy_L) × (Nat × sy_L) × sy_K × sy_H × List Nat × sy_P
def pv_rel (ρ : List Int) (C1 : sy_Ct) (M0 : ri_M) (S : pv_S) (c : pv_C) : Prop := match S, c with
  | .inl (fs, d, bud, M, ix, cur, pc, lv, st, nc, ns), .inl (gs, d2, bud2, M2, cur2, pc2, lvc, stc, nc2, ns2, _) => sy_frs ρ fs gs ∧ sy_bot C1 M0 gs M d2 bud2 ∧ d ≤ d2 ∧ bud ≤ bud2 ∧ M = M2 ∧ cur = cur2 ∧ cur = M.2.2.2.2.2.drop ix ∧ pc = pc2 ∧ sy_lv ρ lv lvc ∧ sy_st ρ st stc ∧ nc = nc2 ∧ ns = ns2
  | .inr (r, nc, ns), .inr (rc, nc2, ns2, _) => sy_rel ρ r rc ∧ nc = nc2 ∧ ns = ns2
  | _, _ => False
theorem pv_rel_app {ρ : List Int} {C1 : sy_Ct} {M0 : ri_M} {S : pv_S} {c : pv_C} (h : pv_rel ρ C1 M0 S c) (m : List Int) : pv_rel (m ++ ρ) C1 M0 S c := by
  cases S with
  | inl S =>
    cases c with
    | inr c => exact h
    | inl c =>
      obtain ⟨fs, d, bud, M, ix, cur, pc, lv, st, nc, ns⟩ := S
      obtain ⟨gs, d2, bud2, M2, cur2, pc2, lvc, stc, nc2, ns2, fr⟩ := c
      obtain ⟨h1, h2, h3, h4, h5, h6, h7, h8, h9, h10, h11⟩ := h
      exact ⟨sy_frs_app m h1, h2, h3, h4, h5, h6, h7, h8, sy_lv_app m h9, sy_st_app m h10, h11⟩
  | inr S =>
    cases c with
    | inl c => exact h
    | inr c =>
      obtain ⟨r, nc, ns⟩ := S
      obtain ⟨rc, nc2, ns2, fr⟩ := c
      obtain ⟨h1, h2⟩ := h
      exact ⟨sy_rel_app h1 m, h2⟩
/-- the survey of the active one: s which it is, X the other one -/
abbrev pv_Go : Type := Bool → pv_S → sy_Go
section PVX
variable (E : sy_en) (own : Bool → Nat → Bool) (T : Nat → Option sy_C) (RU : sy_RT) (CT : Bool → List sy_Ct) (C : pv_Ct)
noncomputable def pv_s0 : List sy_E := sy_ids 0 C.2.2.1.1.length
noncomputable def pv_mr (K : sy_K) (p a : Option sy_V) (σ : List sy_E) : Option (List sy_E) := match p, a with
  | none, none => some σ
  | some p, some a => sy_mv K p a σ
  | _, _ => none
/-- both have ended -/
noncomputable def pv_post (rA rB : Option sy_V) (nA nB : Nat × Nat) (H : sy_H) (D : List Nat) (K : sy_K) (hs : List sy_Hn) : Option (List sy_Hn) := match hs with
  | h :: t => (match ri_nth C.2.2.2.2.2.2 h.2.2.1 with
    | some o => (match pv_mr K o.1.1 rA (pv_s0 C) with
      | some σ0 => (match pv_mr K o.1.2 rB σ0 with
        | some σ => (match sy_mh K H o.2.2.2.2.1 σ with
          | some σ1 => bif (Nat.beq h.2.1 31 && ((Nat.beq nA.1 o.2.1.1 && Nat.beq nA.2 o.2.1.2) && (Nat.beq nB.1 o.2.2.1.1 && Nat.beq nB.2 o.2.2.1.2))) && (sy_ent K σ1 o.2.2.2.1 h.2.2.2.2.2.2.1 && sy_dsub D o.2.2.2.2.2) then some t else none
          | none => none)
        | none => none)
      | none => none)
    | none => none)
  | [] => none
noncomputable def pv_fin (s : Bool) (r f : Option sy_V) (n1 n2 : Nat × Nat) (H : sy_H) (D : List Nat) (K : sy_K) (hs : List sy_Hn) : Option (List sy_Hn) := bif s then pv_post C r f n1 n2 H D K hs else pv_post C f r n2 n1 H D K hs
/-- the lowest frame's return -/
noncomputable def pv_retn (ih : pv_Go) (s : Bool) (X : pv_S) (M : ri_M) (i : Instr) (st : List sy_V) (H : sy_H) (D : List Nat) (K : sy_K) (nc ns : Nat) (hs : List sy_Hn) : Option (List sy_Hn) := match sy_ret M i st K with
  | some r => (match X with
    | .inl x => ih (!s) (.inr (r, nc, ns)) x.1 x.2.1 x.2.2.1 x.2.2.2.1 x.2.2.2.2.1 x.2.2.2.2.2.1 x.2.2.2.2.2.2.1 x.2.2.2.2.2.2.2.1 x.2.2.2.2.2.2.2.2.1 H D K x.2.2.2.2.2.2.2.2.2.1 x.2.2.2.2.2.2.2.2.2.2 hs
    | .inr f => pv_fin C s r f.1 (nc, ns) (f.2.1, f.2.2) H D K hs)
  | none => none
end PVX
