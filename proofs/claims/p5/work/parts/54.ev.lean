/-! ===== the surveyor, part 13: runs that end as they should ===== -/
/-- all that a run of the reckoner takes: methods, types .. -/
abbrev sy_env : Type := List ri_M × (Nat → Nat → FieldType) × (Nat → List Value) × List FieldType × (Nat → Nat) × (Nat → Value) × Nat × (Nat → Bool) × List (Bool ⊕ Int32)
noncomputable def sy_rr (E : sy_env) (n : Nat) : ri_K := ri_run E.1 E.2.1 E.2.2.1 E.2.2.2.1 E.2.2.2.2.1 E.2.2.2.2.2.1 E.2.2.2.2.2.2.1 E.2.2.2.2.2.2.2.1 E.2.2.2.2.2.2.2.2 n
noncomputable def sy_ex (E : sy_env) (f : ri_K) (d bud : Nat) (M : ri_M) (nxt : List ri_Op) (lv : ri_L) (st : List Value) (w : List ri_E) (nc ns fr pc κ : Nat) (i : Instr) (a b : Nat) (v : Value) (ts : List Nat) : Option ri_Out := ri_exec E.1 E.2.1 E.2.2.1 E.2.2.2.1 E.2.2.2.2.1 E.2.2.2.2.2.1 E.2.2.2.2.2.2.1 E.2.2.2.2.2.2.2.1 E.2.2.2.2.2.2.2.2 f d bud M nxt lv st w nc ns fr pc κ i a b v ts
/-- a run from here ends, and what it leaves is as P says -/
def sy_Ev (E : sy_env) (d bud : Nat) (M : ri_M) (cur : List ri_Op) (pc : Nat) (lv : ri_L) (st : List Value) (w : List ri_E) (nc ns fr : Nat) (P : ri_Out → Prop) : Prop := ∃ (n : Nat) (out : ri_Out), sy_rr E n d bud M cur pc lv st w nc ns fr = some out ∧ P out
section SYV
variable {E : sy_env} {d bud : Nat} {M : ri_M} {cur nxt : List ri_Op} {pc : Nat} {lv : ri_L} {st : List Value} {w : List ri_E} {nc ns fr : Nat} {P : ri_Out → Prop} {κ a b : Nat} {i : Instr} {v : Value} {ts : List Nat}
theorem sy_rr_more {n m : Nat} (h : n ≤ m) {out : ri_Out} (hr : sy_rr E n d bud M cur pc lv st w nc ns fr = some out) : sy_rr E m d bud M cur pc lv st w nc ns fr = some out := by
  have h9 := rk_fuel (Ms := E.1) (ty := E.2.1) (df := E.2.2.1) (tyL := E.2.2.2.1) (exl := E.2.2.2.2.1) (xs := E.2.2.2.2.2.1) (L := E.2.2.2.2.2.2.1) (al := E.2.2.2.2.2.2.2.1) (orc := E.2.2.2.2.2.2.2.2) n (m - n) _ _ _ _ _ _ _ _ _ _ _ _ hr
  rw [show n + (m - n) = m by omega] at h9
  exact h9
theorem sy_ev_of {n : Nat} {out : ri_Out} (h : sy_ex E (sy_rr E n) d bud M nxt lv st w nc ns fr pc κ i a b v ts = some out) (hp : P out) : sy_Ev E d bud M ((pc, κ, i, a, b, v, ts) :: nxt) pc lv st w nc ns fr P := by
  refine ⟨n + 1, out, ?_, hp⟩
  show ri_ok (Nat.beq pc pc) (sy_ex E (sy_rr E n) d bud M nxt lv st w nc ns fr pc κ i a b v ts) = some out
  rw [show Nat.beq pc pc = true by rw [Nat.beq_eq], h]
  rfl
theorem sy_ev0 {z : ri_R} (hz : ri_pure M.2.2.1 i pc lv st = some z) (h : sy_Ev E d bud M (ri_next M nxt ts z.1) z.2.1 z.2.2.1 z.2.2.2 w nc ns fr P) : sy_Ev E d bud M ((pc, 0, i, a, b, v, ts) :: nxt) pc lv st w nc ns fr P := by
  obtain ⟨n, out, h1, h2⟩ := h
  refine sy_ev_of (n := n) (out := out) ?_ h2
  unfold sy_ex ri_exec
  try dsimp only
  rw [hz]
  exact h1
theorem sy_ev17 {z : ri_R} (hc : ri_conc a st = true) (hz : ri_pure M.2.2.1 i pc lv st = some z) (h : sy_Ev E d bud M (ri_next M nxt ts z.1) z.2.1 z.2.2.1 z.2.2.2 w nc ns fr P) : sy_Ev E d bud M ((pc, 17, i, a, b, v, ts) :: nxt) pc lv st w nc ns fr P := by
  obtain ⟨n, out, h1, h2⟩ := h
  refine sy_ev_of (n := n) (out := out) ?_ h2
  unfold sy_ex ri_exec
  try dsimp only
  rw [hc, cond_true, hz]
  exact h1
theorem sy_ev1 {sz : List Value} (hz : ri_getf a b st w = some sz) (h : sy_Ev E d bud M nxt (pc + 3) lv sz w nc ns fr P) : sy_Ev E d bud M ((pc, 1, i, a, b, v, ts) :: nxt) pc lv st w nc ns fr P := by
  obtain ⟨n, out, h1, h2⟩ := h
  refine sy_ev_of (n := n) (out := out) ?_ h2
  unfold sy_ex ri_exec
  try dsimp only
  rw [hz]
  exact h1
theorem sy_ev2 {sz : List Value} {w' : List ri_E} (hz : ri_putf (E.2.1 a b) a b st w = some (sz, w')) (h : sy_Ev E d bud M nxt (pc + 3) lv sz w' nc ns fr P) : sy_Ev E d bud M ((pc, 2, i, a, b, v, ts) :: nxt) pc lv st w nc ns fr P := by
  obtain ⟨n, out, h1, h2⟩ := h
  refine sy_ev_of (n := n) (out := out) ?_ h2
  unfold sy_ex ri_exec
  try dsimp only
  rw [hz]
  exact h1
theorem sy_ev3 (h : sy_Ev E d bud M nxt (pc + ri_len i) lv (v :: st) w nc ns fr P) : sy_Ev E d bud M ((pc, 3, i, a, b, v, ts) :: nxt) pc lv st w nc ns fr P := by
  obtain ⟨n, out, h1, h2⟩ := h
  exact sy_ev_of (n := n) (out := out) h1 h2
/-- the kinds of loads from arrays: which types -/
def sy_tld (κ : Nat) : Option (FieldType → Bool) := match κ with
  | 5 => some ri_tI
  | 7 => some ri_tL
  | 9 => some ri_tD
  | 11 => some ri_tA
  | 12 => some ri_tB
  | _ => none
theorem sy_evL {g : FieldType → Bool} (hg : sy_tld κ = some g) {sz : List Value} (hz : ri_ald E.2.2.2.1 g st w = some sz) (h : sy_Ev E d bud M nxt (pc + 1) lv sz w nc ns fr P) : sy_Ev E d bud M ((pc, κ, i, a, b, v, ts) :: nxt) pc lv st w nc ns fr P := by
  obtain ⟨n, out, h1, h2⟩ := h
  refine sy_ev_of (n := n) (out := out) ?_ h2
  unfold sy_tld at hg
  split at hg
  all_goals first
    | (cases hg
       unfold sy_ex ri_exec
       try dsimp only
       rw [hz]
       exact h1)
    | cases hg
/-- the kinds of stores into arrays: what is kept, which types -/
def sy_tst (κ : Nat) : Option ((FieldType → Value → Option Value) × (FieldType → Bool)) := match κ with
  | 6 => some (ri_gI, ri_tI)
  | 8 => some (ri_gL, ri_tL)
  | 10 => some (ri_gD, ri_tD)
  | 13 => some (ri_gB, ri_tB)
  | 27 => some (ri_gB, ri_tB)
  | _ => none
theorem sy_tst_of {g : (FieldType → Value → Option Value) × (FieldType → Bool)} (hg : sy_tst κ = some g) : ∀ (ty : FieldType) (x : Value), g.2 ty = true → g.1 ty x = sy_gof ty x := by
  unfold sy_tst at hg
  split at hg
  all_goals first
    | (cases hg
       intro ty x h
       cases ty <;> first | rfl | cases h)
    | cases hg
theorem sy_evS {g : (FieldType → Value → Option Value) × (FieldType → Bool)} (hg : sy_tst κ = some g) (hc : κ = 27 → ri_conc 1 st = true) {sz : List Value} {w' : List ri_E} (hz : ri_ast E.2.2.2.1 g.1 st w = some (sz, w')) (h : sy_Ev E d bud M nxt (pc + 1) lv sz w' nc ns fr P) : sy_Ev E d bud M ((pc, κ, i, a, b, v, ts) :: nxt) pc lv st w nc ns fr P := by
  obtain ⟨n, out, h1, h2⟩ := h
  refine sy_ev_of (n := n) (out := out) ?_ h2
  unfold sy_tst at hg
  split at hg
  all_goals first
    | (cases hg
       unfold sy_ex ri_exec
       try dsimp only
       rw [hz]
       exact h1)
    | (cases hg
       unfold sy_ex ri_exec
       try dsimp only
       rw [hc rfl, cond_true, hz]
       exact h1)
    | cases hg
theorem sy_ev15 {sz : List Value} (hz : ri_alen2 E.2.2.2.1 st w = some sz) (h : sy_Ev E d bud M nxt (pc + 1) lv sz w nc ns fr P) : sy_Ev E d bud M ((pc, 15, i, a, b, v, ts) :: nxt) pc lv st w nc ns fr P := by
  obtain ⟨n, out, h1, h2⟩ := h
  refine sy_ev_of (n := n) (out := out) ?_ h2
  unfold sy_ex ri_exec
  try dsimp only
  rw [hz]
  exact h1
theorem sy_ev22 (hd : 1 ≤ d) {sz : List Value} {w' : List ri_E} (hz : ri_acopy E.2.2.2.1 bud st w = some (sz, w')) (h : sy_Ev E d bud M nxt (pc + 3) lv sz w' nc ns fr P) : sy_Ev E d bud M ((pc, 22, i, a, b, v, ts) :: nxt) pc lv st w nc ns fr P := by
  obtain ⟨n, out, h1, h2⟩ := h
  refine sy_ev_of (n := n) (out := out) ?_ h2
  unfold sy_ex ri_exec
  try dsimp only
  rw [Nat.ble_eq_true_of_le hd, hz]
  exact h1
theorem sy_ev23 (hd : E.2.2.2.2.1 a + 4 ≤ d) (hb : ri_cat st + (13 * (E.2.2.2.2.1 a + 1) + 42) ≤ bud) (h : P (.inr a, w, nc + 1, ns + 6, [], fr)) : sy_Ev E d bud M ((pc, 23, i, a, b, v, ts) :: nxt) pc lv st w nc ns fr P := by
  refine sy_ev_of (n := 0) (out := (.inr a, w, nc + 1, ns + 6, [], fr)) ?_ h
  unfold sy_ex ri_exec
  try dsimp only
  rw [Nat.ble_eq_true_of_le hd, Nat.ble_eq_true_of_le hb]
  rfl
theorem sy_ev16 {out : ri_Out} (hz : ri_ret M i st w nc ns fr = some out) (h : P out) : sy_Ev E d bud M ((pc, 16, i, a, b, v, ts) :: nxt) pc lv st w nc ns fr P :=
  sy_ev_of (n := 0) (out := out) hz h
theorem sy_ev29 {z : Nat × List Value} (hz : ri_str d bud a st = some z) (h : sy_Ev E d bud M nxt (pc + z.1) lv z.2 w nc ns fr P) : sy_Ev E d bud M ((pc, 29, i, a, b, v, ts) :: nxt) pc lv st w nc ns fr P := by
  obtain ⟨n, out, h1, h2⟩ := h
  refine sy_ev_of (n := n) (out := out) ?_ h2
  unfold sy_ex ri_exec
  try dsimp only
  rw [hz]
  exact h1
theorem sy_ev24 {j : Int32} {r : List Value} (h0 : ¬ j < 0) (h1 : j.toNatClampNeg < E.2.2.2.2.2.2.1) (h : sy_Ev E d bud M nxt (pc + 1) lv (E.2.2.2.2.2.1 j.toNatClampNeg :: r) w nc ns fr P) : sy_Ev E d bud M ((pc, 24, i, a, b, v, ts) :: nxt) pc lv (.int j :: .ref 1000000 :: r) w nc ns fr P := by
  obtain ⟨n, out, h2, h3⟩ := h
  refine sy_ev_of (n := n) (out := out) ?_ h3
  unfold sy_ex ri_exec
  try dsimp only
  rw [decide_eq_false h0, show Nat.blt j.toNatClampNeg E.2.2.2.2.2.2.1 = true from Nat.ble_eq_true_of_le h1]
  exact h2
theorem sy_ev25 {r : List Value} (h : sy_Ev E d bud M nxt (pc + 1) lv (.int (Int32.ofNat E.2.2.2.2.2.2.1) :: r) w nc ns fr P) : sy_Ev E d bud M ((pc, 25, i, a, b, v, ts) :: nxt) pc lv (.ref 1000000 :: r) w nc ns fr P := by
  obtain ⟨n, out, h2, h3⟩ := h
  refine sy_ev_of (n := n) (out := out) ?_ h3
  unfold sy_ex ri_exec
  try dsimp only
  exact h2
/-! calls -/
/-- a frame that waits for a callee: d, bud, method, what comes next, pc, locals, stack, cells, slots, handlers -/
abbrev sy_CF : Type := Nat × Nat × ri_M × List ri_Op × Nat × ri_L × List Value × Nat × Nat × Option (List Nat)
/-- what becomes of a callee's end -/
def sy_after (E : sy_env) (F : sy_CF) (P : ri_Out → Prop) (out : ri_Out) : Prop := out.2.2.2.2.1 = [] ∧ (match out.1 with
  | .inl r => sy_Ev E F.1 F.2.1 F.2.2.1 F.2.2.2.1 (F.2.2.2.2.1 + 3) F.2.2.2.2.2.1 (r.toList ++ F.2.2.2.2.2.2.1) out.2.1 (F.2.2.2.2.2.2.2.1 + out.2.2.1) (F.2.2.2.2.2.2.2.2.1 + out.2.2.2.1) out.2.2.2.2.2 P
  | .inr x => (match F.2.2.2.2.2.2.2.2.2 with
    | none => P (.inr x, out.2.1, F.2.2.2.2.2.2.2.1 + out.2.2.1, F.2.2.2.2.2.2.2.2.1 + out.2.2.2.1, [], out.2.2.2.2.2)
    | some hl => ∃ (t : Nat) (oh : ri_Op) (nx : List ri_Op) (k pc2 : Nat), hl[x]? = some t ∧ F.2.2.1.2.2.2.2.2.drop t = oh :: nx ∧ ((∃ j, oh.2.2.1 = .astore_n j ∧ j.val = k ∧ pc2 = oh.1 + 1) ∨ (oh.2.2.1 = .astore k ∧ pc2 = oh.1 + 2)) ∧ k < F.2.2.1.2.2.1 ∧ E.2.2.2.2.2.2.2.1 out.2.1.length = false ∧
      sy_Ev E F.1 F.2.1 F.2.2.1 nx pc2 (F.2.2.2.2.2.1.filter (ri_f1 k)) [] out.2.1 (F.2.2.2.2.2.2.2.1 + out.2.2.1) (F.2.2.2.2.2.2.2.2.1 + out.2.2.2.1) out.2.2.2.2.2 P))
theorem sy_more_nil (o : Option ri_Out) : ri_more [] o = o := by
  cases o with
  | none => rfl
  | some z => rfl
/-- a callee's run, and what comes behind it -/
theorem sy_ev_in {M2 : ri_M} {vals rest : List Value} (h1 : 1 ≤ d) (h2 : 19 + M2.2.2.1 ≤ bud) (h3 : ri_cat rest ≤ 8) (h4 : (lg_sl vals).length ≤ M2.2.2.1) (hs : Option (List Nat)) (h : sy_Ev E (d - 1) (bud - (19 + M2.2.2.1)) M2 M2.2.2.2.2.2 0 (lv_args 0 vals) [] w 0 0 fr (sy_after E (d, bud, M, nxt, pc, lv, rest, nc, ns, hs) P)) :
    ∃ (n : Nat) (out : ri_Out), (match hs with
      | none => ri_back (sy_rr E n) d bud M nxt pc lv rest nc ns (ri_enter (sy_rr E n) d bud M2 vals rest w fr)
      | some hl => ri_backH E.2.2.2.2.2.2.2.1 (sy_rr E n) d bud M nxt pc lv rest nc ns hl (ri_enter (sy_rr E n) d bud M2 vals rest w fr)) = some out ∧ P out := by
  obtain ⟨n1, o1, r1, hcs, h6⟩ := h
  have ent : ∀ n : Nat, n1 ≤ n → ri_enter (sy_rr E n) d bud M2 vals rest w fr = some o1 := by
    intro n hn
    unfold ri_enter
    rw [Nat.ble_eq_true_of_le h1, Nat.ble_eq_true_of_le h2, Nat.ble_eq_true_of_le h3, Nat.ble_eq_true_of_le h4]
    exact sy_rr_more hn r1
  obtain ⟨res, w1, nc1, ns1, cs1, fr1⟩ := o1
  dsimp only at hcs h6
  subst hcs
  cases res with
  | inl r =>
    dsimp only at h6
    obtain ⟨n2, o2, r2, h7⟩ := h6
    refine ⟨n1 + n2, o2, ?_, h7⟩
    rw [ent (n1 + n2) (Nat.le_add_right _ _)]
    have r3 := sy_rr_more (show n2 ≤ n1 + n2 from Nat.le_add_left _ _) r2
    cases hs with
    | none =>
      show ri_more [] (sy_rr E (n1 + n2) d bud M nxt (pc + 3) lv (r.toList ++ rest) w1 (nc + nc1) (ns + ns1) fr1) = some o2
      rw [sy_more_nil]; exact r3
    | some hl =>
      show ri_more [] (sy_rr E (n1 + n2) d bud M nxt (pc + 3) lv (r.toList ++ rest) w1 (nc + nc1) (ns + ns1) fr1) = some o2
      rw [sy_more_nil]; exact r3
  | inr x =>
    cases hs with
    | none =>
      dsimp only at h6
      refine ⟨n1, _, ?_, h6⟩
      rw [ent n1 (Nat.le_refl _)]
      rfl
    | some hl =>
      dsimp only at h6
      obtain ⟨t, oh, nx, k, pc2, g1, g2, g3, g4, g5, n2, o2, r2, h7⟩ := h6
      refine ⟨n1 + n2, o2, ?_, h7⟩
      rw [ent (n1 + n2) (Nat.le_add_right _ _)]
      have r3 := sy_rr_more (show n2 ≤ n1 + n2 from Nat.le_add_left _ _) r2
      show ri_ok (!E.2.2.2.2.2.2.2.1 w1.length) (match ri_nth hl x with
        | some t => ri_caught (sy_rr E (n1 + n2)) d bud M lv w1 (nc + nc1) (ns + ns1) fr1 [] (ri_drop M.2.2.2.2.2 t)
        | none => none) = some o2
      have g5' : E.2.2.2.2.2.2.2.1 w1.length = false := g5
      rw [g5', ri_nth_eq, g1]
      show ri_caught (sy_rr E (n1 + n2)) d bud M lv w1 (nc + nc1) (ns + ns1) fr1 [] (ri_drop M.2.2.2.2.2 t) = some o2
      have g2' : M.2.2.2.2.2.drop t = oh :: nx := g2
      rw [ri_drop_eq, g2']
      unfold ri_caught
      dsimp only
      rcases g3 with ⟨j, e1, e2, e3⟩ | ⟨e1, e3⟩
      · rw [e1]
        dsimp only
        rw [show Nat.blt j.val M.2.2.1 = true from Nat.ble_eq_true_of_le (by rw [e2]; exact g4), sy_more_nil, e2, ← e3]
        exact r3
      · rw [e1]
        dsimp only
        rw [show Nat.blt k M.2.2.1 = true from Nat.ble_eq_true_of_le g4, sy_more_nil, ← e3]
        exact r3
/-- a call that goes by its receiver -/
theorem sy_ev_virt {M2 : ri_M} {As rest : List Value} {q : Nat} {cb : Nat × List Value} (hM : E.1[a]? = some M2) (hsp : ri_split M2.2.2.2.2.1 [] st = some (As, .ref q :: rest)) (hq : w[q]? = some (.inr cb)) (hs : Option (List Nat)) (hb : (b = 0 ∧ ts = [cb.1] ∧ hs = none) ∨ (b = 5 ∧ ∃ hl, ts = cb.1 :: hl ∧ hs = some hl)) (h1 : 1 ≤ d) (h2 : 19 + M2.2.2.1 ≤ bud) (h3 : ri_cat rest ≤ 8) (h4 : (lg_sl (.ref q :: As)).length ≤ M2.2.2.1)
    (h : sy_Ev E (d - 1) (bud - (19 + M2.2.2.1)) M2 M2.2.2.2.2.2 0 (lv_args 0 (.ref q :: As)) [] w 0 0 fr (sy_after E (d, bud, M, nxt, pc, lv, rest, nc, ns, hs) P)) : sy_Ev E d bud M ((pc, 4, i, a, b, v, ts) :: nxt) pc lv st w nc ns fr P := by
  obtain ⟨n, out, h5, h6⟩ := sy_ev_in h1 h2 h3 h4 hs h
  refine sy_ev_of (n := n) (out := out) ?_ h6
  unfold sy_ex ri_exec
  try dsimp only
  unfold ri_call
  rw [ri_nth_eq, hM]
  dsimp only
  rw [hsp]
  dsimp only
  rcases hb with ⟨rfl, rfl, rfl⟩ | ⟨rfl, hl, rfl, rfl⟩
  · dsimp only
    rw [ri_nth_eq, hq]
    dsimp only
    rw [show Nat.beq cb.1 cb.1 = true by rw [Nat.beq_eq]]
    exact h5
  · dsimp only
    rw [ri_nth_eq, hq]
    dsimp only
    rw [show Nat.beq cb.1 cb.1 = true by rw [Nat.beq_eq]]
    exact h5
/-- a call of a text -/
theorem sy_ev_txt {M2 : ri_M} {As rest : List Value} {q : Nat} (hM : E.1[a]? = some M2) (hsp : ri_split M2.2.2.2.2.1 [] st = some (As, .ref q :: rest)) (hq : (Nat.ble 1000001 q && Nat.blt q 1000065) = true) (hb : b = 7) (h1 : 1 ≤ d) (h2 : 19 + M2.2.2.1 ≤ bud) (h3 : ri_cat rest ≤ 8) (h4 : (lg_sl (.ref q :: As)).length ≤ M2.2.2.1)
    (h : sy_Ev E (d - 1) (bud - (19 + M2.2.2.1)) M2 M2.2.2.2.2.2 0 (lv_args 0 (.ref q :: As)) [] w 0 0 fr (sy_after E (d, bud, M, nxt, pc, lv, rest, nc, ns, none) P)) : sy_Ev E d bud M ((pc, 4, i, a, b, v, ts) :: nxt) pc lv st w nc ns fr P := by
  obtain ⟨n, out, h5, h6⟩ := sy_ev_in h1 h2 h3 h4 none h
  refine sy_ev_of (n := n) (out := out) ?_ h6
  subst hb
  unfold sy_ex ri_exec
  try dsimp only
  unfold ri_call
  rw [ri_nth_eq, hM]
  dsimp only
  rw [hsp]
  dsimp only
  exact (congrArg (fun z9 => ri_ok z9 _) hq).trans h5
theorem sy_ev_stat {M2 : ri_M} {As rest : List Value} (hM : E.1[a]? = some M2) (hsp : ri_split M2.2.2.2.2.1 [] st = some (As, rest)) (hb : b = 1 ∨ b = 4 ∨ b = 6) (h1 : 1 ≤ d) (h2 : 19 + M2.2.2.1 ≤ bud) (h3 : ri_cat rest ≤ 8) (h4 : (lg_sl As).length ≤ M2.2.2.1)
    (h : sy_Ev E (d - 1) (bud - (19 + M2.2.2.1)) M2 M2.2.2.2.2.2 0 (lv_args 0 As) [] w 0 0 fr (sy_after E (d, bud, M, nxt, pc, lv, rest, nc, ns, none) P)) : sy_Ev E d bud M ((pc, 4, i, a, b, v, ts) :: nxt) pc lv st w nc ns fr P := by
  obtain ⟨n, out, h5, h6⟩ := sy_ev_in h1 h2 h3 h4 none h
  refine sy_ev_of (n := n) (out := out) ?_ h6
  unfold sy_ex ri_exec
  try dsimp only
  unfold ri_call
  rw [ri_nth_eq, hM]
  dsimp only
  rw [hsp]
  rcases hb with rfl | rfl | rfl
  · exact h5
  · exact h5
  · exact h5
theorem sy_ev_num {M2 : ri_M} {As rest : List Value} (hM : E.1[a]? = some M2) (hsp : ri_split M2.2.2.2.2.1 [] st = some (As, rest)) (hb : b = 8) (hnn : As.all ri_num = true) (h1 : 1 ≤ d) (h2 : 19 + M2.2.2.1 ≤ bud) (h3 : ri_cat rest ≤ 8) (h4 : (lg_sl As).length ≤ M2.2.2.1)
    (h : sy_Ev E (d - 1) (bud - (19 + M2.2.2.1)) M2 M2.2.2.2.2.2 0 (lv_args 0 As) [] w 0 0 fr (sy_after E (d, bud, M, nxt, pc, lv, rest, nc, ns, none) P)) : sy_Ev E d bud M ((pc, 4, i, a, b, v, ts) :: nxt) pc lv st w nc ns fr P := by
  obtain ⟨n, out, h5, h6⟩ := sy_ev_in h1 h2 h3 h4 none h
  refine sy_ev_of (n := n) (out := out) ?_ h6
  subst hb
  unfold sy_ex ri_exec
  try dsimp only
  unfold ri_call
  rw [ri_nth_eq, hM]
  dsimp only
  rw [hsp]
  dsimp only
  exact (congrArg (fun z9 => ri_ok z9 _) hnn).trans h5
end SYV
