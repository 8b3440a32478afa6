/-! ===== worlds with barred cells: what runs there runs in every world that agrees on the other cells ===== -/
/-- a barred cell: an array of a type that there isn't; what it holds stays to be read by whoever looks on -/
def pm_isb (x : ri_E) : Prop := ∃ (t : Nat) (vs : List Value), x = .inl (1000000 + t, vs)
/-- w2 says of the own cells what w says of them; all others are barred in w -/
def pm_le (own : Nat → Bool) (w w2 : List ri_E) : Prop := w.length = w2.length ∧ (∀ (q : Nat) (x : ri_E), own q = false → w[q]? = some x → pm_isb x) ∧ ∀ q : Nat, own q = true → w[q]? = w2[q]?
/-- a step of w to w1 and of w2 to w3: cells that aren't own are as they were -/
def pm_st (own : Nat → Bool) (w w1 w2 w3 : List ri_E) : Prop := pm_le own w1 w3 ∧ w1.length = w.length ∧ ∀ q : Nat, own q = false → w1[q]? = w[q]? ∧ w3[q]? = w2[q]?
theorem pm_st_refl {own : Nat → Bool} {w w2 : List ri_E} (h : pm_le own w w2) : pm_st own w w w2 w2 := ⟨h, rfl, fun q hq => ⟨rfl, rfl⟩⟩
theorem pm_st_trans {own : Nat → Bool} {w w1 w9 w2 w3 w8 : List ri_E} (h1 : pm_st own w w1 w2 w3) (h2 : pm_st own w1 w9 w3 w8) : pm_st own w w9 w2 w8 :=
  ⟨h2.1, h2.2.1.trans h1.2.1, fun q hq => ⟨(h2.2.2 q hq).1.trans (h1.2.2 q hq).1, (h2.2.2 q hq).2.trans (h1.2.2 q hq).2⟩⟩
theorem pm_at {own : Nat → Bool} {w w2 : List ri_E} (h : pm_le own w w2) {q : Nat} {x : ri_E} (hq : ri_nth w q = some x) (hx : ¬ pm_isb x) : own q = true ∧ ri_nth w2 q = some x := by
  rw [ri_nth_eq] at hq ⊢
  cases ho : own q with
  | false => exact absurd (h.2.1 q x ho hq) hx
  | true => exact ⟨rfl, by rw [← h.2.2 q ho]; exact hq⟩
theorem pm_upd {own : Nat → Bool} {w w2 : List ri_E} (h : pm_le own w w2) {q : Nat} {x : ri_E} (hq : ri_nth w q = some x) (hx : ¬ pm_isb x) (y : ri_E) : pm_st own w (ri_upd y w q) w2 (ri_upd y w2 q) := by
  have ho := (pm_at h hq hx).1
  rw [ri_upd_eq, ri_upd_eq]
  rw [ri_nth_eq] at hq
  have hl : q < w.length := (List.getElem?_eq_some_iff.mp hq).1
  have ne : ∀ k : Nat, own k = false → q ≠ k := fun k hk e => by
    subst e
    rw [ho] at hk
    cases hk
  refine ⟨⟨by rw [List.length_set, List.length_set]; exact h.1, fun k z hk hz => ?_, fun k hk => ?_⟩, by rw [List.length_set], fun k hk => ?_⟩
  · rw [List.getElem?_set_ne (ne k hk)] at hz
    exact h.2.1 k z hk hz
  · by_cases e : q = k
    · subst e
      rw [List.getElem?_set_self hl, List.getElem?_set_self (by rw [← h.1]; exact hl)]
    · rw [List.getElem?_set_ne e, List.getElem?_set_ne e]
      exact h.2.2 k hk
  · rw [List.getElem?_set_ne (ne k hk), List.getElem?_set_ne (ne k hk)]
    exact ⟨rfl, rfl⟩
section PMK
variable {own : Nat → Bool} {tyL : List FieldType} {w w2 : List ri_E}
theorem pm_inr {o : Nat × List Value} : ¬ pm_isb (Sum.inr o : ri_E) := fun ⟨t, vs, e⟩ => by cases e
theorem pm_inl {a : Nat × List Value} {t : FieldType} (hT : ∀ n, 1000000 ≤ n → ri_nth tyL n = none) (h : ri_nth tyL a.1 = some t) : ¬ pm_isb (Sum.inl a : ri_E) := fun ⟨t9, vs, e⟩ => by
  cases e
  rw [hT _ (Nat.le_add_right 1000000 t9)] at h
  cases h
theorem pm_getf (hL : pm_le own w w2) {a b : Nat} {st z : List Value} (h : ri_getf a b st w = some z) : ri_getf a b st w2 = some z := by
  unfold ri_getf at h ⊢
  split at h
  · rename_i q r
    try dsimp only
    cases hq : ri_nth w q with
    | none => rw [hq] at h; cases h
    | some x =>
      rw [hq] at h
      cases x with
      | inl a => cases h
      | inr o => rw [(pm_at hL hq pm_inr).2]; exact h
  · cases h
theorem pm_putf (hL : pm_le own w w2) {ty : FieldType} {a b : Nat} {st : List Value} {z : List Value × List ri_E} (h : ri_putf ty a b st w = some z) : ∃ w3, ri_putf ty a b st w2 = some (z.1, w3) ∧ pm_st own w z.2 w2 w3 := by
  unfold ri_putf at h ⊢
  split at h
  · rename_i v q r
    try dsimp only
    cases hq : ri_nth w q with
    | none => rw [hq] at h; cases h
    | some x =>
      rw [hq] at h
      cases x with
      | inl a => cases h
      | inr o =>
        rw [(pm_at hL hq pm_inr).2]
        obtain ⟨hb, h2⟩ := ri_ok_eq h
        try dsimp only
        rw [hb]
        cases hv : ri_nth o.2 b with
        | none => rw [hv] at h2; cases h2
        | some u =>
          rw [hv] at h2
          obtain ⟨hc, h3⟩ := ri_ok_eq h2
          cases h3
          refine ⟨_, ?_, pm_upd hL hq pm_inr _⟩
          show ri_ok true (ri_ok (ri_fit ty v) _) = _
          rw [hc]
          rfl
  · cases h
theorem pm_ald (hT : ∀ n, 1000000 ≤ n → ri_nth tyL n = none) (hL : pm_le own w w2) {g : FieldType → Bool} {st z : List Value} (h : ri_ald tyL g st w = some z) : ri_ald tyL g st w2 = some z := by
  unfold ri_ald at h ⊢
  split at h
  · rename_i i q r
    try dsimp only
    cases hq : ri_nth w q with
    | none => rw [hq] at h; cases h
    | some x =>
      rw [hq] at h
      cases x with
      | inr o => cases h
      | inl a =>
        try dsimp only at h
        cases ht : ri_nth tyL a.1 with
        | none => rw [ht] at h; cases h
        | some t =>
          rw [(pm_at hL hq (pm_inl hT ht)).2]
          try dsimp only
          rw [ht] at h ⊢
          exact h
  · cases h
theorem pm_alen (hT : ∀ n, 1000000 ≤ n → ri_nth tyL n = none) (hL : pm_le own w w2) {st z : List Value} (h : ri_alen2 tyL st w = some z) : ri_alen2 tyL st w2 = some z := by
  unfold ri_alen2 at h ⊢
  split at h
  · rename_i q r
    try dsimp only
    cases hq : ri_nth w q with
    | none => rw [hq] at h; cases h
    | some x =>
      rw [hq] at h
      cases x with
      | inr o => cases h
      | inl a =>
        try dsimp only at h
        cases ht : ri_nth tyL a.1 with
        | none => rw [ht] at h; cases h
        | some t =>
          rw [(pm_at hL hq (pm_inl hT ht)).2]
          try dsimp only
          rw [ht] at h ⊢
          exact h
  · cases h
theorem pm_ast (hT : ∀ n, 1000000 ≤ n → ri_nth tyL n = none) (hL : pm_le own w w2) {g : FieldType → Value → Option Value} {st : List Value} {z : List Value × List ri_E} (h : ri_ast tyL g st w = some z) : ∃ w3, ri_ast tyL g st w2 = some (z.1, w3) ∧ pm_st own w z.2 w2 w3 := by
  unfold ri_ast at h ⊢
  split at h
  · rename_i x0 i q r
    try dsimp only
    cases hq : ri_nth w q with
    | none => rw [hq] at h; cases h
    | some x =>
      rw [hq] at h
      cases x with
      | inr o => cases h
      | inl a =>
        try dsimp only at h
        cases ht : ri_nth tyL a.1 with
        | none => rw [ht] at h; cases h
        | some t =>
          rw [(pm_at hL hq (pm_inl hT ht)).2]
          try dsimp only
          rw [ht] at h ⊢
          try dsimp only at h ⊢
          cases hg : g t x0 with
          | none => rw [hg] at h; cases h
          | some v =>
            rw [hg] at h
            obtain ⟨hb, h2⟩ := ri_ok_eq h
            try dsimp only
            rw [hb]
            cases hv : ri_nth a.2 i.toNatClampNeg with
            | none => rw [hv] at h2; cases h2
            | some u =>
              rw [hv] at h2
              cases h2
              exact ⟨_, rfl, pm_upd hL hq (pm_inl hT ht) _⟩
  · cases h
theorem pm_aast (hL : pm_le own w w2) {a b : Nat} {st : List Value} {z : List Value × List ri_E} (h : ri_aast a b st w = some z) : ∃ w3, ri_aast a b st w2 = some (z.1, w3) ∧ pm_st own w z.2 w2 w3 := by
  unfold ri_aast at h ⊢
  split at h
  · rename_i v i q r
    try dsimp only
    cases hq : ri_nth w q with
    | none => rw [hq] at h; cases h
    | some x =>
      rw [hq] at h
      cases x with
      | inr o => cases h
      | inl x0 =>
        try dsimp only at h
        cases hv : ri_nth w v with
        | none => rw [hv] at h; cases h
        | some y =>
          rw [hv] at h
          cases y with
          | inl o => cases h
          | inr y0 =>
            obtain ⟨hb, h2⟩ := ri_ok_eq h
            have hn : ¬ pm_isb (Sum.inl x0 : ri_E) := fun ⟨t9, vs9, e⟩ => by
              cases e
              have hb2 : (Nat.beq (1000000 + t9) b && (Nat.beq y0.1 a && (!decide (i < 0) && Nat.blt b 1000000))) = true := hb
              simp only [Bool.and_eq_true] at hb2
              have e1 : 1000000 + t9 = b := Nat.eq_of_beq_eq_true hb2.1
              have e2 : b < 1000000 := Nat.le_of_ble_eq_true hb2.2.2.2
              omega
            rw [(pm_at hL hq hn).2, (pm_at hL hv pm_inr).2]
            try dsimp only
            rw [hb]
            cases hk : ri_nth x0.2 i.toNatClampNeg with
            | none => rw [hk] at h2; cases h2
            | some u =>
              rw [hk] at h2
              cases h2
              exact ⟨_, rfl, pm_upd hL hq hn _⟩
  · cases h
theorem pm_acopy (hT : ∀ n, 1000000 ≤ n → ri_nth tyL n = none) (hL : pm_le own w w2) {bud : Nat} {st : List Value} {z : List Value × List ri_E} (h : ri_acopy tyL bud st w = some z) : ∃ w3, ri_acopy tyL bud st w2 = some (z.1, w3) ∧ pm_st own w z.2 w2 w3 := by
  unfold ri_acopy at h ⊢
  split at h
  · rename_i n dp q1 sp q0 r
    try dsimp only
    cases hq : ri_nth w q0 with
    | none => rw [hq] at h; cases h
    | some x =>
      rw [hq] at h
      cases x with
      | inr o => cases h
      | inl a0 =>
        try dsimp only at h
        cases hv : ri_nth w q1 with
        | none => rw [hv] at h; cases h
        | some y =>
          rw [hv] at h
          cases y with
          | inr o => cases h
          | inl a1 =>
            try dsimp only at h
            cases ht : ri_nth tyL a0.1 with
            | none => rw [ht] at h; cases h
            | some t =>
              rw [ht] at h
              try dsimp only at h
              obtain ⟨hb, h2⟩ := ri_ok_eq h
              have e1 : a0.1 = a1.1 := Nat.eq_of_beq_eq_true (Bool.and_eq_true _ _ ▸ hb : Nat.beq a0.1 a1.1 = true ∧ _).1
              have n1 : ¬ pm_isb (Sum.inl a1 : ri_E) := pm_inl hT (by rw [← e1]; exact ht)
              rw [(pm_at hL hq (pm_inl hT ht)).2, (pm_at hL hv n1).2]
              try dsimp only
              rw [ht]
              try dsimp only
              rw [hb]
              cases h2
              exact ⟨_, rfl, pm_upd hL hv n1 _⟩
  · cases h
theorem pm_lc (hT : ∀ n, 1000000 ≤ n → ri_nth tyL n = none) (hL : pm_le own w w2) {a b : Nat} {lv : ri_L} {st : List Value} {z : Value × Int64 × List Value} (h : ri_lc tyL a b lv st w = some z) : ri_lc tyL a b lv st w2 = some z := by
  unfold ri_lc at h ⊢
  split at h
  · rename_i x r
    obtain ⟨hb, h2⟩ := ri_ok_eq h
    try dsimp only
    rw [hb]
    split at h2
    · rename_i q hq
      cases h3 : ri_getf a b (.ref q :: r) w with
      | none => rw [h3] at h2; cases h2
      | some l9 =>
        rw [h3] at h2
        show (match ri_getf a b (.ref q :: r) w2 with
          | some (.ref q2 :: _) => (match ri_ald tyL ri_tL (.int 3 :: .ref q2 :: r) w2 with
            | some (.long y :: _) => some (x, y, r)
            | _ => none)
          | _ => none) = some z
        rw [pm_getf hL h3]
        match l9, h2 with
        | .ref q2 :: t9, h2 =>
          try dsimp only at h2 ⊢
          cases h4 : ri_ald tyL ri_tL (.int 3 :: .ref q2 :: r) w with
          | none => rw [h4] at h2; cases h2
          | some l8 =>
            rw [h4] at h2
            rw [pm_ald hT hL h4]
            exact h2
        | [], h2 => cases h2
        | .int _ :: _, h2 => cases h2
        | .long _ :: _, h2 => cases h2
        | .float _ :: _, h2 => cases h2
        | .double _ :: _, h2 => cases h2
        | .null :: _, h2 => cases h2
        | .retAddr _ :: _, h2 => cases h2
    · cases h2
  · cases h
end PMK
/-- what a reckoner does where cells are barred, it does where they aren't -/
def pm_R (own al : Nat → Bool) (f : ri_K) : Prop := ∀ (d bud : Nat) (M : ri_M) (cur : List ri_Op) (pc : Nat) (lv : ri_L) (st : List Value) (w : List ri_E) (nc ns fr : Nat) (out : ri_Out), f d bud M cur pc lv st w nc ns fr = some out → al w.length = false → ∀ w2 : List ri_E, pm_le own w w2 → ∃ w3 : List ri_E, f d bud M cur pc lv st w2 nc ns fr = some (out.1, w3, out.2.2) ∧ pm_st own w out.2.1 w2 w3
section PMR
variable {Ms : List ri_M} {ty : Nat → Nat → FieldType} {df : Nat → List Value} {tyL : List FieldType} {exl : Nat → Nat} {xs : Nat → Value} {L : Nat} {al : Nat → Bool} {orc : List (Bool ⊕ Int32)} {f : ri_K} {own : Nat → Bool}
theorem pm_more {cs : List ri_Cd} {o : Option ri_Out} {out : ri_Out} {w w2 : List ri_E} {g : Option ri_Out} (h : ri_more cs o = some out) (hg : ∀ z : ri_Out, o = some z → ∃ w3, g = some (z.1, w3, z.2.2) ∧ pm_st own w z.2.1 w2 w3) : ∃ w3, ri_more cs g = some (out.1, w3, out.2.2) ∧ pm_st own w out.2.1 w2 w3 := by
  cases o with
  | none => cases h
  | some z =>
    cases h
    obtain ⟨w3, e, hs⟩ := hg z rfl
    rw [e]
    exact ⟨w3, rfl, hs⟩
theorem pm_enter (hR : pm_R own al f) {d bud : Nat} {M : ri_M} {vals rest : List Value} {w w2 : List ri_E} {fr : Nat} {o : ri_Out} (h : ri_enter f d bud M vals rest w fr = some o) (hal : al w.length = false) (hL : pm_le own w w2) : ∃ w3, ri_enter f d bud M vals rest w2 fr = some (o.1, w3, o.2.2) ∧ pm_st own w o.2.1 w2 w3 := by
  obtain ⟨hb, h2⟩ := ri_ok_eq h
  obtain ⟨w3, e, hs⟩ := hR _ _ _ _ _ _ _ _ _ _ _ _ h2 hal w2 hL
  refine ⟨w3, ?_, hs⟩
  unfold ri_enter
  rw [hb]
  exact e
theorem pm_back (hR : pm_R own al f) {d bud : Nat} {M M2 : ri_M} {nxt : List ri_Op} {pc : Nat} {lv : ri_L} {vals rest : List Value} {w w2 : List ri_E} {nc ns fr : Nat} {out : ri_Out} (h : ri_back f d bud M nxt pc lv rest nc ns (ri_enter f d bud M2 vals rest w fr) = some out) (hal : al w.length = false) (hL : pm_le own w w2) : ∃ w3, ri_back f d bud M nxt pc lv rest nc ns (ri_enter f d bud M2 vals rest w2 fr) = some (out.1, w3, out.2.2) ∧ pm_st own w out.2.1 w2 w3 := by
  rcases ri_back_eq h with ⟨r, w1, nc2, ns2, cs, fr2, z, h0, h1, rfl⟩ | ⟨x, w1, nc2, ns2, cs, fr2, h0, rfl⟩
  · obtain ⟨w3, e, hs⟩ := pm_enter hR h0 hal hL
    obtain ⟨w4, e2, hs2⟩ := hR _ _ _ _ _ _ _ _ _ _ _ _ h1 (by rw [hs.2.1]; exact hal) w3 hs.1
    refine ⟨w4, ?_, pm_st_trans hs hs2⟩
    rw [e]
    show ri_more cs (f d bud M nxt (pc + 3) lv (r.toList ++ rest) w3 (nc + nc2) (ns + ns2) fr2) = _
    rw [e2]
    rfl
  · obtain ⟨w3, e, hs⟩ := pm_enter hR h0 hal hL
    refine ⟨w3, ?_, hs⟩
    rw [e]
    rfl
theorem pm_caught (hR : pm_R own al f) {d bud : Nat} {M : ri_M} {lv : ri_L} {w w2 : List ri_E} {nc ns fr : Nat} {cs : List ri_Cd} {os : List ri_Op} {out : ri_Out} (h : ri_caught f d bud M lv w nc ns fr cs os = some out) (hal : al w.length = false) (hL : pm_le own w w2) : ∃ w3, ri_caught f d bud M lv w2 nc ns fr cs os = some (out.1, w3, out.2.2) ∧ pm_st own w out.2.1 w2 w3 := by
  unfold ri_caught at h ⊢
  split at h
  · rename_i oh nx2
    try dsimp only
    split at h
    · rename_i k4 hk
      obtain ⟨h1, h2⟩ := ri_ok_eq h
      obtain ⟨w3, e, hs⟩ := pm_more h2 (fun z hz => hR _ _ _ _ _ _ _ _ _ _ _ _ hz hal w2 hL)
      refine ⟨w3, ?_, hs⟩
      try rw [hk]
      try dsimp only
      rw [h1]
      exact e
    · rename_i k hk
      obtain ⟨h1, h2⟩ := ri_ok_eq h
      obtain ⟨w3, e, hs⟩ := pm_more h2 (fun z hz => hR _ _ _ _ _ _ _ _ _ _ _ _ hz hal w2 hL)
      refine ⟨w3, ?_, hs⟩
      try rw [hk]
      try dsimp only
      rw [h1]
      exact e
    · cases h
  · cases h
theorem pm_backH (hR : pm_R own al f) {d bud : Nat} {M M2 : ri_M} {nxt : List ri_Op} {pc : Nat} {lv : ri_L} {vals rest : List Value} {w w2 : List ri_E} {nc ns fr : Nat} {hs : List Nat} {out : ri_Out} (h : ri_backH al f d bud M nxt pc lv rest nc ns hs (ri_enter f d bud M2 vals rest w fr) = some out) (hal : al w.length = false) (hL : pm_le own w w2) : ∃ w3, ri_backH al f d bud M nxt pc lv rest nc ns hs (ri_enter f d bud M2 vals rest w2 fr) = some (out.1, w3, out.2.2) ∧ pm_st own w out.2.1 w2 w3 := by
  rcases ri_backH_eq h with ⟨r, w1, nc2, ns2, cs, fr2, z, h0, h1, rfl⟩ | ⟨x, w1, nc2, ns2, cs, fr2, t, ha, h0, ht, h1⟩
  · obtain ⟨w3, e, hs9⟩ := pm_enter hR h0 hal hL
    obtain ⟨w4, e2, hs2⟩ := hR _ _ _ _ _ _ _ _ _ _ _ _ h1 (by rw [hs9.2.1]; exact hal) w3 hs9.1
    refine ⟨w4, ?_, pm_st_trans hs9 hs2⟩
    rw [e]
    show ri_more cs (f d bud M nxt (pc + 3) lv (r.toList ++ rest) w3 (nc + nc2) (ns + ns2) fr2) = _
    rw [e2]
    rfl
  · obtain ⟨w3, e, hs9⟩ := pm_enter hR h0 hal hL
    obtain ⟨w4, e2, hs2⟩ := pm_caught hR h1 (by rw [hs9.2.1]; exact hal) hs9.1
    refine ⟨w4, ?_, pm_st_trans hs9 hs2⟩
    rw [e]
    show ri_ok (!al w3.length) (match ri_nth hs x with
      | some t => ri_caught f d bud M lv w3 (nc + nc2) (ns + ns2) fr2 cs (ri_drop M.2.2.2.2.2 t)
      | none => none) = _
    have e9 : al w3.length = false := by
      have e8 : w1.length = w3.length := hs9.1.1
      rw [← e8]; exact ha
    rw [e9, ri_nth_eq, ht]
    try dsimp only
    rw [ri_drop_eq]
    exact e2
theorem pm_call (hR : pm_R own al f) {d bud : Nat} {M : ri_M} {nxt : List ri_Op} {pc : Nat} {lv : ri_L} {st : List Value} {w w2 : List ri_E} {nc ns fr a b : Nat} {ts : List Nat} {out : ri_Out} (h : ri_call Ms al f d bud M nxt pc lv st w nc ns fr a b ts = some out) (hal : al w.length = false) (hL : pm_le own w w2) : ∃ w3, ri_call Ms al f d bud M nxt pc lv st w2 nc ns fr a b ts = some (out.1, w3, out.2.2) ∧ pm_st own w out.2.1 w2 w3 := by
  unfold ri_call at h
  unfold ri_call
  cases hM : ri_nth Ms a with
  | none => rw [hM] at h; cases h
  | some M2 =>
    rw [hM] at h
    try dsimp only at h ⊢
    cases hs : ri_split M2.2.2.2.2.1 [] st with
    | none => rw [hs] at h; cases h
    | some As =>
      obtain ⟨As, rest⟩ := As
      rw [hs] at h
      try dsimp only at h ⊢
      split at h
      · split at h
        · rename_i q rest2
          try dsimp only
          cases hq : ri_nth w q with
          | none => rw [hq] at h; cases h
          | some x =>
            rw [hq] at h
            cases x with
            | inl o => cases h
            | inr o =>
              obtain ⟨hb, h2⟩ := ri_ok_eq h
              rw [(pm_at hL hq pm_inr).2]
              obtain ⟨w3, e, hs9⟩ := pm_back hR h2 hal hL
              exact ⟨w3, (congrArg (fun z9 => ri_ok z9 _) hb).trans e, hs9⟩
        · cases h
      · exact pm_back hR h hal hL
      · split at h
        · exact pm_back hR h hal hL
        · cases h
      · split at h
        · exact pm_back hR h hal hL
        · cases h
      · exact pm_back hR h hal hL
      · split at h
        · rename_i q rest2
          try dsimp only
          cases hq : ri_nth w q with
          | none => rw [hq] at h; cases h
          | some x =>
            rw [hq] at h
            cases x with
            | inl o => cases h
            | inr o =>
              rw [(pm_at hL hq pm_inr).2]
              try dsimp only at h ⊢
              split at h
              · rename_i t hs9
                obtain ⟨hb, h2⟩ := ri_ok_eq h
                obtain ⟨w3, e, hs8⟩ := pm_backH hR h2 hal hL
                exact ⟨w3, (congrArg (fun z9 => ri_ok z9 _) hb).trans e, hs8⟩
              · cases h
        · cases h
      · exact pm_back hR h hal hL
      · split at h
        · obtain ⟨hb, h2⟩ := ri_ok_eq h
          obtain ⟨w3, e, hs9⟩ := pm_back hR h2 hal hL
          exact ⟨w3, (congrArg (fun z9 => ri_ok z9 _) hb).trans e, hs9⟩
        · cases h
      · obtain ⟨hb, h2⟩ := ri_ok_eq h
        obtain ⟨w3, e, hs9⟩ := pm_back hR h2 hal hL
        exact ⟨w3, (congrArg (fun z9 => ri_ok z9 _) hb).trans e, hs9⟩
      · cases h
set_option maxHeartbeats 2000000 in
theorem pm_exec (hT : ∀ n, 1000000 ≤ n → ri_nth tyL n = none) (hR : pm_R own al f) {d bud : Nat} {M : ri_M} {nxt : List ri_Op} {lv : ri_L} {st : List Value} {w w2 : List ri_E} {nc ns fr pc κ : Nat} {i : Instr} {a b : Nat} {v : Value} {ts : List Nat} {out : ri_Out} (h : ri_exec Ms ty df tyL exl xs L al orc f d bud M nxt lv st w nc ns fr pc κ i a b v ts = some out) (hal : al w.length = false) (hL : pm_le own w w2) : ∃ w3, ri_exec Ms ty df tyL exl xs L al orc f d bud M nxt lv st w2 nc ns fr pc κ i a b v ts = some (out.1, w3, out.2.2) ∧ pm_st own w out.2.1 w2 w3 := by
  have go : ∀ {d bud : Nat} {M : ri_M} {cur : List ri_Op} {pc : Nat} {lv : ri_L} {st : List Value} {nc ns fr : Nat} {out : ri_Out}, f d bud M cur pc lv st w nc ns fr = some out → ∃ w3, f d bud M cur pc lv st w2 nc ns fr = some (out.1, w3, out.2.2) ∧ pm_st own w out.2.1 w2 w3 := fun h => hR _ _ _ _ _ _ _ _ _ _ _ _ h hal w2 hL
  have gw : ∀ {d bud : Nat} {M : ri_M} {cur : List ri_Op} {pc : Nat} {lv : ri_L} {st : List Value} {w1 w8 : List ri_E} {nc ns fr : Nat} {out : ri_Out}, f d bud M cur pc lv st w1 nc ns fr = some out → pm_st own w w1 w2 w8 → ∃ w3, f d bud M cur pc lv st w8 nc ns fr = some (out.1, w3, out.2.2) ∧ pm_st own w out.2.1 w2 w3 := fun h hs => by
    obtain ⟨w3, e, h9⟩ := hR _ _ _ _ _ _ _ _ _ _ _ _ h (by rw [hs.2.1]; exact hal) _ hs.1
    exact ⟨w3, e, pm_st_trans hs h9⟩
  match κ, h with
  | 0, h =>
    cases hz : ri_pure M.2.2.1 i pc lv st with
    | none =>
      have h2 : False := by first | (unfold ri_exec at h; simp only [hz] at h; cases h) | (simp [ri_exec, hz] at h)
      exact h2.elim
    | some z =>
      unfold ri_exec at h ⊢
      simp only [hz] at h ⊢
      exact go h
  | 1, h =>
    cases hz : ri_getf a b st w with
    | none =>
      have h2 : False := by first | (unfold ri_exec at h; simp only [hz] at h; cases h) | (simp [ri_exec, hz] at h)
      exact h2.elim
    | some z =>
      have h9 := pm_getf hL hz
      unfold ri_exec at h ⊢
      simp only [hz] at h
      simp only [h9]
      exact go h
  | 2, h =>
    cases hz : ri_putf (ty a b) a b st w with
    | none =>
      have h2 : False := by first | (unfold ri_exec at h; simp only [hz] at h; cases h) | (simp [ri_exec, hz] at h)
      exact h2.elim
    | some z =>
      obtain ⟨w8, h9, h8⟩ := pm_putf hL hz
      unfold ri_exec at h ⊢
      simp only [hz] at h
      simp only [h9]
      exact gw h h8
  | 3, h => exact go h
  | 4, h => exact pm_call hR h hal hL
  | 5, h =>
    cases hz : ri_ald tyL ri_tI st w with
    | none =>
      have h2 : False := by first | (unfold ri_exec at h; simp only [hz] at h; cases h) | (simp [ri_exec, hz] at h)
      exact h2.elim
    | some z =>
      have h9 := pm_ald hT hL hz
      unfold ri_exec at h ⊢
      simp only [hz] at h
      simp only [h9]
      exact go h
  | 7, h =>
    cases hz : ri_ald tyL ri_tL st w with
    | none =>
      have h2 : False := by first | (unfold ri_exec at h; simp only [hz] at h; cases h) | (simp [ri_exec, hz] at h)
      exact h2.elim
    | some z =>
      have h9 := pm_ald hT hL hz
      unfold ri_exec at h ⊢
      simp only [hz] at h
      simp only [h9]
      exact go h
  | 9, h =>
    cases hz : ri_ald tyL ri_tD st w with
    | none =>
      have h2 : False := by first | (unfold ri_exec at h; simp only [hz] at h; cases h) | (simp [ri_exec, hz] at h)
      exact h2.elim
    | some z =>
      have h9 := pm_ald hT hL hz
      unfold ri_exec at h ⊢
      simp only [hz] at h
      simp only [h9]
      exact go h
  | 11, h =>
    cases hz : ri_ald tyL ri_tA st w with
    | none =>
      have h2 : False := by first | (unfold ri_exec at h; simp only [hz] at h; cases h) | (simp [ri_exec, hz] at h)
      exact h2.elim
    | some z =>
      have h9 := pm_ald hT hL hz
      unfold ri_exec at h ⊢
      simp only [hz] at h
      simp only [h9]
      exact go h
  | 12, h =>
    cases hz : ri_ald tyL ri_tB st w with
    | none =>
      have h2 : False := by first | (unfold ri_exec at h; simp only [hz] at h; cases h) | (simp [ri_exec, hz] at h)
      exact h2.elim
    | some z =>
      have h9 := pm_ald hT hL hz
      unfold ri_exec at h ⊢
      simp only [hz] at h
      simp only [h9]
      exact go h
  | 6, h =>
    cases hz : ri_ast tyL ri_gI st w with
    | none =>
      have h2 : False := by first | (unfold ri_exec at h; simp only [hz] at h; cases h) | (simp [ri_exec, hz] at h)
      exact h2.elim
    | some z =>
      obtain ⟨w8, h9, h8⟩ := pm_ast hT hL hz
      unfold ri_exec at h ⊢
      simp only [hz] at h
      simp only [h9]
      exact gw h h8
  | 8, h =>
    cases hz : ri_ast tyL ri_gL st w with
    | none =>
      have h2 : False := by first | (unfold ri_exec at h; simp only [hz] at h; cases h) | (simp [ri_exec, hz] at h)
      exact h2.elim
    | some z =>
      obtain ⟨w8, h9, h8⟩ := pm_ast hT hL hz
      unfold ri_exec at h ⊢
      simp only [hz] at h
      simp only [h9]
      exact gw h h8
  | 10, h =>
    cases hz : ri_ast tyL ri_gD st w with
    | none =>
      have h2 : False := by first | (unfold ri_exec at h; simp only [hz] at h; cases h) | (simp [ri_exec, hz] at h)
      exact h2.elim
    | some z =>
      obtain ⟨w8, h9, h8⟩ := pm_ast hT hL hz
      unfold ri_exec at h ⊢
      simp only [hz] at h
      simp only [h9]
      exact gw h h8
  | 13, h =>
    cases hz : ri_ast tyL ri_gB st w with
    | none =>
      have h2 : False := by first | (unfold ri_exec at h; simp only [hz] at h; cases h) | (simp [ri_exec, hz] at h)
      exact h2.elim
    | some z =>
      obtain ⟨w8, h9, h8⟩ := pm_ast hT hL hz
      unfold ri_exec at h ⊢
      simp only [hz] at h
      simp only [h9]
      exact gw h h8
  | 14, h =>
    cases hz : ri_aast a b st w with
    | none =>
      have h2 : False := by first | (unfold ri_exec at h; simp only [hz] at h; cases h) | (simp [ri_exec, hz] at h)
      exact h2.elim
    | some z =>
      obtain ⟨w8, h9, h8⟩ := pm_aast hL hz
      unfold ri_exec at h ⊢
      simp only [hz] at h
      simp only [h9]
      exact gw h h8
  | 15, h =>
    cases hz : ri_alen2 tyL st w with
    | none =>
      have h2 : False := by first | (unfold ri_exec at h; simp only [hz] at h; cases h) | (simp [ri_exec, hz] at h)
      exact h2.elim
    | some z =>
      have h9 := pm_alen hT hL hz
      unfold ri_exec at h ⊢
      simp only [hz] at h
      simp only [h9]
      exact go h
  | 16, h =>
    have h9 : ri_ret M i st w nc ns fr = some out := h
    show ∃ w3, ri_ret M i st w2 nc ns fr = some (out.1, w3, out.2.2) ∧ pm_st own w out.2.1 w2 w3
    obtain ⟨r, e1, e2, -, -⟩ := ri_ret_eq h9
    subst e1
    refine ⟨w2, ?_, pm_st_refl hL⟩
    unfold ri_ret at h9 ⊢
    split at h9 <;> (try (cases h9)) <;> (split at h9 <;> (try (cases h9)) <;> (obtain ⟨hb, h8⟩ := ri_ok_eq h9; try dsimp only; rw [hb]; cases h8; rfl))
  | 17, h =>
    unfold ri_exec at h ⊢
    try dsimp only at h ⊢
    cases hc : ri_conc a st with
    | true =>
      rw [hc, cond_true] at h
      rw [cond_true]
      cases hz : ri_pure M.2.2.1 i pc lv st with
      | none => rw [hz] at h; cases h
      | some z =>
        rw [hz] at h
        exact go h
    | false =>
      rw [hc, cond_false] at h
      rw [cond_false]
      cases hz : ri_sym M.2.2.1 (ri_nth orc fr) fr i pc lv st with
      | none => rw [hz] at h; cases h
      | some z =>
        rw [hz] at h
        exact pm_more h (fun z hz => go hz)
  | 18, h =>
    obtain ⟨hb, h2⟩ := ri_ok_eq h
    rw [hal] at hb
    cases hb
  | 19, h =>
    obtain ⟨hb, h2⟩ := ri_ok_eq h
    rw [hal] at hb
    cases hb
  | 20, h =>
    obtain ⟨hb, h2⟩ := ri_ok_eq h
    rw [hal] at hb
    cases hb
  | 21, h =>
    simp only [ri_exec] at h ⊢
    split at h
    · obtain ⟨hb, h2⟩ := ri_ok_eq h
      try dsimp only
      rw [hb]
      exact go h2
    · cases h
  | 22, h =>
    obtain ⟨hb, h2⟩ := ri_ok_eq h
    unfold ri_exec
    try dsimp only
    rw [hb]
    cases hz : ri_acopy tyL bud st w with
    | none => rw [hz] at h2; cases h2
    | some z =>
      rw [hz] at h2
      obtain ⟨w8, h9, h8⟩ := pm_acopy hT hL hz
      rw [h9]
      exact gw h2 h8
  | 23, h =>
    obtain ⟨hb, h2⟩ := ri_ok_eq h
    unfold ri_exec
    try dsimp only
    rw [hb]
    cases h2
    exact ⟨w2, rfl, pm_st_refl hL⟩
  | 24, h =>
    simp only [ri_exec] at h ⊢
    split at h
    · obtain ⟨hb, h2⟩ := ri_ok_eq h
      try dsimp only
      rw [hb]
      exact go h2
    · cases h
  | 25, h =>
    simp only [ri_exec] at h ⊢
    split at h
    · obtain ⟨hb, h2⟩ := ri_ok_eq h
      try dsimp only
      rw [hb]
      exact go h2
    · cases h
  | 26, h =>
    obtain ⟨hb, h2⟩ := ri_ok_eq h
    rw [hal] at hb
    cases hb
  | 27, h =>
    unfold ri_exec at h ⊢
    try dsimp only at h ⊢
    cases hc : ri_conc 1 st with
    | true =>
      rw [hc, cond_true] at h
      rw [cond_true]
      cases hz : ri_ast tyL ri_gB st w with
      | none => rw [hz] at h; cases h
      | some z =>
        rw [hz] at h
        obtain ⟨w8, h9, h8⟩ := pm_ast hT hL hz
        rw [h9]
        exact gw h h8
    | false =>
      rw [hc, cond_false] at h
      rw [cond_false]
      cases hz : ri_ast tyL (ri_gU fr) st w with
      | none => rw [hz] at h; cases h
      | some z =>
        rw [hz] at h
        obtain ⟨w8, h9, h8⟩ := pm_ast hT hL hz
        rw [h9]
        exact pm_more h (fun z hz => gw hz h8)
  | 28, h =>
    unfold ri_exec at h ⊢
    try dsimp only at h ⊢
    cases hz : ri_lc tyL a b lv st w with
    | none => rw [hz] at h; cases h
    | some z =>
      rw [hz] at h
      rw [pm_lc hT hL hz]
      try dsimp only at h ⊢
      cases ho : ri_nth orc fr with
      | none => rw [ho] at h; cases h
      | some o9 =>
        rw [ho] at h
        cases o9 with
        | inr x => cases h
        | inl g9 =>
          try dsimp only at h ⊢
          cases v with
          | ref t => exact pm_more h (fun z hz => go hz)
          | _ => cases h
  | 29, h =>
    cases hz : ri_str d bud a st with
    | none =>
      have h2 : False := by first | (unfold ri_exec at h; simp only [hz] at h; cases h) | (simp [ri_exec, hz] at h)
      exact h2.elim
    | some z =>
      unfold ri_exec at h ⊢
      simp only [hz] at h ⊢
      exact go h
  | _ + 30, h => cases h
theorem pm_run (hT : ∀ n, 1000000 ≤ n → ri_nth tyL n = none) : ∀ fuel : Nat, pm_R own al (ri_run Ms ty df tyL exl xs L al orc fuel)
  | 0 => fun d bud M cur pc lv st w nc ns fr out h => by cases h
  | n + 1 => fun d bud M cur pc lv st w nc ns fr out h hal w2 hL => by
    cases cur with
    | nil => cases h
    | cons o nxt =>
      obtain ⟨hb, h2⟩ := ri_ok_eq (b := Nat.beq o.1 pc) h
      obtain ⟨w3, e, hs⟩ := pm_exec hT (pm_run hT n) h2 hal hL
      refine ⟨w3, ?_, hs⟩
      show ri_ok (Nat.beq o.1 pc) (ri_exec Ms ty df tyL exl xs L al orc (ri_run Ms ty df tyL exl xs L al orc n) d bud M nxt lv st w2 nc ns fr pc o.2.1 o.2.2.1 o.2.2.2.1 o.2.2.2.2.1 o.2.2.2.2.2.1 o.2.2.2.2.2.2) = _
      rw [hb]
      exact e
end PMR
