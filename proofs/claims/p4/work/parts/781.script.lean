/-! ===== what isn't the law's own doesn't look at the script ===== -/
noncomputable def rx_nk (o : ri_Op) : Bool := (!(Nat.beq o.2.1 24) && !(Nat.beq o.2.1 25)) && !(Nat.beq o.2.1 4 && Nat.beq o.2.2.2.1 0)
noncomputable def rx_nl (l : List ri_Op) : Bool := List.rec true (fun o _ ih => rx_nk o && ih) l
theorem rx_nl_mem : ∀ {l : List ri_Op}, rx_nl l = true → ∀ o ∈ l, rx_nk o = true
  | [], _, o, h => by cases h
  | x :: l, h, o, ho => by
    have h2 : (rx_nk x && rx_nl l) = true := h
    rw [Bool.and_eq_true] at h2
    rcases List.mem_cons.mp ho with rfl | ho
    · exact h2.1
    · exact rx_nl_mem h2.2 o ho
theorem rx_nl_of : ∀ {l : List ri_Op}, (∀ o ∈ l, rx_nk o = true) → rx_nl l = true
  | [], _ => rfl
  | x :: l, h => by
    show (rx_nk x && rx_nl l) = true
    rw [h x List.mem_cons_self, rx_nl_of (fun o ho => h o (List.mem_cons_of_mem _ ho))]; rfl
theorem rx_nl_drop {l : List ri_Op} (h : rx_nl l = true) (n : Nat) : rx_nl (ri_drop l n) = true := by
  rw [ri_drop_eq]
  exact rx_nl_of (fun o ho => rx_nl_mem h o (List.mem_of_mem_drop ho))
theorem rx_nl_tail {o : ri_Op} {l : List ri_Op} (h : rx_nl (o :: l) = true) : rx_nl l = true := rx_nl_of (fun x hx => rx_nl_mem h x (List.mem_cons_of_mem _ hx))
theorem rx_nl_next {M : ri_M} {nxt : List ri_Op} {ts : List Nat} (hm : rx_nl M.2.2.2.2.2 = true) (hn : rx_nl nxt = true) (j : Nat) : rx_nl (ri_next M nxt ts j) = true := by
  cases j with
  | zero => exact hn
  | succ k =>
    show rx_nl (match ri_nth ts k with | some t => ri_drop M.2.2.2.2.2 t | none => []) = true
    cases ri_nth ts k with
    | some t => exact rx_nl_drop hm t
    | none => rfl
def rx_le (f g : ri_K) : Prop := ∀ (d bud : Nat) (M : ri_M) (cur : List ri_Op) (pc : Nat) (lv : ri_L) (st : List Value) (w : List ri_E) (nc ns fr : Nat) (out : ri_Out), rx_nl M.2.2.2.2.2 = true → rx_nl cur = true → f d bud M cur pc lv st w nc ns fr = some out → g d bud M cur pc lv st w nc ns fr = some out
section RXE
variable {Ms : List ri_M} {ty : Nat → Nat → FieldType} {df : Nat → List Value} {tyL : List FieldType} {exl : Nat → Nat} {xs0 : Nat → Value} {L0 : Nat} {xs : Nat → Value} {L : Nat} {al : Nat → Bool} {orc : List (Bool ⊕ Int32)} {f g : ri_K}
theorem rx_more_eq {cs : List ri_Cd} {o : Option ri_Out} {o2 : Option ri_Out} {out : ri_Out} (h : ri_more cs o = some out) (h2 : ∀ z : ri_Out, o = some z → o2 = some z) : ri_more cs o2 = some out := by
  cases o with
  | none => cases h
  | some z =>
    rw [h2 z rfl]
    cases h
    rfl
theorem rx_enter_ok (hR : rx_le f g) {d bud : Nat} {M : ri_M} (hm : rx_nl M.2.2.2.2.2 = true) {vals rest : List Value} {w : List ri_E} {fr : Nat} {o : ri_Out} (h : ri_enter f d bud M vals rest w fr = some o) : ri_enter g d bud M vals rest w fr = some o := by
  obtain ⟨hb, h2⟩ := ri_ok_eq h
  unfold ri_enter
  rw [hb]
  exact hR _ _ _ _ _ _ _ _ _ _ _ _ hm hm h2
theorem rx_back_ok (hR : rx_le f g) {d bud : Nat} {M : ri_M} {nxt : List ri_Op} (hm : rx_nl M.2.2.2.2.2 = true) (hn : rx_nl nxt = true) {pc : Nat} {lv : ri_L} {rest : List Value} {nc ns : Nat} {o : Option ri_Out} {o2 : Option ri_Out} {out : ri_Out} (h : ri_back f d bud M nxt pc lv rest nc ns o = some out) (h2 : ∀ z : ri_Out, o = some z → o2 = some z) : ri_back g d bud M nxt pc lv rest nc ns o2 = some out := by
  unfold ri_back at h
  split at h
  · rw [h2 _ rfl]
    exact rx_more_eq h (fun z hz => hR _ _ _ _ _ _ _ _ _ _ _ _ hm hn hz)
  · rw [h2 _ rfl]
    cases h
    rfl
  · cases h
theorem rx_caught_ok (hR : rx_le f g) {d bud : Nat} {M : ri_M} {lv : ri_L} {w : List ri_E} {nc ns fr : Nat} {cs : List ri_Cd} {os : List ri_Op} (hm : rx_nl M.2.2.2.2.2 = true) (hn : rx_nl os = true) {out : ri_Out} (h : ri_caught f d bud M lv w nc ns fr cs os = some out) : ri_caught g d bud M lv w nc ns fr cs os = some out := by
  unfold ri_caught at h
  unfold ri_caught
  split at h
  · rename_i oh nx2
    try dsimp only
    split at h
    · rename_i k hk
      try rw [hk]
      try dsimp only
      obtain ⟨hb, h2⟩ := ri_ok_eq h
      rw [hb]
      exact rx_more_eq h2 (fun z hz => hR _ _ _ _ _ _ _ _ _ _ _ _ hm (rx_nl_tail hn) hz)
    · rename_i k hk
      try rw [hk]
      try dsimp only
      obtain ⟨hb, h2⟩ := ri_ok_eq h
      rw [hb]
      exact rx_more_eq h2 (fun z hz => hR _ _ _ _ _ _ _ _ _ _ _ _ hm (rx_nl_tail hn) hz)
    · cases h
  · cases h
theorem rx_backH_ok (hR : rx_le f g) {d bud : Nat} {M : ri_M} {nxt : List ri_Op} (hm : rx_nl M.2.2.2.2.2 = true) (hn : rx_nl nxt = true) {pc : Nat} {lv : ri_L} {rest : List Value} {nc ns : Nat} {hs : List Nat} {o : Option ri_Out} {o2 : Option ri_Out} {out : ri_Out} (h : ri_backH al f d bud M nxt pc lv rest nc ns hs o = some out) (h2 : ∀ z : ri_Out, o = some z → o2 = some z) : ri_backH al g d bud M nxt pc lv rest nc ns hs o2 = some out := by
  unfold ri_backH at h
  split at h
  · rw [h2 _ rfl]
    exact rx_more_eq h (fun z hz => hR _ _ _ _ _ _ _ _ _ _ _ _ hm hn hz)
  · rename_i x w2 nc2 ns2 cs fr2
    rw [h2 _ rfl]
    obtain ⟨hb, h3⟩ := ri_ok_eq h
    show ri_ok (!al w2.length) (match ri_nth hs x with
      | some t => ri_caught g d bud M lv w2 (nc + nc2) (ns + ns2) fr2 cs (ri_drop M.2.2.2.2.2 t)
      | none => none) = some out
    rw [hb]
    cases hx : ri_nth hs x with
    | none => rw [hx] at h3; cases h3
    | some t =>
      rw [hx] at h3
      exact rx_caught_ok hR hm (rx_nl_drop hm _) h3
  · cases h
theorem rx_call_ok (hR : rx_le f g) (hMs : ∀ (a : Nat) (M2 : ri_M), Nat.beq a 0 = false → ri_nth Ms a = some M2 → rx_nl M2.2.2.2.2.2 = true) {d bud : Nat} {M : ri_M} {nxt : List ri_Op} (hm : rx_nl M.2.2.2.2.2 = true) (hn : rx_nl nxt = true) {pc : Nat} {lv : ri_L} {st : List Value} {w : List ri_E} {nc ns fr a b : Nat} {ts : List Nat} {out : ri_Out} (ha : Nat.beq a 0 = false) (h : ri_call Ms al f d bud M nxt pc lv st w nc ns fr a b ts = some out) : ri_call Ms al g d bud M nxt pc lv st w nc ns fr a b ts = some out := by
  unfold ri_call at h
  unfold ri_call
  cases hM : ri_nth Ms a with
  | none => rw [hM] at h; cases h
  | some M2 =>
    have hm2 := hMs a M2 ha hM
    rw [hM] at h
    try dsimp only at h ⊢
    cases hs : ri_split M2.2.2.2.2.1 [] st with
    | none => rw [hs] at h; cases h
    | some As =>
      obtain ⟨As, rest⟩ := As
      rw [hs] at h
      try dsimp only at h ⊢
      split at h
      · split at h
        · rename_i q rest2
          try dsimp only
          cases hq : ri_nth w q with
          | none => rw [hq] at h; cases h
          | some x =>
            rw [hq] at h
            cases x with
            | inl o => cases h
            | inr o =>
              obtain ⟨hb, h2⟩ := ri_ok_eq h
              refine (congrArg (fun z9 => ri_ok z9 _) hb).trans ?_
              exact rx_back_ok hR hm hn h2 (fun z hz => rx_enter_ok hR hm2 hz)
        · cases h
      · exact rx_back_ok hR hm hn h (fun z hz => rx_enter_ok hR hm2 hz)
      · split at h
        · exact rx_back_ok hR hm hn h (fun z hz => rx_enter_ok hR hm2 hz)
        · cases h
      · split at h
        · exact rx_back_ok hR hm hn h (fun z hz => rx_enter_ok hR hm2 hz)
        · cases h
      · exact rx_back_ok hR hm hn h (fun z hz => rx_enter_ok hR hm2 hz)
      · split at h
        · rename_i q rest2
          try dsimp only
          cases hq : ri_nth w q with
          | none => rw [hq] at h; cases h
          | some x =>
            rw [hq] at h
            cases x with
            | inl o => cases h
            | inr o =>
              try dsimp only at h
              split at h
              · rename_i t hs9
                obtain ⟨hb, h2⟩ := ri_ok_eq h
                show ri_ok (Nat.beq o.1 t) (ri_backH al g d bud M nxt pc lv rest2 nc ns hs9 (ri_enter g d bud M2 (.ref q :: As) rest2 w fr)) = some out
                rw [hb]
                exact rx_backH_ok hR hm hn h2 (fun z hz => rx_enter_ok hR hm2 hz)
              · cases h
        · cases h
      · exact rx_back_ok hR hm hn h (fun z hz => rx_enter_ok hR hm2 hz)
      · split at h
        · rename_i q rest2
          obtain ⟨hb, h2⟩ := ri_ok_eq h
          show ri_ok (Nat.ble 1000001 q && Nat.blt q 1000065) (ri_back g d bud M nxt pc lv rest2 nc ns (ri_enter g d bud M2 (.ref q :: As) rest2 w fr)) = some out
          rw [hb]
          exact rx_back_ok hR hm hn h2 (fun z hz => rx_enter_ok hR hm2 hz)
        · cases h
      · obtain ⟨hb, h2⟩ := ri_ok_eq h
        refine (congrArg (fun z9 => ri_ok z9 _) hb).trans ?_
        exact rx_back_ok hR hm hn h2 (fun z hz => rx_enter_ok hR hm2 hz)
      · cases h
set_option maxHeartbeats 2000000 in
theorem rx_exec_ok (hR : rx_le f g) (hMs : ∀ (a : Nat) (M2 : ri_M), Nat.beq a 0 = false → ri_nth Ms a = some M2 → rx_nl M2.2.2.2.2.2 = true) {d bud : Nat} {M : ri_M} {nxt : List ri_Op} (hm : rx_nl M.2.2.2.2.2 = true) (hn : rx_nl nxt = true) {lv : ri_L} {st : List Value} {w : List ri_E} {nc ns fr pc κ : Nat} {i : Instr} {a b : Nat} {v : Value} {ts : List Nat} {out : ri_Out} (hk : rx_nk (pc, κ, i, a, b, v, ts) = true) (h : ri_exec Ms ty df tyL exl xs0 L0 al orc f d bud M nxt lv st w nc ns fr pc κ i a b v ts = some out) : ri_exec Ms ty df tyL exl xs L al orc g d bud M nxt lv st w nc ns fr pc κ i a b v ts = some out := by
  have go : ∀ {d bud : Nat} {M : ri_M} {cur : List ri_Op} {pc : Nat} {lv : ri_L} {st : List Value} {w : List ri_E} {nc ns fr : Nat} {out : ri_Out}, rx_nl M.2.2.2.2.2 = true → rx_nl cur = true → f d bud M cur pc lv st w nc ns fr = some out → g d bud M cur pc lv st w nc ns fr = some out := fun e1 e2 h => hR _ _ _ _ _ _ _ _ _ _ _ _ e1 e2 h
  match κ, hk, h with
  | 0, hk, h =>
    cases hz : ri_pure M.2.2.1 i pc lv st with
    | none =>
      have h2 : False := by first | (unfold ri_exec at h; simp only [hz] at h; cases h) | (simp [ri_exec, hz] at h)
      exact h2.elim
    | some z =>
      unfold ri_exec at h ⊢
      simp only [hz] at h ⊢
      exact go hm (rx_nl_next hm hn _) h
  | 1, hk, h =>
    cases hz : ri_getf a b st w with
    | none =>
      have h2 : False := by first | (unfold ri_exec at h; simp only [hz] at h; cases h) | (simp [ri_exec, hz] at h)
      exact h2.elim
    | some z =>
      unfold ri_exec at h ⊢
      simp only [hz] at h ⊢
      exact go hm hn h
  | 2, hk, h =>
    cases hz : ri_putf (ty a b) a b st w with
    | none =>
      have h2 : False := by first | (unfold ri_exec at h; simp only [hz] at h; cases h) | (simp [ri_exec, hz] at h)
      exact h2.elim
    | some z =>
      unfold ri_exec at h ⊢
      simp only [hz] at h ⊢
      exact go hm hn h
  | 3, hk, h => exact go hm hn h
  | 4, hk, h => exact rx_call_ok hR hMs hm hn (by
      have h9 : ((!(Nat.beq 4 24) && !(Nat.beq 4 25)) && !(Nat.beq 4 4 && Nat.beq a 0)) = true := hk
      cases hb : Nat.beq a 0 with
      | false => rfl
      | true => rw [hb] at h9; cases h9) h
  | 5, hk, h =>
    cases hz : ri_ald tyL ri_tI st w with
    | none =>
      have h2 : False := by first | (unfold ri_exec at h; simp only [hz] at h; cases h) | (simp [ri_exec, hz] at h)
      exact h2.elim
    | some z =>
      unfold ri_exec at h ⊢
      simp only [hz] at h ⊢
      exact go hm hn h
  | 6, hk, h =>
    cases hz : ri_ast tyL ri_gI st w with
    | none =>
      have h2 : False := by first | (unfold ri_exec at h; simp only [hz] at h; cases h) | (simp [ri_exec, hz] at h)
      exact h2.elim
    | some z =>
      unfold ri_exec at h ⊢
      simp only [hz] at h ⊢
      exact go hm hn h
  | 7, hk, h =>
    cases hz : ri_ald tyL ri_tL st w with
    | none =>
      have h2 : False := by first | (unfold ri_exec at h; simp only [hz] at h; cases h) | (simp [ri_exec, hz] at h)
      exact h2.elim
    | some z =>
      unfold ri_exec at h ⊢
      simp only [hz] at h ⊢
      exact go hm hn h
  | 8, hk, h =>
    cases hz : ri_ast tyL ri_gL st w with
    | none =>
      have h2 : False := by first | (unfold ri_exec at h; simp only [hz] at h; cases h) | (simp [ri_exec, hz] at h)
      exact h2.elim
    | some z =>
      unfold ri_exec at h ⊢
      simp only [hz] at h ⊢
      exact go hm hn h
  | 9, hk, h =>
    cases hz : ri_ald tyL ri_tD st w with
    | none =>
      have h2 : False := by first | (unfold ri_exec at h; simp only [hz] at h; cases h) | (simp [ri_exec, hz] at h)
      exact h2.elim
    | some z =>
      unfold ri_exec at h ⊢
      simp only [hz] at h ⊢
      exact go hm hn h
  | 10, hk, h =>
    cases hz : ri_ast tyL ri_gD st w with
    | none =>
      have h2 : False := by first | (unfold ri_exec at h; simp only [hz] at h; cases h) | (simp [ri_exec, hz] at h)
      exact h2.elim
    | some z =>
      unfold ri_exec at h ⊢
      simp only [hz] at h ⊢
      exact go hm hn h
  | 11, hk, h =>
    cases hz : ri_ald tyL ri_tA st w with
    | none =>
      have h2 : False := by first | (unfold ri_exec at h; simp only [hz] at h; cases h) | (simp [ri_exec, hz] at h)
      exact h2.elim
    | some z =>
      unfold ri_exec at h ⊢
      simp only [hz] at h ⊢
      exact go hm hn h
  | 12, hk, h =>
    cases hz : ri_ald tyL ri_tB st w with
    | none =>
      have h2 : False := by first | (unfold ri_exec at h; simp only [hz] at h; cases h) | (simp [ri_exec, hz] at h)
      exact h2.elim
    | some z =>
      unfold ri_exec at h ⊢
      simp only [hz] at h ⊢
      exact go hm hn h
  | 13, hk, h =>
    cases hz : ri_ast tyL ri_gB st w with
    | none =>
      have h2 : False := by first | (unfold ri_exec at h; simp only [hz] at h; cases h) | (simp [ri_exec, hz] at h)
      exact h2.elim
    | some z =>
      unfold ri_exec at h ⊢
      simp only [hz] at h ⊢
      exact go hm hn h
  | 14, hk, h =>
    cases hz : ri_aast a b st w with
    | none =>
      have h2 : False := by first | (unfold ri_exec at h; simp only [hz] at h; cases h) | (simp [ri_exec, hz] at h)
      exact h2.elim
    | some z =>
      unfold ri_exec at h ⊢
      simp only [hz] at h ⊢
      exact go hm hn h
  | 15, hk, h =>
    cases hz : ri_alen2 tyL st w with
    | none =>
      have h2 : False := by first | (unfold ri_exec at h; simp only [hz] at h; cases h) | (simp [ri_exec, hz] at h)
      exact h2.elim
    | some z =>
      unfold ri_exec at h ⊢
      simp only [hz] at h ⊢
      exact go hm hn h
  | 16, hk, h => exact h
  | 17, hk, h =>
    unfold ri_exec at h ⊢
    try dsimp only at h ⊢
    cases hc : ri_conc a st with
    | true =>
      rw [hc, cond_true] at h
      rw [cond_true]
      cases hz : ri_pure M.2.2.1 i pc lv st with
      | none => rw [hz] at h; cases h
      | some z =>
        rw [hz] at h
        exact go hm (rx_nl_next hm hn _) h
    | false =>
      rw [hc, cond_false] at h
      rw [cond_false]
      cases hz : ri_sym M.2.2.1 (ri_nth orc fr) fr i pc lv st with
      | none => rw [hz] at h; cases h
      | some z =>
        rw [hz] at h
        exact rx_more_eq h (fun z hz => go hm (rx_nl_next hm hn _) hz)
  | 18, hk, h =>
    obtain ⟨hb, h2⟩ := ri_ok_eq h
    unfold ri_exec
    try dsimp only
    rw [hb]
    exact go hm hn h2
  | 19, hk, h =>
    obtain ⟨hb, h2⟩ := ri_ok_eq h
    unfold ri_exec
    try dsimp only
    rw [hb]
    cases hz : ri_newa a v st w with
    | none => rw [hz] at h2; cases h2
    | some z =>
      rw [hz] at h2
      exact go hm hn h2
  | 20, hk, h =>
    obtain ⟨hb, h2⟩ := ri_ok_eq h
    unfold ri_exec
    try dsimp only
    rw [hb]
    cases hz : ri_newa a .null st w with
    | none => rw [hz] at h2; cases h2
    | some z =>
      rw [hz] at h2
      exact go hm hn h2
  | 21, hk, h =>
    simp only [ri_exec] at h ⊢
    split at h
    · obtain ⟨hb, h2⟩ := ri_ok_eq h
      try dsimp only
      rw [hb]
      exact go hm hn h2
    · cases h
  | 22, hk, h =>
    obtain ⟨hb, h2⟩ := ri_ok_eq h
    unfold ri_exec
    try dsimp only
    rw [hb]
    cases hz : ri_acopy tyL bud st w with
    | none => rw [hz] at h2; cases h2
    | some z =>
      rw [hz] at h2
      exact go hm hn h2
  | 23, hk, h => exact h
  | 24, hk, h => cases hk
  | 25, hk, h => cases hk
  | 26, hk, h =>
    obtain ⟨hb, h2⟩ := ri_ok_eq h
    unfold ri_exec
    try dsimp only
    rw [hb]
    cases hz : ri_mna a b st w with
    | none => rw [hz] at h2; cases h2
    | some z =>
      rw [hz] at h2
      obtain ⟨hc, h3⟩ := ri_ok_eq h2
      show ri_ok true (ri_ok (Nat.ble z.2.2.2.length 1000000) _) = some out
      rw [hc]
      exact go hm hn h3
  | 27, hk, h =>
    unfold ri_exec at h ⊢
    try dsimp only at h ⊢
    cases hc : ri_conc 1 st with
    | true =>
      rw [hc, cond_true] at h
      rw [cond_true]
      cases hz : ri_ast tyL ri_gB st w with
      | none => rw [hz] at h; cases h
      | some z =>
        rw [hz] at h
        exact go hm hn h
    | false =>
      rw [hc, cond_false] at h
      rw [cond_false]
      cases hz : ri_ast tyL (ri_gU fr) st w with
      | none => rw [hz] at h; cases h
      | some z =>
        rw [hz] at h
        exact rx_more_eq h (fun z hz => go hm hn hz)
  | 29, hk, h =>
    cases hz : ri_str d bud a st with
    | none =>
      have h2 : False := by first | (unfold ri_exec at h; simp only [hz] at h; cases h) | (simp [ri_exec, hz] at h)
      exact h2.elim
    | some z =>
      unfold ri_exec at h ⊢
      simp only [hz] at h ⊢
      exact go hm hn h
  | 28, hk, h =>
    unfold ri_exec at h ⊢
    try dsimp only at h ⊢
    cases hz : ri_lc tyL a b lv st w with
    | none => rw [hz] at h; cases h
    | some z =>
      rw [hz] at h
      try dsimp only at h ⊢
      cases ho : ri_nth orc fr with
      | none => rw [ho] at h; cases h
      | some o9 =>
        rw [ho] at h
        cases o9 with
        | inr x => cases h
        | inl g9 =>
          try dsimp only at h ⊢
          cases v with
          | ref t => exact rx_more_eq h (fun z hz => go hm (rx_nl_next hm hn _) hz)
          | _ => cases h
  | _ + 30, hk, h => cases h
theorem rx_run_ok (hMs : ∀ (a : Nat) (M2 : ri_M), Nat.beq a 0 = false → ri_nth Ms a = some M2 → rx_nl M2.2.2.2.2.2 = true) : ∀ fuel : Nat, rx_le (ri_run Ms ty df tyL exl xs0 L0 al orc fuel) (ri_run Ms ty df tyL exl xs L al orc fuel)
  | 0 => fun d bud M cur pc lv st w nc ns fr out _ _ h => by cases h
  | n + 1 => fun d bud M cur pc lv st w nc ns fr out hm hc h => by
    cases cur with
    | nil => cases h
    | cons o nxt =>
      obtain ⟨hb, h2⟩ := ri_ok_eq (b := Nat.beq o.1 pc) h
      show ri_ok (Nat.beq o.1 pc) (ri_exec Ms ty df tyL exl xs L al orc (ri_run Ms ty df tyL exl xs L al orc n) d bud M nxt lv st w nc ns fr pc o.2.1 o.2.2.1 o.2.2.2.1 o.2.2.2.2.1 o.2.2.2.2.2.1 o.2.2.2.2.2.2) = some out
      rw [hb]
      exact rx_exec_ok (rx_run_ok hMs n) hMs hm (rx_nl_tail hc) (rx_nl_mem hc o List.mem_cons_self) h2
end RXE
