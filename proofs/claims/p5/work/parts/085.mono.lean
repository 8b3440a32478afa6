/-! ===== more fuel ===== -/
def rk_le (f g : ri_K) : Prop := ∀ (d bud : Nat) (M : ri_M) (cur : List ri_Op) (pc : Nat) (lv : ri_L) (st : List Value) (w : List ri_E) (nc ns fr : Nat) (out : ri_Out), f d bud M cur pc lv st w nc ns fr = some out → g d bud M cur pc lv st w nc ns fr = some out
section RKE
variable {Ms : List ri_M} {ty : Nat → Nat → FieldType} {df : Nat → List Value} {tyL : List FieldType} {exl : Nat → Nat} {xs : Nat → Value} {L : Nat} {al : Nat → Bool} {orc : List (Bool ⊕ Int32)} {f g : ri_K}
theorem rk_more_eq {cs : List ri_Cd} {o : Option ri_Out} {o2 : Option ri_Out} {out : ri_Out} (h : ri_more cs o = some out) (h2 : ∀ z : ri_Out, o = some z → o2 = some z) : ri_more cs o2 = some out := by
  cases o with
  | none => cases h
  | some z =>
    rw [h2 z rfl]
    cases h
    rfl
theorem rk_enter_ok (hR : rk_le f g) {d bud : Nat} {M : ri_M} {vals rest : List Value} {w : List ri_E} {fr : Nat} {o : ri_Out} (h : ri_enter f d bud M vals rest w fr = some o) : ri_enter g d bud M vals rest w fr = some o := by
  obtain ⟨hb, h2⟩ := ri_ok_eq h
  unfold ri_enter
  rw [hb]
  exact hR _ _ _ _ _ _ _ _ _ _ _ _ h2
theorem rk_back_ok (hR : rk_le f g) {d bud : Nat} {M : ri_M} {nxt : List ri_Op} {pc : Nat} {lv : ri_L} {rest : List Value} {nc ns : Nat} {o : Option ri_Out} {o2 : Option ri_Out} {out : ri_Out} (h : ri_back f d bud M nxt pc lv rest nc ns o = some out) (h2 : ∀ z : ri_Out, o = some z → o2 = some z) : ri_back g d bud M nxt pc lv rest nc ns o2 = some out := by
  unfold ri_back at h
  split at h
  · rw [h2 _ rfl]
    exact rk_more_eq h (fun z hz => hR _ _ _ _ _ _ _ _ _ _ _ _ hz)
  · rw [h2 _ rfl]
    cases h
    rfl
  · cases h
theorem rk_caught_ok (hR : rk_le f g) {d bud : Nat} {M : ri_M} {lv : ri_L} {w : List ri_E} {nc ns fr : Nat} {cs : List ri_Cd} {os : List ri_Op} {out : ri_Out} (h : ri_caught f d bud M lv w nc ns fr cs os = some out) : ri_caught g d bud M lv w nc ns fr cs os = some out := by
  unfold ri_caught at h
  unfold ri_caught
  split at h
  · rename_i oh nx2
    try dsimp only
    split at h
    · rename_i k hk
      try rw [hk]
      try dsimp only
      obtain ⟨hb, h2⟩ := ri_ok_eq h
      rw [hb]
      exact rk_more_eq h2 (fun z hz => hR _ _ _ _ _ _ _ _ _ _ _ _ hz)
    · rename_i k hk
      try rw [hk]
      try dsimp only
      obtain ⟨hb, h2⟩ := ri_ok_eq h
      rw [hb]
      exact rk_more_eq h2 (fun z hz => hR _ _ _ _ _ _ _ _ _ _ _ _ hz)
    · cases h
  · cases h
theorem rk_backH_ok (hR : rk_le f g) {d bud : Nat} {M : ri_M} {nxt : List ri_Op} {pc : Nat} {lv : ri_L} {rest : List Value} {nc ns : Nat} {hs : List Nat} {o : Option ri_Out} {o2 : Option ri_Out} {out : ri_Out} (h : ri_backH al f d bud M nxt pc lv rest nc ns hs o = some out) (h2 : ∀ z : ri_Out, o = some z → o2 = some z) : ri_backH al g d bud M nxt pc lv rest nc ns hs o2 = some out := by
  unfold ri_backH at h
  split at h
  · rw [h2 _ rfl]
    exact rk_more_eq h (fun z hz => hR _ _ _ _ _ _ _ _ _ _ _ _ hz)
  · rename_i x w2 nc2 ns2 cs fr2
    rw [h2 _ rfl]
    obtain ⟨hb, h3⟩ := ri_ok_eq h
    show ri_ok (!al w2.length) (match ri_nth hs x with
      | some t => ri_caught g d bud M lv w2 (nc + nc2) (ns + ns2) fr2 cs (ri_drop M.2.2.2.2.2 t)
      | none => none) = some out
    rw [hb]
    cases hx : ri_nth hs x with
    | none => rw [hx] at h3; cases h3
    | some t =>
      rw [hx] at h3
      exact rk_caught_ok hR h3
  · cases h
theorem rk_call_ok (hR : rk_le f g) {d bud : Nat} {M : ri_M} {nxt : List ri_Op} {pc : Nat} {lv : ri_L} {st : List Value} {w : List ri_E} {nc ns fr a b : Nat} {ts : List Nat} {out : ri_Out} (h : ri_call Ms al f d bud M nxt pc lv st w nc ns fr a b ts = some out) : ri_call Ms al g d bud M nxt pc lv st w nc ns fr a b ts = some out := by
  unfold ri_call at h
  unfold ri_call
  cases hM : ri_nth Ms a with
  | none => rw [hM] at h; cases h
  | some M2 =>
    rw [hM] at h
    try dsimp only at h ⊢
    cases hs : ri_split M2.2.2.2.2.1 [] st with
    | none => rw [hs] at h; cases h
    | some As =>
      obtain ⟨As, rest⟩ := As
      rw [hs] at h
      try dsimp only at h ⊢
      split at h
      · split at h
        · rename_i q rest2
          try dsimp only
          cases hq : ri_nth w q with
          | none => rw [hq] at h; cases h
          | some x =>
            rw [hq] at h
            cases x with
            | inl o => cases h
            | inr o =>
              obtain ⟨hb, h2⟩ := ri_ok_eq h
              refine (congrArg (fun z9 => ri_ok z9 _) hb).trans ?_
              exact rk_back_ok hR h2 (fun z hz => rk_enter_ok hR hz)
        · cases h
      · exact rk_back_ok hR h (fun z hz => rk_enter_ok hR hz)
      · split at h
        · exact rk_back_ok hR h (fun z hz => rk_enter_ok hR hz)
        · cases h
      · split at h
        · exact rk_back_ok hR h (fun z hz => rk_enter_ok hR hz)
        · cases h
      · exact rk_back_ok hR h (fun z hz => rk_enter_ok hR hz)
      · split at h
        · rename_i q rest2
          try dsimp only
          cases hq : ri_nth w q with
          | none => rw [hq] at h; cases h
          | some x =>
            rw [hq] at h
            cases x with
            | inl o => cases h
            | inr o =>
              try dsimp only at h
              split at h
              · rename_i t hs9
                obtain ⟨hb, h2⟩ := ri_ok_eq h
                show ri_ok (Nat.beq o.1 t) (ri_backH al g d bud M nxt pc lv rest2 nc ns hs9 (ri_enter g d bud M2 (.ref q :: As) rest2 w fr)) = some out
                rw [hb]
                exact rk_backH_ok hR h2 (fun z hz => rk_enter_ok hR hz)
              · cases h
        · cases h
      · exact rk_back_ok hR h (fun z hz => rk_enter_ok hR hz)
      · split at h
        · rename_i q rest2
          obtain ⟨hb, h2⟩ := ri_ok_eq h
          show ri_ok (Nat.ble 1000001 q && Nat.blt q 1000065) (ri_back g d bud M nxt pc lv rest2 nc ns (ri_enter g d bud M2 (.ref q :: As) rest2 w fr)) = some out
          rw [hb]
          exact rk_back_ok hR h2 (fun z hz => rk_enter_ok hR hz)
        · cases h
      · obtain ⟨hb, h2⟩ := ri_ok_eq h
        refine (congrArg (fun z9 => ri_ok z9 _) hb).trans ?_
        exact rk_back_ok hR h2 (fun z hz => rk_enter_ok hR hz)
      · cases h
set_option maxHeartbeats 2000000 in
theorem rk_exec_ok (hR : rk_le f g) {d bud : Nat} {M : ri_M} {nxt : List ri_Op} {lv : ri_L} {st : List Value} {w : List ri_E} {nc ns fr pc κ : Nat} {i : Instr} {a b : Nat} {v : Value} {ts : List Nat} {out : ri_Out} (h : ri_exec Ms ty df tyL exl xs L al orc f d bud M nxt lv st w nc ns fr pc κ i a b v ts = some out) : ri_exec Ms ty df tyL exl xs L al orc g d bud M nxt lv st w nc ns fr pc κ i a b v ts = some out := by
  have go : ∀ {d bud : Nat} {M : ri_M} {cur : List ri_Op} {pc : Nat} {lv : ri_L} {st : List Value} {w : List ri_E} {nc ns fr : Nat} {out : ri_Out}, f d bud M cur pc lv st w nc ns fr = some out → g d bud M cur pc lv st w nc ns fr = some out := fun h => hR _ _ _ _ _ _ _ _ _ _ _ _ h
  match κ, h with
  | 0, h =>
    cases hz : ri_pure M.2.2.1 i pc lv st with
    | none =>
      have h2 : False := by first | (unfold ri_exec at h; simp only [hz] at h; cases h) | (simp [ri_exec, hz] at h)
      exact h2.elim
    | some z =>
      unfold ri_exec at h ⊢
      simp only [hz] at h ⊢
      exact go h
  | 1, h =>
    cases hz : ri_getf a b st w with
    | none =>
      have h2 : False := by first | (unfold ri_exec at h; simp only [hz] at h; cases h) | (simp [ri_exec, hz] at h)
      exact h2.elim
    | some z =>
      unfold ri_exec at h ⊢
      simp only [hz] at h ⊢
      exact go h
  | 2, h =>
    cases hz : ri_putf (ty a b) a b st w with
    | none =>
      have h2 : False := by first | (unfold ri_exec at h; simp only [hz] at h; cases h) | (simp [ri_exec, hz] at h)
      exact h2.elim
    | some z =>
      unfold ri_exec at h ⊢
      simp only [hz] at h ⊢
      exact go h
  | 3, h => exact go h
  | 4, h => exact rk_call_ok hR h
  | 5, h =>
    cases hz : ri_ald tyL ri_tI st w with
    | none =>
      have h2 : False := by first | (unfold ri_exec at h; simp only [hz] at h; cases h) | (simp [ri_exec, hz] at h)
      exact h2.elim
    | some z =>
      unfold ri_exec at h ⊢
      simp only [hz] at h ⊢
      exact go h
  | 6, h =>
    cases hz : ri_ast tyL ri_gI st w with
    | none =>
      have h2 : False := by first | (unfold ri_exec at h; simp only [hz] at h; cases h) | (simp [ri_exec, hz] at h)
      exact h2.elim
    | some z =>
      unfold ri_exec at h ⊢
      simp only [hz] at h ⊢
      exact go h
  | 7, h =>
    cases hz : ri_ald tyL ri_tL st w with
    | none =>
      have h2 : False := by first | (unfold ri_exec at h; simp only [hz] at h; cases h) | (simp [ri_exec, hz] at h)
      exact h2.elim
    | some z =>
      unfold ri_exec at h ⊢
      simp only [hz] at h ⊢
      exact go h
  | 8, h =>
    cases hz : ri_ast tyL ri_gL st w with
    | none =>
      have h2 : False := by first | (unfold ri_exec at h; simp only [hz] at h; cases h) | (simp [ri_exec, hz] at h)
      exact h2.elim
    | some z =>
      unfold ri_exec at h ⊢
      simp only [hz] at h ⊢
      exact go h
  | 9, h =>
    cases hz : ri_ald tyL ri_tD st w with
    | none =>
      have h2 : False := by first | (unfold ri_exec at h; simp only [hz] at h; cases h) | (simp [ri_exec, hz] at h)
      exact h2.elim
    | some z =>
      unfold ri_exec at h ⊢
      simp only [hz] at h ⊢
      exact go h
  | 10, h =>
    cases hz : ri_ast tyL ri_gD st w with
    | none =>
      have h2 : False := by first | (unfold ri_exec at h; simp only [hz] at h; cases h) | (simp [ri_exec, hz] at h)
      exact h2.elim
    | some z =>
      unfold ri_exec at h ⊢
      simp only [hz] at h ⊢
      exact go h
  | 11, h =>
    cases hz : ri_ald tyL ri_tA st w with
    | none =>
      have h2 : False := by first | (unfold ri_exec at h; simp only [hz] at h; cases h) | (simp [ri_exec, hz] at h)
      exact h2.elim
    | some z =>
      unfold ri_exec at h ⊢
      simp only [hz] at h ⊢
      exact go h
  | 12, h =>
    cases hz : ri_ald tyL ri_tB st w with
    | none =>
      have h2 : False := by first | (unfold ri_exec at h; simp only [hz] at h; cases h) | (simp [ri_exec, hz] at h)
      exact h2.elim
    | some z =>
      unfold ri_exec at h ⊢
      simp only [hz] at h ⊢
      exact go h
  | 13, h =>
    cases hz : ri_ast tyL ri_gB st w with
    | none =>
      have h2 : False := by first | (unfold ri_exec at h; simp only [hz] at h; cases h) | (simp [ri_exec, hz] at h)
      exact h2.elim
    | some z =>
      unfold ri_exec at h ⊢
      simp only [hz] at h ⊢
      exact go h
  | 14, h =>
    cases hz : ri_aast a b st w with
    | none =>
      have h2 : False := by first | (unfold ri_exec at h; simp only [hz] at h; cases h) | (simp [ri_exec, hz] at h)
      exact h2.elim
    | some z =>
      unfold ri_exec at h ⊢
      simp only [hz] at h ⊢
      exact go h
  | 15, h =>
    cases hz : ri_alen2 tyL st w with
    | none =>
      have h2 : False := by first | (unfold ri_exec at h; simp only [hz] at h; cases h) | (simp [ri_exec, hz] at h)
      exact h2.elim
    | some z =>
      unfold ri_exec at h ⊢
      simp only [hz] at h ⊢
      exact go h
  | 16, h => exact h
  | 17, h =>
    unfold ri_exec at h ⊢
    try dsimp only at h ⊢
    cases hc : ri_conc a st with
    | true =>
      rw [hc, cond_true] at h
      rw [cond_true]
      cases hz : ri_pure M.2.2.1 i pc lv st with
      | none => rw [hz] at h; cases h
      | some z =>
        rw [hz] at h
        exact go h
    | false =>
      rw [hc, cond_false] at h
      rw [cond_false]
      cases hz : ri_sym M.2.2.1 (ri_nth orc fr) fr i pc lv st with
      | none => rw [hz] at h; cases h
      | some z =>
        rw [hz] at h
        exact rk_more_eq h (fun z hz => go hz)
  | 18, h =>
    obtain ⟨hb, h2⟩ := ri_ok_eq h
    unfold ri_exec
    try dsimp only
    rw [hb]
    exact go h2
  | 19, h =>
    obtain ⟨hb, h2⟩ := ri_ok_eq h
    unfold ri_exec
    try dsimp only
    rw [hb]
    cases hz : ri_newa a v st w with
    | none => rw [hz] at h2; cases h2
    | some z =>
      rw [hz] at h2
      exact go h2
  | 20, h =>
    obtain ⟨hb, h2⟩ := ri_ok_eq h
    unfold ri_exec
    try dsimp only
    rw [hb]
    cases hz : ri_newa a .null st w with
    | none => rw [hz] at h2; cases h2
    | some z =>
      rw [hz] at h2
      exact go h2
  | 21, h =>
    simp only [ri_exec] at h ⊢
    split at h
    · obtain ⟨hb, h2⟩ := ri_ok_eq h
      try dsimp only
      rw [hb]
      exact go h2
    · cases h
  | 22, h =>
    obtain ⟨hb, h2⟩ := ri_ok_eq h
    unfold ri_exec
    try dsimp only
    rw [hb]
    cases hz : ri_acopy tyL bud st w with
    | none => rw [hz] at h2; cases h2
    | some z =>
      rw [hz] at h2
      exact go h2
  | 23, h => exact h
  | 24, h =>
    simp only [ri_exec] at h ⊢
    split at h
    · obtain ⟨hb, h2⟩ := ri_ok_eq h
      try dsimp only
      rw [hb]
      exact go h2
    · cases h
  | 25, h =>
    simp only [ri_exec] at h ⊢
    split at h
    · obtain ⟨hb, h2⟩ := ri_ok_eq h
      try dsimp only
      rw [hb]
      exact go h2
    · cases h
  | 26, h =>
    obtain ⟨hb, h2⟩ := ri_ok_eq h
    unfold ri_exec
    try dsimp only
    rw [hb]
    cases hz : ri_mna a b st w with
    | none => rw [hz] at h2; cases h2
    | some z =>
      rw [hz] at h2
      obtain ⟨hc, h3⟩ := ri_ok_eq h2
      show ri_ok true (ri_ok (Nat.ble z.2.2.2.length 1000000) _) = some out
      rw [hc]
      exact go h3
  | 27, h =>
    unfold ri_exec at h ⊢
    try dsimp only at h ⊢
    cases hc : ri_conc 1 st with
    | true =>
      rw [hc, cond_true] at h
      rw [cond_true]
      cases hz : ri_ast tyL ri_gB st w with
      | none => rw [hz] at h; cases h
      | some z =>
        rw [hz] at h
        exact go h
    | false =>
      rw [hc, cond_false] at h
      rw [cond_false]
      cases hz : ri_ast tyL (ri_gU fr) st w with
      | none => rw [hz] at h; cases h
      | some z =>
        rw [hz] at h
        exact rk_more_eq h (fun z hz => go hz)
  | 29, h =>
    cases hz : ri_str d bud a st with
    | none =>
      have h2 : False := by first | (unfold ri_exec at h; simp only [hz] at h; cases h) | (simp [ri_exec, hz] at h)
      exact h2.elim
    | some z =>
      unfold ri_exec at h ⊢
      simp only [hz] at h ⊢
      exact go h
  | 28, h =>
    unfold ri_exec at h ⊢
    try dsimp only at h ⊢
    cases hz : ri_lc tyL a b lv st w with
    | none => rw [hz] at h; cases h
    | some z =>
      rw [hz] at h
      try dsimp only at h ⊢
      cases ho : ri_nth orc fr with
      | none => rw [ho] at h; cases h
      | some o9 =>
        rw [ho] at h
        cases o9 with
        | inr x => cases h
        | inl g9 =>
          try dsimp only at h ⊢
          cases v with
          | ref t => exact rk_more_eq h (fun z hz => go hz)
          | _ => cases h
  | _ + 30, h => cases h
theorem rk_run_ok : ∀ fuel : Nat, rk_le (ri_run Ms ty df tyL exl xs L al orc fuel) (ri_run Ms ty df tyL exl xs L al orc (fuel + 1))
  | 0 => fun d bud M cur pc lv st w nc ns fr out h => by cases h
  | n + 1 => fun d bud M cur pc lv st w nc ns fr out h => by
    cases cur with
    | nil => cases h
    | cons o nxt =>
      obtain ⟨hb, h2⟩ := ri_ok_eq (b := Nat.beq o.1 pc) h
      show ri_ok (Nat.beq o.1 pc) (ri_exec Ms ty df tyL exl xs L al orc (ri_run Ms ty df tyL exl xs L al orc (n + 1)) d bud M nxt lv st w nc ns fr pc o.2.1 o.2.2.1 o.2.2.2.1 o.2.2.2.2.1 o.2.2.2.2.2.1 o.2.2.2.2.2.2) = some out
      rw [hb]
      exact rk_exec_ok (rk_run_ok n) h2
/-- more fuel changes nothing -/
theorem rk_fuel (k : Nat) : ∀ j : Nat, rk_le (ri_run Ms ty df tyL exl xs L al orc k) (ri_run Ms ty df tyL exl xs L al orc (k + j))
  | 0 => fun _ _ _ _ _ _ _ _ _ _ _ _ h => h
  | j + 1 => fun d bud M cur pc lv st w nc ns fr out h => rk_run_ok (k + j) d bud M cur pc lv st w nc ns fr out (rk_fuel k j d bud M cur pc lv st w nc ns fr out h)
end RKE
