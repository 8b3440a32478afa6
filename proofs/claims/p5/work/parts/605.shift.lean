/-! ===== cells and slots that were made before change nothing ===== -/
def rs_o (sx sy : Nat) (z : ri_Out) : ri_Out := (z.1, z.2.1, sx + z.2.2.1, sy + z.2.2.2.1, z.2.2.2.2.1, z.2.2.2.2.2)
def rs_le (sx sy : Nat) (f : ri_K) : Prop := ∀ (d bud : Nat) (M : ri_M) (cur : List ri_Op) (pc : Nat) (lv : ri_L) (st : List Value) (w : List ri_E) (nc ns fr : Nat) (out : ri_Out), f d bud M cur pc lv st w nc ns fr = some out → ∀ (m1 m2 : Nat), m1 = sx + nc → m2 = sy + ns → f d bud M cur pc lv st w m1 m2 fr = some (rs_o sx sy out)
section RSE
variable {Ms : List ri_M} {ty : Nat → Nat → FieldType} {df : Nat → List Value} {tyL : List FieldType} {exl : Nat → Nat} {xs : Nat → Value} {L : Nat} {al : Nat → Bool} {orc : List (Bool ⊕ Int32)} {f : ri_K} {sx sy : Nat}
theorem rs_more_eq {cs : List ri_Cd} {o : Option ri_Out} {o2 : Option ri_Out} {out : ri_Out} (h : ri_more cs o = some out) (h2 : ∀ z : ri_Out, o = some z → o2 = some (rs_o sx sy z)) : ri_more cs o2 = some (rs_o sx sy out) := by
  cases o with
  | none => cases h
  | some z =>
    rw [h2 z rfl]
    cases h
    rfl
theorem rs_ret {M : ri_M} {i : Instr} {st : List Value} {w : List ri_E} {nc ns fr : Nat} {out : ri_Out} (h : ri_ret M i st w nc ns fr = some out) : ri_ret M i st w (sx + nc) (sy + ns) fr = some (rs_o sx sy out) := by
  unfold ri_ret at h ⊢
  split at h
  all_goals first
    | cases h
    | (split at h
       all_goals first
         | cases h
         | (obtain ⟨hb, h2⟩ := ri_ok_eq h
            cases h2
            try dsimp only
            rw [hb]
            rfl))
theorem rs_back_ok (hR : rs_le sx sy f) {d bud : Nat} {M : ri_M} {nxt : List ri_Op} {pc : Nat} {lv : ri_L} {rest : List Value} {nc ns : Nat} {o : Option ri_Out} {o2 : Option ri_Out} {out : ri_Out} (h : ri_back f d bud M nxt pc lv rest nc ns o = some out) (h2 : ∀ z : ri_Out, o = some z → o2 = some z) : ri_back f d bud M nxt pc lv rest (sx + nc) (sy + ns) o2 = some (rs_o sx sy out) := by
  unfold ri_back at h
  split at h
  · rw [h2 _ rfl]
    exact rs_more_eq h (fun z hz => hR _ _ _ _ _ _ _ _ _ _ _ _ hz _ _ (by omega) (by omega))
  · rw [h2 _ rfl]
    cases h
    simp [rs_o, ri_back, Nat.add_assoc]
  · cases h
theorem rs_caught_ok (hR : rs_le sx sy f) {d bud : Nat} {M : ri_M} {lv : ri_L} {w : List ri_E} {nc ns fr : Nat} {cs : List ri_Cd} {os : List ri_Op} {out : ri_Out} (h : ri_caught f d bud M lv w nc ns fr cs os = some out) : ri_caught f d bud M lv w (sx + nc) (sy + ns) fr cs os = some (rs_o sx sy out) := by
  unfold ri_caught at h
  unfold ri_caught
  split at h
  · rename_i oh nx2
    try dsimp only
    split at h
    · rename_i k hk
      try rw [hk]
      try dsimp only
      obtain ⟨hb, h2⟩ := ri_ok_eq h
      rw [hb]
      exact rs_more_eq h2 (fun z hz => hR _ _ _ _ _ _ _ _ _ _ _ _ hz _ _ (by omega) (by omega))
    · rename_i k hk
      try rw [hk]
      try dsimp only
      obtain ⟨hb, h2⟩ := ri_ok_eq h
      rw [hb]
      exact rs_more_eq h2 (fun z hz => hR _ _ _ _ _ _ _ _ _ _ _ _ hz _ _ (by omega) (by omega))
    · cases h
  · cases h
theorem rs_backH_ok (hR : rs_le sx sy f) {d bud : Nat} {M : ri_M} {nxt : List ri_Op} {pc : Nat} {lv : ri_L} {rest : List Value} {nc ns : Nat} {hs : List Nat} {o : Option ri_Out} {o2 : Option ri_Out} {out : ri_Out} (h : ri_backH al f d bud M nxt pc lv rest nc ns hs o = some out) (h2 : ∀ z : ri_Out, o = some z → o2 = some z) : ri_backH al f d bud M nxt pc lv rest (sx + nc) (sy + ns) hs o2 = some (rs_o sx sy out) := by
  unfold ri_backH at h
  split at h
  · rw [h2 _ rfl]
    exact rs_more_eq h (fun z hz => hR _ _ _ _ _ _ _ _ _ _ _ _ hz _ _ (by omega) (by omega))
  · rename_i x w2 nc2 ns2 cs fr2
    rw [h2 _ rfl]
    obtain ⟨hb, h3⟩ := ri_ok_eq h
    show ri_ok (!al w2.length) (match ri_nth hs x with
      | some t => ri_caught f d bud M lv w2 (sx + nc + nc2) (sy + ns + ns2) fr2 cs (ri_drop M.2.2.2.2.2 t)
      | none => none) = some (rs_o sx sy out)
    rw [hb]
    cases hx : ri_nth hs x with
    | none => rw [hx] at h3; cases h3
    | some t =>
      rw [hx] at h3
      have h4 := rs_caught_ok hR h3
      rw [← Nat.add_assoc, ← Nat.add_assoc] at h4
      exact h4
  · cases h
theorem rs_call_ok (hR : rs_le sx sy f) {d bud : Nat} {M : ri_M} {nxt : List ri_Op} {pc : Nat} {lv : ri_L} {st : List Value} {w : List ri_E} {nc ns fr a b : Nat} {ts : List Nat} {out : ri_Out} (h : ri_call Ms al f d bud M nxt pc lv st w nc ns fr a b ts = some out) : ri_call Ms al f d bud M nxt pc lv st w (sx + nc) (sy + ns) fr a b ts = some (rs_o sx sy out) := by
  unfold ri_call at h
  unfold ri_call
  cases hM : ri_nth Ms a with
  | none => rw [hM] at h; cases h
  | some M2 =>
    rw [hM] at h
    try dsimp only at h ⊢
    cases hs : ri_split M2.2.2.2.2.1 [] st with
    | none => rw [hs] at h; cases h
    | some As =>
      obtain ⟨As, rest⟩ := As
      rw [hs] at h
      try dsimp only at h ⊢
      split at h
      · split at h
        · rename_i q rest2
          try dsimp only
          cases hq : ri_nth w q with
          | none => rw [hq] at h; cases h
          | some x =>
            rw [hq] at h
            cases x with
            | inl o => cases h
            | inr o =>
              obtain ⟨hb, h2⟩ := ri_ok_eq h
              refine (congrArg (fun z9 => ri_ok z9 _) hb).trans ?_
              exact rs_back_ok hR h2 (fun z hz => hz)
        · cases h
      · exact rs_back_ok hR h (fun z hz => hz)
      · split at h
        · exact rs_back_ok hR h (fun z hz => hz)
        · cases h
      · split at h
        · exact rs_back_ok hR h (fun z hz => hz)
        · cases h
      · exact rs_back_ok hR h (fun z hz => hz)
      · split at h
        · rename_i q rest2
          try dsimp only
          cases hq : ri_nth w q with
          | none => rw [hq] at h; cases h
          | some x =>
            rw [hq] at h
            cases x with
            | inl o => cases h
            | inr o =>
              try dsimp only at h
              split at h
              · rename_i t hs9
                obtain ⟨hb, h2⟩ := ri_ok_eq h
                show ri_ok (Nat.beq o.1 t) (ri_backH al f d bud M nxt pc lv rest2 (sx + nc) (sy + ns) hs9 (ri_enter f d bud M2 (.ref q :: As) rest2 w fr)) = some (rs_o sx sy out)
                rw [hb]
                exact rs_backH_ok hR h2 (fun z hz => hz)
              · cases h
        · cases h
      · exact rs_back_ok hR h (fun z hz => hz)
      · split at h
        · rename_i q rest2
          obtain ⟨hb, h2⟩ := ri_ok_eq h
          show ri_ok (Nat.ble 1000001 q && Nat.blt q 1000065) (ri_back f d bud M nxt pc lv rest2 (sx + nc) (sy + ns) (ri_enter f d bud M2 (.ref q :: As) rest2 w fr)) = some (rs_o sx sy out)
          rw [hb]
          exact rs_back_ok hR h2 (fun z hz => hz)
        · cases h
      · obtain ⟨hb, h2⟩ := ri_ok_eq h
        refine (congrArg (fun z9 => ri_ok z9 _) hb).trans ?_
        exact rs_back_ok hR h2 (fun z hz => hz)
      · cases h
set_option maxHeartbeats 2000000 in
theorem rs_exec_ok (hR : rs_le sx sy f) {d bud : Nat} {M : ri_M} {nxt : List ri_Op} {lv : ri_L} {st : List Value} {w : List ri_E} {nc ns fr pc κ : Nat} {i : Instr} {a b : Nat} {v : Value} {ts : List Nat} {out : ri_Out} (h : ri_exec Ms ty df tyL exl xs L al orc f d bud M nxt lv st w nc ns fr pc κ i a b v ts = some out) : ri_exec Ms ty df tyL exl xs L al orc f d bud M nxt lv st w (sx + nc) (sy + ns) fr pc κ i a b v ts = some (rs_o sx sy out) := by
  have go : ∀ {d bud : Nat} {M : ri_M} {cur : List ri_Op} {pc : Nat} {lv : ri_L} {st : List Value} {w : List ri_E} {nc ns fr m1 m2 : Nat} {out : ri_Out}, f d bud M cur pc lv st w nc ns fr = some out → m1 = sx + nc → m2 = sy + ns → f d bud M cur pc lv st w m1 m2 fr = some (rs_o sx sy out) := fun h e1 e2 => hR _ _ _ _ _ _ _ _ _ _ _ _ h _ _ e1 e2
  match κ, h with
  | 0, h =>
    cases hz : ri_pure M.2.2.1 i pc lv st with
    | none =>
      have h2 : False := by first | (unfold ri_exec at h; simp only [hz] at h; cases h) | (simp [ri_exec, hz] at h)
      exact h2.elim
    | some z =>
      unfold ri_exec at h ⊢
      simp only [hz] at h ⊢
      exact go h (by omega) (by omega)
  | 1, h =>
    cases hz : ri_getf a b st w with
    | none =>
      have h2 : False := by first | (unfold ri_exec at h; simp only [hz] at h; cases h) | (simp [ri_exec, hz] at h)
      exact h2.elim
    | some z =>
      unfold ri_exec at h ⊢
      simp only [hz] at h ⊢
      exact go h (by omega) (by omega)
  | 2, h =>
    cases hz : ri_putf (ty a b) a b st w with
    | none =>
      have h2 : False := by first | (unfold ri_exec at h; simp only [hz] at h; cases h) | (simp [ri_exec, hz] at h)
      exact h2.elim
    | some z =>
      unfold ri_exec at h ⊢
      simp only [hz] at h ⊢
      exact go h (by omega) (by omega)
  | 3, h => exact go h (by omega) (by omega)
  | 4, h => exact rs_call_ok hR h
  | 5, h =>
    cases hz : ri_ald tyL ri_tI st w with
    | none =>
      have h2 : False := by first | (unfold ri_exec at h; simp only [hz] at h; cases h) | (simp [ri_exec, hz] at h)
      exact h2.elim
    | some z =>
      unfold ri_exec at h ⊢
      simp only [hz] at h ⊢
      exact go h (by omega) (by omega)
  | 6, h =>
    cases hz : ri_ast tyL ri_gI st w with
    | none =>
      have h2 : False := by first | (unfold ri_exec at h; simp only [hz] at h; cases h) | (simp [ri_exec, hz] at h)
      exact h2.elim
    | some z =>
      unfold ri_exec at h ⊢
      simp only [hz] at h ⊢
      exact go h (by omega) (by omega)
  | 7, h =>
    cases hz : ri_ald tyL ri_tL st w with
    | none =>
      have h2 : False := by first | (unfold ri_exec at h; simp only [hz] at h; cases h) | (simp [ri_exec, hz] at h)
      exact h2.elim
    | some z =>
      unfold ri_exec at h ⊢
      simp only [hz] at h ⊢
      exact go h (by omega) (by omega)
  | 8, h =>
    cases hz : ri_ast tyL ri_gL st w with
    | none =>
      have h2 : False := by first | (unfold ri_exec at h; simp only [hz] at h; cases h) | (simp [ri_exec, hz] at h)
      exact h2.elim
    | some z =>
      unfold ri_exec at h ⊢
      simp only [hz] at h ⊢
      exact go h (by omega) (by omega)
  | 9, h =>
    cases hz : ri_ald tyL ri_tD st w with
    | none =>
      have h2 : False := by first | (unfold ri_exec at h; simp only [hz] at h; cases h) | (simp [ri_exec, hz] at h)
      exact h2.elim
    | some z =>
      unfold ri_exec at h ⊢
      simp only [hz] at h ⊢
      exact go h (by omega) (by omega)
  | 10, h =>
    cases hz : ri_ast tyL ri_gD st w with
    | none =>
      have h2 : False := by first | (unfold ri_exec at h; simp only [hz] at h; cases h) | (simp [ri_exec, hz] at h)
      exact h2.elim
    | some z =>
      unfold ri_exec at h ⊢
      simp only [hz] at h ⊢
      exact go h (by omega) (by omega)
  | 11, h =>
    cases hz : ri_ald tyL ri_tA st w with
    | none =>
      have h2 : False := by first | (unfold ri_exec at h; simp only [hz] at h; cases h) | (simp [ri_exec, hz] at h)
      exact h2.elim
    | some z =>
      unfold ri_exec at h ⊢
      simp only [hz] at h ⊢
      exact go h (by omega) (by omega)
  | 12, h =>
    cases hz : ri_ald tyL ri_tB st w with
    | none =>
      have h2 : False := by first | (unfold ri_exec at h; simp only [hz] at h; cases h) | (simp [ri_exec, hz] at h)
      exact h2.elim
    | some z =>
      unfold ri_exec at h ⊢
      simp only [hz] at h ⊢
      exact go h (by omega) (by omega)
  | 13, h =>
    cases hz : ri_ast tyL ri_gB st w with
    | none =>
      have h2 : False := by first | (unfold ri_exec at h; simp only [hz] at h; cases h) | (simp [ri_exec, hz] at h)
      exact h2.elim
    | some z =>
      unfold ri_exec at h ⊢
      simp only [hz] at h ⊢
      exact go h (by omega) (by omega)
  | 14, h =>
    cases hz : ri_aast a b st w with
    | none =>
      have h2 : False := by first | (unfold ri_exec at h; simp only [hz] at h; cases h) | (simp [ri_exec, hz] at h)
      exact h2.elim
    | some z =>
      unfold ri_exec at h ⊢
      simp only [hz] at h ⊢
      exact go h (by omega) (by omega)
  | 15, h =>
    cases hz : ri_alen2 tyL st w with
    | none =>
      have h2 : False := by first | (unfold ri_exec at h; simp only [hz] at h; cases h) | (simp [ri_exec, hz] at h)
      exact h2.elim
    | some z =>
      unfold ri_exec at h ⊢
      simp only [hz] at h ⊢
      exact go h (by omega) (by omega)
  | 16, h => exact rs_ret h
  | 17, h =>
    unfold ri_exec at h ⊢
    try dsimp only at h ⊢
    cases hc : ri_conc a st with
    | true =>
      rw [hc, cond_true] at h
      rw [cond_true]
      cases hz : ri_pure M.2.2.1 i pc lv st with
      | none => rw [hz] at h; cases h
      | some z =>
        rw [hz] at h
        exact go h (by omega) (by omega)
    | false =>
      rw [hc, cond_false] at h
      rw [cond_false]
      cases hz : ri_sym M.2.2.1 (ri_nth orc fr) fr i pc lv st with
      | none => rw [hz] at h; cases h
      | some z =>
        rw [hz] at h
        exact rs_more_eq h (fun z hz => go hz (by omega) (by omega))
  | 18, h =>
    obtain ⟨hb, h2⟩ := ri_ok_eq h
    unfold ri_exec
    try dsimp only
    rw [hb]
    exact go h2 (by omega) (by omega)
  | 19, h =>
    obtain ⟨hb, h2⟩ := ri_ok_eq h
    unfold ri_exec
    try dsimp only
    rw [hb]
    cases hz : ri_newa a v st w with
    | none => rw [hz] at h2; cases h2
    | some z =>
      rw [hz] at h2
      exact go h2 (by omega) (by omega)
  | 20, h =>
    obtain ⟨hb, h2⟩ := ri_ok_eq h
    unfold ri_exec
    try dsimp only
    rw [hb]
    cases hz : ri_newa a .null st w with
    | none => rw [hz] at h2; cases h2
    | some z =>
      rw [hz] at h2
      exact go h2 (by omega) (by omega)
  | 21, h =>
    simp only [ri_exec] at h ⊢
    split at h
    · obtain ⟨hb, h2⟩ := ri_ok_eq h
      try dsimp only
      rw [hb]
      exact go h2 (by omega) (by omega)
    · cases h
  | 22, h =>
    obtain ⟨hb, h2⟩ := ri_ok_eq h
    unfold ri_exec
    try dsimp only
    rw [hb]
    cases hz : ri_acopy tyL bud st w with
    | none => rw [hz] at h2; cases h2
    | some z =>
      rw [hz] at h2
      exact go h2 (by omega) (by omega)
  | 23, h =>
    obtain ⟨hb, h2⟩ := ri_ok_eq h
    cases h2
    unfold ri_exec
    try dsimp only
    rw [hb]
    simp [rs_o, ri_ok, Nat.add_assoc]
  | 24, h =>
    simp only [ri_exec] at h ⊢
    split at h
    · obtain ⟨hb, h2⟩ := ri_ok_eq h
      try dsimp only
      rw [hb]
      exact go h2 (by omega) (by omega)
    · cases h
  | 25, h =>
    simp only [ri_exec] at h ⊢
    split at h
    · obtain ⟨hb, h2⟩ := ri_ok_eq h
      try dsimp only
      rw [hb]
      exact go h2 (by omega) (by omega)
    · cases h
  | 26, h =>
    obtain ⟨hb, h2⟩ := ri_ok_eq h
    unfold ri_exec
    try dsimp only
    rw [hb]
    cases hz : ri_mna a b st w with
    | none => rw [hz] at h2; cases h2
    | some z =>
      rw [hz] at h2
      obtain ⟨hc, h3⟩ := ri_ok_eq h2
      show ri_ok true (ri_ok (Nat.ble z.2.2.2.length 1000000) _) = some (rs_o sx sy out)
      rw [hc]
      exact go h3 (by omega) (by omega)
  | 27, h =>
    unfold ri_exec at h ⊢
    try dsimp only at h ⊢
    cases hc : ri_conc 1 st with
    | true =>
      rw [hc, cond_true] at h
      rw [cond_true]
      cases hz : ri_ast tyL ri_gB st w with
      | none => rw [hz] at h; cases h
      | some z =>
        rw [hz] at h
        exact go h (by omega) (by omega)
    | false =>
      rw [hc, cond_false] at h
      rw [cond_false]
      cases hz : ri_ast tyL (ri_gU fr) st w with
      | none => rw [hz] at h; cases h
      | some z =>
        rw [hz] at h
        exact rs_more_eq h (fun z hz => go hz (by omega) (by omega))
  | 29, h =>
    cases hz : ri_str d bud a st with
    | none =>
      have h2 : False := by first | (unfold ri_exec at h; simp only [hz] at h; cases h) | (simp [ri_exec, hz] at h)
      exact h2.elim
    | some z =>
      unfold ri_exec at h ⊢
      simp only [hz] at h ⊢
      exact go h (by omega) (by omega)
  | 28, h =>
    unfold ri_exec at h ⊢
    try dsimp only at h ⊢
    cases hz : ri_lc tyL a b lv st w with
    | none => rw [hz] at h; cases h
    | some z =>
      rw [hz] at h
      try dsimp only at h ⊢
      cases ho : ri_nth orc fr with
      | none => rw [ho] at h; cases h
      | some o9 =>
        rw [ho] at h
        cases o9 with
        | inr x => cases h
        | inl g9 =>
          try dsimp only at h ⊢
          cases v with
          | ref t => exact rs_more_eq h (fun z hz => go hz (by omega) (by omega))
          | _ => cases h
  | _ + 30, h => cases h
theorem rs_run (sx sy : Nat) : ∀ fuel : Nat, rs_le sx sy (ri_run Ms ty df tyL exl xs L al orc fuel)
  | 0 => fun d bud M cur pc lv st w nc ns fr out h _ _ _ _ => by cases h
  | n + 1 => fun d bud M cur pc lv st w nc ns fr out h m1 m2 e1 e2 => by
    subst e1
    subst e2
    cases cur with
    | nil => cases h
    | cons o nxt =>
      obtain ⟨hb, h2⟩ := ri_ok_eq (b := Nat.beq o.1 pc) h
      show ri_ok (Nat.beq o.1 pc) (ri_exec Ms ty df tyL exl xs L al orc (ri_run Ms ty df tyL exl xs L al orc n) d bud M nxt lv st w (sx + nc) (sy + ns) fr pc o.2.1 o.2.2.1 o.2.2.2.1 o.2.2.2.2.1 o.2.2.2.2.2.1 o.2.2.2.2.2.2) = some (rs_o sx sy out)
      rw [hb]
      exact rs_exec_ok (rs_run sx sy n) h2
end RSE
theorem sy_ev_sh {E : sy_env} {d bud : Nat} {M : ri_M} {cur : List ri_Op} {pc : Nat} {lv : ri_L} {st : List Value} {w : List ri_E} {nc ns fr : Nat} {P : ri_Out → Prop} (sx sy : Nat) (h : sy_Ev E d bud M cur pc lv st w nc ns fr (fun out => P (rs_o sx sy out))) : sy_Ev E d bud M cur pc lv st w (sx + nc) (sy + ns) fr P := by
  obtain ⟨n, out, h1, h2⟩ := h
  exact ⟨n, _, rs_run sx sy n _ _ _ _ _ _ _ _ _ _ _ _ h1 _ _ rfl rfl, h2⟩
