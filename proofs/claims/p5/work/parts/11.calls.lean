/-! ===== the reckoner, part 9: calls ===== -/
theorem ri_more_eq {cs : List ri_Cd} {o : Option ri_Out} {out : ri_Out} (h : ri_more cs o = some out) : ∃ z : ri_Out, o = some z ∧ out = (z.1, z.2.1, z.2.2.1, z.2.2.2.1, cs ++ z.2.2.2.2.1, z.2.2.2.2.2) := by
  cases o with
  | none => cases h
  | some z => exact ⟨z, rfl, (Option.some.inj h).symm⟩
theorem ri_back_eq {f : ri_K} {d bud : Nat} {M : ri_M} {nxt : List ri_Op} {pc : Nat} {lv : ri_L} {rest : List Value} {nc ns : Nat} {o : Option ri_Out} {out : ri_Out} (h : ri_back f d bud M nxt pc lv rest nc ns o = some out) :
    (∃ (r : Option Value) (w2 : List ri_E) (nc2 ns2 : Nat) (cs : List ri_Cd) (fr2 : Nat) (z : ri_Out), o = some (.inl r, w2, nc2, ns2, cs, fr2) ∧ f d bud M nxt (pc + 3) lv (r.toList ++ rest) w2 (nc + nc2) (ns + ns2) fr2 = some z ∧ out = (z.1, z.2.1, z.2.2.1, z.2.2.2.1, cs ++ z.2.2.2.2.1, z.2.2.2.2.2)) ∨
    (∃ (x : Nat) (w2 : List ri_E) (nc2 ns2 : Nat) (cs : List ri_Cd) (fr2 : Nat), o = some (.inr x, w2, nc2, ns2, cs, fr2) ∧ out = (.inr x, w2, nc + nc2, ns + ns2, cs, fr2)) := by
  unfold ri_back at h
  split at h
  · rename_i r w2 nc2 ns2 cs fr2
    obtain ⟨z, h1, h2⟩ := ri_more_eq h
    exact Or.inl ⟨r, w2, nc2, ns2, cs, fr2, z, rfl, h1, h2⟩
  · rename_i x w2 nc2 ns2 cs fr2
    exact Or.inr ⟨x, w2, nc2, ns2, cs, fr2, rfl, (Option.some.inj h).symm⟩
  · cases h
theorem ri_caught_eq {f : ri_K} {d bud : Nat} {M : ri_M} {lv : ri_L} {w : List ri_E} {nc ns fr : Nat} {cs : List ri_Cd} {os : List ri_Op} {out : ri_Out} (h : ri_caught f d bud M lv w nc ns fr cs os = some out) : ∃ (oh : ri_Op) (nx2 : List ri_Op) (k ln : Nat) (z : ri_Out), os = oh :: nx2 ∧ k < M.2.2.1 ∧ ((∃ k4 : Fin 4, oh.2.2.1 = .astore_n k4 ∧ k4.val = k ∧ ln = 1) ∨ (oh.2.2.1 = .astore k ∧ ln = 2)) ∧ f d bud M nx2 (oh.1 + ln) (lv.filter (ri_f1 k)) [] w nc ns fr = some z ∧ out = (z.1, z.2.1, z.2.2.1, z.2.2.2.1, cs ++ z.2.2.2.2.1, z.2.2.2.2.2) := by
  unfold ri_caught at h
  split at h
  · rename_i oh nx2
    split at h
    · rename_i k4 hk
      obtain ⟨h1, h2⟩ := ri_ok_eq h
      obtain ⟨z, h3, h4⟩ := ri_more_eq h2
      exact ⟨oh, nx2, k4.val, 1, z, rfl, Nat.le_of_ble_eq_true h1, Or.inl ⟨k4, hk, rfl, rfl⟩, h3, h4⟩
    · rename_i k hk
      obtain ⟨h1, h2⟩ := ri_ok_eq h
      obtain ⟨z, h3, h4⟩ := ri_more_eq h2
      exact ⟨oh, nx2, k, 2, z, rfl, Nat.le_of_ble_eq_true h1, Or.inr ⟨hk, rfl⟩, h3, h4⟩
    · cases h
  · cases h
theorem ri_backH_eq {al : Nat → Bool} {f : ri_K} {d bud : Nat} {M : ri_M} {nxt : List ri_Op} {pc : Nat} {lv : ri_L} {rest : List Value} {nc ns : Nat} {hs : List Nat} {o : Option ri_Out} {out : ri_Out} (h : ri_backH al f d bud M nxt pc lv rest nc ns hs o = some out) :
    (∃ (r : Option Value) (w2 : List ri_E) (nc2 ns2 : Nat) (cs : List ri_Cd) (fr2 : Nat) (z : ri_Out), o = some (.inl r, w2, nc2, ns2, cs, fr2) ∧ f d bud M nxt (pc + 3) lv (r.toList ++ rest) w2 (nc + nc2) (ns + ns2) fr2 = some z ∧ out = (z.1, z.2.1, z.2.2.1, z.2.2.2.1, cs ++ z.2.2.2.2.1, z.2.2.2.2.2)) ∨
    (∃ (x : Nat) (w2 : List ri_E) (nc2 ns2 : Nat) (cs : List ri_Cd) (fr2 t : Nat), al w2.length = false ∧ o = some (.inr x, w2, nc2, ns2, cs, fr2) ∧ hs[x]? = some t ∧ ri_caught f d bud M lv w2 (nc + nc2) (ns + ns2) fr2 cs (M.2.2.2.2.2.drop t) = some out) := by
  unfold ri_backH at h
  split at h
  · rename_i r w2 nc2 ns2 cs fr2
    obtain ⟨z, h1, h2⟩ := ri_more_eq h
    exact Or.inl ⟨r, w2, nc2, ns2, cs, fr2, z, rfl, h1, h2⟩
  · rename_i x w2 nc2 ns2 cs fr2
    obtain ⟨ha, h9⟩ := ri_ok_eq h
    split at h9
    · rename_i t ht
      rw [ri_nth_eq] at ht
      rw [ri_drop_eq] at h9
      exact Or.inr ⟨x, w2, nc2, ns2, cs, fr2, t, by simpa using ha, rfl, ht, h9⟩
    · cases h9
  · cases h
theorem ri_enter_eq {f : ri_K} {d bud : Nat} {M : ri_M} {vals rest : List Value} {w : List ri_E} {fr : Nat} {o : ri_Out} (h : ri_enter f d bud M vals rest w fr = some o) : 1 ≤ d ∧ 19 + M.2.2.1 ≤ bud ∧ ri_cat rest ≤ 8 ∧ (lg_sl vals).length ≤ M.2.2.1 ∧ f (d - 1) (bud - (19 + M.2.2.1)) M M.2.2.2.2.2 0 (lv_args 0 vals) [] w 0 0 fr = some o := by
  obtain ⟨hb, h2⟩ := ri_ok_eq h
  simp only [Bool.and_eq_true] at hb
  obtain ⟨b1, b2, b3, b4⟩ := hb
  exact ⟨Nat.le_of_ble_eq_true b1, Nat.le_of_ble_eq_true b2, Nat.le_of_ble_eq_true b3, Nat.le_of_ble_eq_true b4, h2⟩
section RIC
variable {WG : List Jvm.Cond} {hh : MethodName → List (Nat × Nat × Nat × Nat)} {NW : List ri_N} {CW : List ri_C9} {NC : List (String × String)} {AO : List FieldType} {cl : List vw_C} {Ms : List ri_M} {ty : Nat → Nat → FieldType} {df : Nat → List Value} {tyL : List FieldType} {exl : Nat → Nat} {exn : Nat → String} {xs : Nat → Value} {L : Nat} {al : Nat → Bool} {orc : List (Bool ⊕ Int32)} {D : va_G} {ad : Nat → Nat} {cA : Nat → ClassId}
theorem ri_good (hg : ∀ w ∈ WG, goodWord w = true) {x : Jvm.Cond} (hx : x ∈ WG) : GoodIn WG (x :: WG) := fun w hw => (List.mem_cons.mp hw).elim (fun e => by subst e; exact ⟨hx, good_of_word (hg _ hx)⟩) (fun h => ⟨h, good_of_word (hg w h)⟩)
theorem ri_back_mono {l : Launch} {f : ri_K} (hF : ri_Snd WG hh NW CW NC AO cl Ms tyL exn xs L al D ad cA l f) {d bud : Nat} {M M2 : ri_M} {nxt : List ri_Op} {pc : Nat} {lv : ri_L} {vals rest : List Value} {w : List ri_E} {nc ns fr : Nat} {out : ri_Out} (h : ri_back f d bud M nxt pc lv rest nc ns (ri_enter f d bud M2 vals rest w fr) = some out) : nc ≤ out.2.2.1 ∧ ns ≤ out.2.2.2.1 ∧ (w.length ≤ 1000000 → out.2.1.length ≤ 1000000) := by
  rcases ri_back_eq h with ⟨r, w2, nc2, ns2, cs, fr2, z, h0, h1, rfl⟩ | ⟨x, w2, nc2, ns2, cs, fr2, h0, rfl⟩
  · obtain ⟨g1, g2, g3, g4, g5⟩ := ri_enter_eq h0
    have k1 := (hF _ _ _ _ _ _ _ _ _ _ _ _ h1).1
    have k2 := (hF _ _ _ _ _ _ _ _ _ _ _ _ g5).1
    exact ⟨by have := k1.1; show nc ≤ z.2.2.1; omega, by have := k1.2.1; show ns ≤ z.2.2.2.1; omega, fun hw => k1.2.2 (k2.2.2 hw)⟩
  · obtain ⟨g1, g2, g3, g4, g5⟩ := ri_enter_eq h0
    exact ⟨Nat.le_add_right _ _, Nat.le_add_right _ _, (hF _ _ _ _ _ _ _ _ _ _ _ _ g5).1.2.2⟩
theorem ri_backH_mono {l : Launch} {f : ri_K} (hF : ri_Snd WG hh NW CW NC AO cl Ms tyL exn xs L al D ad cA l f) {d bud : Nat} {M M2 : ri_M} {nxt : List ri_Op} {pc : Nat} {lv : ri_L} {vals rest : List Value} {w : List ri_E} {nc ns fr : Nat} {hs : List Nat} {out : ri_Out} (h : ri_backH al f d bud M nxt pc lv rest nc ns hs (ri_enter f d bud M2 vals rest w fr) = some out) : nc ≤ out.2.2.1 ∧ ns ≤ out.2.2.2.1 ∧ (w.length ≤ 1000000 → out.2.1.length ≤ 1000000) := by
  rcases ri_backH_eq h with ⟨r, w2, nc2, ns2, cs, fr2, z, h0, h1, rfl⟩ | ⟨x, w2, nc2, ns2, cs, fr2, t, hal, h0, ht, h1⟩
  · obtain ⟨g1, g2, g3, g4, g5⟩ := ri_enter_eq h0
    have k1 := (hF _ _ _ _ _ _ _ _ _ _ _ _ h1).1
    have k2 := (hF _ _ _ _ _ _ _ _ _ _ _ _ g5).1
    exact ⟨by have := k1.1; show nc ≤ z.2.2.1; omega, by have := k1.2.1; show ns ≤ z.2.2.2.1; omega, fun hw => k1.2.2 (k2.2.2 hw)⟩
  · obtain ⟨g1, g2, g3, g4, g5⟩ := ri_enter_eq h0
    obtain ⟨oh, nx2, k, ln, z, -, -, -, h2, rfl⟩ := ri_caught_eq h1
    have k1 := (hF _ _ _ _ _ _ _ _ _ _ _ _ h2).1
    have k2 := (hF _ _ _ _ _ _ _ _ _ _ _ _ g5).1
    exact ⟨by have := k1.1; show nc ≤ z.2.2.1; omega, by have := k1.2.1; show ns ≤ z.2.2.2.1; omega, fun hw => k1.2.2 (k2.2.2 hw)⟩
section
variable {p : Program} {l : Launch} {e : Env} {R : Room} {s : State} {m : MethodId} {args : Array Value} {below : List Frame} {meth : Method} {c : Code} {H : Heap} {locs : List Loc} {Q : State → Prop}
/-- a call, with whatever row of the kit runs it -/
theorem ri_call_W {f : ri_K} (hF : ri_Snd WG hh NW CW NC AO cl Ms tyL exn xs L al D ad cA l f) {d bud : Nat} {M M2 : ri_M} {nxt : List ri_Op} {pc nc ns fr y : Nat} {lv : ri_L} {vals rest st0 : List Value} {w : List ri_E} {ls : Array Slot} {out : ri_Out}
    (h : ri_back f d bud M nxt pc lv rest nc ns (ri_enter f d bud M2 vals rest w fr) = some out) (hM2 : Ms[y]? = some M2) {cw9 : Jvm.Cond} (mk : ∀ o2 : ri_Out, f (d - 1) (bud - (19 + M2.2.2.1)) M2 M2.2.2.2.2.2 0 (lv_args 0 vals) [] w 0 0 fr = some o2 → (∀ x ∈ o2.2.2.2.2.1, ri_sem ad x) → (lg_sl vals).length ≤ M2.2.2.1 → vx_Met l M2.1 (cw9 :: WG) ({ frames := d - 1, cells := o2.2.2.1, slots := o2.2.2.2.1, locals := bud - (19 + M2.2.2.1) }) (ri_Pc NW CW NC AO cl tyL al D ad cA vals w) (ri_Qc cl al D ad cA o2) (ri_XC cl exn D ad cA o2) o2.2.2.1 o2.2.2.2.1 (ri_A ad)) (hM0 : hh M.1 = [])
    (hcs : ∀ x ∈ out.2.2.2.2.1, ri_sem ad x) (hM : ∃ y : Nat, Ms[y]? = some M) (hcur : ∀ o ∈ nxt, o ∈ M.2.2.2.2.2) (hw9 : w.length ≤ 1000000) (hfr : ri_Fr WG hh NW CW NC AO cl tyL xs L D ad cA M p s m args meth c) (hS : va_S (ri_A ad) s.heap H locs) (hdR : d ≤ R.frames) (hbR : bud ≤ R.locals) (hcR : out.2.2.1 ≤ R.cells) (hsR : out.2.2.2.1 ≤ R.slots) (hl : lv_has ls M.2.2.1 (ri_lr ad lv))
    (hret : ∀ r : Option Value, out.1 = .inl r → ∀ (H1 : Heap) (locs1 : List Loc) (ls1 : Array Slot) (pc1 : Nat), ri_P D cl ad cA out.2.1 H1 → va_S (ri_A ad) s.heap H1 locs1 → (al out.2.1.length = true → ri_nx ad out.2.1.length H1.size) → ri_isret M.2.1 pc1 M.2.2.2.1 r → W p l e R s m args below meth c H1 locs1 out.2.2.1 out.2.2.2.1 Q (F0 m pc1 ls1 (r.toList.map (ri_v ad))))
    (hthr : ∀ x : Nat, out.1 = .inr x → ∃ (Qc : Array Value → State → Outcome → State → Prop) (XC : String → State → State → Prop), Q = vx_MQ below Qc XC args s out.2.2.1 out.2.2.2.1 (ri_A ad) ∧ ∀ t : State, s.vm.Alike t.vm → ri_P D cl ad cA out.2.1 t.heap → va_F (ri_A ad) s t → XC (exn x) s t)
    (runner : ∀ (o2 : ri_Out) (rm : Room), vx_Met l M2.1 (cw9 :: WG) rm (ri_Pc NW CW NC AO cl tyL al D ad cA vals w) (ri_Qc cl al D ad cA o2) (ri_XC cl exn D ad cA o2) o2.2.2.1 o2.2.2.2.1 (ri_A ad) → rm.cells = o2.2.2.1 → rm.slots = o2.2.2.2.1 → rm.frames + 1 ≤ R.frames ∧ 8 + (M2.2.2.1 + 11) + rm.locals ≤ R.locals → ri_cat rest ≤ 8 → nc + o2.2.2.1 ≤ R.cells ∧ ns + o2.2.2.2.1 ≤ R.slots →
      vx_Run p l e R s m args below meth c H locs nc ns o2.2.2.1 o2.2.2.2.1 (F0 m pc ls st0) (rest.map (ri_v ad)) (ri_Qc cl al D ad cA o2 (vals.map (ri_v ad)).toArray) (ri_XC cl exn D ad cA o2) (ri_A ad)) :
    W p l e R s m args below meth c H locs nc ns Q (F0 m pc ls st0) := by
  obtain ⟨hx, hb, hml, hown, hname, hr, hlocks, hnt, hts, hK, hsc⟩ := id hfr
  rcases ri_back_eq h with ⟨r, w2, nc2, ns2, cs, fr2, z, h1, h2, rfl⟩ | ⟨x, w2, nc2, ns2, cs, fr2, h1, rfl⟩
  · obtain ⟨g1, g2, g3, g4, g5⟩ := ri_enter_eq h1
    have hmono := (hF _ _ _ _ _ _ _ _ _ _ _ _ h2).1
    have hcs2 : ∀ x ∈ cs, ri_sem ad x := fun x hx => hcs x (List.mem_append_left _ hx)
    have hMet := mk _ g5 hcs2 g4
    have hlen2 := (hF _ _ _ _ _ _ _ _ _ _ _ _ g5).1.2.2 hw9
    refine ri_called (runner _ _ hMet rfl rfl ⟨by show d - 1 + 1 ≤ R.frames; omega, by show 8 + (M2.2.2.1 + 11) + (bud - (19 + M2.2.2.1)) ≤ R.locals; omega⟩ g3 ⟨Nat.le_trans hmono.1 hcR, Nat.le_trans hmono.2.1 hsR⟩) hS (fun r9 H1 locs1 hr9 hP1 hn1 hS1 => ?_) (fun x9 q ce H1 locs1 hx9 => by cases hx9)
    cases hr9
    have k := (hF _ _ _ _ _ _ _ _ _ _ _ _ h2).2 (fun x hx => hcs x (List.mem_append_right _ hx)) hM hcur hlen2 p e R s m args below meth c H1 locs1 ls Q hfr hP1 hS1 hn1 hdR hbR hcR hsR hl hret hthr
    have e9 : (r.map (ri_v ad)).toList ++ rest.map (ri_v ad) = (r.toList ++ rest).map (ri_v ad) := by cases r <;> rfl
    rw [e9]
    exact k
  · obtain ⟨g1, g2, g3, g4, g5⟩ := ri_enter_eq h1
    have hMet := mk _ g5 hcs g4
    refine ri_called (runner _ _ hMet rfl rfl ⟨by show d - 1 + 1 ≤ R.frames; omega, by show 8 + (M2.2.2.1 + 11) + (bud - (19 + M2.2.2.1)) ≤ R.locals; omega⟩ g3 ⟨hcR, hsR⟩) hS (fun r9 H1 locs1 hr9 => by cases hr9) (fun x9 q ce H1 locs1 hx9 hP1 hS1 hce hcv hcl => ?_)
    cases hx9
    obtain ⟨Qc, XC, rfl, hXC⟩ := hthr x rfl
    exact vx_out (fun z hz => by rw [hnt, hM0] at hz; cases hz) hlocks hce hcv hcl (fun t ht hvm => hXC t hvm (by rw [ht]; exact hP1) (hS1.F ht)) hS1.2.2 (Nat.le_refl _) (Nat.le_refl _)
/-- a call where handlers stand -/
theorem ri_call_WH {f : ri_K} (hF : ri_Snd WG hh NW CW NC AO cl Ms tyL exn xs L al D ad cA l f) {d bud : Nat} {M M2 : ri_M} {nxt : List ri_Op} {pc nc ns fr y : Nat} {hs : List Nat} {lv : ri_L} {vals rest st0 : List Value} {w : List ri_E} {ls : Array Slot} {out : ri_Out}
    (h : ri_backH al f d bud M nxt pc lv rest nc ns hs (ri_enter f d bud M2 vals rest w fr) = some out) (hM2 : Ms[y]? = some M2) {cw9 : Jvm.Cond} (mk : ∀ o2 : ri_Out, f (d - 1) (bud - (19 + M2.2.2.1)) M2 M2.2.2.2.2.2 0 (lv_args 0 vals) [] w 0 0 fr = some o2 → (∀ x ∈ o2.2.2.2.2.1, ri_sem ad x) → (lg_sl vals).length ≤ M2.2.2.1 → vx_Met l M2.1 (cw9 :: WG) ({ frames := d - 1, cells := o2.2.2.1, slots := o2.2.2.2.1, locals := bud - (19 + M2.2.2.1) }) (ri_Pc NW CW NC AO cl tyL al D ad cA vals w) (ri_Qc cl al D ad cA o2) (ri_XC cl exn D ad cA o2) o2.2.2.1 o2.2.2.2.1 (ri_A ad)) (hhl : ri_hlink WG hh CW NC exn M pc hs) (hops : ∀ o ∈ M.2.2.2.2.2, ∃ len : Nat, decode M.2.1 o.1 = .ok (o.2.2.1, len) ∧ (ri_len o.2.2.1 = 0 ∨ ri_len o.2.2.1 = len))
    (hcs : ∀ x ∈ out.2.2.2.2.1, ri_sem ad x) (hM : ∃ y : Nat, Ms[y]? = some M) (hcur : ∀ o ∈ nxt, o ∈ M.2.2.2.2.2) (hw9 : w.length ≤ 1000000) (hfr : ri_Fr WG hh NW CW NC AO cl tyL xs L D ad cA M p s m args meth c) (hS : va_S (ri_A ad) s.heap H locs) (hdR : d ≤ R.frames) (hbR : bud ≤ R.locals) (hcR : out.2.2.1 ≤ R.cells) (hsR : out.2.2.2.1 ≤ R.slots) (hl : lv_has ls M.2.2.1 (ri_lr ad lv))
    (hret : ∀ r : Option Value, out.1 = .inl r → ∀ (H1 : Heap) (locs1 : List Loc) (ls1 : Array Slot) (pc1 : Nat), ri_P D cl ad cA out.2.1 H1 → va_S (ri_A ad) s.heap H1 locs1 → (al out.2.1.length = true → ri_nx ad out.2.1.length H1.size) → ri_isret M.2.1 pc1 M.2.2.2.1 r → W p l e R s m args below meth c H1 locs1 out.2.2.1 out.2.2.2.1 Q (F0 m pc1 ls1 (r.toList.map (ri_v ad))))
    (hthr : ∀ x : Nat, out.1 = .inr x → ∃ (Qc : Array Value → State → Outcome → State → Prop) (XC : String → State → State → Prop), Q = vx_MQ below Qc XC args s out.2.2.1 out.2.2.2.1 (ri_A ad) ∧ ∀ t : State, s.vm.Alike t.vm → ri_P D cl ad cA out.2.1 t.heap → va_F (ri_A ad) s t → XC (exn x) s t)
    (runner : ∀ (o2 : ri_Out) (rm : Room), vx_Met l M2.1 (cw9 :: WG) rm (ri_Pc NW CW NC AO cl tyL al D ad cA vals w) (ri_Qc cl al D ad cA o2) (ri_XC cl exn D ad cA o2) o2.2.2.1 o2.2.2.2.1 (ri_A ad) → rm.cells = o2.2.2.1 → rm.slots = o2.2.2.2.1 → rm.frames + 1 ≤ R.frames ∧ 8 + (M2.2.2.1 + 11) + rm.locals ≤ R.locals → ri_cat rest ≤ 8 → nc + o2.2.2.1 ≤ R.cells ∧ ns + o2.2.2.2.1 ≤ R.slots →
      vx_Run p l e R s m args below meth c H locs nc ns o2.2.2.1 o2.2.2.2.1 (F0 m pc ls st0) (rest.map (ri_v ad)) (ri_Qc cl al D ad cA o2 (vals.map (ri_v ad)).toArray) (ri_XC cl exn D ad cA o2) (ri_A ad)) :
    W p l e R s m args below meth c H locs nc ns Q (F0 m pc ls st0) := by
  obtain ⟨hx, hb, hml, hown, hname, hr, hlocks, hnt, hts, hK, hsc⟩ := id hfr
  rcases ri_backH_eq h with ⟨r, w2, nc2, ns2, cs, fr2, z, h1, h2, rfl⟩ | ⟨x, w2, nc2, ns2, cs, fr2, t, hal, h1, ht, h2⟩
  · obtain ⟨g1, g2, g3, g4, g5⟩ := ri_enter_eq h1
    have hmono := (hF _ _ _ _ _ _ _ _ _ _ _ _ h2).1
    have hcs2 : ∀ x ∈ cs, ri_sem ad x := fun x hx => hcs x (List.mem_append_left _ hx)
    have hMet := mk _ g5 hcs2 g4
    have hlen2 := (hF _ _ _ _ _ _ _ _ _ _ _ _ g5).1.2.2 hw9
    refine ri_called (runner _ _ hMet rfl rfl ⟨by show d - 1 + 1 ≤ R.frames; omega, by show 8 + (M2.2.2.1 + 11) + (bud - (19 + M2.2.2.1)) ≤ R.locals; omega⟩ g3 ⟨Nat.le_trans hmono.1 hcR, Nat.le_trans hmono.2.1 hsR⟩) hS (fun r9 H1 locs1 hr9 hP1 hn1 hS1 => ?_) (fun x9 q ce H1 locs1 hx9 => by cases hx9)
    cases hr9
    have k := (hF _ _ _ _ _ _ _ _ _ _ _ _ h2).2 (fun x hx => hcs x (List.mem_append_right _ hx)) hM hcur hlen2 p e R s m args below meth c H1 locs1 ls Q hfr hP1 hS1 hn1 hdR hbR hcR hsR hl hret hthr
    have e9 : (r.map (ri_v ad)).toList ++ rest.map (ri_v ad) = (r.toList ++ rest).map (ri_v ad) := by cases r <;> rfl
    rw [e9]
    exact k
  · obtain ⟨g1, g2, g3, g4, g5⟩ := ri_enter_eq h1
    obtain ⟨oh, nx2, k, ln, z, e1, hk, hins, h3, rfl⟩ := ri_caught_eq h2
    have hmono := (hF _ _ _ _ _ _ _ _ _ _ _ _ h3).1
    have hcs2 : ∀ x ∈ cs, ri_sem ad x := fun x hx => hcs x (List.mem_append_left _ hx)
    have hMet := mk _ g5 hcs2 g4
    have hlen2 := (hF _ _ _ _ _ _ _ _ _ _ _ _ g5).1.2.2 hw9
    have hmem : ∀ o ∈ oh :: nx2, o ∈ M.2.2.2.2.2 := fun o ho => List.mem_of_mem_drop (by rw [e1]; exact ho)
    refine ri_called (runner _ _ hMet rfl rfl ⟨by show d - 1 + 1 ≤ R.frames; omega, by show 8 + (M2.2.2.1 + 11) + (bud - (19 + M2.2.2.1)) ≤ R.locals; omega⟩ g3 ⟨Nat.le_trans hmono.1 hcR, Nat.le_trans hmono.2.1 hsR⟩) hS (fun r9 H1 locs1 hr9 => by cases hr9) (fun x9 q ce H1 locs1 hx9 hP1 hS1 hce hcv hcl => ?_)
    cases hx9
    obtain ⟨pre, z9, suf, t1, t2, t3, t4, ⟨nm, t5, t6⟩, t7⟩ := hhl x t oh nx2 ht e1
    refine vx_catch hown pre z9 suf (hnt.trans t1) (fun y hy => (t7 y hy).imp (fun q => q) (fun ⟨q1, nm2, q2, q3⟩ => ⟨q1, nm2, hts _ q2, hK.2.2.2.1 _ q3⟩)) t3 t4 (hts _ t5) (va_Nw.use (ri_cw_on (Sum.inl (exn x, nm))) (hK.2.2.1 _ t6)) hce hcv hcl ?_
    rw [t2]
    obtain ⟨len, hd, hlen⟩ := hops oh (hmem _ List.mem_cons_self)
    have kk : ∀ ls2 : Array Slot, lv_has ls2 M.2.2.1 ((k, .ref q) :: (ri_lr ad lv).filter (fun q => !(q.1 == k) && !(q.1 + 1 == k && q.2.category == 2))) → W p l e R s m args below meth c H1 locs1 (nc + nc2) (ns + ns2) Q (F0 m (oh.1 + ln) ls2 []) := fun ls2 hl2 => by
      have hl3 : lv_has ls2 M.2.2.1 (ri_lr ad (lv.filter (ri_f1 k))) := by
        rw [← ri_filter (ad := ad) (f := ri_f1 k) (fun q => by unfold ri_f1; rw [ri_v_cat]) lv]
        exact ⟨hl2.1, hl2.2.1, fun q hq => hl2.2.2 q (List.mem_cons_of_mem _ hq)⟩
      exact (hF _ _ _ _ _ _ _ _ _ _ _ _ h3).2 (fun x hx => hcs x (List.mem_append_right _ hx)) hM (fun o ho => hmem o (List.mem_cons_of_mem _ ho)) hlen2 p e R s m args below meth c H1 locs1 ls2 Q hfr hP1 hS1 (fun g => by rw [hal] at g; cases g) hdR hbR hcR hsR hl3 hret hthr
    rcases hins with ⟨k4, i1, i2, rfl⟩ | ⟨i1, rfl⟩
    · rw [i1] at hd hlen
      cases (hlen.resolve_left (fun q => by cases q) : 1 = len)
      exact lv_astore_n hx hb hd i2 hl hk rfl kk
    · rw [i1] at hd hlen
      cases (hlen.resolve_left (fun q => by cases q) : 2 = len)
      exact lv_astore hx hb hd hl hk rfl kk
end
end RIC
