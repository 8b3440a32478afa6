/-! ===== the reckoner, part 9: calls ===== -/
theorem ri_more_eq {cs : List ri_Cd} {o : Option ri_Out} {out : ri_Out} (h : ri_more cs o = some out) : ∃ z : ri_Out, o = some z ∧ out = (z.1, z.2.1, z.2.2.1, z.2.2.2.1, cs ++ z.2.2.2.2.1, z.2.2.2.2.2) := by
  cases o with
  | none => cases h
  | some z => exact ⟨z, rfl, (Option.some.inj h).symm⟩
theorem ri_back_eq {f : ri_K} {d bud : Nat} {M : ri_M} {nxt : List ri_Op} {pc : Nat} {lv : ri_L} {rest : List Value} {nc ns : Nat} {o : Option ri_Out} {out : ri_Out} (h : ri_back f d bud M nxt pc lv rest nc ns o = some out) :
    (∃ (r : Option Value) (w2 : List ri_E) (nc2 ns2 : Nat) (cs : List ri_Cd) (fr2 : Nat) (z : ri_Out), o = some (.inl r, w2, nc2, ns2, cs, fr2) ∧ f d bud M nxt (pc + 3) lv (r.toList ++ rest) w2 (nc + nc2) (ns + ns2) fr2 = some z ∧ out = (z.1, z.2.1, z.2.2.1, z.2.2.2.1, cs ++ z.2.2.2.2.1, z.2.2.2.2.2)) ∨
    (∃ (x : Nat) (w2 : List ri_E) (nc2 ns2 : Nat) (cs : List ri_Cd) (fr2 : Nat), o = some (.inr x, w2, nc2, ns2, cs, fr2) ∧ out = (.inr x, w2, nc + nc2, ns + ns2, cs, fr2)) := by
  unfold ri_back at h
  split at h
  · rename_i r w2 nc2 ns2 cs fr2
    obtain ⟨z, h1, h2⟩ := ri_more_eq h
    exact Or.inl ⟨r, w2, nc2, ns2, cs, fr2, z, rfl, h1, h2⟩
  · rename_i x w2 nc2 ns2 cs fr2
    exact Or.inr ⟨x, w2, nc2, ns2, cs, fr2, rfl, (Option.some.inj h).symm⟩
  · cases h
theorem ri_enter_eq {f : ri_K} {d bud : Nat} {M : ri_M} {vals rest : List Value} {w : List ri_E} {fr : Nat} {o : ri_Out} (h : ri_enter f d bud M vals rest w fr = some o) : 1 ≤ d ∧ 19 + M.2.2.1 ≤ bud ∧ ri_cat rest ≤ 8 ∧ (lg_sl vals).length ≤ M.2.2.1 ∧ f (d - 1) (bud - (19 + M.2.2.1)) M M.2.2.2.2.2 0 (lv_args 0 vals) [] w 0 0 fr = some o := by
  obtain ⟨hb, h2⟩ := ri_ok_eq h
  simp only [Bool.and_eq_true] at hb
  obtain ⟨b1, b2, b3, b4⟩ := hb
  exact ⟨Nat.le_of_ble_eq_true b1, Nat.le_of_ble_eq_true b2, Nat.le_of_ble_eq_true b3, Nat.le_of_ble_eq_true b4, h2⟩
section RIC
variable {WG : List Jvm.Cond} {NW : List ri_N} {CW : List ri_C9} {AO : List String} {cl : List vw_C} {Ms : List ri_M} {ty : Nat → Nat → FieldType} {df : Nat → List Value} {tyL : List FieldType} {exl : Nat → Nat} {exn : Nat → String} {xs : Nat → Int32} {L : Nat} {al : Bool} {orc : List (Bool ⊕ Int32)} {D : va_G} {ad : Nat → Nat} {cA : Nat → ClassId}
theorem ri_good (hg : ∀ w ∈ WG, goodWord w = true) {x : Jvm.Cond} (hx : x ∈ WG) : GoodIn WG (x :: WG) := fun w hw => (List.mem_cons.mp hw).elim (fun e => by subst e; exact ⟨hx, good_of_word (hg _ hx)⟩) (fun h => ⟨h, good_of_word (hg w h)⟩)
theorem ri_back_mono {l : Launch} {f : ri_K} (hF : ri_Snd WG NW CW AO cl Ms tyL exn xs L al D ad cA l f) {d bud : Nat} {M M2 : ri_M} {nxt : List ri_Op} {pc : Nat} {lv : ri_L} {vals rest : List Value} {w : List ri_E} {nc ns fr : Nat} {out : ri_Out} (h : ri_back f d bud M nxt pc lv rest nc ns (ri_enter f d bud M2 vals rest w fr) = some out) : nc ≤ out.2.2.1 ∧ ns ≤ out.2.2.2.1 ∧ (w.length ≤ 1000000 → out.2.1.length ≤ 1000000) := by
  rcases ri_back_eq h with ⟨r, w2, nc2, ns2, cs, fr2, z, h0, h1, rfl⟩ | ⟨x, w2, nc2, ns2, cs, fr2, h0, rfl⟩
  · obtain ⟨g1, g2, g3, g4, g5⟩ := ri_enter_eq h0
    have k1 := (hF _ _ _ _ _ _ _ _ _ _ _ _ h1).1
    have k2 := (hF _ _ _ _ _ _ _ _ _ _ _ _ g5).1
    exact ⟨by have := k1.1; show nc ≤ z.2.2.1; omega, by have := k1.2.1; show ns ≤ z.2.2.2.1; omega, fun hw => k1.2.2 (k2.2.2 hw)⟩
  · obtain ⟨g1, g2, g3, g4, g5⟩ := ri_enter_eq h0
    exact ⟨Nat.le_add_right _ _, Nat.le_add_right _ _, (hF _ _ _ _ _ _ _ _ _ _ _ _ g5).1.2.2⟩
section
variable {p : Program} {l : Launch} {e : Env} {R : Room} {s : State} {m : MethodId} {args : Array Value} {below : List Frame} {meth : Method} {c : Code} {H : Heap} {locs : List Loc} {Q : State → Prop}
/-- a call, with whatever row of the kit runs it -/
theorem ri_call_W {f : ri_K} (hF : ri_Snd WG NW CW AO cl Ms tyL exn xs L al D ad cA l f) {d bud : Nat} {M M2 : ri_M} {nxt : List ri_Op} {pc nc ns fr y : Nat} {lv : ri_L} {vals rest st0 : List Value} {w : List ri_E} {ls : Array Slot} {out : ri_Out}
    (h : ri_back f d bud M nxt pc lv rest nc ns (ri_enter f d bud M2 vals rest w fr) = some out) (hM2 : Ms[y]? = some M2) (hok : ri_mok WG M2) (hns : ∀ o ∈ M2.2.2.2.2.2, o.2.1 ≠ 24 ∧ o.2.1 ≠ 25)
    (hcs : ∀ x ∈ out.2.2.2.2.1, ri_sem ad x) (hM : ∃ y : Nat, Ms[y]? = some M) (hcur : ∀ o ∈ nxt, o ∈ M.2.2.2.2.2) (hw9 : w.length ≤ 1000000) (hfr : ri_Fr WG NW CW AO cl tyL xs L D ad cA M p s m args meth c) (hS : va_S (ri_A ad) s.heap H locs) (hdR : d ≤ R.frames) (hbR : bud ≤ R.locals) (hcR : out.2.2.1 ≤ R.cells) (hsR : out.2.2.2.1 ≤ R.slots) (hl : lv_has ls M.2.2.1 (ri_lr ad lv))
    (hret : ∀ r : Option Value, out.1 = .inl r → ∀ (H1 : Heap) (locs1 : List Loc) (ls1 : Array Slot) (pc1 : Nat), ri_P D cl ad cA out.2.1 H1 → va_S (ri_A ad) s.heap H1 locs1 → (al = true → ri_nx ad out.2.1.length H1.size) → ri_isret M.2.1 pc1 M.2.2.2.1 r → W p l e R s m args below meth c H1 locs1 out.2.2.1 out.2.2.2.1 Q (F0 m pc1 ls1 (r.toList.map (ri_v ad))))
    (hthr : ∀ x : Nat, out.1 = .inr x → ∃ (Qc : Array Value → State → Outcome → State → Prop) (XC : String → State → State → Prop), Q = vx_MQ below Qc XC args s out.2.2.1 out.2.2.2.1 (ri_A ad) ∧ ∀ t : State, s.vm.Alike t.vm → ri_P D cl ad cA out.2.1 t.heap → va_F (ri_A ad) s t → XC (exn x) s t)
    (runner : ∀ (o2 : ri_Out) (rm : Room), vx_Met l M2.1 (Jvm.Cond.code M2.1 M2.2.1 M2.2.2.1 M2.2.2.2.1 :: WG) rm (ri_Pc NW CW AO cl tyL al D ad cA vals w) (ri_Qc cl al D ad cA o2) (ri_XC cl exn D ad cA o2) o2.2.2.1 o2.2.2.2.1 (ri_A ad) → rm.cells = o2.2.2.1 → rm.slots = o2.2.2.2.1 → rm.frames + 1 ≤ R.frames ∧ 8 + (M2.2.2.1 + 11) + rm.locals ≤ R.locals → ri_cat rest ≤ 8 → nc + o2.2.2.1 ≤ R.cells ∧ ns + o2.2.2.2.1 ≤ R.slots →
      vx_Run p l e R s m args below meth c H locs nc ns o2.2.2.1 o2.2.2.2.1 (F0 m pc ls st0) (rest.map (ri_v ad)) (ri_Qc cl al D ad cA o2 (vals.map (ri_v ad)).toArray) (ri_XC cl exn D ad cA o2) (ri_A ad)) :
    W p l e R s m args below meth c H locs nc ns Q (F0 m pc ls st0) := by
  obtain ⟨hx, hb, hml, hown, hname, hr, hlocks, hnt, hts, hK, hsc⟩ := id hfr
  rcases ri_back_eq h with ⟨r, w2, nc2, ns2, cs, fr2, z, h1, h2, rfl⟩ | ⟨x, w2, nc2, ns2, cs, fr2, h1, rfl⟩
  · obtain ⟨g1, g2, g3, g4, g5⟩ := ri_enter_eq h1
    have hmono := (hF _ _ _ _ _ _ _ _ _ _ _ _ h2).1
    have hcs2 : ∀ x ∈ cs, ri_sem ad x := fun x hx => hcs x (List.mem_append_left _ hx)
    have hMet := ri_met hF hM2 hok hns g5 hcs2 g4 hw9
    have hlen2 := (hF _ _ _ _ _ _ _ _ _ _ _ _ g5).1.2.2 hw9
    refine ri_called (runner _ _ hMet rfl rfl ⟨by show d - 1 + 1 ≤ R.frames; omega, by show 8 + (M2.2.2.1 + 11) + (bud - (19 + M2.2.2.1)) ≤ R.locals; omega⟩ g3 ⟨Nat.le_trans hmono.1 hcR, Nat.le_trans hmono.2.1 hsR⟩) hS (fun r9 H1 locs1 hr9 hP1 hn1 hS1 => ?_) (fun x9 q ce H1 locs1 hx9 => by cases hx9)
    cases hr9
    have k := (hF _ _ _ _ _ _ _ _ _ _ _ _ h2).2 (fun x hx => hcs x (List.mem_append_right _ hx)) hM hcur hlen2 p e R s m args below meth c H1 locs1 ls Q hfr hP1 hS1 hn1 hdR hbR hcR hsR hl hret hthr
    have e9 : (r.map (ri_v ad)).toList ++ rest.map (ri_v ad) = (r.toList ++ rest).map (ri_v ad) := by cases r <;> rfl
    rw [e9]
    exact k
  · obtain ⟨g1, g2, g3, g4, g5⟩ := ri_enter_eq h1
    have hMet := ri_met hF hM2 hok hns g5 hcs g4 hw9
    refine ri_called (runner _ _ hMet rfl rfl ⟨by show d - 1 + 1 ≤ R.frames; omega, by show 8 + (M2.2.2.1 + 11) + (bud - (19 + M2.2.2.1)) ≤ R.locals; omega⟩ g3 ⟨hcR, hsR⟩) hS (fun r9 H1 locs1 hr9 => by cases hr9) (fun x9 q ce H1 locs1 hx9 hP1 hS1 hce hcv hcl => ?_)
    cases hx9
    obtain ⟨Qc, XC, rfl, hXC⟩ := hthr x rfl
    exact vx_out (fun z hz => (hnt z hz).elim) hlocks hce hcv hcl (fun t ht hvm => hXC t hvm (by rw [ht]; exact hP1) (hS1.F ht)) hS1.2.2 (Nat.le_refl _) (Nat.le_refl _)
end
end RIC
