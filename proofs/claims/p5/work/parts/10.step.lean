/-! ===== the reckoner, part 8: its steps are the machine's ===== -/
section RIS
variable {WG : List Jvm.Cond} {hh : MethodName → List (Nat × Nat × Nat × Nat)} {NW : List ri_N} {CW : List ri_C9} {NC : List (String × String)} {AO : List FieldType} {cl : List vw_C} {Ms : List ri_M} {ty : Nat → Nat → FieldType} {df : Nat → List Value} {tyL : List FieldType} {exl : Nat → Nat} {exn : Nat → String} {xs : Nat → Value} {L : Nat} {al : Nat → Bool} {orc : List (Bool ⊕ Int32)} {D : va_G} {ad : Nat → Nat} {cA : Nat → ClassId}
theorem ri_Kx.go {s U : State} {H : Heap} {locs : List Loc} (h : ri_Kx NW CW NC AO cl tyL D ad cA s) (hS : va_S (ri_A ad) s.heap H locs) (hU : U.heap = H) (hW : s.WarmedH U.vm) : ri_Kx NW CW NC AO cl tyL D ad cA U := by
  obtain ⟨h1, h2, hc, hn, h3, h4, h5, h6⟩ := h
  exact ⟨va_K.moved hW.alike h1, fun x hx => va_Nw.warmM hW (h2 x hx), fun x hx => ri_cw_warm hW (hc x hx), fun x hx => va_Nc.moved hW.alike (hn x hx), fun C hC => ri_AO.moved hW.alike (h3 C hC), by rw [hU]; exact vx_Zq.moved hW.alike (h4.kept hS.2.1), by rw [hU]; exact vx_Zq.moved hW.alike (h5.kept hS.2.1), by rw [hU]; exact ri_SS.moved hW (h6.kept hS.2.1)⟩
theorem ri_blind (vals : List Value) (w : List ri_E) : FrameBlind (ri_Pc NW CW NC AO cl tyL al D ad cA vals w) := by
  intro a U g mk h
  obtain ⟨h1, h2, ⟨k1, k2, kc, kn, k3, k4, k5, k6⟩, h3⟩ := h
  exact ⟨h1, h2, ⟨va_K.moved (u := U) (U := U.calling g mk a) (Vm.Alike.refl U.vm) k1, fun x hx => va_Nw.same (u := U) rfl rfl (k2 x hx), fun x hx => va_Nw.same (u := U) (ri_cw_on x) rfl (kc x hx), fun x hx => va_Nc.moved (u := U) (U := U.calling g mk a) (Vm.Alike.refl U.vm) (kn x hx), fun C hC => ri_AO.moved (u := U) (U := U.calling g mk a) (Vm.Alike.refl U.vm) (k3 C hC), vx_Zq.moved (u := U) (U := U.calling g mk a) (Vm.Alike.refl U.vm) k4, vx_Zq.moved (u := U) (U := U.calling g mk a) (Vm.Alike.refl U.vm) k5, ri_SS.same (s := U) (U := U.calling g mk a) rfl k6⟩, h3⟩
/-- the contract that a reckoning is -/
theorem ri_met {l : Launch} {f : ri_K} (hF : ri_Snd WG hh NW CW NC AO cl Ms tyL exn xs L al D ad cA l f) {y : Nat} {M2 : ri_M} (hM : Ms[y]? = some M2) (hok : ri_mok WG hh M2) (hns : ∀ o ∈ M2.2.2.2.2.2, o.2.1 ≠ 24 ∧ o.2.1 ≠ 25)
    {d bud : Nat} {vals : List Value} {w : List ri_E} {out : ri_Out} {fr : Nat} (hrun : f d bud M2 M2.2.2.2.2.2 0 (lv_args 0 vals) [] w 0 0 fr = some out) (hcs : ∀ x ∈ out.2.2.2.2.1, ri_sem ad x) (hlen : (lg_sl vals).length ≤ M2.2.2.1) (hw9 : w.length ≤ 1000000) :
    vx_Met l M2.1 (Jvm.Cond.code M2.1 M2.2.1 M2.2.2.1 M2.2.2.2.1 :: WG) ({ frames := d, cells := out.2.2.1, slots := out.2.2.2.1, locals := bud }) (ri_Pc NW CW NC AO cl tyL al D ad cA vals w) (ri_Qc cl al D ad cA out) (ri_XC cl exn D ad cA out) out.2.2.1 out.2.2.2.1 (ri_A ad) := by
  refine vx_ofWF (cc := M2.2.1) (maxL := M2.2.2.1) (ret := M2.2.2.2.1) hok.2.1 rfl ?_
  intro p e s m args below meth c s₁ B hml hnt hv
  obtain ⟨rfl, hP, hK, hn⟩ := hv
  have hts := atoms_spec (ws := Jvm.Cond.code M2.1 M2.2.1 M2.2.2.1 M2.2.2.2.1 :: WG) B.pre
  have hl := lv_entry (vals.map (ri_v ad)) (n := M2.2.2.1) (by rw [ri_sl_v]; exact hlen)
  rw [ri_args_v] at hl
  rw [lg_entry_eq]
  generalize (lg_sl (vals.map (ri_v ad)) ++ List.replicate (M2.2.2.1 - (lg_sl (vals.map (ri_v ad))).length) Slot.unset).toArray = ls at hl ⊢
  have hlocks := B.notSynchronized
  have htb : c.exceptionTable.toList = tableOf (hh M2.1) := by
    rw [hok.1]
    exact List.eq_nil_iff_forall_not_mem.mpr hnt
  refine (hF _ _ _ _ _ _ _ _ _ _ _ _ hrun).2 hcs ⟨y, hM⟩ (fun o h => h) hw9 p e _ s m _ below meth c s.heap [] ls _ ⟨B.exec, B.bytes, hml, findClass_of_methodNamed B.named, (name_of_methodNamed B.named B.method).1, B.returns, hlocks, htb, fun x hx => hts x (List.mem_cons_of_mem _ hx), hK, fun ⟨o, ho, hq⟩ => by
      rcases hq with hq | hq
      · exact absurd hq (hns o ho).1
      · exact absurd hq (hns o ho).2⟩ hP va_S.rf hn (Nat.le_refl _) (Nat.le_refl _) (Nat.le_refl _) (Nat.le_refl _) hl ?_ ?_
  · intro r hr H1 locs1 ls1 pc1 hP1 hS1 hn1 hq
    refine vx_ret ?_
    have hQ : ∀ t : State, t.heap = H1 → s.WarmedH t.vm → ri_Qc cl al D ad cA out (vals.map (ri_v ad)).toArray s (.returned (r.map (ri_v ad))) t := fun t ht _ => ⟨r, hr, rfl, by rw [ht]; exact hP1, fun h => by rw [ht]; exact hn1 h, hS1.F ht⟩
    rcases hq with ⟨rfl, h2, h3⟩ | ⟨x, t, rfl, h2, h3, h4⟩ | ⟨x, rfl, h2, h3⟩ | ⟨x, rfl, h2, h3⟩ | ⟨x, t, rfl, h2, h3, h4⟩ | ⟨x, rfl, h2, h3⟩ | ⟨t, rfl, h2, h3, h4⟩
    · exact W.vret B.exec B.bytes (by rw [B.returns, h2]) hQ hS1.2.2 h3
    · exact W.zret B.exec B.bytes (by rw [B.returns, h2]) h3 hQ hS1.2.2 h4
    · exact W.lret B.exec B.bytes (by rw [B.returns, h2]) hQ hS1.2.2 h3
    · exact W.dret B.exec B.bytes (by rw [B.returns, h2]) hQ hS1.2.2 h3
    · exact W.aret B.exec B.bytes (by rw [B.returns, h2]) h3 (Or.inr ⟨_, rfl⟩) hQ hS1.2.2 h4
    · exact W.zret B.exec B.bytes (by rw [B.returns, h2]) rfl hQ hS1.2.2 h3
    · exact W.aret B.exec B.bytes (by rw [B.returns, h2]) h3 (Or.inl rfl) hQ hS1.2.2 h4
  · intro x hx
    exact ⟨_, _, rfl, fun t ht h1 h2 => ⟨x, hx, rfl, h1, h2⟩⟩
/-- the contract that a reckoning of a method with handlers is -/
theorem ri_metH {l : Launch} {f : ri_K} (hF : ri_Snd WG hh NW CW NC AO cl Ms tyL exn xs L al D ad cA l f) {y : Nat} {M2 : ri_M} (hM : Ms[y]? = some M2) (hok : ri_mokH WG hh M2) (hns : ∀ o ∈ M2.2.2.2.2.2, o.2.1 ≠ 24 ∧ o.2.1 ≠ 25)
    {d bud : Nat} {vals : List Value} {w : List ri_E} {out : ri_Out} {fr : Nat} (hrun : f d bud M2 M2.2.2.2.2.2 0 (lv_args 0 vals) [] w 0 0 fr = some out) (hcs : ∀ x ∈ out.2.2.2.2.1, ri_sem ad x) (hlen : (lg_sl vals).length ≤ M2.2.2.1) (hw9 : w.length ≤ 1000000) :
    vx_Met l M2.1 (Jvm.Cond.codeWith M2.1 M2.2.1 M2.2.2.1 M2.2.2.2.1 (hh M2.1) :: WG) ({ frames := d, cells := out.2.2.1, slots := out.2.2.2.1, locals := bud }) (ri_Pc NW CW NC AO cl tyL al D ad cA vals w) (ri_Qc cl al D ad cA out) (ri_XC cl exn D ad cA out) out.2.2.1 out.2.2.2.1 (ri_A ad) := by
  refine vx_ofWH (cc := M2.2.1) (maxL := M2.2.2.1) (ret := M2.2.2.2.1) (hh := hh M2.1) hok.1 rfl ?_
  intro p e s m args below meth c s₁ B hml hv
  obtain ⟨rfl, hP, hK, hn⟩ := hv
  have hts := atoms_spec (ws := Jvm.Cond.codeWith M2.1 M2.2.1 M2.2.2.1 M2.2.2.2.1 (hh M2.1) :: WG) B.pre
  have hl := lv_entry (vals.map (ri_v ad)) (n := M2.2.2.1) (by rw [ri_sl_v]; exact hlen)
  rw [ri_args_v] at hl
  rw [lg_entry_eq]
  generalize (lg_sl (vals.map (ri_v ad)) ++ List.replicate (M2.2.2.1 - (lg_sl (vals.map (ri_v ad))).length) Slot.unset).toArray = ls at hl ⊢
  have hlocks := B.notSynchronized
  have htb : c.exceptionTable.toList = tableOf (hh M2.1) := vx_table (x := M2.1) B (hts _ List.mem_cons_self)
  refine (hF _ _ _ _ _ _ _ _ _ _ _ _ hrun).2 hcs ⟨y, hM⟩ (fun o h => h) hw9 p e _ s m _ below meth c s.heap [] ls _ ⟨B.exec, B.bytes, hml, findClass_of_methodNamed B.named, (name_of_methodNamed B.named B.method).1, B.returns, hlocks, htb, fun x hx => hts x (List.mem_cons_of_mem _ hx), hK, fun ⟨o, ho, hq⟩ => by
      rcases hq with hq | hq
      · exact absurd hq (hns o ho).1
      · exact absurd hq (hns o ho).2⟩ hP va_S.rf hn (Nat.le_refl _) (Nat.le_refl _) (Nat.le_refl _) (Nat.le_refl _) hl ?_ ?_
  · intro r hr H1 locs1 ls1 pc1 hP1 hS1 hn1 hq
    refine vx_ret ?_
    have hQ : ∀ t : State, t.heap = H1 → s.WarmedH t.vm → ri_Qc cl al D ad cA out (vals.map (ri_v ad)).toArray s (.returned (r.map (ri_v ad))) t := fun t ht _ => ⟨r, hr, rfl, by rw [ht]; exact hP1, fun h => by rw [ht]; exact hn1 h, hS1.F ht⟩
    rcases hq with ⟨rfl, h2, h3⟩ | ⟨x, t, rfl, h2, h3, h4⟩ | ⟨x, rfl, h2, h3⟩ | ⟨x, rfl, h2, h3⟩ | ⟨x, t, rfl, h2, h3, h4⟩ | ⟨x, rfl, h2, h3⟩ | ⟨t, rfl, h2, h3, h4⟩
    · exact W.vret B.exec B.bytes (by rw [B.returns, h2]) hQ hS1.2.2 h3
    · exact W.zret B.exec B.bytes (by rw [B.returns, h2]) h3 hQ hS1.2.2 h4
    · exact W.lret B.exec B.bytes (by rw [B.returns, h2]) hQ hS1.2.2 h3
    · exact W.dret B.exec B.bytes (by rw [B.returns, h2]) hQ hS1.2.2 h3
    · exact W.aret B.exec B.bytes (by rw [B.returns, h2]) h3 (Or.inr ⟨_, rfl⟩) hQ hS1.2.2 h4
    · exact W.zret B.exec B.bytes (by rw [B.returns, h2]) rfl hQ hS1.2.2 h3
    · exact W.aret B.exec B.bytes (by rw [B.returns, h2]) h3 (Or.inl rfl) hQ hS1.2.2 h4
  · intro x hx
    exact ⟨_, _, rfl, fun t ht h1 h2 => ⟨x, hx, rfl, h1, h2⟩⟩
section
variable {p : Program} {l : Launch} {e : Env} {R : Room} {s : State} {m : MethodId} {args : Array Value} {below : List Frame} {meth : Method} {c : Code} {H : Heap} {locs : List Loc} {cells slots : Nat} {Q : State → Prop}
/-- behind a call -/
theorem ri_called {out : ri_Out} {mc ms pc : Nat} {ls : Array Slot} {st0 rest : List Value} {va : Array Value} (hr : vx_Run p l e R s m args below meth c H locs cells slots mc ms (F0 m pc ls st0) rest (ri_Qc cl al D ad cA out va) (ri_XC cl exn D ad cA out) (ri_A ad)) (hS : va_S (ri_A ad) s.heap H locs)
    (kk : ∀ (r : Option Value) (H1 : Heap) (locs1 : List Loc), out.1 = .inl r → ri_P D cl ad cA out.2.1 H1 → (al out.2.1.length = true → ri_nx ad out.2.1.length H1.size) → va_S (ri_A ad) s.heap H1 locs1 → W p l e R s m args below meth c H1 locs1 (cells + mc) (slots + ms) Q (F0 m (pc + 3) ls ((r.map (ri_v ad)).toList ++ rest)))
    (kx : ∀ (x : Nat) (q : Addr) (ce : Cell) (H1 : Heap) (locs1 : List Loc), out.1 = .inr x → ri_P D cl ad cA out.2.1 H1 → va_S (ri_A ad) s.heap H1 locs1 → H1[q]? = some ce → ce.vm = .none → s.vm.findClass (exn x) = some ce.cls → vx_W p l e R s m args below meth c H1 locs1 (cells + mc) (slots + ms) Q (F0 m pc ls rest) q) :
    W p l e R s m args below meth c H locs cells slots Q (F0 m pc ls st0) := by
  intro T hT X
  rcases hr T hT X with ⟨v, st₀, t, T', L, h0, X', hL, e1, e2, ⟨r, hr1, hr2, hr3, hr4, hr5⟩, st⟩ | ⟨q, st₀, t, T', L, E, ce, h0, X', hL, e1, e2, ⟨x, hx1, hx2, hx3, hx4⟩, hce, hcv, hcl, st⟩
  · obtain ⟨k1, k2, k3⟩ := vx_keep h0 e1 hS (fun _ _ h => h) (fun _ h => h) hL hr5
    cases hr2
    obtain ⟨t2, a1, b1⟩ := kk r T'.heap (locs ++ L) hr1 (by rw [e1]; exact hr3) (fun h => by rw [e1]; exact hr4 h) k3 T' rfl X'
    exact ⟨t2, st t2 a1, b1⟩
  · obtain ⟨k1, k2, k3⟩ := vx_keep h0 e1 hS (fun _ _ h => h) (fun _ h => h) hL hx4
    subst hx2
    obtain ⟨t2, a1, b1⟩ := kx x q ce T'.heap (locs ++ L) hx1 (by rw [e1]; exact hx3) k3 (by rw [e1]; exact hce) hcv hcl T' rfl X'
    exact ⟨t2, st.trans a1, b1⟩
end
end RIS
