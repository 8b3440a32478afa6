/-! ===== a path of the law, from its entry to its end ===== -/
def R_law : String := "StillLoopsLaw"
/-- what a walk over the start with the record d0 says of its end, said of the start itself -/
theorem lw_closed {s t : State} {o : Outcome} {d0 : Drawn} {L : List Loc} {k n : Nat} (hd0 : s.drawn.sameBut d0 lw_cs) (hv : ∃ v, o = .returned v) (hW : (s.setDrawn d0).WarmedH t.vm) (hs : (s.setDrawn d0).sameButNew ({ t with vm := s.vm } : State) L k n) : State.butDraws s t lw_cs (fun t1 => Framed s o t1 L k n) := by
  have h2 : t.drawn = d0 := congrArg State.drawn hs.1
  refine ⟨⟨hv, hW, State.sameButNew.setDrawn hs s.drawn⟩, ?_, by decide⟩
  rw [h2]
  exact hd0
def lw_Q (_ : Array Value) (s : State) (o : Outcome) (t : State) : Prop := o = .returned (some (.int 1)) ∧ State.butDraws s t lw_cs (fun t1 => Framed s o t1 [] 600002 7302232)
def lw_Z (below : List Frame) (a : Array Value) (s : State) : State → Prop := fun t => ∃ o, t.status = .running ∧ Ended t below o ∧ lw_Q a s o t
theorem lw_ret {p : Program} {l : Launch} {e : Env} {s : State} {m : MethodId} {below : List Frame} {meth : Method} {c : Code} {b : Nat} {d0 : Drawn} (hd0 : s.drawn.sameBut d0 lw_cs) (hx : p.tables.exec = Jvm.exec) (hb : c.code = code) (hr : meth.sig.returnType = ret) (hlocks : meth.locks = false) {pc : Nat} {H : Heap} {ls : Array Slot} (hdg : decode code pc = .ok (.ireturn, 1)) : W p l e room_1 (s.setDrawn d0) m #[Value.ref b] below meth c H [] 600002 7302232 (lw_Z below #[Value.ref b] s) (F0 m pc ls [.int 1]) := by
  intro T hT X
  obtain ⟨fs, hret, hrun, hended, hW, hframe⟩ := X.leave (v := some (.int 1)) (hlocks := hlocks) (fun h => by rw [hr] at h; cases h)
  have hmeth' : T.vm.method? m = some meth := X.method'
  refine ⟨T.setFrames fs, ?_, .returned (some (.int 1)), hrun, hended, rfl, lw_closed hd0 ⟨_, rfl⟩ hW hframe⟩
  jvm_step X.here [X.here.top, hx, hb, hdg, hmeth', hr, ret, narrow_b1]
  (try refine ⟨rfl, ?_⟩); (try refine ⟨rfl, ?_⟩)
  first | (intro acts; rw [hret _ acts rfl rfl rfl]) | rw [hret _ _ rfl rfl rfl]
  exact Steps.refl _
def lw_At (p : Program) (s : State) (m : MethodId) (meth : Method) (c : Code) (b L : Nat) (xs : Nat → Int32) : Prop :=
  p.tables.exec = Jvm.exec ∧ c.code = code ∧ meth.sig.returnType = ret ∧ c.maxLocals = 8 ∧ s.vm.findClass R_law = some m.cls ∧ (∀ w ∈ lw_tbl, w.before #[Value.ref b] s = true) ∧ va_X b L xs s s.heap ∧ b < s.heap.size ∧ meth.locks = false ∧ (Jvm.Cond.and given_1 narrow_1).before #[Value.ref b] s = true
theorem rw_lo {sz b k : Nat} {v : Nat → Int32} (h : k < 1000000) : rh_ad sz b v k = sz + k := if_pos h
/-- a path: what is reckoned of it is what the law does -/
theorem rw_go {p : Program} {e : Env} {s : State} {m : MethodId} {below : List Frame} {meth : Method} {c : Code} (l : Launch) (hflags : l.flags = flags0) {b L : Nat} {X : Nat → Int32} (C0 : lw_At p s m meth c b L X) (hnm : meth.name = "law") (htb : c.exceptionTable.toList = [])
    {xs : Nat → Value} {orc : List (Bool ⊕ Int32)} {fuel : Nat} {R : Nat → rg_I} (hp : rh_end R (rg_run L xs orc fuel) = true) (hxs : ∀ j, j < L → xs j = .int (X j) ∨ (xs j = .float (UInt32.ofNat j) ∧ j < 6)) (hR : ∀ k, rh_holds (R k) (rh_v0 X k)) :
    W p l e room_1 s m #[Value.ref b] below meth c s.heap [] 0 0 (lw_Z below #[Value.ref b] s) (entryFrame m ([Value.ref b] : List Value).toArray 8) := by
  obtain ⟨hx, hb, hr, hml, hown, hts, hX, hbl, hlocks, hgv⟩ := id C0
  obtain ⟨out, v, ho, h1, h2, h3, hv, hcs⟩ := rh_end_ok hp X s.heap.size b hR
  have hrun : ri_run ri_Ms0 ri_ty0 ri_df0 ri_tyL0 ri_exl0 xs L rg_al orc fuel 15 570 ri_m_L_law ri_m_L_law.2.2.2.2.2 0 [(0, .ref 1000000)] [] (rf_wa rg_w0) 0 0 6 = some (rf_oa out) := by
    refine rf_run_ok fuel _ _ _ _ _ _ _ _ _ _ _ _ ?_
    rw [← rq_run_eq, ← rv_run_eq]
    exact ho
  have hinj : ri_inj (rh_ad s.heap.size b v) := fun i j hi hj h => by
    rw [rw_lo hi, rw_lo hj] at h
    omega
  have hA : ∀ a : Nat, a < s.heap.size → ¬ ri_A (rh_ad s.heap.size b v) a := fun a ha ⟨k, hk, e⟩ => by
    rw [rw_lo hk] at e
    omega
  have hb9 : rh_ad s.heap.size b v 1000000 = b := by
    unfold rh_ad
    rw [if_neg (by omega), if_pos (by omega)]
  obtain ⟨D, cA, hK⟩ := rs_K m.cls hts
  have hKx := rs_Kx (ad := rh_ad s.heap.size b v) hts hgv hA hK
  have htr : l.stackTraces = false := by
    unfold Launch.stackTraces
    rw [hflags]
    decide
  have hl := lv_entry ([.ref b]) (n := 8) (Nat.le_of_ble_eq_true rfl)
  rw [lg_entry_eq]
  generalize (lg_sl ([.ref b]) ++ List.replicate (8 - (lg_sl ([.ref b])).length) Slot.unset).toArray = ls at hl ⊢
  have hl : lv_has ls 8 (ri_lr (rh_ad s.heap.size b v) [(0, .ref 1000000)]) := by
    show lv_has ls 8 [(0, .ref (rh_ad s.heap.size b v 1000000))]
    rw [hb9]
    exact hl
  have hw0 : rf_wa rg_w0 = [] := rfl
  refine (ri_sound (orc := orc) ri_all0 hinj htr fuel 15 570 ri_m_L_law ri_m_L_law.2.2.2.2.2 0 [(0, .ref 1000000)] [] (rf_wa rg_w0) 0 0 6 (rf_oa out) hrun).2 hcs ⟨0, rfl⟩ (fun o h => h) (by rw [hw0]; exact Nat.zero_le _) p e room_1 s m #[Value.ref b] below meth c s.heap [] ls (lw_Z below #[Value.ref b] s)
    ⟨hx, hb, hml, hown, hnm, hr, hlocks, htb, fun w hw => hts w (List.mem_filter.mp hw).1, hKx, fun _ => ⟨⟨X, fun j hj => ?_, by rw [hb9]; exact hX⟩, by rw [hb9]; exact hbl, by rw [hb9]; exact hA b hbl⟩⟩ (by rw [hw0]; exact fun k x h => by cases h) va_S.rf (fun _ => by rw [hw0]; exact fun j _ hj => rw_lo hj) (Nat.le_refl _) (Nat.le_refl _) h2 h3 hl ?_ ?_
  · rcases hxs j hj with e | ⟨e, h6⟩
    · rw [e]
      rfl
    · rw [e, ri_isI_v (ad := rh_ad s.heap.size b v) (v := .float (UInt32.ofNat j)) rfl, rh_I]
      show Value.int (v (UInt32.ofNat j).toNat) = .int (X j)
      rw [UInt32.toNat_ofNat_of_lt' (show j < 4294967296 by omega), hv j (by omega)]
      show Value.int (if j = 6 then X 0 &&& 63 else X j) = _
      rw [if_neg (by omega)]
  · intro r hr1 H1 locs1 ls1 pc1 hP1 hS1 hn1 hq
    have e : r = some (.int 1) := by
      have e9 : (rf_oa out).1 = .inl (some (.int 1)) := h1
      rw [e9] at hr1
      exact (Sum.inl.inj hr1).symm
    subst e
    have hd : decode code pc1 = .ok (.ireturn, 1) := by
      rcases hq with ⟨q1, -⟩ | ⟨x, t, q1, -, -, q4⟩ | ⟨x, q1, -⟩ | ⟨x, q1, -⟩ | ⟨x, t, q1, -⟩ | ⟨x, q1, -⟩
      · cases q1
      · exact q4
      · cases q1
      · cases q1
      · cases q1
      · cases q1
    refine va_forget (fun q hq9 => ?_) ?_
    · obtain ⟨k, hk, e⟩ := hS1.2.2 q hq9
      rw [rw_lo hk] at e
      omega
    refine W.widen (k := 600002) (n := 7302232) h2 h3 ?_
    refine W.base ?_
    exact lw_ret (Drawn.sameBut.refl s.drawn lw_cs) hx hb hr hlocks hd
  · intro x hx9
    have e9 : (rf_oa out).1 = .inl (some (.int 1)) := h1
    rw [e9] at hx9
    cases hx9
