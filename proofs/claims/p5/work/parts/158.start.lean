/-! ===== what holds at the entry ===== -/
def rs_at (ps : List Nat) (ws : List Jvm.Cond) : Bool := decide (ps.map (fun i => lw_tbl[i]?) = ws.map some)
theorem rs_at_ok {ps : List Nat} {ws : List Jvm.Cond} (h : rs_at ps ws = true) : ∀ w ∈ ws, w ∈ lw_tbl := by
  intro w hw
  have h3 : some w ∈ ws.map some := List.mem_map.mpr ⟨w, hw, rfl⟩
  rw [← of_decide_eq_true h] at h3
  obtain ⟨i, -, hi⟩ := List.mem_map.mp h3
  exact List.mem_of_getElem? hi
set_option maxRecDepth 100000 in
theorem rs_NW : rs_at [163, 196, 202, 258, 303, 371, 588, 625, 809, 842, 901, 1511] (ri_NW0.map (fun x => Jvm.Cond.methodLinkNest x.1 x.2.1 x.2.2.1 x.2.2.2)) = true := by decide +kernel
set_option maxRecDepth 100000 in
theorem rs_CW : rs_at [1130, 1352, 1223, 1195, 1239, 1131, 1132, 1133, 1134, 1135, 1136] (ri_CW0.map ri_cw) = true := by decide +kernel
set_option maxRecDepth 100000 in
theorem rs_TY : rs_at [194, 254, 255, 583, 622, 174, 593, 1155, 1157, 141] [.arrayClass .int, .arrayClass .long, .arrayClass .boolean, .arrayClass .byte, .arrayClass .double, .arrayOver (.object RX2), .arrayOver (.array .double), .laysStatic Bundle.tN "UNASSIGNED_STACK" Bundle.steD, .laysStatic Bundle.tN "SUPPRESSED_SENTINEL" Bundle.listD, .initialized Bundle.tN] = true := by decide +kernel
theorem rs_nc0 : Jvm.Cond.not (.castable "java/lang/IllegalArgumentException" "java/lang/IllegalStateException") ∈ flatC (Jvm.Cond.and given_1 narrow_1) := by decide +kernel
theorem rs_nc1 : Jvm.Cond.not (.castable "java/lang/IllegalArgumentException" "java/lang/IndexOutOfBoundsException") ∈ flatC (Jvm.Cond.and given_1 narrow_1) := by decide +kernel
theorem rs_nc2 : Jvm.Cond.not (.castable "java/lang/IllegalArgumentException" "java/lang/UnsupportedOperationException") ∈ flatC (Jvm.Cond.and given_1 narrow_1) := by decide +kernel
theorem rs_nc3 : Jvm.Cond.not (.castable "java/lang/IllegalArgumentException" "java/util/NoSuchElementException") ∈ flatC (Jvm.Cond.and given_1 narrow_1) := by decide +kernel
theorem rs_nc4 : Jvm.Cond.not (.castable "java/lang/IllegalStateException" "java/lang/IllegalArgumentException") ∈ flatC (Jvm.Cond.and given_1 narrow_1) := by decide +kernel
theorem rs_nc5 : Jvm.Cond.not (.castable "java/lang/IllegalStateException" "java/lang/IndexOutOfBoundsException") ∈ flatC (Jvm.Cond.and given_1 narrow_1) := by decide +kernel
theorem rs_nc6 : Jvm.Cond.not (.castable "java/lang/IllegalStateException" "java/lang/UnsupportedOperationException") ∈ flatC (Jvm.Cond.and given_1 narrow_1) := by decide +kernel
theorem rs_nc7 : Jvm.Cond.not (.castable "java/lang/IllegalStateException" "java/util/NoSuchElementException") ∈ flatC (Jvm.Cond.and given_1 narrow_1) := by decide +kernel
theorem rs_nc8 : Jvm.Cond.not (.castable "java/lang/IndexOutOfBoundsException" "java/lang/IllegalArgumentException") ∈ flatC (Jvm.Cond.and given_1 narrow_1) := by decide +kernel
theorem rs_nc9 : Jvm.Cond.not (.castable "java/lang/IndexOutOfBoundsException" "java/lang/IllegalStateException") ∈ flatC (Jvm.Cond.and given_1 narrow_1) := by decide +kernel
theorem rs_nc10 : Jvm.Cond.not (.castable "java/lang/IndexOutOfBoundsException" "java/lang/UnsupportedOperationException") ∈ flatC (Jvm.Cond.and given_1 narrow_1) := by decide +kernel
theorem rs_nc11 : Jvm.Cond.not (.castable "java/lang/IndexOutOfBoundsException" "java/util/NoSuchElementException") ∈ flatC (Jvm.Cond.and given_1 narrow_1) := by decide +kernel
theorem rs_nc12 : Jvm.Cond.not (.castable "java/lang/UnsupportedOperationException" "java/lang/IllegalArgumentException") ∈ flatC (Jvm.Cond.and given_1 narrow_1) := by decide +kernel
theorem rs_nc13 : Jvm.Cond.not (.castable "java/lang/UnsupportedOperationException" "java/lang/IllegalStateException") ∈ flatC (Jvm.Cond.and given_1 narrow_1) := by decide +kernel
theorem rs_nc14 : Jvm.Cond.not (.castable "java/lang/UnsupportedOperationException" "java/lang/IndexOutOfBoundsException") ∈ flatC (Jvm.Cond.and given_1 narrow_1) := by decide +kernel
theorem rs_nc15 : Jvm.Cond.not (.castable "java/lang/UnsupportedOperationException" "java/util/NoSuchElementException") ∈ flatC (Jvm.Cond.and given_1 narrow_1) := by decide +kernel
theorem rs_nc16 : Jvm.Cond.not (.castable "java/util/NoSuchElementException" "java/lang/IllegalArgumentException") ∈ flatC (Jvm.Cond.and given_1 narrow_1) := by decide +kernel
theorem rs_nc17 : Jvm.Cond.not (.castable "java/util/NoSuchElementException" "java/lang/IllegalStateException") ∈ flatC (Jvm.Cond.and given_1 narrow_1) := by decide +kernel
theorem rs_nc18 : Jvm.Cond.not (.castable "java/util/NoSuchElementException" "java/lang/IndexOutOfBoundsException") ∈ flatC (Jvm.Cond.and given_1 narrow_1) := by decide +kernel
theorem rs_nc19 : Jvm.Cond.not (.castable "java/util/NoSuchElementException" "java/lang/UnsupportedOperationException") ∈ flatC (Jvm.Cond.and given_1 narrow_1) := by decide +kernel
theorem rs_NC {args : Array Value} {s : State} (h : (Jvm.Cond.and given_1 narrow_1).before args s = true) : ∀ x ∈ ri_NC0, va_Nc x.1 x.2 s := List.forall_mem_cons.mpr ⟨va_Nc.of (flat_of_before _ h _ rs_nc0), List.forall_mem_cons.mpr ⟨va_Nc.of (flat_of_before _ h _ rs_nc1), List.forall_mem_cons.mpr ⟨va_Nc.of (flat_of_before _ h _ rs_nc2), List.forall_mem_cons.mpr ⟨va_Nc.of (flat_of_before _ h _ rs_nc3), List.forall_mem_cons.mpr ⟨va_Nc.of (flat_of_before _ h _ rs_nc4), List.forall_mem_cons.mpr ⟨va_Nc.of (flat_of_before _ h _ rs_nc5), List.forall_mem_cons.mpr ⟨va_Nc.of (flat_of_before _ h _ rs_nc6), List.forall_mem_cons.mpr ⟨va_Nc.of (flat_of_before _ h _ rs_nc7), List.forall_mem_cons.mpr ⟨va_Nc.of (flat_of_before _ h _ rs_nc8), List.forall_mem_cons.mpr ⟨va_Nc.of (flat_of_before _ h _ rs_nc9), List.forall_mem_cons.mpr ⟨va_Nc.of (flat_of_before _ h _ rs_nc10), List.forall_mem_cons.mpr ⟨va_Nc.of (flat_of_before _ h _ rs_nc11), List.forall_mem_cons.mpr ⟨va_Nc.of (flat_of_before _ h _ rs_nc12), List.forall_mem_cons.mpr ⟨va_Nc.of (flat_of_before _ h _ rs_nc13), List.forall_mem_cons.mpr ⟨va_Nc.of (flat_of_before _ h _ rs_nc14), List.forall_mem_cons.mpr ⟨va_Nc.of (flat_of_before _ h _ rs_nc15), List.forall_mem_cons.mpr ⟨va_Nc.of (flat_of_before _ h _ rs_nc16), List.forall_mem_cons.mpr ⟨va_Nc.of (flat_of_before _ h _ rs_nc17), List.forall_mem_cons.mpr ⟨va_Nc.of (flat_of_before _ h _ rs_nc18), List.forall_mem_cons.mpr ⟨va_Nc.of (flat_of_before _ h _ rs_nc19), fun _ h => absurd h List.not_mem_nil⟩⟩⟩⟩⟩⟩⟩⟩⟩⟩⟩⟩⟩⟩⟩⟩⟩⟩⟩⟩
theorem rs_s1 : Jvm.Cond.isRef (.static Bundle.tN "UNASSIGNED_STACK" Bundle.steD) ∈ flatC (Jvm.Cond.and given_1 narrow_1) := by decide +kernel
theorem rs_s2 : Jvm.Cond.isRef (.static Bundle.tN "SUPPRESSED_SENTINEL" Bundle.listD) ∈ flatC (Jvm.Cond.and given_1 narrow_1) := by decide +kernel
theorem rs_arr {args : Array Value} {s : State} {t : FieldType} (ht : ∀ C, t ≠ .object C) (h : (Cond.arrayClass t).before args s = true) : ∃ cA : ClassId, ArrOfT s cA t ∧ va_RA s cA t := by
  obtain ⟨cA, kA, comp, h1, h2, h3⟩ := Cond.arrayClass_spec h
  refine ⟨cA, fun n z => ⟨fun k h => (by cases h), kA, h2, comp, h3⟩, ?_⟩
  cases t with
  | object C => exact absurd rfl (ht C)
  | _ => exact h1
theorem rs_arrO {args : Array Value} {s : State} {C : String} (h : (Cond.arrayOver (.object C)).before args s = true) : ∃ cA : ClassId, ArrOfT s cA (.object C) ∧ va_RA s cA (.object C) := by
  obtain ⟨comp, cA, kA, h1, -, h3, h4, h5⟩ := Cond.arrayOver_spec h
  exact ⟨cA, fun n z => ⟨fun k h => (by cases h), kA, h3, comp, h4⟩, kA, comp, h3, h4, h1, h5⟩
theorem rs_arrA {args : Array Value} {s : State} {t : FieldType} (h : (Cond.arrayOver (.array t)).before args s = true) : ∃ cA : ClassId, ArrOfT s cA (.array t) ∧ va_RA s cA (.array t) := by
  obtain ⟨comp, cA, kA, -, -, h3, h4, h5⟩ := arrayOver_specB h
  exact ⟨cA, fun n z => ⟨fun k h => (by cases h), kA, h3, comp, h4⟩, h5⟩
/-- the kinds of objects and of arrays have numbers -/
theorem rs_K {args : Array Value} {s : State} (c0 : ClassId) (hts : ∀ w ∈ lw_tbl, w.before args s = true) : ∃ (D : va_G) (cA : Nat → ClassId), va_K D ri_cl0 (ri_tys cA ri_tyL0) s := by
  have hWG : ∀ w ∈ ri_WG, w.before args s = true := fun w hw => hts w (List.mem_filter.mp hw).1
  have h1 : ∀ ci : Nat, ∃ q : ClassId × (Nat → Nat), ∀ r : vw_C, ri_cl0[ci]? = some r → u_Kn s r.1 r.2.1 r.2.2 q.1 q.2 := by
    intro ci
    cases hc : ri_cl0[ci]? with
    | none => exact ⟨(c0, fun _ => 0), fun r hr => by cases hr⟩
    | some r =>
      obtain ⟨a1, -, -, a4, -⟩ := ri_clok0 ci r hc
      obtain ⟨cC, iS, hk⟩ := u_known (C := r.1) (T := r.2.1) (N := r.2.2) (n := r.2.2) hWG a1 (hWG _ a4)
      exact ⟨(cC, iS), fun r2 h2 => by cases h2; exact hk⟩
  have h2 : ∀ k : Nat, ∃ c : ClassId, ∀ t : FieldType, ri_tyL0[k]? = some t → ArrOfT s c t ∧ va_RA s c t := by
    have hT := rs_at_ok rs_TY
    have go : ∀ (t : FieldType), (∃ c : ClassId, ArrOfT s c t ∧ va_RA s c t) → ∃ c : ClassId, ∀ t9 : FieldType, some t = some t9 → ArrOfT s c t9 ∧ va_RA s c t9 := fun t ⟨c, h⟩ => ⟨c, fun t9 e => by cases e; exact h⟩
    intro k
    match k with
    | 0 => exact go _ (rs_arr (fun C h => by cases h) (hts _ (hT _ (List.mem_of_getElem? (i := 0) rfl))))
    | 1 => exact go _ (rs_arr (fun C h => by cases h) (hts _ (hT _ (List.mem_of_getElem? (i := 1) rfl))))
    | 2 => exact go _ (rs_arr (fun C h => by cases h) (hts _ (hT _ (List.mem_of_getElem? (i := 2) rfl))))
    | 3 => exact go _ (rs_arr (fun C h => by cases h) (hts _ (hT _ (List.mem_of_getElem? (i := 3) rfl))))
    | 4 => exact go _ (rs_arr (fun C h => by cases h) (hts _ (hT _ (List.mem_of_getElem? (i := 4) rfl))))
    | 5 => exact go _ (rs_arrO (hts _ (hT _ (List.mem_of_getElem? (i := 5) rfl))))
    | 6 => exact go _ (rs_arrA (hts _ (hT _ (List.mem_of_getElem? (i := 6) rfl))))
    | k + 7 => exact ⟨c0, fun t h => by cases h⟩
  obtain ⟨D1, hD1⟩ : ∃ D1 : Nat → ClassId × (Nat → Nat), ∀ (ci : Nat) (r : vw_C), ri_cl0[ci]? = some r → u_Kn s r.1 r.2.1 r.2.2 (D1 ci).1 (D1 ci).2 := ⟨fun ci => Classical.choose (h1 ci), fun ci => Classical.choose_spec (h1 ci)⟩
  obtain ⟨cA, hcA⟩ : ∃ cA : Nat → ClassId, ∀ (k : Nat) (t : FieldType), ri_tyL0[k]? = some t → ArrOfT s (cA k) t ∧ va_RA s (cA k) t := ⟨fun k => Classical.choose (h2 k), fun k => Classical.choose_spec (h2 k)⟩
  refine ⟨(fun ci => (D1 ci).1, fun ci => (D1 ci).2), cA, fun ci r hr => hD1 ci r hr, fun k q hq => ?_⟩
  have e : (ri_tys cA ri_tyL0)[k]? = (ri_tyL0[k]?).map (fun t => (cA k, t)) := by
    unfold ri_tys
    rw [List.getElem?_mapIdx]
  rw [e] at hq
  cases ht : ri_tyL0[k]? with
  | none => rw [ht] at hq; cases hq
  | some t =>
    rw [ht] at hq
    cases hq
    exact hcA k t ht
/-- what the tables say at the entry -/
theorem rs_Kx {args : Array Value} {s : State} {D : va_G} {ad : Nat → Nat} {cA : Nat → ClassId} (hts : ∀ w ∈ lw_tbl, w.before args s = true) (hgv : (Jvm.Cond.and given_1 narrow_1).before args s = true) (hA : ∀ a : Nat, a < s.heap.size → ¬ ri_A ad a) (hK : va_K D ri_cl0 (ri_tys cA ri_tyL0) s) (hSS : ri_SS ad (ri_A ad) s s.heap) : ri_Kx ri_NW0 ri_CW0 ri_NC0 ri_AO0 ri_cl0 ri_tyL0 D ad cA s := by
  have hT := rs_at_ok rs_TY
  refine ⟨hK, fun x hx => va_Nw.of rfl (hts _ (rs_at_ok rs_NW _ (List.mem_map.mpr ⟨x, hx, rfl⟩))), fun x hx => va_Nw.of (ri_cw_on x) (hts _ (rs_at_ok rs_CW _ (List.mem_map.mpr ⟨x, hx, rfl⟩))), rs_NC hgv, ?_, ?_, ?_, hSS⟩
  · exact List.forall_mem_cons.mpr ⟨va_AO.of (hts _ (hT _ (List.mem_of_getElem? (i := 5) rfl))), List.forall_mem_cons.mpr ⟨hts _ (hT _ (List.mem_of_getElem? (i := 6) rfl)), fun _ h => absurd h List.not_mem_nil⟩⟩
  · exact vx_Zqof (hts _ (hT _ (List.mem_of_getElem? (i := 7) rfl))) (hts _ (hT _ (List.mem_of_getElem? (i := 9) rfl))) (flat_of_before _ hgv _ rs_s1) hA
  · exact vx_Zqof (hts _ (hT _ (List.mem_of_getElem? (i := 8) rfl))) (hts _ (hT _ (List.mem_of_getElem? (i := 9) rfl))) (flat_of_before _ hgv _ rs_s2) hA
