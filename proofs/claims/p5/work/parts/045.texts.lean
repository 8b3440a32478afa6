/-! ===== the reckoner, texts: String constants, statics, bits of doubles ===== -/
/-- the String constants: whose, where, the text, its bytes. Number i is cell 1000001 + i, its bytes are cell 1100001 + i -/
def sg_tx : List (String × Nat × String × List Int32) := [
  ("StillLoops$Reade\x72", 48, "loop", [108, 111, 111, 112]),
  ("StillLoops$Reade\x72", 140, "lag", [108, 97, 103]),
  ("StillLoops$Reade\x72", 142, "level", [108, 101, 118, 101, 108]),
  ("StillLoops$Reade\x72", 144, "slow", [115, 108, 111, 119]),
  ("StillLoops$Reade\x72", 101, "gain", [103, 97, 105, 110]),
  ("StillLoops$Reade\x72", 109, "tau", [116, 97, 117]),
  ("StillLoops$Reade\x72", 113, "low", [108, 111, 119]),
  ("StillLoops$Reade\x72", 123, "high", [104, 105, 103, 104]),
  ("StillLoops$Reade\x72", 129, "late", [108, 97, 116, 101]),
  ("StillLoops$Reade\x72", 136, "on", [111, 110]),
  ("StillLoops$Reade\x72", 57, "law", [108, 97, 119]),
  ("StillLoops$Reade\x72", 153, "b", [98]),
  ("StillLoops$Reade\x72", 159, "c", [99]),
  ("StillLoops$Reade\x72", 163, "filte\x72", [102, 105, 108, 116, 101, 114]),
  ("StillLoops$Reade\x72", 167, "back", [98, 97, 99, 107]),
  ("StillLoops$Reade\x72", 175, "stick", [115, 116, 105, 99, 107]),
  ("StillLoops$Reade\x72", 181, "hyst", [104, 121, 115, 116]),
  ("StillLoops$Reade\x72", 62, "gains", [103, 97, 105, 110, 115]),
  ("StillLoops$Reade\x72", 185, "from", [102, 114, 111, 109]),
  ("StillLoops$Reade\x72", 193, "kp", [107, 112]),
  ("StillLoops$Reade\x72", 195, "ki", [107, 105]),
  ("StillLoops$Reade\x72", 197, "kd", [107, 100]),
  ("StillLoops$Reade\x72", 67, "curve", [99, 117, 114, 118, 101]),
  ("StillLoops$Reade\x72", 72, "at", [97, 116]),
  ("StillLoops$Reade\x72", 232, "set", [115, 101, 116]),
  ("StillLoops$Reade\x72", 234, "load", [108, 111, 97, 100]),
  ("StillLoops$Reade\x72", 236, "lost", [108, 111, 115, 116]),
  ("StillLoops$Reade\x72", 238, "found", [102, 111, 117, 110, 100]),
  ("StillLoops$Reade\x72", 240, "mode", [109, 111, 100, 101]),
  ("StillLoops$Reade\x72", 242, "manual", [109, 97, 110, 117, 97, 108]),
  ("StillLoops$Reade\x72", 244, "auto", [97, 117, 116, 111]),
  ("StillLoops$Reade\x72", 246, "cascade", [99, 97, 115, 99, 97, 100, 101]),
  ("StillLoopsModel", 275, "loop", [108, 111, 111, 112]),
  ("StillLoopsModel", 177, "lag", [108, 97, 103]),
  ("StillLoopsModel", 179, "level", [108, 101, 118, 101, 108]),
  ("StillLoopsModel", 181, "slow", [115, 108, 111, 119]),
  ("StillLoopsModel", 187, "gain", [103, 97, 105, 110]),
  ("StillLoopsModel", 193, "tau", [116, 97, 117]),
  ("StillLoopsModel", 195, "low", [108, 111, 119]),
  ("StillLoopsModel", 200, "high", [104, 105, 103, 104]),
  ("StillLoopsModel", 202, "late", [108, 97, 116, 101]),
  ("StillLoopsModel", 210, "on", [111, 110]),
  ("StillLoopsModel", 280, "law", [108, 97, 119]),
  ("StillLoopsModel", 224, "b", [98]),
  ("StillLoopsModel", 226, "c", [99]),
  ("StillLoopsModel", 228, "filte\x72", [102, 105, 108, 116, 101, 114]),
  ("StillLoopsModel", 230, "back", [98, 97, 99, 107]),
  ("StillLoopsModel", 232, "stick", [115, 116, 105, 99, 107]),
  ("StillLoopsModel", 234, "hyst", [104, 121, 115, 116]),
  ("StillLoopsModel", 285, "gains", [103, 97, 105, 110, 115]),
  ("StillLoopsModel", 236, "from", [102, 114, 111, 109]),
  ("StillLoopsModel", 238, "kp", [107, 112]),
  ("StillLoopsModel", 243, "ki", [107, 105]),
  ("StillLoopsModel", 245, "kd", [107, 100]),
  ("StillLoopsModel", 290, "curve", [99, 117, 114, 118, 101]),
  ("StillLoopsModel", 295, "at", [97, 116]),
  ("StillLoopsModel", 256, "set", [115, 101, 116]),
  ("StillLoopsModel", 258, "load", [108, 111, 97, 100]),
  ("StillLoopsModel", 260, "lost", [108, 111, 115, 116]),
  ("StillLoopsModel", 262, "found", [102, 111, 117, 110, 100]),
  ("StillLoopsModel", 264, "mode", [109, 111, 100, 101]),
  ("StillLoopsModel", 250, "manual", [109, 97, 110, 117, 97, 108]),
  ("StillLoopsModel", 252, "auto", [97, 117, 116, 111]),
  ("StillLoopsModel", 254, "cascade", [99, 97, 115, 99, 97, 100, 101])]
noncomputable def sg_bs (i : Nat) : List Int32 := match ri_nth sg_tx i with
  | some r => r.2.2.2
  | none => []
/-- statics that are told: whose, name, kind, value -/
def sg_st : List (String × String × String × Value) := [("java/lang/String", "COMPACT_STRINGS", "Z", .int 1), ("java/lang/Math", "negativeZeroDoubleBits", "J", .long (-9223372036854775808)), ("jdk/internal/util/Preconditions", "SIOOBE_FORMATTER", "Ljava/util/function/BiFunction;", .retAddr 0)]
/-- what a state tells of them -/
def ri_SS (ad : Nat → Nat) (A : Nat → Prop) (U : State) (H : Heap) : Prop :=
  (∀ i : Nat, i < 64 → va_O "java/lang/String" (ad (1000001 + i)) A U H ∧ va_OF "java/lang/String" "coder" "B" (.int 0) (ad (1000001 + i)) A U H ∧ va_OF "java/lang/String" "value" "[B" (.ref (ad (1100001 + i))) (ad (1000001 + i)) A U H ∧ va_T .byte (ad (1100001 + i)) (sg_bs i).length (fun j => .int ((sg_bs i).getD j 0)) A U H) ∧
  (∀ (i : Nat) (r : String × Nat × String × List Int32), sg_tx[i]? = some r → vk_R r.1 r.2.1 r.2.2.1 (ad (1000001 + i)) U) ∧
  (∀ x ∈ sg_st, va_Z x.1 x.2.1 x.2.2.1 (ri_v ad x.2.2.2) A U H)
theorem ri_SS.moved {ad : Nat → Nat} {A : Nat → Prop} {s U : State} {H : Heap} (hW : s.WarmedH U.vm) (h : ri_SS ad A s H) : ri_SS ad A U H :=
  ⟨fun i hi => ⟨va_O.moved hW.alike (h.1 i hi).1, va_OF.moved hW.alike (h.1 i hi).2.1, va_OF.moved hW.alike (h.1 i hi).2.2.1, va_T.moved hW.alike (h.1 i hi).2.2.2⟩, fun i r hr => vk_R.warm hW (h.2.1 i r hr), fun x hx => va_Z.moved hW.alike (h.2.2 x hx)⟩
theorem ri_SS.same {ad : Nat → Nat} {A : Nat → Prop} {s U : State} {H : Heap} (hv : U.vm = s.vm) (h : ri_SS ad A s H) : ri_SS ad A U H := by
  have ha : s.vm.Alike U.vm := by rw [hv]; exact Vm.Alike.refl s.vm
  exact ⟨fun i hi => ⟨va_O.moved ha (h.1 i hi).1, va_OF.moved ha (h.1 i hi).2.1, va_OF.moved ha (h.1 i hi).2.2.1, va_T.moved ha (h.1 i hi).2.2.2⟩, fun i r hr => vk_R.same hv (h.2.1 i r hr), fun x hx => va_Z.moved ha (h.2.2 x hx)⟩
theorem ri_SS.kept {ad : Nat → Nat} {A : Nat → Prop} {U : State} {H H1 : Heap} (h : ri_SS ad A U H) (hq : ∀ a : Nat, a < H.size → ¬ A a → H1[a]? = H[a]?) : ri_SS ad A U H1 :=
  ⟨fun i hi => ⟨(h.1 i hi).1.kept hq, (h.1 i hi).2.1.kept hq, (h.1 i hi).2.2.1.kept hq, (h.1 i hi).2.2.2.kept hq⟩, h.2.1, fun x hx => (h.2.2 x hx).kept hq⟩
def sg_d2l : MethodName := ⟨"java/lang/Double", "doubleToRawLongBits", "(D)J"⟩
def sg_l2d : MethodName := ⟨"java/lang/Double", "longBitsToDouble", "(J)D"⟩
/-- steps on texts: 0 the bytes of a String, 1 its coder, 2 how many bytes, 3 one of them; 4 the bits of a double, 5 a double of bits: how long the instruction is, the stack behind it -/
noncomputable def ri_str (d bud a : Nat) (st : List Value) : Option (Nat × List Value) := match a with
  | 0 => (match st with
    | .ref q :: r => ri_ok (Nat.ble 1000001 q && Nat.blt q 1000065) (some (3, .ref (q + 100000) :: r))
    | _ => none)
  | 1 => (match st with
    | .ref q :: r => ri_ok (Nat.ble 1000001 q && Nat.blt q 1000065) (some (3, .int 0 :: r))
    | _ => none)
  | 2 => (match st with
    | .ref q :: r => ri_ok (Nat.ble 1100001 q && Nat.blt q 1100065) (some (1, .int (Int32.ofNat (sg_bs (q - 1100001)).length) :: r))
    | _ => none)
  | 3 => (match st with
    | .int j :: .ref q :: r => ri_ok ((Nat.ble 1100001 q && Nat.blt q 1100065) && (!decide (j < 0) && Nat.blt j.toNatClampNeg (sg_bs (q - 1100001)).length)) (some (1, .int ((sg_bs (q - 1100001)).getD j.toNatClampNeg 0) :: r))
    | _ => none)
  | 4 => (match st with
    | .double x :: r => ri_ok (Nat.ble 1 d && Nat.ble ((r.map fun v => v.category).sum + 15) bud) (some (3, .long x.toInt64 :: r))
    | _ => none)
  | 5 => (match st with
    | .long x :: r => ri_ok ((Nat.ble 1 d && Nat.ble ((r.map fun v => v.category).sum + 15) bud) && !vn_snl2d x) (some (3, .double x.toUInt64 :: r))
    | _ => none)
  | _ => none
/-- what they ask of the tables -/
def ri_slink (WG : List Jvm.Cond) (own : String) (i : Instr) (a : Nat) : Prop := match a with
  | 0 => ∃ idx : Nat, i = .getfield idx ∧ Jvm.Cond.fieldLink own idx "java/lang/String" "value" "[B" ∈ WG
  | 1 => ∃ idx : Nat, i = .getfield idx ∧ Jvm.Cond.fieldLink own idx "java/lang/String" "coder" "B" ∈ WG
  | 2 => i = .arraylength
  | 3 => i = .baload
  | 4 => ∃ idx : Nat, i = .invokestatic idx ∧ Jvm.Cond.methodLink own idx sg_d2l ∈ WG ∧ Jvm.Cond.native sg_d2l ∈ WG ∧ Jvm.Cond.static sg_d2l ∈ WG ∧ Jvm.Cond.initialized "java/lang/Double" ∈ WG
  | 5 => ∃ idx : Nat, i = .invokestatic idx ∧ Jvm.Cond.methodLink own idx sg_l2d ∈ WG ∧ Jvm.Cond.native sg_l2d ∈ WG ∧ Jvm.Cond.static sg_l2d ∈ WG ∧ Jvm.Cond.initialized "java/lang/Double" ∈ WG
  | _ => True
theorem sg_a {q : Nat} (h : (Nat.ble 1000001 q && Nat.blt q 1000065) = true) : q - 1000001 < 64 ∧ 1000001 + (q - 1000001) = q ∧ 1100001 + (q - 1000001) = q + 100000 := by
  rw [Bool.and_eq_true] at h
  have q1 := Nat.le_of_ble_eq_true h.1
  have q2 : q < 1000065 := Nat.le_of_ble_eq_true h.2
  omega
theorem sg_b {q : Nat} (h : (Nat.ble 1100001 q && Nat.blt q 1100065) = true) : q - 1100001 < 64 ∧ 1100001 + (q - 1100001) = q := by
  rw [Bool.and_eq_true] at h
  have q1 := Nat.le_of_ble_eq_true h.1
  have q2 : q < 1100065 := Nat.le_of_ble_eq_true h.2
  omega
theorem sg_c {q : Nat} (h : Nat.ble 1000001 q = true) : 1000001 + (q - 1000001) = q := by
  have q1 := Nat.le_of_ble_eq_true h
  omega
section RIS9
variable {p : Program} {l : Launch} {e : Env} {R : Room} {s : State} {m : MethodId} {args : Array Value} {below : List Frame} {meth : Method} {c : Code} {H : Heap} {locs : List Loc} {cells slots : Nat} {Q : State → Prop} {cc : ByteArray} {pc : Nat} {ls : Array Slot} {A : Nat → Prop}
theorem ri_ldcW (hexec : p.tables.exec = Jvm.exec) (hb : c.code = cc) {own tx : String} {index q : Nat} {rest : List Value} (hown : s.vm.findClass own = some m.cls) (hZ : vk_R own index tx q s) (hdg : decode cc pc = .ok (.ldc_w index, 3))
    (k : W p l e R s m args below meth c H locs cells slots Q (F0 m (pc + 3) ls (.ref q :: rest))) : W p l e R s m args below meth c H locs cells slots Q (F0 m pc ls rest) := by
  intro T hT X
  obtain ⟨t, a1, b1⟩ := k T hT X
  exact ⟨t, X.ldcStringW hexec hown (text := tx) (a := q) hZ.1 hZ.2 (g := F0 m pc ls rest) rfl (by rw [hb]; exact hdg) t a1, b1⟩
theorem ri_str_ok {ad : Nat → Nat} {WG : List Jvm.Cond} {own : String} {i : Instr} {a len d bud : Nat} {st : List Value} {z : Nat × List Value} (hexec : p.tables.exec = Jvm.exec) (hb : c.code = cc) (hml : c.maxLocals = ls.size) (hown : s.vm.findClass own = some m.cls) (hts : ∀ x ∈ WG, x.before args s = true) (hZ : ri_SS ad A s s.heap) (hS : va_S A s.heap H locs)
    (hl : ri_slink WG own i a) (hd : decode cc pc = .ok (i, len)) (hlen : ri_len i = 0 ∨ ri_len i = len) (hdR : d ≤ R.frames) (hbR : bud ≤ R.locals) (h : ri_str d bud a st = some z)
    (k : W p l e R s m args below meth c H locs cells slots Q (F0 m (pc + z.1) ls (z.2.map (ri_v ad)))) : W p l e R s m args below meth c H locs cells slots Q (F0 m pc ls (st.map (ri_v ad))) := by
  unfold ri_str at h
  split at h
  · split at h
    · rename_i q r
      obtain ⟨hq, h2⟩ := ri_ok_eq h
      cases h2
      obtain ⟨q1, q2, q3⟩ := sg_a hq
      obtain ⟨idx, rfl, hw⟩ := hl
      have hd3 : decode cc pc = .ok (Instr.getfield idx, 3) := by rw [hd]; exact congrArg (fun z => Except.ok (Instr.getfield idx, z)) (hlen.resolve_left (fun q => by cases q)).symm
      have hE := (hZ.1 (q - 1000001) q1).2.2.1
      rw [q2, q3] at hE
      exact vk_getf (own := own) (ref := "java/lang/String") hexec hb hE hS hown (hts _ hw) (fun x hx => hx) hd3 k
    · cases h
  · split at h
    · rename_i q r
      obtain ⟨hq, h2⟩ := ri_ok_eq h
      cases h2
      obtain ⟨q1, q2, q3⟩ := sg_a hq
      obtain ⟨idx, rfl, hw⟩ := hl
      have hd3 : decode cc pc = .ok (Instr.getfield idx, 3) := by rw [hd]; exact congrArg (fun z => Except.ok (Instr.getfield idx, z)) (hlen.resolve_left (fun q => by cases q)).symm
      have hE := (hZ.1 (q - 1000001) q1).2.1
      rw [q2] at hE
      exact vk_getf (own := own) (ref := "java/lang/String") hexec hb hE hS hown (hts _ hw) (fun x hx => hx) hd3 k
    · cases h
  · split at h
    · rename_i q r
      obtain ⟨hq, h2⟩ := ri_ok_eq h
      cases h2
      obtain ⟨q1, q2⟩ := sg_b hq
      have e0 : i = .arraylength := hl
      subst e0
      have hd3 : decode cc pc = .ok (Instr.arraylength, 1) := by rw [hd]; exact congrArg (fun z => Except.ok (Instr.arraylength, z)) (hlen.resolve_left (fun q => by cases q)).symm
      have hE := (hZ.1 (q - 1100001) q1).2.2.2
      rw [q2] at hE
      exact va_tlen hexec hb hE hS rfl hd3 k
    · cases h
  · split at h
    · rename_i j q r
      obtain ⟨hq, h2⟩ := ri_ok_eq h
      cases h2
      rw [Bool.and_eq_true] at hq
      obtain ⟨g1, g3⟩ := hq
      rw [Bool.and_eq_true] at g3
      obtain ⟨g3, g4⟩ := g3
      obtain ⟨q1, q2⟩ := sg_b g1
      have c2 : ¬ j < 0 := by simpa using g3
      have c3 : j.toNatClampNeg + 1 ≤ (sg_bs (q - 1100001)).length := Nat.le_of_ble_eq_true g4
      have e0 : i = .baload := hl
      subst e0
      have hd3 : decode cc pc = .ok (Instr.baload, 1) := by rw [hd]; exact congrArg (fun z => Except.ok (Instr.baload, z)) (hlen.resolve_left (fun q => by cases q)).symm
      have hE := (hZ.1 (q - 1100001) q1).2.2.2
      rw [q2] at hE
      exact va_tb hexec hb hE hS (fun z => z.elim c2 (fun z => by omega)) rfl hd3 k
    · cases h
  · split at h
    · rename_i x r
      obtain ⟨hq, h2⟩ := ri_ok_eq h
      cases h2
      rw [Bool.and_eq_true] at hq
      have q1 := Nat.le_of_ble_eq_true hq.1
      have q2 := Nat.le_of_ble_eq_true hq.2
      obtain ⟨idx, rfl, w1, w2, w3, w4⟩ := hl
      have hd3 : decode cc pc = .ok (Instr.invokestatic idx, 3) := by rw [hd]; exact congrArg (fun z => Except.ok (Instr.invokestatic idx, z)) (hlen.resolve_left (fun q => by cases q)).symm
      have hsum : ((r.map (ri_v ad)).map fun v => v.category).sum = (r.map fun v => v.category).sum := by
        rw [List.map_map]; congr 1; exact List.map_congr_left (fun v _ => ri_v_cat ad v)
      exact vn_d2l hexec hb hml hown (hts _ w1) (hts _ w2) (hts _ w3) (hts _ w4) (Nat.le_trans q1 hdR) (by rw [hsum]; exact Nat.le_trans q2 hbR) hd3 k
    · cases h
  · split at h
    · rename_i x r
      obtain ⟨hq, h2⟩ := ri_ok_eq h
      cases h2
      simp only [Bool.and_eq_true] at hq
      obtain ⟨⟨g1, g2⟩, g3⟩ := hq
      have q1 := Nat.le_of_ble_eq_true g1
      have q2 := Nat.le_of_ble_eq_true g2
      obtain ⟨idx, rfl, w1, w2, w3, w4⟩ := hl
      have hd3 : decode cc pc = .ok (Instr.invokestatic idx, 3) := by rw [hd]; exact congrArg (fun z => Except.ok (Instr.invokestatic idx, z)) (hlen.resolve_left (fun q => by cases q)).symm
      have hsum : ((r.map (ri_v ad)).map fun v => v.category).sum = (r.map fun v => v.category).sum := by
        rw [List.map_map]; congr 1; exact List.map_congr_left (fun v _ => ri_v_cat ad v)
      exact vn_l2d hexec hb hml hown (hts _ w1) (hts _ w2) (hts _ w3) (hts _ w4) (by simpa using g3) (Nat.le_trans q1 hdR) (by rw [hsum]; exact Nat.le_trans q2 hbR) hd3 k
    · cases h
  · cases h
end RIS9
