/-! ===== Strings and statics at the entry ===== -/
abbrev rs_Rw : Type := String × Nat × String × List Int32
/-- what is asked of a String -/
noncomputable def rs_sc (r : rs_Rw) : List Jvm.Cond := .exactly (.string r.1 r.2.1) "java/lang/String" :: .eq (.field (.string r.1 r.2.1) "java/lang/String" "coder" "B") (.int 0) :: .arrayOf (.field (.string r.1 r.2.1) "java/lang/String" "value" "[B") .byte :: .eq (.length (.field (.string r.1 r.2.1) "java/lang/String" "value" "[B")) (.int (Int32.ofNat r.2.2.2.length)) :: (List.range r.2.2.2.length).map (fun j => .eq (.elem (.field (.string r.1 r.2.1) "java/lang/String" "value" "[B") (.int (Int32.ofNat j))) (.int (r.2.2.2.getD j 0)))
noncomputable def rs_scs (l : List rs_Rw) : List Jvm.Cond := List.rec [] (fun r _ ih => rs_sc r ++ ih) l
theorem rs_scs_mem {c : Jvm.Cond} {r : rs_Rw} (hc : c ∈ rs_sc r) : ∀ {l : List rs_Rw}, r ∈ l → c ∈ rs_scs l
  | [], h => by cases h
  | x :: l, h => by
    show c ∈ rs_sc x ++ rs_scs l
    rcases List.mem_cons.mp h with rfl | h
    · exact List.mem_append_left _ hc
    · exact List.mem_append_right _ (rs_scs_mem hc h)
def rs_isS (c : Jvm.Cond) : Bool := match c with
  | .exactly _ _ => true
  | .arrayOf (.field _ _ _ _) _ => true
  | .eq (.field _ _ _ _) _ => true
  | .eq (.length (.field _ _ _ _)) _ => true
  | .eq (.elem (.field _ _ _ _) _) _ => true
  | _ => false
set_option maxRecDepth 100000 in
theorem rs_sflat : (flatC (Jvm.Cond.and given_1 narrow_1)).filter rs_isS = rs_scs sg_tx := by decide +kernel
set_option maxRecDepth 100000 in
theorem rs_SR : rs_at [949, 1034, 1035, 1036, 1041, 1062, 1063, 1068, 1074, 1075, 1076, 1085, 1086, 1087, 1088, 1089, 1090, 1091, 1096, 1097, 1098, 1099, 1101, 1106, 1115, 1116, 1117, 1118, 1119, 1124, 1125, 1126, 1737, 1756, 1757, 1758, 1766, 1786, 1787, 1792, 1797, 1807, 1825, 1830, 1831, 1832, 1833, 1834, 1835, 1836, 1841, 1842, 1847, 1848, 1849, 1858, 1868, 1869, 1870, 1871, 1872, 1877, 1878, 1879] (sg_tx.map (fun r => Jvm.Cond.stringRef r.1 r.2.1 r.2.2.1)) = true := by decide +kernel
set_option maxRecDepth 100000 in
theorem rs_ST : rs_at [963, 2262, 983, 137, 146, 139] [.laysStatic "java/lang/String" "COMPACT_STRINGS" "Z", .laysStatic "java/lang/Math" "negativeZeroDoubleBits" "J", .laysStatic "jdk/internal/util/Preconditions" "SIOOBE_FORMATTER" "Ljava/util/function/BiFunction;", .initialized "java/lang/String", .initialized "java/lang/Math", .initialized "jdk/internal/util/Preconditions"] = true := by decide +kernel
theorem rs_e0 : Jvm.Cond.eq (.static "java/lang/String" "COMPACT_STRINGS" "Z") (.int 1) ∈ flatC (Jvm.Cond.and given_1 narrow_1) := by decide +kernel
theorem rs_e1 : Jvm.Cond.eq (.static "java/lang/Math" "negativeZeroDoubleBits" "J") (.long (-9223372036854775808)) ∈ flatC (Jvm.Cond.and given_1 narrow_1) := by decide +kernel
theorem rs_e2 : Jvm.Cond.isRef (.static "jdk/internal/util/Preconditions" "SIOOBE_FORMATTER" "Ljava/util/function/BiFunction;") ∈ flatC (Jvm.Cond.and given_1 narrow_1) := by decide +kernel
theorem rs_tlen : ∀ r ∈ sg_tx, r.2.2.2.length < 2 ^ 31 := by decide +kernel
theorem rs_str {args : Array Value} {s : State} (hgv : (Jvm.Cond.and given_1 narrow_1).before args s = true) {r : rs_Rw} (hr : r ∈ sg_tx) {A : Nat → Prop} (hA : ∀ a : Nat, a < s.heap.size → ¬ A a) : ∃ q : Nat × Nat, (Term.string r.1 r.2.1).eval args s none [] s = some (.ref q.1) ∧ va_O "java/lang/String" q.1 A s s.heap ∧ va_OF "java/lang/String" "coder" "B" (.int 0) q.1 A s s.heap ∧ va_OF "java/lang/String" "value" "[B" (.ref q.2) q.1 A s s.heap ∧ va_T .byte q.2 r.2.2.2.length (fun j => .int (r.2.2.2.getD j 0)) A s s.heap := by
  have hb : ∀ c ∈ rs_sc r, c.before args s = true := fun c hc => flat_of_before _ hgv c (List.mem_filter.mp (show c ∈ (flatC (Jvm.Cond.and given_1 narrow_1)).filter rs_isS by rw [rs_sflat]; exact rs_scs_mem hc hr)).1
  obtain ⟨a, c, cA, kA, q1, q2, q3, q4, q5, q6, -⟩ := Cond.exactly_spec (args := args) (first := s) (o := none) (s := s) (idx := []) (t := .string r.1 r.2.1) (cls := "java/lang/String") (hb _ List.mem_cons_self)
  have hco := va_eqt (hb _ (List.mem_cons_of_mem _ List.mem_cons_self))
  have har := hb _ (List.mem_cons_of_mem _ (List.mem_cons_of_mem _ List.mem_cons_self))
  have hle := va_eqt (hb _ (List.mem_cons_of_mem _ (List.mem_cons_of_mem _ (List.mem_cons_of_mem _ List.mem_cons_self))))
  obtain ⟨t, ht, hT⟩ := va_Tof (f := fun j => .int (r.2.2.2.getD j 0)) (A := A) (rs_tlen r hr) har hle (fun j hj => va_eqt (hb _ (List.mem_cons_of_mem _ (List.mem_cons_of_mem _ (List.mem_cons_of_mem _ (List.mem_cons_of_mem _ (List.mem_map.mpr ⟨j, List.mem_range.mpr hj, rfl⟩))))))) hA
  exact ⟨(a, t), q1, ⟨cA, q3, q5, by rw [q6]; exact q2, hA a (Array.getElem?_eq_some_iff.mp q3).1⟩, vk_OFof q1 hco hA, vk_OFof q1 ht hA, hT⟩
/-- the places of Strings, of their bytes, and what the formatter's static holds -/
theorem rs_SS {args : Array Value} {s : State} (hts : ∀ w ∈ lw_tbl, w.before args s = true) (hgv : (Jvm.Cond.and given_1 narrow_1).before args s = true) : ∃ (ks vs : Nat → Nat) (z : Nat), ∀ ad : Nat → Nat, (∀ i : Nat, i < 64 → ad (1000001 + i) = ks i ∧ ad (1100001 + i) = vs i) → ad 3000000 = z → ∀ A : Nat → Prop, (∀ a : Nat, a < s.heap.size → ¬ A a) → ri_SS ad A s s.heap := by
  have hA0 : ∀ a : Nat, a < s.heap.size → ¬ (fun a => ¬ a < s.heap.size) a := fun a h q => q h
  have hT := rs_at_ok rs_ST
  have hlen : sg_tx.length = 64 := rfl
  have h0 : ∀ i : Nat, ∃ q : Nat × Nat, ∀ r : rs_Rw, sg_tx[i]? = some r → (Term.string r.1 r.2.1).eval args s none [] s = some (.ref q.1) ∧ va_O "java/lang/String" q.1 (fun a => ¬ a < s.heap.size) s s.heap ∧ va_OF "java/lang/String" "coder" "B" (.int 0) q.1 (fun a => ¬ a < s.heap.size) s s.heap ∧ va_OF "java/lang/String" "value" "[B" (.ref q.2) q.1 (fun a => ¬ a < s.heap.size) s s.heap ∧ va_T .byte q.2 r.2.2.2.length (fun j => .int (r.2.2.2.getD j 0)) (fun a => ¬ a < s.heap.size) s s.heap := by
    intro i
    cases hi : sg_tx[i]? with
    | none => exact ⟨(0, 0), fun r h => by cases h⟩
    | some r =>
      obtain ⟨q, hq⟩ := rs_str (A := fun a => ¬ a < s.heap.size) hgv (List.mem_of_getElem? hi) hA0
      exact ⟨q, fun r2 h => by cases h; exact hq⟩
  obtain ⟨f, hf⟩ := Classical.axiomOfChoice h0
  have hz : ∃ z : Nat, ∀ ad : Nat → Nat, ad 3000000 = z → va_Z "jdk/internal/util/Preconditions" "SIOOBE_FORMATTER" "Ljava/util/function/BiFunction;" (ri_v ad (.retAddr 0)) (fun a => ¬ a < s.heap.size) s s.heap := by
    rcases va_Zqof (hts _ (hT _ (List.mem_of_getElem? (i := 2) rfl))) (hts _ (hT _ (List.mem_of_getElem? (i := 5) rfl))) (flat_of_before _ hgv _ rs_e2) hA0 with h | ⟨t, h⟩
    · refine ⟨0, fun ad e => ?_⟩
      have e2 : ri_v ad (.retAddr 0) = .null := by
        show (match ad (3000000 + 0) with
          | 0 => Value.null
          | a + 1 => .ref a) = .null
        rw [Nat.add_zero, e]
      rw [e2]
      exact h
    · refine ⟨t + 1, fun ad e => ?_⟩
      have e2 : ri_v ad (.retAddr 0) = .ref t := by
        show (match ad (3000000 + 0) with
          | 0 => Value.null
          | a + 1 => .ref a) = .ref t
        rw [Nat.add_zero, e]
      rw [e2]
      exact h
  obtain ⟨z, hz⟩ := hz
  refine ⟨fun i => (f i).1, fun i => (f i).2, z, fun ad h1 h2 A hA => ?_⟩
  have hB : ∀ q : Nat, A q → ¬ q < s.heap.size := fun q hq hlt => hA q hlt hq
  refine ⟨?_, ?_, ?_⟩
  · intro i hi
    have hr : sg_tx[i]? = some (sg_tx[i]'(by rw [hlen]; exact hi)) := List.getElem?_eq_getElem _
    obtain ⟨-, g1, g2, g3, g4⟩ := hf i _ hr
    have hbs : sg_bs i = (sg_tx[i]'(by rw [hlen]; exact hi)).2.2.2 := by
      unfold sg_bs
      rw [ri_nth_eq, hr]
    rw [(h1 i hi).1, (h1 i hi).2, hbs]
    exact ⟨g1.narrow hB, g2.narrow hB, g3.narrow hB, g4.narrow hB⟩
  · intro i r hr
    have hi : i < 64 := by
      have h9 := (List.getElem?_eq_some_iff.mp hr).1
      rw [hlen] at h9
      exact h9
    rw [(h1 i hi).1]
    exact vk_R.of (hts _ (rs_at_ok rs_SR _ (List.mem_map.mpr ⟨r, List.mem_of_getElem? hr, rfl⟩))) (hf i r hr).1
  · intro x hx
    rcases List.mem_cons.mp hx with rfl | hx
    · exact (va_Zof (v := .int 1) (hts _ (hT _ (List.mem_of_getElem? (i := 0) rfl))) (hts _ (hT _ (List.mem_of_getElem? (i := 3) rfl))) (va_eqt (flat_of_before _ hgv _ rs_e0)) hA0).narrow hB
    rcases List.mem_cons.mp hx with rfl | hx
    · exact (va_Zof (v := .long (-9223372036854775808)) (hts _ (hT _ (List.mem_of_getElem? (i := 1) rfl))) (hts _ (hT _ (List.mem_of_getElem? (i := 4) rfl))) (va_eqtl (flat_of_before _ hgv _ rs_e1)) hA0).narrow hB
    rcases List.mem_cons.mp hx with rfl | hx
    · exact (hz ad h2).narrow hB
    · cases hx
