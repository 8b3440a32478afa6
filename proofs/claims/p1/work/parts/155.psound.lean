/-! ===== paths: what is known of the unknown ints, and what a run over them comes to ===== -/
/-- what is known of an unknown int: between these two; and, if so said, not 0 -/
def rh_holds (r : rg_I) (x : Int32) : Prop := r.1 ≤ x.toInt ∧ x.toInt ≤ r.2.1 ∧ (r.2.2 = true → x.toInt ≠ 0)
theorem rh_lt_ok {r : rg_I} {x : Int32} {y : Int} {b : Bool} (h : rh_holds r x) (hd : rg_lt r y = some b) : decide (x.toInt < y) = b := by
  obtain ⟨h1, h2, -⟩ := h
  unfold rg_lt at hd
  cases e1 : decide (r.2.1 < y) with
  | true =>
    rw [e1, cond_true] at hd
    cases hd
    have := of_decide_eq_true e1
    exact decide_eq_true (by omega)
  | false =>
    rw [e1, cond_false] at hd
    cases e2 : decide (y ≤ r.1) with
    | true =>
      rw [e2, cond_true] at hd
      cases hd
      have := of_decide_eq_true e2
      exact decide_eq_false (by omega)
    | false =>
      rw [e2, cond_false] at hd
      cases hd
theorem rh_gt_ok {r : rg_I} {x : Int32} {y : Int} {b : Bool} (h : rh_holds r x) (hd : rg_gt r y = some b) : decide (y < x.toInt) = b := by
  obtain ⟨h1, h2, -⟩ := h
  unfold rg_gt at hd
  cases e1 : decide (y < r.1) with
  | true =>
    rw [e1, cond_true] at hd
    cases hd
    have := of_decide_eq_true e1
    exact decide_eq_true (by omega)
  | false =>
    rw [e1, cond_false] at hd
    cases e2 : decide (r.2.1 ≤ y) with
    | true =>
      rw [e2, cond_true] at hd
      cases hd
      have := of_decide_eq_true e2
      exact decide_eq_false (by omega)
    | false =>
      rw [e2, cond_false] at hd
      cases hd
theorem rh_eq_ok {r : rg_I} {x : Int32} {y : Int} {b : Bool} (h : rh_holds r x) (hd : rg_eq r y = some b) : decide (x.toInt = y) = b := by
  obtain ⟨h1, h2, h3⟩ := h
  unfold rg_eq at hd
  cases e1 : (decide (r.2.1 < y) || decide (y < r.1)) with
  | true =>
    rw [e1, cond_true] at hd
    cases hd
    rw [Bool.or_eq_true] at e1
    refine decide_eq_false (fun e => ?_)
    rcases e1 with e1 | e1
    · have := of_decide_eq_true e1
      omega
    · have := of_decide_eq_true e1
      omega
  | false =>
    rw [e1, cond_false] at hd
    cases e2 : (decide (r.1 = y) && decide (r.2.1 = y)) with
    | true =>
      rw [e2, cond_true] at hd
      cases hd
      rw [Bool.and_eq_true] at e2
      have a1 := of_decide_eq_true e2.1
      have a2 := of_decide_eq_true e2.2
      exact decide_eq_true (by omega)
    | false =>
      rw [e2, cond_false] at hd
      cases e3 : (r.2.2 && decide (y = 0)) with
      | true =>
        rw [e3, cond_true] at hd
        cases hd
        rw [Bool.and_eq_true] at e3
        have a1 := of_decide_eq_true e3.2
        have a2 := h3 e3.1
        exact decide_eq_false (by omega)
      | false =>
        rw [e3, cond_false] at hd
        cases hd
theorem rh_is {o : Option Bool} {b : Bool} (h : rg_is o b = true) : o = some b := by
  cases o with
  | none => cases h
  | some x => exact congrArg some (eq_of_beq (show (x == b) = true from h))
theorem rh_not {o : Option Bool} {b : Bool} (h : o.map not = some b) : o = some (!b) := by
  cases o with
  | none => cases h
  | some x => cases x <;> cases b <;> first | rfl | cases h
theorem rh_dec_ok {c : Jvm.ClassFile.Cond} {r : rg_I} {x y : Int32} {b : Bool} (h : rh_holds r x) (hd : rg_is (rg_dec c r y.toInt) b = true) : ri_cnd c x y = b := by
  have hd := rh_is hd
  have e_lt : decide (x < y) = decide (x.toInt < y.toInt) := decide_eq_decide.mpr Int32.lt_iff_toInt_lt
  have e_gt : decide (y < x) = decide (y.toInt < x.toInt) := decide_eq_decide.mpr Int32.lt_iff_toInt_lt
  have e_eq : decide (x = y) = decide (x.toInt = y.toInt) := decide_eq_decide.mpr Int32.toInt_inj.symm
  have e_ge : decide (y ≤ x) = !decide (x.toInt < y.toInt) := by
    rw [← decide_not]
    exact decide_eq_decide.mpr (Int32.le_iff_toInt_le.trans Int.not_lt.symm)
  have e_le : decide (x ≤ y) = !decide (y.toInt < x.toInt) := by
    rw [← decide_not]
    exact decide_eq_decide.mpr (Int32.le_iff_toInt_le.trans Int.not_lt.symm)
  cases c with
  | eq => exact e_eq.trans (rh_eq_ok h hd)
  | ne =>
    show (!decide (x = y)) = b
    rw [e_eq, rh_eq_ok h (rh_not hd), Bool.not_not]
  | lt => exact e_lt.trans (rh_lt_ok h hd)
  | ge =>
    show decide (y ≤ x) = b
    rw [e_ge, rh_lt_ok h (rh_not hd), Bool.not_not]
  | gt => exact e_gt.trans (rh_gt_ok h hd)
  | le =>
    show decide (x ≤ y) = b
    rw [e_le, rh_gt_ok h (rh_not hd), Bool.not_not]
theorem rh_lcmp {x : Int32} {Y : Int64} : ri_cnd .lt (lg_cmp x.toInt64 Y) 0 = decide (x.toInt < Y.toInt) := by
  have e : (lg_cmp x.toInt64 Y < 0) ↔ x.toInt < Y.toInt := by
    have h1 := lg_cmp_ge x.toInt64 Y
    rw [← Int32.not_le, h1, Int64.not_le, Int64.lt_iff_toInt_lt, Int32.toInt_toInt64]
  exact decide_eq_decide.mpr e
/-- where the cells, the script and the unknown are -/
def rh_ad (sz b : Nat) (v : Nat → Int32) (j : Nat) : Nat := if j < 1000000 then sz + j else if j < 2000000 then b else (v (j - 2000000)).toUInt32.toNat
def rh_V (v : Nat → Int32) (x : Value) : Int32 := match x with
  | .int x => x
  | .float k => v k.toNat
  | _ => 0
theorem rh_ofNat (x : Int32) : Int32.ofNat x.toUInt32.toNat = x := by
  apply Int32.toBitVec_inj.mp
  simp
theorem rh_I {sz b : Nat} {v : Nat → Int32} (x : Value) : ri_I (rh_ad sz b v) x = rh_V v x := by
  cases x with
  | float k =>
    show Int32.ofNat (rh_ad sz b v (2000000 + k.toNat)) = v k.toNat
    have e : rh_ad sz b v (2000000 + k.toNat) = (v k.toNat).toUInt32.toNat := by
      unfold rh_ad
      rw [if_neg (by omega), if_neg (by omega), Nat.add_sub_cancel_left]
    rw [e, rh_ofNat]
  | _ => rfl
theorem rh_sy {sz b k : Nat} {v : Nat → Int32} (hk : k < 4294967296) : ri_sy (rh_ad sz b v) k = v k := by
  unfold ri_sy
  rw [rh_I]
  show v (UInt32.ofNat k).toNat = v k
  rw [UInt32.toNat_ofNat_of_lt' hk]
theorem rh_sem2 {ad : Nat → Nat} {i : Instr} {x y : Value} {k : Nat} {g : Bool} (h : ri_ar i = 2) : ri_sem ad (i, x, y, k, g) = (ri_op2 i (ri_I ad x) (ri_I ad y) = some (ri_sy ad k)) := by
  cases i <;> first | rfl | (exact absurd h (by decide)) | (exact absurd h (fun e => by cases e))
theorem rh_sem1 {ad : Nat → Nat} {i : Instr} {x y : Value} {k : Nat} {g : Bool} (h : ri_ar i = 1) : ri_sem ad (i, x, y, k, g) = (ri_op1 i (ri_I ad x) = some (ri_sy ad k)) := by
  cases i <;> first | rfl | (exact absurd h (by decide)) | (exact absurd h (fun e => by cases e))
theorem rh_op2 {i : Instr} (h : ri_ar i = 2) (x y : Int32) : ∃ z, ri_op2 i x y = some z := by
  cases i <;> first | exact ⟨_, rfl⟩ | (exact absurd h (by decide)) | (exact absurd h (fun e => by cases e))
theorem rh_op1 {i : Instr} (h : ri_ar i = 1) (x : Int32) : ∃ z, ri_op1 i x = some z := by
  cases i <;> first | exact ⟨_, rfl⟩ | (exact absurd h (by decide)) | (exact absurd h (fun e => by cases e))
theorem rh_c1_ar {R : Nat → rg_I} {fr k : Nat} {i : Instr} {x y : Value} {g : Bool} (h : ri_ar i ≠ 0) (hc : rg_c1 R fr (i, x, y, k, g) = true) : k = fr ∧ rg_u x fr = true ∧ (ri_ar i = 1 ∨ (ri_ar i = 2 ∧ rg_u y fr = true)) := by
  have e : rg_c1 R fr (i, x, y, k, g) = (Nat.beq k fr && (rg_u x fr && (match ri_ar i with
    | 2 => rg_u y fr
    | 1 => true
    | _ => false))) := by
    cases i <;> first | rfl | (exact absurd rfl h)
  rw [e, Bool.and_eq_true, Bool.and_eq_true] at hc
  obtain ⟨h1, h2, h3⟩ := hc
  refine ⟨Nat.eq_of_beq_eq_true h1, h2, ?_⟩
  split at h3
  · rename_i e9
    exact Or.inr ⟨e9, h3⟩
  · rename_i e9
    exact Or.inl e9
  · cases h3
theorem rh_u {v v0 : Nat → Int32} {x : Value} {fr : Nat} (h : rg_u x fr = true) (hv : ∀ k, k < fr → v k = v0 k) : rh_V v x = rh_V v0 x := by
  cases x with
  | float k => exact hv _ (Nat.le_of_ble_eq_true h)
  | int x => rfl
  | _ => cases h
theorem rh_br {R : Nat → rg_I} {c : Jvm.ClassFile.Cond} {x : Value} {y : Int} {b : Bool} (h : rg_br R c x y b = true) : ∃ k : UInt32, x = .float k ∧ k.toNat < 7 ∧ rg_is (rg_dec c (R k.toNat) y) b = true := by
  cases x with
  | float k =>
    have h2 : (Nat.blt k.toNat 7 && rg_is (rg_dec c (R k.toNat) y) b) = true := h
    rw [Bool.and_eq_true] at h2
    exact ⟨k, rfl, Nat.le_of_ble_eq_true h2.1, h2.2⟩
  | _ => cases h
/-- one condition: there is a number for the unknown fr with which it holds -/
theorem rh_c1_ok {R : Nat → rg_I} {fr : Nat} {q : ri_Cd} {v0 : Nat → Int32} {sz b : Nat} (h7 : 7 ≤ fr) (h32 : fr < 4294967296) (hR : ∀ k, k < 7 → rh_holds (R k) (v0 k)) (h : rg_c1 R fr q = true) :
    ∃ z : Int32, ∀ v : Nat → Int32, (∀ k, k < fr → v k = v0 k) → v fr = z → ri_sem (rh_ad sz b v) q := by
  obtain ⟨i, x, y, k, g⟩ := q
  by_cases h0 : ri_ar i = 0
  · refine ⟨0, fun v hv _ => ?_⟩
    have hx : ∀ {u : UInt32}, u.toNat < 7 → rh_holds (R u.toNat) (v u.toNat) := fun {u} hu => by rw [hv _ (by omega)]; exact hR _ hu
    cases i with
    | if_icmp c o =>
      cases y with
      | int y =>
        obtain ⟨u, rfl, hu, hd⟩ := rh_br (show rg_br R c x y.toInt g = true from h)
        show ri_cnd c (ri_I _ (.float u)) (ri_I _ (.int y)) = g
        rw [rh_I, rh_I]
        exact rh_dec_ok (hx hu) hd
      | _ => cases h
    | ifCond c o =>
      obtain ⟨u, rfl, hu, hd⟩ := rh_br (show rg_br R c x 0 g = true from h)
      show ri_cnd c (ri_I _ (.float u)) 0 = g
      rw [rh_I]
      exact rh_dec_ok (y := 0) (hx hu) hd
    | lcmp =>
      cases y with
      | long y =>
        obtain ⟨u, rfl, hu, hd⟩ := rh_br (show rg_br R .lt x y.toInt g = true from h)
        show ri_cnd .lt (lg_cmp (ri_I _ (.float u)).toInt64 y) 0 = g
        rw [rh_I, rh_lcmp]
        exact rh_lt_ok (hx hu) (rh_is hd)
      | _ => cases h
    | _ =>
      first
      | (exfalso; cases h0; done)
      | (exfalso; revert h; show (Nat.beq k fr && (rg_u x fr && false)) = true → False; rw [Bool.and_false, Bool.and_false]; exact fun e => by cases e)
  · obtain ⟨rfl, hu, ha⟩ := rh_c1_ar h0 h
    rcases ha with ha | ⟨ha, hy⟩
    · obtain ⟨z, hz⟩ := rh_op1 ha (rh_V v0 x)
      refine ⟨z, fun v hv hf => ?_⟩
      rw [rh_sem1 ha, rh_I, rh_sy h32, hf, rh_u hu hv, hz]
    · obtain ⟨z, hz⟩ := rh_op2 ha (rh_V v0 x) (rh_V v0 y)
      refine ⟨z, fun v hv hf => ?_⟩
      rw [rh_sem2 ha, rh_I, rh_I, rh_sy h32, hf, rh_u hu hv, rh_u hy hv, hz]
theorem rh_cs_ok {R : Nat → rg_I} {sz b : Nat} : ∀ (cs : List ri_Cd) (fr : Nat) (v0 : Nat → Int32), 7 ≤ fr → fr + cs.length < 4294967296 → (∀ k, k < 7 → rh_holds (R k) (v0 k)) → rg_cs R cs fr = true → ∃ v : Nat → Int32, (∀ k, k < fr → v k = v0 k) ∧ ∀ q ∈ cs, ri_sem (rh_ad sz b v) q
  | [], fr, v0, _, _, _, _ => ⟨v0, fun _ _ => rfl, fun q hq => by cases hq⟩
  | q :: cs, fr, v0, h7, hl, hR, h => by
    have h2 : (rg_c1 R fr q && rg_cs R cs (fr + 1)) = true := h
    rw [Bool.and_eq_true] at h2
    rw [List.length_cons] at hl
    obtain ⟨z, hz⟩ := rh_c1_ok (sz := sz) (b := b) h7 (by omega) hR h2.1
    obtain ⟨v, hv, hq⟩ := rh_cs_ok cs (fr + 1) (fun k => if k = fr then z else v0 k) (by omega) (by omega) (fun k hk => by
      show rh_holds (R k) (if k = fr then z else v0 k)
      rw [if_neg (by omega)]
      exact hR k hk) h2.2
    have hv0 : ∀ k, k < fr → v k = v0 k := fun k hk => by
      rw [hv k (by omega)]
      exact if_neg (by omega)
    refine ⟨v, hv0, fun q9 h9 => ?_⟩
    rcases List.mem_cons.mp h9 with e | e
    · subst e
      exact hz v hv0 (by rw [hv fr (by omega)]; exact if_pos rfl)
    · exact hq q9 e
/-- what is known, as a list: the number, between these two, not 0 -/
def rh_full : rg_I := (-2147483648, 2147483647, false)
def rh_R (l : List (Nat × rg_I)) (k : Nat) : rg_I := match l with
  | [] => rh_full
  | q :: r => bif Nat.beq q.1 k then q.2 else rh_R r k
theorem rh_full_ok (x : Int32) : rh_holds rh_full x := by
  have h1 := Int32.le_toInt x
  have h2 := Int32.toInt_lt x
  exact ⟨by show (-2147483648 : Int) ≤ _; omega, by show _ ≤ (2147483647 : Int); omega, fun h => by cases h⟩
theorem rh_R_ok {v : Nat → Int32} : ∀ {l : List (Nat × rg_I)}, (∀ q ∈ l, rh_holds q.2 (v q.1)) → ∀ k, rh_holds (rh_R l k) (v k)
  | [], _, k => rh_full_ok (v k)
  | q :: r, h, k => by
    show rh_holds (bif Nat.beq q.1 k then q.2 else rh_R r k) (v k)
    cases hb : Nat.beq q.1 k with
    | true =>
      have e : q.1 = k := Nat.eq_of_beq_eq_true hb
      rw [← e]
      exact h q List.mem_cons_self
    | false => exact rh_R_ok (fun q9 h9 => h q9 (List.mem_cons_of_mem _ h9)) k
/-- the end of a run of the law: it answers 1, its room, its conditions -/
def rh_end (R : Nat → rg_I) (o : Option rf_Out) : Bool := match o with
  | some (.inl (some (.int x)), _, nc, ns, cs, _) => decide (x = 1) && (Nat.ble nc 600002 && (Nat.ble ns 7302232 && (match cs with
    | (.iand, .float k, .int y, n, _) :: cs => Nat.beq k.toNat 0 && (decide (y = 63) && (Nat.beq n 6 && (Nat.ble cs.length 1000000 && rg_cs R cs 7)))
    | [] => true
    | _ => false)))
  | _ => false
/-- the numbers of the first seven unknown: the script's words, and the first's last six bits -/
def rh_v0 (X : Nat → Int32) (k : Nat) : Int32 := if k = 6 then X 0 &&& 63 else X k
theorem rh_end_ok {R : Nat → rg_I} {o : Option rf_Out} (h : rh_end R o = true) (X : Nat → Int32) (sz b : Nat) (hR : ∀ k, rh_holds (R k) (rh_v0 X k)) : ∃ (out : rf_Out) (v : Nat → Int32), o = some out ∧ out.1 = .inl (some (.int 1)) ∧ out.2.2.1 ≤ 600002 ∧ out.2.2.2.1 ≤ 7302232 ∧ (∀ k, k < 7 → v k = rh_v0 X k) ∧ ∀ q ∈ out.2.2.2.2.1, ri_sem (rh_ad sz b v) q := by
  unfold rh_end at h
  split at h
  · rename_i x w nc ns cs fr
    rw [Bool.and_eq_true, Bool.and_eq_true, Bool.and_eq_true] at h
    obtain ⟨h1, h2, h3, h4⟩ := h
    have e1 := of_decide_eq_true h1
    subst e1
    have fin : ∀ v : Nat → Int32, (∀ k, k < 7 → v k = rh_v0 X k) → (∀ q ∈ cs, ri_sem (rh_ad sz b v) q) → ∃ (out : rf_Out) (v : Nat → Int32), some ((.inl (some (.int 1)), w, nc, ns, cs, fr) : rf_Out) = some out ∧ out.1 = .inl (some (.int 1)) ∧ out.2.2.1 ≤ 600002 ∧ out.2.2.2.1 ≤ 7302232 ∧ (∀ k, k < 7 → v k = rh_v0 X k) ∧ ∀ q ∈ out.2.2.2.2.1, ri_sem (rh_ad sz b v) q :=
      fun v a1 a2 => ⟨_, v, rfl, rfl, Nat.le_of_ble_eq_true h2, Nat.le_of_ble_eq_true h3, a1, a2⟩
    split at h4
    · rename_i k y n g cs9
      rw [Bool.and_eq_true, Bool.and_eq_true, Bool.and_eq_true, Bool.and_eq_true] at h4
      obtain ⟨b1, b2, b3, b4, b5⟩ := h4
      have e2 := of_decide_eq_true b2
      have e3 := Nat.eq_of_beq_eq_true b3
      have e4 := Nat.eq_of_beq_eq_true b1
      subst e2
      subst e3
      obtain ⟨v, hv, hq⟩ := rh_cs_ok (sz := sz) (b := b) cs9 7 (rh_v0 X) (Nat.le_refl _) (by have := Nat.le_of_ble_eq_true b4; omega) (fun k _ => hR k) b5
      refine fin v hv (fun q hq9 => ?_)
      rcases List.mem_cons.mp hq9 with e | e
      · subst e
        show ri_op2 .iand (ri_I _ (.float k)) (ri_I _ (.int 63)) = some (ri_sy _ 6)
        rw [rh_I, rh_I, rh_sy (by omega), hv 6 (by omega)]
        show some (v k.toNat &&& 63) = some (rh_v0 X 6)
        rw [e4, hv 0 (by omega)]
        rfl
      · exact hq q e
    · exact fin (rh_v0 X) (fun _ _ => rfl) (fun q hq => by cases hq)
    · cases h4
  · cases h
