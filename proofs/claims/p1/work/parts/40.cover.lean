/-! ===== every script goes one of the paths ===== -/
theorem rp_all_11 : ∀ n : Nat, 1 ≤ n → n < 61 → rh_end (rh_R [(6, 11, 11, false)]) (rg_run 6 (rg_x1 (Int32.ofNat n)) [.inl false, .inl false, .inl false, .inl false, .inl false, .inl false, .inl false, .inr 11] 9560) = true
  | 0, h, _ => absurd h (by decide)
  | 1, _, _ => rp_11_1
  | 2, _, _ => rp_11_2
  | 3, _, _ => rp_11_3
  | 4, _, _ => rp_11_4
  | 5, _, _ => rp_11_5
  | 6, _, _ => rp_11_6
  | 7, _, _ => rp_11_7
  | 8, _, _ => rp_11_8
  | 9, _, _ => rp_11_9
  | 10, _, _ => rp_11_10
  | 11, _, _ => rp_11_11
  | 12, _, _ => rp_11_12
  | 13, _, _ => rp_11_13
  | 14, _, _ => rp_11_14
  | 15, _, _ => rp_11_15
  | 16, _, _ => rp_11_16
  | 17, _, _ => rp_11_17
  | 18, _, _ => rp_11_18
  | 19, _, _ => rp_11_19
  | 20, _, _ => rp_11_20
  | 21, _, _ => rp_11_21
  | 22, _, _ => rp_11_22
  | 23, _, _ => rp_11_23
  | 24, _, _ => rp_11_24
  | 25, _, _ => rp_11_25
  | 26, _, _ => rp_11_26
  | 27, _, _ => rp_11_27
  | 28, _, _ => rp_11_28
  | 29, _, _ => rp_11_29
  | 30, _, _ => rp_11_30
  | 31, _, _ => rp_11_31
  | 32, _, _ => rp_11_32
  | 33, _, _ => rp_11_33
  | 34, _, _ => rp_11_34
  | 35, _, _ => rp_11_35
  | 36, _, _ => rp_11_36
  | 37, _, _ => rp_11_37
  | 38, _, _ => rp_11_38
  | 39, _, _ => rp_11_39
  | 40, _, _ => rp_11_40
  | 41, _, _ => rp_11_41
  | 42, _, _ => rp_11_42
  | 43, _, _ => rp_11_43
  | 44, _, _ => rp_11_44
  | 45, _, _ => rp_11_45
  | 46, _, _ => rp_11_46
  | 47, _, _ => rp_11_47
  | 48, _, _ => rp_11_48
  | 49, _, _ => rp_11_49
  | 50, _, _ => rp_11_50
  | 51, _, _ => rp_11_51
  | 52, _, _ => rp_11_52
  | 53, _, _ => rp_11_53
  | 54, _, _ => rp_11_54
  | 55, _, _ => rp_11_55
  | 56, _, _ => rp_11_56
  | 57, _, _ => rp_11_57
  | 58, _, _ => rp_11_58
  | 59, _, _ => rp_11_59
  | 60, _, _ => rp_11_60
  | n + 61, _, h => absurd h (by omega)
theorem rp_all_25 : ∀ n : Nat, 0 ≤ n → n < 61 → rh_end (rh_R [(6, 25, 25, false)]) (rg_run 6 (rg_x1 (Int32.ofNat n)) [.inl false, .inl false, .inl false, .inl false, .inl false, .inl false, .inl false, .inr 25] 27200) = true
  | 0, _, _ => rp_25_0
  | 1, _, _ => rp_25_1
  | 2, _, _ => rp_25_2
  | 3, _, _ => rp_25_3
  | 4, _, _ => rp_25_4
  | 5, _, _ => rp_25_5
  | 6, _, _ => rp_25_6
  | 7, _, _ => rp_25_7
  | 8, _, _ => rp_25_8
  | 9, _, _ => rp_25_9
  | 10, _, _ => rp_25_10
  | 11, _, _ => rp_25_11
  | 12, _, _ => rp_25_12
  | 13, _, _ => rp_25_13
  | 14, _, _ => rp_25_14
  | 15, _, _ => rp_25_15
  | 16, _, _ => rp_25_16
  | 17, _, _ => rp_25_17
  | 18, _, _ => rp_25_18
  | 19, _, _ => rp_25_19
  | 20, _, _ => rp_25_20
  | 21, _, _ => rp_25_21
  | 22, _, _ => rp_25_22
  | 23, _, _ => rp_25_23
  | 24, _, _ => rp_25_24
  | 25, _, _ => rp_25_25
  | 26, _, _ => rp_25_26
  | 27, _, _ => rp_25_27
  | 28, _, _ => rp_25_28
  | 29, _, _ => rp_25_29
  | 30, _, _ => rp_25_30
  | 31, _, _ => rp_25_31
  | 32, _, _ => rp_25_32
  | 33, _, _ => rp_25_33
  | 34, _, _ => rp_25_34
  | 35, _, _ => rp_25_35
  | 36, _, _ => rp_25_36
  | 37, _, _ => rp_25_37
  | 38, _, _ => rp_25_38
  | 39, _, _ => rp_25_39
  | 40, _, _ => rp_25_40
  | 41, _, _ => rp_25_41
  | 42, _, _ => rp_25_42
  | 43, _, _ => rp_25_43
  | 44, _, _ => rp_25_44
  | 45, _, _ => rp_25_45
  | 46, _, _ => rp_25_46
  | 47, _, _ => rp_25_47
  | 48, _, _ => rp_25_48
  | 49, _, _ => rp_25_49
  | 50, _, _ => rp_25_50
  | 51, _, _ => rp_25_51
  | 52, _, _ => rp_25_52
  | 53, _, _ => rp_25_53
  | 54, _, _ => rp_25_54
  | 55, _, _ => rp_25_55
  | 56, _, _ => rp_25_56
  | 57, _, _ => rp_25_57
  | 58, _, _ => rp_25_58
  | 59, _, _ => rp_25_59
  | 60, _, _ => rp_25_60
  | n + 61, _, h => absurd h (by omega)
theorem rp_all_29 : ∀ n : Nat, 0 ≤ n → n < 61 → rh_end (rh_R [(6, 29, 29, false)]) (rg_run 6 (rg_x1 (Int32.ofNat n)) [.inl false, .inl false, .inl false, .inl false, .inl false, .inl false, .inl false, .inr 29] 22558) = true
  | 0, _, _ => rp_29_0
  | 1, _, _ => rp_29_1
  | 2, _, _ => rp_29_2
  | 3, _, _ => rp_29_3
  | 4, _, _ => rp_29_4
  | 5, _, _ => rp_29_5
  | 6, _, _ => rp_29_6
  | 7, _, _ => rp_29_7
  | 8, _, _ => rp_29_8
  | 9, _, _ => rp_29_9
  | 10, _, _ => rp_29_10
  | 11, _, _ => rp_29_11
  | 12, _, _ => rp_29_12
  | 13, _, _ => rp_29_13
  | 14, _, _ => rp_29_14
  | 15, _, _ => rp_29_15
  | 16, _, _ => rp_29_16
  | 17, _, _ => rp_29_17
  | 18, _, _ => rp_29_18
  | 19, _, _ => rp_29_19
  | 20, _, _ => rp_29_20
  | 21, _, _ => rp_29_21
  | 22, _, _ => rp_29_22
  | 23, _, _ => rp_29_23
  | 24, _, _ => rp_29_24
  | 25, _, _ => rp_29_25
  | 26, _, _ => rp_29_26
  | 27, _, _ => rp_29_27
  | 28, _, _ => rp_29_28
  | 29, _, _ => rp_29_29
  | 30, _, _ => rp_29_30
  | 31, _, _ => rp_29_31
  | 32, _, _ => rp_29_32
  | 33, _, _ => rp_29_33
  | 34, _, _ => rp_29_34
  | 35, _, _ => rp_29_35
  | 36, _, _ => rp_29_36
  | 37, _, _ => rp_29_37
  | 38, _, _ => rp_29_38
  | 39, _, _ => rp_29_39
  | 40, _, _ => rp_29_40
  | 41, _, _ => rp_29_41
  | 42, _, _ => rp_29_42
  | 43, _, _ => rp_29_43
  | 44, _, _ => rp_29_44
  | 45, _, _ => rp_29_45
  | 46, _, _ => rp_29_46
  | 47, _, _ => rp_29_47
  | 48, _, _ => rp_29_48
  | 49, _, _ => rp_29_49
  | 50, _, _ => rp_29_50
  | 51, _, _ => rp_29_51
  | 52, _, _ => rp_29_52
  | 53, _, _ => rp_29_53
  | 54, _, _ => rp_29_54
  | 55, _, _ => rp_29_55
  | 56, _, _ => rp_29_56
  | 57, _, _ => rp_29_57
  | 58, _, _ => rp_29_58
  | 59, _, _ => rp_29_59
  | 60, _, _ => rp_29_60
  | n + 61, _, h => absurd h (by omega)
theorem rp_all_35 : ∀ n : Nat, 0 ≤ n → n < 5 → rh_end (rh_R [(6, 35, 35, false)]) (rg_run 6 (rg_x1 (Int32.ofNat n)) [.inl false, .inl false, .inl false, .inl false, .inl false, .inl false, .inl false, .inr 35] 1784) = true
  | 0, _, _ => rp_35_0
  | 1, _, _ => rp_35_1
  | 2, _, _ => rp_35_2
  | 3, _, _ => rp_35_3
  | 4, _, _ => rp_35_4
  | n + 5, _, h => absurd h (by omega)
theorem rc_h {X : Nat → Int32} {k : Nat} {lo hi x : Int} {nz : Bool} (e : (rh_v0 X k).toInt = x) (h1 : lo ≤ x) (h2 : x ≤ hi) (h3 : nz = true → x ≠ 0) : rh_holds (lo, hi, nz) (rh_v0 X k) := by
  subst e
  exact ⟨h1, h2, h3⟩
theorem rc_63 (x : Int32) : 0 ≤ (x &&& 63).toInt ∧ (x &&& 63).toInt ≤ 63 := by
  have h : (x &&& 63).toBitVec.toNat ≤ 63 := by
    rw [Int32.toBitVec_and, BitVec.toNat_and]
    exact Nat.and_le_right
  have e : (x &&& 63).toInt = ((x &&& 63).toBitVec.toNat : Int) := BitVec.toInt_eq_toNat_of_lt (by omega)
  rw [e]
  omega
theorem rc_val {x : Int32} {n : Nat} (h : x.toInt = (n : Int)) (hn : n < 1000) : x = Int32.ofNat n := by
  apply Int32.toInt_inj.mp
  rw [h]
  exact (Int32.toInt_ofNat_of_lt (by omega)).symm
theorem rc_rg {X : Nat → Int32} : ∀ j, j < 6 → rg_xs j = .int (X j) ∨ (rg_xs j = .float (UInt32.ofNat j) ∧ j < 6) := fun j hj => Or.inr ⟨rfl, hj⟩
theorem rc_x1 {X : Nat → Int32} {v : Int32} (h : X 1 = v) : ∀ j, j < 6 → rg_x1 v j = .int (X j) ∨ (rg_x1 v j = .float (UInt32.ofNat j) ∧ j < 6) := fun j hj => by
  by_cases e : j = 1
  · subst e
    exact Or.inl (by rw [h]; rfl)
  · refine Or.inr ⟨?_, hj⟩
    show (bif Nat.beq j 1 then Value.int v else .float (UInt32.ofNat j)) = _
    rw [show Nat.beq j 1 = false from Bool.eq_false_iff.mpr (fun z => e (Nat.eq_of_beq_eq_true z))]
    rfl
theorem rw_6 {p : Program} {e : Env} {s : State} {m : MethodId} {below : List Frame} {meth : Method} {c : Code} (l : Launch) (hflags : l.flags = flags0) {b : Nat} {X : Nat → Int32} (C0 : lw_At p s m meth c b 6 X) (hnm : meth.name = "law") (htb : c.exceptionTable.toList = []) : W p l e room_1 s m #[Value.ref b] below meth c s.heap [] 0 0 (lw_Z below #[Value.ref b] s) (entryFrame m ([Value.ref b] : List Value).toArray 8) := by
  obtain ⟨x1, e1⟩ : ∃ x : Int, (rh_v0 X 1).toInt = x := ⟨_, rfl⟩
  have g1 : -2147483648 ≤ x1 ∧ x1 ≤ 2147483647 := by
    have h := rh_full_ok (rh_v0 X 1)
    rw [← e1]
    exact ⟨h.1, h.2.1⟩
  obtain ⟨x2, e2⟩ : ∃ x : Int, (rh_v0 X 2).toInt = x := ⟨_, rfl⟩
  have g2 : -2147483648 ≤ x2 ∧ x2 ≤ 2147483647 := by
    have h := rh_full_ok (rh_v0 X 2)
    rw [← e2]
    exact ⟨h.1, h.2.1⟩
  obtain ⟨x3, e3⟩ : ∃ x : Int, (rh_v0 X 3).toInt = x := ⟨_, rfl⟩
  have g3 : -2147483648 ≤ x3 ∧ x3 ≤ 2147483647 := by
    have h := rh_full_ok (rh_v0 X 3)
    rw [← e3]
    exact ⟨h.1, h.2.1⟩
  obtain ⟨x6, e6⟩ : ∃ x : Int, (rh_v0 X 6).toInt = x := ⟨_, rfl⟩
  have g6 : 0 ≤ x6 ∧ x6 ≤ 63 := by
    rw [← e6]
    exact rc_63 (X 0)
  have hc : x6 = 0 ∨ x6 = 1 ∨ x6 = 2 ∨ x6 = 3 ∨ x6 = 4 ∨ x6 = 5 ∨ x6 = 6 ∨ x6 = 7 ∨ x6 = 8 ∨ x6 = 9 ∨ x6 = 10 ∨ x6 = 11 ∨ x6 = 12 ∨ x6 = 13 ∨ x6 = 14 ∨ x6 = 15 ∨ x6 = 16 ∨ x6 = 17 ∨ x6 = 18 ∨ x6 = 19 ∨ x6 = 20 ∨ x6 = 21 ∨ x6 = 22 ∨ x6 = 23 ∨ x6 = 24 ∨ x6 = 25 ∨ x6 = 26 ∨ x6 = 27 ∨ x6 = 28 ∨ x6 = 29 ∨ x6 = 30 ∨ x6 = 31 ∨ x6 = 32 ∨ x6 = 33 ∨ x6 = 34 ∨ x6 = 35 ∨ 36 ≤ x6 := by omega
  rcases hc with hc | hc | hc | hc | hc | hc | hc | hc | hc | hc | hc | hc | hc | hc | hc | hc | hc | hc | hc | hc | hc | hc | hc | hc | hc | hc | hc | hc | hc | hc | hc | hc | hc | hc | hc | hc | hc
  · -- 0
    exact rw_go l hflags C0 hnm htb rp_34 (rc_rg) (rh_R_ok (List.forall_mem_cons.mpr ⟨rc_h e6 (by omega) (by omega) (fun h => by cases h), fun _ h => absurd h List.not_mem_nil⟩))
  · -- 1
    by_cases h4 : x1 ≤ -1
    · skip
      exact rw_go l hflags C0 hnm htb rp_35 (rc_rg) (rh_R_ok (List.forall_mem_cons.mpr ⟨rc_h e1 (by omega) (by omega) (fun h => by cases h), List.forall_mem_cons.mpr ⟨rc_h e6 (by omega) (by omega) (fun h => by cases h), fun _ h => absurd h List.not_mem_nil⟩⟩))
    · skip
      by_cases h6 : 0 ≤ x1 ∧ x1 ≤ 0
      · skip
        exact rw_go l hflags C0 hnm htb rp_36 (rc_rg) (rh_R_ok (List.forall_mem_cons.mpr ⟨rc_h e1 (by omega) (by omega) (fun h => by cases h), List.forall_mem_cons.mpr ⟨rc_h e6 (by omega) (by omega) (fun h => by cases h), fun _ h => absurd h List.not_mem_nil⟩⟩))
      · skip
        exact rw_go l hflags C0 hnm htb rp_37 (rc_rg) (rh_R_ok (List.forall_mem_cons.mpr ⟨rc_h e1 (by omega) (by omega) (fun h => by cases h), List.forall_mem_cons.mpr ⟨rc_h e6 (by omega) (by omega) (fun h => by cases h), fun _ h => absurd h List.not_mem_nil⟩⟩))
  · -- 2
    exact rw_go l hflags C0 hnm htb rp_38 (rc_rg) (rh_R_ok (List.forall_mem_cons.mpr ⟨rc_h e6 (by omega) (by omega) (fun h => by cases h), fun _ h => absurd h List.not_mem_nil⟩))
  · -- 3
    exact rw_go l hflags C0 hnm htb rp_39 (rc_rg) (rh_R_ok (List.forall_mem_cons.mpr ⟨rc_h e6 (by omega) (by omega) (fun h => by cases h), fun _ h => absurd h List.not_mem_nil⟩))
  · -- 4
    by_cases h4 : x1 ≤ -1
    · skip
      exact rw_go l hflags C0 hnm htb rp_40 (rc_rg) (rh_R_ok (List.forall_mem_cons.mpr ⟨rc_h e1 (by omega) (by omega) (fun h => by cases h), List.forall_mem_cons.mpr ⟨rc_h e6 (by omega) (by omega) (fun h => by cases h), fun _ h => absurd h List.not_mem_nil⟩⟩))
    · skip
      exact rw_go l hflags C0 hnm htb rp_41 (rc_rg) (rh_R_ok (List.forall_mem_cons.mpr ⟨rc_h e1 (by omega) (by omega) (fun h => by cases h), List.forall_mem_cons.mpr ⟨rc_h e6 (by omega) (by omega) (fun h => by cases h), fun _ h => absurd h List.not_mem_nil⟩⟩))
  · -- 5
    by_cases h4 : x1 ≤ -1
    · skip
      exact rw_go l hflags C0 hnm htb rp_42 (rc_rg) (rh_R_ok (List.forall_mem_cons.mpr ⟨rc_h e1 (by omega) (by omega) (fun h => by cases h), List.forall_mem_cons.mpr ⟨rc_h e6 (by omega) (by omega) (fun h => by cases h), fun _ h => absurd h List.not_mem_nil⟩⟩))
    · skip
      exact rw_go l hflags C0 hnm htb rp_43 (rc_rg) (rh_R_ok (List.forall_mem_cons.mpr ⟨rc_h e1 (by omega) (by omega) (fun h => by cases h), List.forall_mem_cons.mpr ⟨rc_h e6 (by omega) (by omega) (fun h => by cases h), fun _ h => absurd h List.not_mem_nil⟩⟩))
  · -- 6
    by_cases h4 : x1 ≤ -1
    · skip
      exact rw_go l hflags C0 hnm htb rp_44 (rc_rg) (rh_R_ok (List.forall_mem_cons.mpr ⟨rc_h e1 (by omega) (by omega) (fun h => by cases h), List.forall_mem_cons.mpr ⟨rc_h e6 (by omega) (by omega) (fun h => by cases h), fun _ h => absurd h List.not_mem_nil⟩⟩))
    · skip
      exact rw_go l hflags C0 hnm htb rp_45 (rc_rg) (rh_R_ok (List.forall_mem_cons.mpr ⟨rc_h e1 (by omega) (by omega) (fun h => by cases h), List.forall_mem_cons.mpr ⟨rc_h e6 (by omega) (by omega) (fun h => by cases h), fun _ h => absurd h List.not_mem_nil⟩⟩))
  · -- 7
    by_cases h4 : x1 ≤ -1
    · skip
      exact rw_go l hflags C0 hnm htb rp_46 (rc_rg) (rh_R_ok (List.forall_mem_cons.mpr ⟨rc_h e1 (by omega) (by omega) (fun h => by cases h), List.forall_mem_cons.mpr ⟨rc_h e6 (by omega) (by omega) (fun h => by cases h), fun _ h => absurd h List.not_mem_nil⟩⟩))
    · skip
      exact rw_go l hflags C0 hnm htb rp_47 (rc_rg) (rh_R_ok (List.forall_mem_cons.mpr ⟨rc_h e1 (by omega) (by omega) (fun h => by cases h), List.forall_mem_cons.mpr ⟨rc_h e6 (by omega) (by omega) (fun h => by cases h), fun _ h => absurd h List.not_mem_nil⟩⟩))
  · -- 8
    by_cases h4 : x1 ≤ -1
    · skip
      exact rw_go l hflags C0 hnm htb rp_48 (rc_rg) (rh_R_ok (List.forall_mem_cons.mpr ⟨rc_h e1 (by omega) (by omega) (fun h => by cases h), List.forall_mem_cons.mpr ⟨rc_h e6 (by omega) (by omega) (fun h => by cases h), fun _ h => absurd h List.not_mem_nil⟩⟩))
    · skip
      exact rw_go l hflags C0 hnm htb rp_49 (rc_rg) (rh_R_ok (List.forall_mem_cons.mpr ⟨rc_h e1 (by omega) (by omega) (fun h => by cases h), List.forall_mem_cons.mpr ⟨rc_h e6 (by omega) (by omega) (fun h => by cases h), fun _ h => absurd h List.not_mem_nil⟩⟩))
  · -- 9
    by_cases h4 : x1 ≤ -1
    · skip
      exact rw_go l hflags C0 hnm htb rp_50 (rc_rg) (rh_R_ok (List.forall_mem_cons.mpr ⟨rc_h e1 (by omega) (by omega) (fun h => by cases h), List.forall_mem_cons.mpr ⟨rc_h e6 (by omega) (by omega) (fun h => by cases h), fun _ h => absurd h List.not_mem_nil⟩⟩))
    · skip
      exact rw_go l hflags C0 hnm htb rp_51 (rc_rg) (rh_R_ok (List.forall_mem_cons.mpr ⟨rc_h e1 (by omega) (by omega) (fun h => by cases h), List.forall_mem_cons.mpr ⟨rc_h e6 (by omega) (by omega) (fun h => by cases h), fun _ h => absurd h List.not_mem_nil⟩⟩))
  · -- 10
    by_cases h4 : x1 ≤ -1
    · skip
      exact rw_go l hflags C0 hnm htb rp_52 (rc_rg) (rh_R_ok (List.forall_mem_cons.mpr ⟨rc_h e1 (by omega) (by omega) (fun h => by cases h), List.forall_mem_cons.mpr ⟨rc_h e6 (by omega) (by omega) (fun h => by cases h), fun _ h => absurd h List.not_mem_nil⟩⟩))
    · skip
      exact rw_go l hflags C0 hnm htb rp_53 (rc_rg) (rh_R_ok (List.forall_mem_cons.mpr ⟨rc_h e1 (by omega) (by omega) (fun h => by cases h), List.forall_mem_cons.mpr ⟨rc_h e6 (by omega) (by omega) (fun h => by cases h), fun _ h => absurd h List.not_mem_nil⟩⟩))
  · -- 11
    by_cases hv : 1 ≤ x1 ∧ x1 ≤ 60
    · obtain ⟨n, hn⟩ : ∃ n : Nat, x1 = (n : Int) := ⟨x1.toNat, by omega⟩
      have hX : X 1 = Int32.ofNat n := rc_val (e1.trans hn) (by omega)
      exact rw_go l hflags C0 hnm htb (rp_all_11 n (by omega) (by omega)) (rc_x1 hX) (rh_R_ok (List.forall_mem_cons.mpr ⟨rc_h e6 (by omega) (by omega) (fun h => by cases h), fun _ h => absurd h List.not_mem_nil⟩))
    · skip
      by_cases h6 : x1 ≤ 0
      · skip
        exact rw_go l hflags C0 hnm htb rp_114 (rc_rg) (rh_R_ok (List.forall_mem_cons.mpr ⟨rc_h e1 (by omega) (by omega) (fun h => by cases h), List.forall_mem_cons.mpr ⟨rc_h e6 (by omega) (by omega) (fun h => by cases h), fun _ h => absurd h List.not_mem_nil⟩⟩))
      · skip
        exact rw_go l hflags C0 hnm htb rp_115 (rc_rg) (rh_R_ok (List.forall_mem_cons.mpr ⟨rc_h e1 (by omega) (by omega) (fun h => by cases h), List.forall_mem_cons.mpr ⟨rc_h e6 (by omega) (by omega) (fun h => by cases h), fun _ h => absurd h List.not_mem_nil⟩⟩))
  · -- 12
    by_cases h4 : x1 ≤ -1
    · skip
      exact rw_go l hflags C0 hnm htb rp_116 (rc_rg) (rh_R_ok (List.forall_mem_cons.mpr ⟨rc_h e1 (by omega) (by omega) (fun h => by cases h), List.forall_mem_cons.mpr ⟨rc_h e6 (by omega) (by omega) (fun h => by cases h), fun _ h => absurd h List.not_mem_nil⟩⟩))
    · skip
      exact rw_go l hflags C0 hnm htb rp_117 (rc_rg) (rh_R_ok (List.forall_mem_cons.mpr ⟨rc_h e1 (by omega) (by omega) (fun h => by cases h), List.forall_mem_cons.mpr ⟨rc_h e6 (by omega) (by omega) (fun h => by cases h), fun _ h => absurd h List.not_mem_nil⟩⟩))
  · -- 13
    by_cases h4 : x1 ≤ -1
    · skip
      exact rw_go l hflags C0 hnm htb rp_118 (rc_rg) (rh_R_ok (List.forall_mem_cons.mpr ⟨rc_h e1 (by omega) (by omega) (fun h => by cases h), List.forall_mem_cons.mpr ⟨rc_h e6 (by omega) (by omega) (fun h => by cases h), fun _ h => absurd h List.not_mem_nil⟩⟩))
    · skip
      exact rw_go l hflags C0 hnm htb rp_119 (rc_rg) (rh_R_ok (List.forall_mem_cons.mpr ⟨rc_h e1 (by omega) (by omega) (fun h => by cases h), List.forall_mem_cons.mpr ⟨rc_h e6 (by omega) (by omega) (fun h => by cases h), fun _ h => absurd h List.not_mem_nil⟩⟩))
  · -- 14
    by_cases h4 : x1 ≤ -1
    · skip
      exact rw_go l hflags C0 hnm htb rp_120 (rc_rg) (rh_R_ok (List.forall_mem_cons.mpr ⟨rc_h e1 (by omega) (by omega) (fun h => by cases h), List.forall_mem_cons.mpr ⟨rc_h e6 (by omega) (by omega) (fun h => by cases h), fun _ h => absurd h List.not_mem_nil⟩⟩))
    · skip
      exact rw_go l hflags C0 hnm htb rp_121 (rc_rg) (rh_R_ok (List.forall_mem_cons.mpr ⟨rc_h e1 (by omega) (by omega) (fun h => by cases h), List.forall_mem_cons.mpr ⟨rc_h e6 (by omega) (by omega) (fun h => by cases h), fun _ h => absurd h List.not_mem_nil⟩⟩))
  · -- 15
    by_cases h4 : x1 ≤ -1
    · skip
      exact rw_go l hflags C0 hnm htb rp_122 (rc_rg) (rh_R_ok (List.forall_mem_cons.mpr ⟨rc_h e1 (by omega) (by omega) (fun h => by cases h), List.forall_mem_cons.mpr ⟨rc_h e6 (by omega) (by omega) (fun h => by cases h), fun _ h => absurd h List.not_mem_nil⟩⟩))
    · skip
      exact rw_go l hflags C0 hnm htb rp_123 (rc_rg) (rh_R_ok (List.forall_mem_cons.mpr ⟨rc_h e1 (by omega) (by omega) (fun h => by cases h), List.forall_mem_cons.mpr ⟨rc_h e6 (by omega) (by omega) (fun h => by cases h), fun _ h => absurd h List.not_mem_nil⟩⟩))
  · -- 16
    by_cases h4 : x1 ≤ -1
    · skip
      exact rw_go l hflags C0 hnm htb rp_124 (rc_rg) (rh_R_ok (List.forall_mem_cons.mpr ⟨rc_h e1 (by omega) (by omega) (fun h => by cases h), List.forall_mem_cons.mpr ⟨rc_h e6 (by omega) (by omega) (fun h => by cases h), fun _ h => absurd h List.not_mem_nil⟩⟩))
    · skip
      exact rw_go l hflags C0 hnm htb rp_125 (rc_rg) (rh_R_ok (List.forall_mem_cons.mpr ⟨rc_h e1 (by omega) (by omega) (fun h => by cases h), List.forall_mem_cons.mpr ⟨rc_h e6 (by omega) (by omega) (fun h => by cases h), fun _ h => absurd h List.not_mem_nil⟩⟩))
  · -- 17
    by_cases h4 : x1 ≤ -1
    · skip
      by_cases h6 : 0 ≤ x2 ∧ x2 ≤ 0
      · skip
        exact rw_go l hflags C0 hnm htb rp_126 (rc_rg) (rh_R_ok (List.forall_mem_cons.mpr ⟨rc_h e1 (by omega) (by omega) (fun h => by cases h), List.forall_mem_cons.mpr ⟨rc_h e2 (by omega) (by omega) (fun h => by cases h), List.forall_mem_cons.mpr ⟨rc_h e6 (by omega) (by omega) (fun h => by cases h), fun _ h => absurd h List.not_mem_nil⟩⟩⟩))
      · skip
        exact rw_go l hflags C0 hnm htb rp_128 (rc_rg) (rh_R_ok (List.forall_mem_cons.mpr ⟨rc_h e1 (by omega) (by omega) (fun h => by cases h), List.forall_mem_cons.mpr ⟨rc_h e2 (by omega) (by omega) (fun h => by omega), List.forall_mem_cons.mpr ⟨rc_h e6 (by omega) (by omega) (fun h => by cases h), fun _ h => absurd h List.not_mem_nil⟩⟩⟩))
    · skip
      by_cases h6 : 0 ≤ x2 ∧ x2 ≤ 0
      · skip
        exact rw_go l hflags C0 hnm htb rp_127 (rc_rg) (rh_R_ok (List.forall_mem_cons.mpr ⟨rc_h e1 (by omega) (by omega) (fun h => by cases h), List.forall_mem_cons.mpr ⟨rc_h e2 (by omega) (by omega) (fun h => by cases h), List.forall_mem_cons.mpr ⟨rc_h e6 (by omega) (by omega) (fun h => by cases h), fun _ h => absurd h List.not_mem_nil⟩⟩⟩))
      · skip
        exact rw_go l hflags C0 hnm htb rp_129 (rc_rg) (rh_R_ok (List.forall_mem_cons.mpr ⟨rc_h e1 (by omega) (by omega) (fun h => by cases h), List.forall_mem_cons.mpr ⟨rc_h e2 (by omega) (by omega) (fun h => by omega), List.forall_mem_cons.mpr ⟨rc_h e6 (by omega) (by omega) (fun h => by cases h), fun _ h => absurd h List.not_mem_nil⟩⟩⟩))
  · -- 18
    by_cases h4 : x1 ≤ -1
    · skip
      exact rw_go l hflags C0 hnm htb rp_130 (rc_rg) (rh_R_ok (List.forall_mem_cons.mpr ⟨rc_h e1 (by omega) (by omega) (fun h => by cases h), List.forall_mem_cons.mpr ⟨rc_h e6 (by omega) (by omega) (fun h => by cases h), fun _ h => absurd h List.not_mem_nil⟩⟩))
    · skip
      exact rw_go l hflags C0 hnm htb rp_131 (rc_rg) (rh_R_ok (List.forall_mem_cons.mpr ⟨rc_h e1 (by omega) (by omega) (fun h => by cases h), List.forall_mem_cons.mpr ⟨rc_h e6 (by omega) (by omega) (fun h => by cases h), fun _ h => absurd h List.not_mem_nil⟩⟩))
  · -- 19
    by_cases h4 : x1 ≤ -1
    · skip
      exact rw_go l hflags C0 hnm htb rp_132 (rc_rg) (rh_R_ok (List.forall_mem_cons.mpr ⟨rc_h e1 (by omega) (by omega) (fun h => by cases h), List.forall_mem_cons.mpr ⟨rc_h e6 (by omega) (by omega) (fun h => by cases h), fun _ h => absurd h List.not_mem_nil⟩⟩))
    · skip
      exact rw_go l hflags C0 hnm htb rp_133 (rc_rg) (rh_R_ok (List.forall_mem_cons.mpr ⟨rc_h e1 (by omega) (by omega) (fun h => by cases h), List.forall_mem_cons.mpr ⟨rc_h e6 (by omega) (by omega) (fun h => by cases h), fun _ h => absurd h List.not_mem_nil⟩⟩))
  · -- 20
    by_cases h4 : x1 ≤ -1
    · skip
      exact rw_go l hflags C0 hnm htb rp_134 (rc_rg) (rh_R_ok (List.forall_mem_cons.mpr ⟨rc_h e1 (by omega) (by omega) (fun h => by cases h), List.forall_mem_cons.mpr ⟨rc_h e6 (by omega) (by omega) (fun h => by cases h), fun _ h => absurd h List.not_mem_nil⟩⟩))
    · skip
      exact rw_go l hflags C0 hnm htb rp_135 (rc_rg) (rh_R_ok (List.forall_mem_cons.mpr ⟨rc_h e1 (by omega) (by omega) (fun h => by cases h), List.forall_mem_cons.mpr ⟨rc_h e6 (by omega) (by omega) (fun h => by cases h), fun _ h => absurd h List.not_mem_nil⟩⟩))
  · -- 21
    by_cases h4 : 0 ≤ x1 ∧ x1 ≤ 0
    · skip
      exact rw_go l hflags C0 hnm htb rp_136 (rc_rg) (rh_R_ok (List.forall_mem_cons.mpr ⟨rc_h e1 (by omega) (by omega) (fun h => by cases h), List.forall_mem_cons.mpr ⟨rc_h e6 (by omega) (by omega) (fun h => by cases h), fun _ h => absurd h List.not_mem_nil⟩⟩))
    · skip
      exact rw_go l hflags C0 hnm htb rp_137 (rc_rg) (rh_R_ok (List.forall_mem_cons.mpr ⟨rc_h e1 (by omega) (by omega) (fun h => by omega), List.forall_mem_cons.mpr ⟨rc_h e6 (by omega) (by omega) (fun h => by cases h), fun _ h => absurd h List.not_mem_nil⟩⟩))
  · -- 22
    by_cases h4 : x1 ≤ -1
    · skip
      exact rw_go l hflags C0 hnm htb rp_138 (rc_rg) (rh_R_ok (List.forall_mem_cons.mpr ⟨rc_h e1 (by omega) (by omega) (fun h => by cases h), List.forall_mem_cons.mpr ⟨rc_h e6 (by omega) (by omega) (fun h => by cases h), fun _ h => absurd h List.not_mem_nil⟩⟩))
    · skip
      exact rw_go l hflags C0 hnm htb rp_139 (rc_rg) (rh_R_ok (List.forall_mem_cons.mpr ⟨rc_h e1 (by omega) (by omega) (fun h => by cases h), List.forall_mem_cons.mpr ⟨rc_h e6 (by omega) (by omega) (fun h => by cases h), fun _ h => absurd h List.not_mem_nil⟩⟩))
  · -- 23
    by_cases h4 : x1 ≤ -1
    · skip
      exact rw_go l hflags C0 hnm htb rp_140 (rc_rg) (rh_R_ok (List.forall_mem_cons.mpr ⟨rc_h e1 (by omega) (by omega) (fun h => by cases h), List.forall_mem_cons.mpr ⟨rc_h e6 (by omega) (by omega) (fun h => by cases h), fun _ h => absurd h List.not_mem_nil⟩⟩))
    · skip
      exact rw_go l hflags C0 hnm htb rp_141 (rc_rg) (rh_R_ok (List.forall_mem_cons.mpr ⟨rc_h e1 (by omega) (by omega) (fun h => by cases h), List.forall_mem_cons.mpr ⟨rc_h e6 (by omega) (by omega) (fun h => by cases h), fun _ h => absurd h List.not_mem_nil⟩⟩))
  · -- 24
    by_cases h4 : x1 ≤ -1
    · skip
      exact rw_go l hflags C0 hnm htb rp_142 (rc_rg) (rh_R_ok (List.forall_mem_cons.mpr ⟨rc_h e1 (by omega) (by omega) (fun h => by cases h), List.forall_mem_cons.mpr ⟨rc_h e6 (by omega) (by omega) (fun h => by cases h), fun _ h => absurd h List.not_mem_nil⟩⟩))
    · skip
      exact rw_go l hflags C0 hnm htb rp_143 (rc_rg) (rh_R_ok (List.forall_mem_cons.mpr ⟨rc_h e1 (by omega) (by omega) (fun h => by cases h), List.forall_mem_cons.mpr ⟨rc_h e6 (by omega) (by omega) (fun h => by cases h), fun _ h => absurd h List.not_mem_nil⟩⟩))
  · -- 25
    by_cases hv : 0 ≤ x1 ∧ x1 ≤ 60
    · obtain ⟨n, hn⟩ : ∃ n : Nat, x1 = (n : Int) := ⟨x1.toNat, by omega⟩
      have hX : X 1 = Int32.ofNat n := rc_val (e1.trans hn) (by omega)
      exact rw_go l hflags C0 hnm htb (rp_all_25 n (by omega) (by omega)) (rc_x1 hX) (rh_R_ok (List.forall_mem_cons.mpr ⟨rc_h e6 (by omega) (by omega) (fun h => by cases h), fun _ h => absurd h List.not_mem_nil⟩))
    · skip
      by_cases h6 : x1 ≤ -1
      · skip
        exact rw_go l hflags C0 hnm htb rp_205 (rc_rg) (rh_R_ok (List.forall_mem_cons.mpr ⟨rc_h e1 (by omega) (by omega) (fun h => by cases h), List.forall_mem_cons.mpr ⟨rc_h e6 (by omega) (by omega) (fun h => by cases h), fun _ h => absurd h List.not_mem_nil⟩⟩))
      · skip
        exact rw_go l hflags C0 hnm htb rp_206 (rc_rg) (rh_R_ok (List.forall_mem_cons.mpr ⟨rc_h e1 (by omega) (by omega) (fun h => by cases h), List.forall_mem_cons.mpr ⟨rc_h e6 (by omega) (by omega) (fun h => by cases h), fun _ h => absurd h List.not_mem_nil⟩⟩))
  · -- 26
    by_cases h4 : x1 ≤ -1
    · skip
      by_cases h6 : 0 ≤ x3 ∧ x3 ≤ 0
      · skip
        exact rw_go l hflags C0 hnm htb rp_207 (rc_rg) (rh_R_ok (List.forall_mem_cons.mpr ⟨rc_h e1 (by omega) (by omega) (fun h => by cases h), List.forall_mem_cons.mpr ⟨rc_h e3 (by omega) (by omega) (fun h => by cases h), List.forall_mem_cons.mpr ⟨rc_h e6 (by omega) (by omega) (fun h => by cases h), fun _ h => absurd h List.not_mem_nil⟩⟩⟩))
      · skip
        exact rw_go l hflags C0 hnm htb rp_209 (rc_rg) (rh_R_ok (List.forall_mem_cons.mpr ⟨rc_h e1 (by omega) (by omega) (fun h => by cases h), List.forall_mem_cons.mpr ⟨rc_h e3 (by omega) (by omega) (fun h => by omega), List.forall_mem_cons.mpr ⟨rc_h e6 (by omega) (by omega) (fun h => by cases h), fun _ h => absurd h List.not_mem_nil⟩⟩⟩))
    · skip
      by_cases h6 : 0 ≤ x3 ∧ x3 ≤ 0
      · skip
        exact rw_go l hflags C0 hnm htb rp_208 (rc_rg) (rh_R_ok (List.forall_mem_cons.mpr ⟨rc_h e1 (by omega) (by omega) (fun h => by cases h), List.forall_mem_cons.mpr ⟨rc_h e3 (by omega) (by omega) (fun h => by cases h), List.forall_mem_cons.mpr ⟨rc_h e6 (by omega) (by omega) (fun h => by cases h), fun _ h => absurd h List.not_mem_nil⟩⟩⟩))
      · skip
        exact rw_go l hflags C0 hnm htb rp_210 (rc_rg) (rh_R_ok (List.forall_mem_cons.mpr ⟨rc_h e1 (by omega) (by omega) (fun h => by cases h), List.forall_mem_cons.mpr ⟨rc_h e3 (by omega) (by omega) (fun h => by omega), List.forall_mem_cons.mpr ⟨rc_h e6 (by omega) (by omega) (fun h => by cases h), fun _ h => absurd h List.not_mem_nil⟩⟩⟩))
  · -- 27
    by_cases h4 : x1 ≤ -1
    · skip
      exact rw_go l hflags C0 hnm htb rp_211 (rc_rg) (rh_R_ok (List.forall_mem_cons.mpr ⟨rc_h e1 (by omega) (by omega) (fun h => by cases h), List.forall_mem_cons.mpr ⟨rc_h e6 (by omega) (by omega) (fun h => by cases h), fun _ h => absurd h List.not_mem_nil⟩⟩))
    · skip
      exact rw_go l hflags C0 hnm htb rp_212 (rc_rg) (rh_R_ok (List.forall_mem_cons.mpr ⟨rc_h e1 (by omega) (by omega) (fun h => by cases h), List.forall_mem_cons.mpr ⟨rc_h e6 (by omega) (by omega) (fun h => by cases h), fun _ h => absurd h List.not_mem_nil⟩⟩))
  · -- 28
    by_cases h4 : x1 ≤ -1
    · skip
      exact rw_go l hflags C0 hnm htb rp_213 (rc_rg) (rh_R_ok (List.forall_mem_cons.mpr ⟨rc_h e1 (by omega) (by omega) (fun h => by cases h), List.forall_mem_cons.mpr ⟨rc_h e6 (by omega) (by omega) (fun h => by cases h), fun _ h => absurd h List.not_mem_nil⟩⟩))
    · skip
      exact rw_go l hflags C0 hnm htb rp_214 (rc_rg) (rh_R_ok (List.forall_mem_cons.mpr ⟨rc_h e1 (by omega) (by omega) (fun h => by cases h), List.forall_mem_cons.mpr ⟨rc_h e6 (by omega) (by omega) (fun h => by cases h), fun _ h => absurd h List.not_mem_nil⟩⟩))
  · -- 29
    by_cases hv : 0 ≤ x1 ∧ x1 ≤ 60
    · obtain ⟨n, hn⟩ : ∃ n : Nat, x1 = (n : Int) := ⟨x1.toNat, by omega⟩
      have hX : X 1 = Int32.ofNat n := rc_val (e1.trans hn) (by omega)
      exact rw_go l hflags C0 hnm htb (rp_all_29 n (by omega) (by omega)) (rc_x1 hX) (rh_R_ok (List.forall_mem_cons.mpr ⟨rc_h e6 (by omega) (by omega) (fun h => by cases h), fun _ h => absurd h List.not_mem_nil⟩))
    · skip
      by_cases h6 : x1 ≤ -1
      · skip
        exact rw_go l hflags C0 hnm htb rp_276 (rc_rg) (rh_R_ok (List.forall_mem_cons.mpr ⟨rc_h e1 (by omega) (by omega) (fun h => by cases h), List.forall_mem_cons.mpr ⟨rc_h e6 (by omega) (by omega) (fun h => by cases h), fun _ h => absurd h List.not_mem_nil⟩⟩))
      · skip
        exact rw_go l hflags C0 hnm htb rp_277 (rc_rg) (rh_R_ok (List.forall_mem_cons.mpr ⟨rc_h e1 (by omega) (by omega) (fun h => by cases h), List.forall_mem_cons.mpr ⟨rc_h e6 (by omega) (by omega) (fun h => by cases h), fun _ h => absurd h List.not_mem_nil⟩⟩))
  · -- 30
    by_cases h4 : x1 ≤ -1
    · skip
      exact rw_go l hflags C0 hnm htb rp_278 (rc_rg) (rh_R_ok (List.forall_mem_cons.mpr ⟨rc_h e1 (by omega) (by omega) (fun h => by cases h), List.forall_mem_cons.mpr ⟨rc_h e6 (by omega) (by omega) (fun h => by cases h), fun _ h => absurd h List.not_mem_nil⟩⟩))
    · skip
      by_cases h6 : 0 ≤ x1 ∧ x1 ≤ 8
      · skip
        exact rw_go l hflags C0 hnm htb rp_279 (rc_rg) (rh_R_ok (List.forall_mem_cons.mpr ⟨rc_h e1 (by omega) (by omega) (fun h => by cases h), List.forall_mem_cons.mpr ⟨rc_h e6 (by omega) (by omega) (fun h => by cases h), fun _ h => absurd h List.not_mem_nil⟩⟩))
      · skip
        exact rw_go l hflags C0 hnm htb rp_280 (rc_rg) (rh_R_ok (List.forall_mem_cons.mpr ⟨rc_h e1 (by omega) (by omega) (fun h => by cases h), List.forall_mem_cons.mpr ⟨rc_h e6 (by omega) (by omega) (fun h => by cases h), fun _ h => absurd h List.not_mem_nil⟩⟩))
  · -- 31
    by_cases h4 : x1 ≤ -1
    · skip
      exact rw_go l hflags C0 hnm htb rp_281 (rc_rg) (rh_R_ok (List.forall_mem_cons.mpr ⟨rc_h e1 (by omega) (by omega) (fun h => by cases h), List.forall_mem_cons.mpr ⟨rc_h e6 (by omega) (by omega) (fun h => by cases h), fun _ h => absurd h List.not_mem_nil⟩⟩))
    · skip
      exact rw_go l hflags C0 hnm htb rp_282 (rc_rg) (rh_R_ok (List.forall_mem_cons.mpr ⟨rc_h e1 (by omega) (by omega) (fun h => by cases h), List.forall_mem_cons.mpr ⟨rc_h e6 (by omega) (by omega) (fun h => by cases h), fun _ h => absurd h List.not_mem_nil⟩⟩))
  · -- 32
    by_cases h4 : x2 ≤ -1
    · skip
      exact rw_go l hflags C0 hnm htb rp_283 (rc_rg) (rh_R_ok (List.forall_mem_cons.mpr ⟨rc_h e2 (by omega) (by omega) (fun h => by cases h), List.forall_mem_cons.mpr ⟨rc_h e6 (by omega) (by omega) (fun h => by cases h), fun _ h => absurd h List.not_mem_nil⟩⟩))
    · skip
      by_cases h6 : x1 ≤ -1
      · skip
        by_cases h8 : 0 ≤ x2 ∧ x2 ≤ 3
        · skip
          exact rw_go l hflags C0 hnm htb rp_284 (rc_rg) (rh_R_ok (List.forall_mem_cons.mpr ⟨rc_h e1 (by omega) (by omega) (fun h => by cases h), List.forall_mem_cons.mpr ⟨rc_h e2 (by omega) (by omega) (fun h => by cases h), List.forall_mem_cons.mpr ⟨rc_h e6 (by omega) (by omega) (fun h => by cases h), fun _ h => absurd h List.not_mem_nil⟩⟩⟩))
        · skip
          exact rw_go l hflags C0 hnm htb rp_286 (rc_rg) (rh_R_ok (List.forall_mem_cons.mpr ⟨rc_h e2 (by omega) (by omega) (fun h => by cases h), List.forall_mem_cons.mpr ⟨rc_h e6 (by omega) (by omega) (fun h => by cases h), fun _ h => absurd h List.not_mem_nil⟩⟩))
      · skip
        by_cases h8 : 0 ≤ x1
        · skip
          by_cases h10 : 0 ≤ x2 ∧ x2 ≤ 3
          · skip
            exact rw_go l hflags C0 hnm htb rp_285 (rc_rg) (rh_R_ok (List.forall_mem_cons.mpr ⟨rc_h e1 (by omega) (by omega) (fun h => by cases h), List.forall_mem_cons.mpr ⟨rc_h e2 (by omega) (by omega) (fun h => by cases h), List.forall_mem_cons.mpr ⟨rc_h e6 (by omega) (by omega) (fun h => by cases h), fun _ h => absurd h List.not_mem_nil⟩⟩⟩))
          · skip
            exact rw_go l hflags C0 hnm htb rp_286 (rc_rg) (rh_R_ok (List.forall_mem_cons.mpr ⟨rc_h e2 (by omega) (by omega) (fun h => by cases h), List.forall_mem_cons.mpr ⟨rc_h e6 (by omega) (by omega) (fun h => by cases h), fun _ h => absurd h List.not_mem_nil⟩⟩))
        · skip
          exact rw_go l hflags C0 hnm htb rp_286 (rc_rg) (rh_R_ok (List.forall_mem_cons.mpr ⟨rc_h e2 (by omega) (by omega) (fun h => by cases h), List.forall_mem_cons.mpr ⟨rc_h e6 (by omega) (by omega) (fun h => by cases h), fun _ h => absurd h List.not_mem_nil⟩⟩))
  · -- 33
    exact rw_go l hflags C0 hnm htb rp_287 (rc_rg) (rh_R_ok (List.forall_mem_cons.mpr ⟨rc_h e6 (by omega) (by omega) (fun h => by cases h), fun _ h => absurd h List.not_mem_nil⟩))
  · -- 34
    exact rw_go l hflags C0 hnm htb rp_288 (rc_rg) (rh_R_ok (List.forall_mem_cons.mpr ⟨rc_h e6 (by omega) (by omega) (fun h => by cases h), fun _ h => absurd h List.not_mem_nil⟩))
  · -- 35
    by_cases hv : 0 ≤ x1 ∧ x1 ≤ 4
    · obtain ⟨n, hn⟩ : ∃ n : Nat, x1 = (n : Int) := ⟨x1.toNat, by omega⟩
      have hX : X 1 = Int32.ofNat n := rc_val (e1.trans hn) (by omega)
      exact rw_go l hflags C0 hnm htb (rp_all_35 n (by omega) (by omega)) (rc_x1 hX) (rh_R_ok (List.forall_mem_cons.mpr ⟨rc_h e6 (by omega) (by omega) (fun h => by cases h), fun _ h => absurd h List.not_mem_nil⟩))
    · skip
      by_cases h6 : x1 ≤ -1
      · skip
        exact rw_go l hflags C0 hnm htb rp_294 (rc_rg) (rh_R_ok (List.forall_mem_cons.mpr ⟨rc_h e1 (by omega) (by omega) (fun h => by cases h), List.forall_mem_cons.mpr ⟨rc_h e6 (by omega) (by omega) (fun h => by cases h), fun _ h => absurd h List.not_mem_nil⟩⟩))
      · skip
        exact rw_go l hflags C0 hnm htb rp_295 (rc_rg) (rh_R_ok (List.forall_mem_cons.mpr ⟨rc_h e1 (by omega) (by omega) (fun h => by cases h), List.forall_mem_cons.mpr ⟨rc_h e6 (by omega) (by omega) (fun h => by cases h), fun _ h => absurd h List.not_mem_nil⟩⟩))
  · -- no call
    exact rw_go l hflags C0 hnm htb rp_6 (rc_rg) (rh_R_ok (List.forall_mem_cons.mpr ⟨rc_h e6 (by omega) (by omega) (fun h => by cases h), fun _ h => absurd h List.not_mem_nil⟩))
theorem whole_start {p : Program} {e : Env} {s : State} {m : MethodId} {below : List Frame} {meth : Method} {c : Code} (l : Launch) (hflags : l.flags = flags0) {b L : Nat} {xs : Nat → Int32} (hL : L ≤ 6) (C0 : lw_At p s m meth c b L xs) (hnm : meth.name = "law") (htb : c.exceptionTable.toList = []) : W p l e room_1 s m #[Value.ref b] below meth c s.heap [] 0 0 (lw_Z below #[Value.ref b] s) (entryFrame m ([Value.ref b] : List Value).toArray 8) := by
  match L, hL, C0 with
  | 0, _, C0 => exact rw_go l hflags C0 hnm htb rp_0 (fun j hj => Or.inr ⟨rfl, by omega⟩) (rh_R_ok (fun _ h => absurd h List.not_mem_nil))
  | 1, _, C0 => exact rw_go l hflags C0 hnm htb rp_1 (fun j hj => Or.inr ⟨rfl, by omega⟩) (rh_R_ok (fun _ h => absurd h List.not_mem_nil))
  | 2, _, C0 => exact rw_go l hflags C0 hnm htb rp_2 (fun j hj => Or.inr ⟨rfl, by omega⟩) (rh_R_ok (fun _ h => absurd h List.not_mem_nil))
  | 3, _, C0 => exact rw_go l hflags C0 hnm htb rp_3 (fun j hj => Or.inr ⟨rfl, by omega⟩) (rh_R_ok (fun _ h => absurd h List.not_mem_nil))
  | 4, _, C0 => exact rw_go l hflags C0 hnm htb rp_4 (fun j hj => Or.inr ⟨rfl, by omega⟩) (rh_R_ok (fun _ h => absurd h List.not_mem_nil))
  | 5, _, C0 => exact rw_go l hflags C0 hnm htb rp_5 (fun j hj => Or.inr ⟨rfl, by omega⟩) (rh_R_ok (fun _ h => absurd h List.not_mem_nil))
  | 6, _, C0 => exact rw_6 l hflags C0 hnm htb
  | n + 7, h, _ => exact absurd h (by omega)
