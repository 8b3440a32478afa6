/-! ===== the surveyor, part 44c: chars, bytes, bits ===== -/
noncomputable def sy_i2c (a : sy_E) (K : sy_K) : Option (sy_V × sy_K) := match sy_iv K a with
  | some r => bif sy_le 0 r.1 && sy_le r.2 65535 then some ((0, a, .inl 0), K) else some (sy_mk 0 0 65535 [] K)
  | none => none
theorem sy_u16 {x : Int32} (h1 : 0 ≤ x.toInt) (h2 : x.toInt ≤ 65535) : (x.toUInt32 % 65536).toInt32 = x := by
  apply Int32.toInt_inj.mp
  have e2 : ((x.toUInt32 % 65536).toInt32).toInt = ((x.toUInt32 % 65536).toNat : Int).bmod (2 ^ 32) := BitVec.toInt_eq_toNat_bmod (x.toUInt32 % 65536).toBitVec
  have e3 : x.toInt = (x.toUInt32.toNat : Int).bmod (2 ^ 32) := BitVec.toInt_eq_toNat_bmod x.toUInt32.toBitVec
  have e4 : x.toUInt32.toNat < 2 ^ 32 := x.toUInt32.toNat_lt
  rw [e2, UInt32.toNat_mod]
  rw [Int.bmod_def] at e3
  have e5 : (x.toUInt32.toNat : Int) = x.toInt := by
    split at e3 <;> omega
  have e6 : x.toUInt32.toNat % (65536 : UInt32).toNat = x.toUInt32.toNat := Nat.mod_eq_of_lt (by show _ < 65536; omega)
  rw [e6, Int.bmod_def]
  split <;> omega
theorem sy_i2c_ok {ρ : List Int} {K K' : sy_K} {a : sy_E} {c : sy_V} {x : Int32} (hk : sy_ok ρ K) (ha : sy_ev ρ a = some x.toInt) (h : sy_i2c a K = some (c, K')) : ∃ m : List Int, sy_ok (m ++ ρ) K' ∧ sy_is (m ++ ρ) c (.int ((x.toUInt32 % 65536).toInt32)) := by
  unfold sy_i2c at h
  split at h
  · rename_i r hr
    have b := sy_iv_ok hk hr ha
    cases hb : (sy_le 0 r.1 && sy_le r.2 65535) with
    | true =>
      rw [hb, cond_true] at h
      rw [Bool.and_eq_true, sy_le_iff, sy_le_iff] at hb
      cases h
      rw [sy_u16 (by omega) (by omega)]
      exact ⟨[], hk, x, rfl, ha⟩
    | false =>
      rw [hb, cond_false] at h
      have hr2 : 0 ≤ ((x.toUInt32 % 65536).toInt32).toInt ∧ ((x.toUInt32 % 65536).toInt32).toInt ≤ 65535 := by
        have e1 : (x.toUInt32 % 65536).toNat < 65536 := by
          rw [UInt32.toNat_mod]
          exact Nat.mod_lt _ (by decide)
        have e2 : ((x.toUInt32 % 65536).toInt32).toInt = ((x.toUInt32 % 65536).toNat : Int).bmod (2 ^ 32) := BitVec.toInt_eq_toNat_bmod (x.toUInt32 % 65536).toBitVec
        rw [e2, Int.bmod_def]
        omega
      have h9 := sy_mk_ok (t := 0) (lo := 0) (hi := 65535) (fs := []) (v := .int ((x.toUInt32 % 65536).toInt32)) (z0 := ((x.toUInt32 % 65536).toInt32).toInt) (z := ((x.toUInt32 % 65536).toInt32).toInt) hk ⟨_, rfl, rfl⟩ hr2.1 hr2.2 (fun _ _ => rfl) (fun p hp => by cases hp)
      rw [Option.some.inj h] at h9
      exact h9
  · cases h
theorem sy_mk_t (t : Nat) (lo hi : Int) (fs : List sy_P) (K : sy_K) : (sy_mk t lo hi fs K).1.1 = t := by
  unfold sy_mk
  cases (sy_le (sy_lo t) lo && sy_le hi (sy_hi t)) with
  | true => cases sy_le hi lo <;> rfl
  | false => rfl
/-- a byte of an int: less 256 times the quotient of what is 128 more -/
noncomputable def sy_i2b (a : sy_E) (K : sy_K) : Option (sy_V × sy_K) := match sy_iv K a with
  | some r => bif sy_le (-128) r.1 && sy_le r.2 127 then some ((0, a, .inl 0), K) else
    (match sy_mk 0 ((r.1 + 128) / 256) ((r.2 + 128) / 256) [sy_te a ++ [(128, []), (-256, [K.1.length])], (256, [K.1.length]) :: (127, []) :: sy_sc (-1) (sy_te a)] K with
    | z => some (sy_mk 0 (-128) 127 (sy_eq2 z.2.1.length (sy_te a ++ sy_sc (-256) (sy_te z.1.2.1))) z.2))
  | none => none
theorem sy_i2b_ok {ρ : List Int} {K K' : sy_K} {a : sy_E} {c : sy_V} {x : Int32} (hk : sy_ok ρ K) (ha : sy_ev ρ a = some x.toInt) (h : sy_i2b a K = some (c, K')) : ∃ m : List Int, sy_ok (m ++ ρ) K' ∧ sy_is (m ++ ρ) c (.int (x.toInt8.toInt32)) := by
  have hx8 : (x.toInt8.toInt32).toInt = x.toInt.bmod 256 := by
    rw [Int8.toInt_toInt32, Int32.toInt_toInt8]
  unfold sy_i2b at h
  split at h
  · rename_i r hr
    have b := sy_iv_ok hk hr ha
    cases hb : (sy_le (-128) r.1 && sy_le r.2 127) with
    | true =>
      rw [hb, cond_true] at h
      rw [Bool.and_eq_true, sy_le_iff, sy_le_iff] at hb
      cases h
      refine ⟨[], hk, _, rfl, ?_⟩
      have e : (x.toInt8.toInt32).toInt = x.toInt := by
        rw [hx8, Int.bmod_def]
        split <;> omega
      rw [e]
      exact ha
    | false =>
      rw [hb, cond_false] at h
      have lo := Int32.le_toInt x
      have hi := Int32.toInt_lt x
      have q1 : (r.1 + 128) / 256 ≤ (x.toInt + 128) / 256 := Int.ediv_le_ediv (by decide) (by omega)
      have q2 : (x.toInt + 128) / 256 ≤ (r.2 + 128) / 256 := Int.ediv_le_ediv (by decide) (by omega)
      have hq : (Int32.ofInt ((x.toInt + 128) / 256)).toInt = (x.toInt + 128) / 256 := by
        rw [Int32.toInt_ofInt, Int.bmod_def]
        simp only [show Int32.size = 4294967296 from rfl]
        split <;> omega
      obtain ⟨d1, p1⟩ := sy_te_ok (ρ := (x.toInt + 128) / 256 :: ρ) (sy_ev_app ha [(x.toInt + 128) / 256])
      have d1' : sy_dom (ρ.length + 1) (sy_te a) = true := d1
      have hn : sy_tot ((x.toInt + 128) / 256 :: ρ) K.1.length = (x.toInt + 128) / 256 := by
        unfold sy_tot
        rw [← hk.1, sy_at_new]
        rfl
      have hl : Nat.blt K.1.length (ρ.length + 1) = true := Nat.ble_eq_true_of_le (by rw [hk.1]; exact Nat.le_refl _)
      obtain ⟨m1, k1, i1⟩ := sy_mk_ok (t := 0) (lo := (r.1 + 128) / 256) (hi := (r.2 + 128) / 256) (fs := [sy_te a ++ [(128, []), (-256, [K.1.length])], (256, [K.1.length]) :: (127, []) :: sy_sc (-1) (sy_te a)]) (v := .int (Int32.ofInt ((x.toInt + 128) / 256))) hk ⟨_, rfl, hq⟩ q1 q2 (fun _ _ => rfl) (by
        intro p hp
        rcases List.mem_cons.mp hp with rfl | hp
        · refine ⟨sy_app_dom _ d1 ?_, ?_⟩
          · show (true && ((Nat.blt K.1.length (ρ.length + 1) && true) && true)) = true
            rw [hl]; rfl
          · rw [sy_app_ep, p1]
            show 0 ≤ x.toInt + (128 * 1 + (-256 * (sy_tot ((x.toInt + 128) / 256 :: ρ) K.1.length * 1) + 0))
            rw [hn]
            omega
        · rcases List.mem_cons.mp hp with rfl | hp
          · refine ⟨?_, ?_⟩
            · show ((Nat.blt K.1.length (ρ.length + 1) && true) && (true && sy_dom (ρ.length + 1) (sy_sc (-1) (sy_te a)))) = true
              rw [hl, sy_sc_dom _ _ d1']; rfl
            · show 0 ≤ 256 * (sy_tot ((x.toInt + 128) / 256 :: ρ) K.1.length * 1) + (127 * 1 + sy_ep (sy_tot ((x.toInt + 128) / 256 :: ρ)) (sy_sc (-1) (sy_te a)))
              rw [hn, sy_sc_ep, p1]
              omega
          · cases hp)
      generalize hz : sy_mk 0 ((r.1 + 128) / 256) ((r.2 + 128) / 256) [sy_te a ++ [(128, []), (-256, [K.1.length])], (256, [K.1.length]) :: (127, []) :: sy_sc (-1) (sy_te a)] K = z at h k1 i1
      obtain ⟨⟨t9, e, e2⟩, K9⟩ := z
      dsimp only at h k1 i1
      have ht : t9 = 0 := by
        have h8 := sy_mk_t 0 ((r.1 + 128) / 256) ((r.2 + 128) / 256) [sy_te a ++ [(128, []), (-256, [K.1.length])], (256, [K.1.length]) :: (127, []) :: sy_sc (-1) (sy_te a)] K
        rw [hz] at h8
        exact h8
      subst ht
      obtain ⟨w, hw, he⟩ := sy_is_int i1
      cases hw
      rw [hq] at he
      have ha1 := sy_ev_app ha m1
      obtain ⟨da, pa⟩ := sy_te_ok ha1
      obtain ⟨de, pe⟩ := sy_te_ok he
      have e8 : (x.toInt8.toInt32).toInt = x.toInt - 256 * ((x.toInt + 128) / 256) := by
        rw [hx8, Int.bmod_def]
        split <;> omega
      have h9 := sy_mk_ok (t := 0) (lo := -128) (hi := 127) (v := .int (x.toInt8.toInt32)) (z0 := (x.toInt8.toInt32).toInt) (z := x.toInt - 256 * ((x.toInt + 128) / 256)) (fs := sy_eq2 K9.1.length (sy_te a ++ sy_sc (-256) (sy_te e))) k1 ⟨_, rfl, rfl⟩ (by omega) (by omega) (fun _ _ => e8) (by
        rw [← k1.1]
        refine sy_eq2_ok (sy_app_dom _ da (sy_sc_dom _ _ de)) ?_
        rw [sy_app_ep, sy_sc_ep, pa, pe]
        omega)
      rw [Option.some.inj h] at h9
      obtain ⟨m2, g1, g2⟩ := h9
      exact ⟨m2 ++ m1, by rw [List.append_assoc]; exact g1, by rw [List.append_assoc]; exact g2⟩
  · cases h
