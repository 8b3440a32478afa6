/-! ===== the surveyor, part 44d: bits ===== -/
/-- a number that is known, be it by its range -/
noncomputable def sy_kc1 (K : sy_K) (e : sy_E) : Option Int := match sy_iv K e with
  | some r => bif sy_le r.2 r.1 then some r.1 else none
  | none => none
theorem sy_kc1_ok {ρ : List Int} {K : sy_K} {e : sy_E} {c x : Int} (hk : sy_ok ρ K) (h : sy_kc1 K e = some c) (hx : sy_ev ρ e = some x) : c = x := by
  unfold sy_kc1 at h
  split at h
  · rename_i r hr
    cases hb : sy_le r.2 r.1 with
    | false => rw [hb] at h; cases h
    | true =>
      rw [hb, cond_true] at h
      cases h
      rw [sy_le_iff] at hb
      have b := sy_iv_ok hk hr hx
      omega
  · cases h
noncomputable def sy_and (a b : sy_E) (K : sy_K) : Option (sy_V × sy_K) := match sy_kc1 K a, sy_kc1 K b with
  | some m, some k => some ((0, .inl (Int32.ofInt m &&& Int32.ofInt k).toInt, .inl 0), K)
  | _, _ => some (sy_any 0 K)
noncomputable def sy_or2 (a : sy_E) (k : Int) (K : sy_K) : Option (sy_V × sy_K) := match sy_iv K a with
  | some r => bif (sy_le 1 k && sy_le k 8) && (Nat.beq (Nat.land k.toNat (k.toNat - 1)) 0 && (sy_le 0 r.1 && sy_le (r.2 + 1) k)) then sy_add 0 a (.inl k) K else some (sy_any 0 K)
  | none => none
noncomputable def sy_or (a b : sy_E) (K : sy_K) : Option (sy_V × sy_K) := match sy_kc1 K b with
  | some k => (match sy_kc1 K a with
    | some m => some ((0, .inl (Int32.ofInt m ||| Int32.ofInt k).toInt, .inl 0), K)
    | none => bif sy_le k 0 && sy_le 0 k then some ((0, a, .inl 0), K) else sy_or2 a k K)
  | none => some (sy_any 0 K)
/-- signs: alike (0), or not -/
noncomputable def sy_sgn (K : sy_K) (e : sy_E) : Nat := match sy_iv K e with
  | some r => bif sy_le 0 r.1 then 1 else bif sy_le (r.2 + 1) 0 then 2 else 0
  | none => 0
noncomputable def sy_xor (t : Nat) (a b : sy_E) (K : sy_K) : Option (sy_V × sy_K) := bif Nat.beq (sy_sgn K a) 0 || Nat.beq (sy_sgn K b) 0 then some (sy_any t K) else bif Nat.beq (sy_sgn K a) (sy_sgn K b) then some (sy_mk t 0 (sy_hi t) [] K) else some (sy_mk t (sy_lo t) (-1) [] K)
section SYB
variable {ρ : List Int} {K K' : sy_K} {a b : sy_E} {c : sy_V} {x y : Int32}
theorem sy_anyi (hk : sy_ok ρ K) (h : some (sy_any 0 K) = some (c, K')) (z : Int32) : ∃ m : List Int, sy_ok (m ++ ρ) K' ∧ sy_is (m ++ ρ) c (.int z) := by
  have h9 := sy_any_ok hk (t := 0) (v := .int z) ⟨_, rfl, rfl⟩
  rw [Option.some.inj h] at h9
  exact h9
theorem sy_and_ok (hk : sy_ok ρ K) (ha : sy_ev ρ a = some x.toInt) (hb : sy_ev ρ b = some y.toInt) (h : sy_and a b K = some (c, K')) : ∃ m : List Int, sy_ok (m ++ ρ) K' ∧ sy_is (m ++ ρ) c (.int (x &&& y)) := by
  unfold sy_and at h
  split at h
  · rename_i m k hm hkk
    cases h
    have e1 := sy_kc1_ok hk hm ha
    have e2 := sy_kc1_ok hk hkk hb
    subst e1
    subst e2
    refine ⟨[], hk, x &&& y, rfl, ?_⟩
    show some _ = _
    rw [Int32.ofInt_toInt, Int32.ofInt_toInt]
  · exact sy_anyi hk h _
theorem sy_or8 : ∀ (k : Fin 9) (m : Fin 8), m.val < k.val → Nat.land k.val (k.val - 1) = 0 → (Int32.ofNat m.val ||| Int32.ofNat k.val) = Int32.ofNat (m.val + k.val) := by decide
theorem sy_or_ok (hk : sy_ok ρ K) (ha : sy_ev ρ a = some x.toInt) (hb : sy_ev ρ b = some y.toInt) (h : sy_or a b K = some (c, K')) : ∃ m : List Int, sy_ok (m ++ ρ) K' ∧ sy_is (m ++ ρ) c (.int (x ||| y)) := by
  unfold sy_or at h
  split at h
  · rename_i k hkk
    have e2 := sy_kc1_ok hk hkk hb
    split at h
    · rename_i m hm
      cases h
      have e1 := sy_kc1_ok hk hm ha
      subst e1
      subst e2
      refine ⟨[], hk, x ||| y, rfl, ?_⟩
      show some _ = _
      rw [Int32.ofInt_toInt, Int32.ofInt_toInt]
    · cases h0 : (sy_le k 0 && sy_le 0 k) with
      | true =>
        rw [h0, cond_true] at h
        rw [Bool.and_eq_true, sy_le_iff, sy_le_iff] at h0
        cases h
        have ey : y = 0 := Int32.toInt_inj.mp (by rw [← e2]; show k = 0; omega)
        subst ey
        rw [Int32.or_zero]
        exact ⟨[], hk, x, rfl, ha⟩
      | false =>
        rw [h0, cond_false] at h
        unfold sy_or2 at h
        split at h
        · rename_i r hr
          have i1 := sy_iv_ok hk hr ha
          cases h1 : ((sy_le 1 k && sy_le k 8) && (Nat.beq (Nat.land k.toNat (k.toNat - 1)) 0 && (sy_le 0 r.1 && sy_le (r.2 + 1) k))) with
          | false => rw [h1, cond_false] at h; exact sy_anyi hk h _
          | true =>
            rw [h1, cond_true] at h
            simp only [Bool.and_eq_true, sy_le_iff] at h1
            obtain ⟨⟨g1, g2⟩, g3, g4, g5⟩ := h1
            have g3' : Nat.land k.toNat (k.toNat - 1) = 0 := Nat.eq_of_beq_eq_true g3
            obtain ⟨n, hn⟩ : ∃ n : Nat, k = (n : Int) := ⟨k.toNat, by omega⟩
            obtain ⟨p, hp⟩ : ∃ p : Nat, x.toInt = (p : Int) := ⟨x.toInt.toNat, by omega⟩
            subst hn
            have ex : x = Int32.ofNat p := Int32.toInt_inj.mp (by rw [hp, Int32.toInt_ofNat_of_lt (by omega)])
            have ey : y = Int32.ofNat n := Int32.toInt_inj.mp (by rw [← e2, Int32.toInt_ofNat_of_lt (by omega)])
            have h8 : Int32.ofNat p ||| Int32.ofNat n = Int32.ofNat (p + n) := sy_or8 ⟨n, by omega⟩ ⟨p, by omega⟩ (by show p < n; omega) g3'
            have e9 : x ||| y = Int32.ofNat (p + n) := by rw [ex, ey]; exact h8
            rw [e9]
            refine sy_add_ok (x := x.toInt) (y := (n : Int)) (z0 := (Int32.ofNat (p + n)).toInt) hk ha rfl h ⟨_, rfl, rfl⟩ (fun _ _ => ?_)
            rw [Int32.toInt_ofNat_of_lt (by omega), hp]
            omega
        · cases h
  · exact sy_anyi hk h _
end SYB
theorem sy_sgn_ok {ρ : List Int} {K : sy_K} {e : sy_E} {x : Int} (hk : sy_ok ρ K) (hx : sy_ev ρ e = some x) : (sy_sgn K e = 1 → 0 ≤ x) ∧ (sy_sgn K e = 2 → x < 0) ∧ (sy_sgn K e = 0 ∨ sy_sgn K e = 1 ∨ sy_sgn K e = 2) := by
  unfold sy_sgn
  obtain ⟨r, hr⟩ := sy_iv_some hk hx
  have b := sy_iv_ok hk hr hx
  rw [hr]
  dsimp only
  cases h1 : sy_le 0 r.1 with
  | true =>
    rw [sy_le_iff] at h1
    rw [cond_true]
    exact ⟨fun _ => by omega, fun h => (by cases h), Or.inr (Or.inl rfl)⟩
  | false =>
    rw [cond_false]
    cases h2 : sy_le (r.2 + 1) 0 with
    | true =>
      rw [sy_le_iff] at h2
      rw [cond_true]
      exact ⟨fun h => (by cases h), fun _ => by omega, Or.inr (Or.inr rfl)⟩
    | false =>
      rw [cond_false]
      exact ⟨fun h => (by cases h), fun h => (by cases h), Or.inl rfl⟩
theorem sy_xsg {w : Nat} (x y : BitVec w) : ((x ^^^ y).toInt < 0) ↔ ((x.toInt < 0) ≠ (y.toInt < 0)) := by
  have h1 := BitVec.msb_eq_toInt (x := x ^^^ y)
  have h2 := BitVec.msb_eq_toInt (x := x)
  have h3 := BitVec.msb_eq_toInt (x := y)
  rw [BitVec.msb_xor, h2, h3] at h1
  clear h2 h3
  generalize (x ^^^ y).toInt = z at h1 ⊢
  generalize x.toInt = a at h1 ⊢
  generalize y.toInt = b at h1 ⊢
  by_cases p : z < 0 <;> by_cases q : a < 0 <;> by_cases r : b < 0 <;> simp [p, q, r] at h1 ⊢
theorem sy_xor_ok {ρ : List Int} {K K' : sy_K} {t : Nat} {a b : sy_E} {c : sy_V} {x y z : Int} {v : Value} (hk : sy_ok ρ K) (ha : sy_ev ρ a = some x) (hb : sy_ev ρ b = some y) (hv : sy_nm t v z) (hs : z < 0 ↔ ((x < 0) ≠ (y < 0))) (h : sy_xor t a b K = some (c, K')) : ∃ m : List Int, sy_ok (m ++ ρ) K' ∧ sy_is (m ++ ρ) c v := by
  unfold sy_xor at h
  have any := sy_nm_in hv
  obtain ⟨a1, a2, a3⟩ := sy_sgn_ok hk ha
  obtain ⟨b1, b2, b3⟩ := sy_sgn_ok hk hb
  cases h1 : (Nat.beq (sy_sgn K a) 0 || Nat.beq (sy_sgn K b) 0) with
  | true =>
    rw [h1, cond_true] at h
    have h9 := sy_any_ok hk hv
    rw [Option.some.inj h] at h9
    exact h9
  | false =>
    rw [h1, cond_false] at h
    rw [Bool.or_eq_false_iff] at h1
    have n1 : sy_sgn K a ≠ 0 := fun e => by rw [e] at h1; cases h1.1
    have n2 : sy_sgn K b ≠ 0 := fun e => by rw [e] at h1; cases h1.2
    cases h2 : Nat.beq (sy_sgn K a) (sy_sgn K b) with
    | true =>
      rw [h2, cond_true] at h
      have e := Nat.eq_of_beq_eq_true h2
      have hz : 0 ≤ z := by
        refine Int.not_lt.mp (fun hz => ?_)
        have h3 := hs.mp hz
        rcases a3 with q | q | q
        · exact n1 q
        · have p1 := a1 q
          have p2 := b1 (e ▸ q)
          exact h3 (propext ⟨fun _ => by omega, fun _ => by omega⟩)
        · have p1 := a2 q
          have p2 := b2 (e ▸ q)
          exact h3 (propext ⟨fun _ => by omega, fun _ => by omega⟩)
      have h9 := sy_mk_ok (lo := 0) (hi := sy_hi t) (fs := []) (z := z) hk hv hz any.2 (fun _ _ => rfl) (fun p hp => by cases hp)
      rw [Option.some.inj h] at h9
      exact h9
    | false =>
      rw [h2, cond_false] at h
      have ne : sy_sgn K a ≠ sy_sgn K b := fun e => by rw [e] at h2; have := Nat.beq_refl (sy_sgn K b); rw [this] at h2; cases h2
      have hz : z ≤ -1 := by
        have h4 : z < 0 := by
          refine hs.mpr (fun e => ?_)
          rcases a3 with q | q | q
          · exact n1 q
          · rcases b3 with q2 | q2 | q2
            · exact n2 q2
            · exact ne (q.trans q2.symm)
            · have p1 := a1 q
              have p2 := b2 q2
              have : x < 0 := e.symm ▸ p2
              omega
          · rcases b3 with q2 | q2 | q2
            · exact n2 q2
            · have p1 := a2 q
              have p2 := b1 q2
              have : y < 0 := e ▸ p1
              omega
            · exact ne (q.trans q2.symm)
        omega
      have h9 := sy_mk_ok (lo := sy_lo t) (hi := -1) (fs := []) (z := z) hk hv any.1 hz (fun _ _ => rfl) (fun p hp => by cases hp)
      rw [Option.some.inj h] at h9
      exact h9
