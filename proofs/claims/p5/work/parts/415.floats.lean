/-! ===== the surveyor, doubles: between which whole numbers a double lies ===== -/
/-- one, in units of the least double -/
noncomputable def sd_U : Int := (FP.Core.one64 : Int)
/-- a double, in units of the least -/
noncomputable def sd_z (x : UInt64) : Int := FP.Core.zval FP.Core.b64 (FP.Core.val64 x)
theorem sd_U_pos : 0 < sd_U := Int.natCast_pos.mpr FP.Core.one64_pos
/-- 2 to the s -/
def sd_P (s : Nat) : Int := Int.ofNat (Nat.pow 2 s)
theorem sd_P_pos (s : Nat) : 0 < sd_P s := Int.natCast_pos.mpr (Nat.two_pow_pos s)
/-- a bound of all doubles that are told of -/
def sd_B : Int := sd_P 960
theorem sd_B_eq : sd_B = ((2 ^ 960 : Nat) : Int) := rfl
theorem sd_B_53 : 9223372036854775808 ≤ sd_B := by unfold sd_B sd_P; decide +kernel
/-- a whole number that a double may be -/
def sd_rep (k : Int) : Prop := ∃ (m : Int) (s : Nat), k = m * sd_P s ∧ m.natAbs < 9007199254740992 ∧ s ≤ 900
theorem sd_rep_53 {k : Int} (h : k.natAbs < 9007199254740992) : sd_rep k := ⟨k, 0, by show k = k * 1; omega, h, by omega⟩
theorem sd_rep_B {k : Int} (h : sd_rep k) : -sd_B ≤ k ∧ k ≤ sd_B := by
  obtain ⟨m, s, rfl, h1, h2⟩ := h
  have e : (m * sd_P s).natAbs = m.natAbs * 2 ^ s := Int.natAbs_mul m _
  have h3 : m.natAbs * 2 ^ s ≤ 2 ^ 53 * 2 ^ 900 := Nat.mul_le_mul (Nat.le_of_lt h1) (Nat.pow_le_pow_right (by decide) h2)
  have h4 : (2 ^ 53 * 2 ^ 900 : Nat) ≤ 2 ^ 960 := by decide +kernel
  have h5 : (m * sd_P s).natAbs ≤ 2 ^ 960 := by rw [e]; exact Nat.le_trans h3 h4
  rw [sd_B_eq]
  generalize (2 ^ 960 : Nat) = B at *
  generalize m * sd_P s = k at *
  omega
theorem sd_whole {k : Int} (h : sd_rep k) : ∃ V : UInt64, FP.Core.val64 V ≠ .nan ∧ FP.Core.zval FP.Core.b64 (FP.Core.val64 V) = k * sd_U := by
  obtain ⟨m, s, rfl, h1, h2⟩ := h
  have g1 : FP.Core.b64.qmin = -1074 := FP.Core.qmin_b64
  have g2 : (900 : Int) ≤ FP.Core.b64.qmax := by decide +kernel
  obtain ⟨c, q, e1, e2⟩ := FP.Core.round_exact FP.Core.good_b64 (decide (m < 0)) (c := m.natAbs) (q := (s : Int)) (show _ < 2 ^ 53 by omega) (by omega) (by omega)
  have hf := FP.Core.round_fits FP.Core.good_b64 (.fin (decide (m < 0)) m.natAbs (s : Int))
  rw [e1] at hf
  refine ⟨FP.Core.of64 (.fin (decide (m < 0)) c q), ?_, ?_⟩
  · rw [FP.Core.val64_of64 hf]; exact FP.Core.Datum.noConfusion
  · rw [FP.Core.val64_of64 hf]
    show FP.Core.signed (decide (m < 0)) (FP.Core.inUnits c q FP.Core.b64.qmin) = _
    rw [e2]
    unfold FP.Core.inUnits
    rw [show ((s : Int) - FP.Core.b64.qmin).toNat = s + (-FP.Core.b64.qmin).toNat by omega, Nat.pow_add, FP.Core.pow_qmin64, ← Nat.mul_assoc, FP.Core.signed_mul, FP.Core.signed_mul]
    have e3 : FP.Core.signed (decide (m < 0)) m.natAbs = m := by
      unfold FP.Core.signed
      by_cases h : m < 0 <;> simp [h] <;> omega
    rw [e3]; rfl
theorem sd_top : 2 ^ 960 * FP.Core.one64 < FP.Core.b64.tails * 2 ^ (FP.Core.b64.exps - 2) := by decide +kernel
theorem sd_fin {x : UInt64} {lo hi : Int} (hn : FP.Core.val64 x ≠ .nan) (hl : sd_rep lo) (hh : sd_rep hi) (h1 : lo * sd_U ≤ sd_z x) (h2 : sd_z x ≤ hi * sd_U) : FP.Core.DFin x := by
  have ht := sd_top
  have hU := sd_U_pos
  have a1 : -(sd_B * sd_U) ≤ lo * sd_U := by
    rw [← Int.neg_mul]; exact Int.mul_le_mul_of_nonneg_right (sd_rep_B hl).1 (by omega)
  have a2 : hi * sd_U ≤ sd_B * sd_U := Int.mul_le_mul_of_nonneg_right (sd_rep_B hh).2 (by omega)
  have b1 := Int.le_trans a1 h1
  have b2 := Int.le_trans h2 a2
  have hB : sd_B * sd_U = ((2 ^ 960 * FP.Core.one64 : Nat) : Int) := by rw [Int.natCast_mul, ← sd_B_eq]; rfl
  rw [hB] at b1 b2
  unfold sd_z at b1 b2
  unfold FP.Core.DFin
  cases hv : FP.Core.val64 x with
  | nan => exact absurd hv hn
  | fin s c q => exact ⟨s, c, q, rfl⟩
  | inf s =>
    exfalso
    rw [hv] at b1 b2
    unfold FP.Core.zval at b1 b2
    change -((2 ^ 960 * FP.Core.one64 : Nat) : Int) ≤ FP.Core.signed s (FP.Core.b64.tails * 2 ^ (FP.Core.b64.exps - 2)) at b1
    change FP.Core.signed s (FP.Core.b64.tails * 2 ^ (FP.Core.b64.exps - 2)) ≤ ((2 ^ 960 * FP.Core.one64 : Nat) : Int) at b2
    generalize FP.Core.b64.tails * 2 ^ (FP.Core.b64.exps - 2) = t at *
    generalize 2 ^ 960 * FP.Core.one64 = u at *
    cases s
    · simp only [FP.Core.signed, Bool.false_eq_true, if_false] at b2; omega
    · simp only [FP.Core.signed, if_true] at b1; omega
theorem sd_add {a b : UInt64} {lo hi : Int} (fa : FP.Core.DFin a) (fb : FP.Core.DFin b) (hl : sd_rep lo) (hh : sd_rep hi) (h1 : lo * sd_U ≤ sd_z a + sd_z b) (h2 : sd_z a + sd_z b ≤ hi * sd_U) : FP.Core.DFin (FP.dadd a b) ∧ lo * sd_U ≤ sd_z (FP.dadd a b) ∧ sd_z (FP.dadd a b) ≤ hi * sd_U := by
  obtain ⟨V9, v2, v3⟩ := sd_whole hl
  have v1 := FP.Core.val64_fits V9
  obtain ⟨X9, x2, x3⟩ := sd_whole hh
  have x1 := FP.Core.val64_fits X9
  have r1 := FP.Core.sum_ge FP.Core.good_b64 fa fb (FP.Core.val64_fits a) (FP.Core.val64_fits b) v1 v2 (by rw [v3]; exact h1)
  have r2 := FP.Core.sum_le FP.Core.good_b64 fa fb (FP.Core.val64_fits a) (FP.Core.val64_fits b) x1 x2 (by rw [x3]; exact h2)
  rw [← FP.Core.val64_dadd, v3] at r1
  rw [← FP.Core.val64_dadd, x3] at r2
  refine ⟨sd_fin ?_ hl hh r1 r2, r1, r2⟩
  rw [FP.Core.val64_dadd]
  obtain ⟨s, c, q, ea⟩ := fa
  obtain ⟨t, d, r, eb⟩ := fb
  rw [ea, eb]
  exact FP.Core.roundRatio_ne_nan _ _ _ _ _
theorem sd_neg (a : UInt64) : sd_z (FP.dneg a) = -sd_z a := by unfold sd_z; rw [FP.val64_dneg, FP.Core.zval_negate]
theorem sd_neg_fin {a : UInt64} (h : FP.Core.DFin a) : FP.Core.DFin (FP.dneg a) := by
  obtain ⟨s, c, q, e⟩ := h
  exact ⟨!s, c, q, by rw [FP.val64_dneg, e]; rfl⟩
theorem sd_sub {a b : UInt64} {lo hi : Int} (fa : FP.Core.DFin a) (fb : FP.Core.DFin b) (hl : sd_rep lo) (hh : sd_rep hi) (h1 : lo * sd_U ≤ sd_z a - sd_z b) (h2 : sd_z a - sd_z b ≤ hi * sd_U) : FP.Core.DFin (FP.dsub a b) ∧ lo * sd_U ≤ sd_z (FP.dsub a b) ∧ sd_z (FP.dsub a b) ≤ hi * sd_U := by
  have e : FP.Core.val64 (FP.dsub a b) = FP.Core.val64 (FP.dadd a (FP.dneg b)) := by
    rw [FP.Core.val64_dsub, FP.Core.val64_dadd, FP.val64_dneg]
  have ez : sd_z (FP.dsub a b) = sd_z (FP.dadd a (FP.dneg b)) := by unfold sd_z; rw [e]
  obtain ⟨⟨s, c, q, r1⟩, r2, r3⟩ := sd_add fa (sd_neg_fin fb) hl hh (by rw [sd_neg]; omega) (by rw [sd_neg]; omega)
  exact ⟨⟨s, c, q, by rw [e]; exact r1⟩, by rw [ez]; exact r2, by rw [ez]; exact r3⟩
theorem sd_signed (s t : Bool) (m n : Nat) : FP.Core.signed (s != t) (m * n) = FP.Core.signed s m * FP.Core.signed t n := by
  cases s <;> cases t <;> simp [FP.Core.signed, Int.neg_mul, Int.mul_neg]
theorem sd_mul {a b : UInt64} {lo hi : Int} (fa : FP.Core.DFin a) (fb : FP.Core.DFin b) (hl : sd_rep lo) (hh : sd_rep hi) (h1 : lo * sd_U * sd_U ≤ sd_z a * sd_z b) (h2 : sd_z a * sd_z b ≤ hi * sd_U * sd_U) : FP.Core.DFin (FP.dmul a b) ∧ lo * sd_U ≤ sd_z (FP.dmul a b) ∧ sd_z (FP.dmul a b) ≤ hi * sd_U := by
  obtain ⟨V9, v2, v3⟩ := sd_whole hl
  have v1 := FP.Core.val64_fits V9
  obtain ⟨X9, x2, x3⟩ := sd_whole hh
  have x1 := FP.Core.val64_fits X9
  have fta := FP.Core.val64_fits a
  have ftb := FP.Core.val64_fits b
  obtain ⟨s, c, q, ea⟩ := fa
  obtain ⟨t, d, r, eb⟩ := fb
  rw [ea] at fta
  rw [eb] at ftb
  obtain ⟨p1, p2, p3⟩ := FP.Core.product_units fta ftb
  have hz : sd_z a * sd_z b = FP.Core.signed (s != t) (FP.Core.inUnits (c * d) (q + r) (2 * FP.Core.b64.qmin)) := by
    rw [p3, sd_signed]
    unfold sd_z
    rw [ea, eb]
    rfl
  have hq : FP.Core.b64.qmin < 0 := FP.Core.qmin_neg FP.Core.good_b64
  have hp : ((2 ^ (FP.Core.b64.qmin - 2 * FP.Core.b64.qmin).toNat : Nat) : Int) = sd_U := by
    rw [show (FP.Core.b64.qmin - 2 * FP.Core.b64.qmin).toNat = (-FP.Core.b64.qmin).toNat by omega, FP.Core.pow_qmin64]; rfl
  have e : FP.Core.val64 (FP.dmul a b) = FP.Core.round FP.Core.b64 (.fin (s != t) (c * d) (q + r)) := by rw [FP.Core.val64_dmul, ea, eb, p1]
  have r1 := FP.Core.zval_round_ge FP.Core.good_b64 (s := s != t) (c := c * d) (q := q + r) v1 v2 (e0 := 2 * FP.Core.b64.qmin) (by omega) p2 (by rw [hp, v3, ← hz]; exact h1)
  have r2 := FP.Core.zval_round_le FP.Core.good_b64 (s := s != t) (c := c * d) (q := q + r) x1 x2 (e0 := 2 * FP.Core.b64.qmin) (by omega) p2 (by rw [hp, x3, ← hz]; exact h2)
  rw [← e, v3] at r1
  rw [← e, x3] at r2
  refine ⟨sd_fin ?_ hl hh r1 r2, r1, r2⟩
  rw [e]
  exact FP.Core.roundRatio_ne_nan _ _ _ _ _
/-- the rounding of a ratio, with the sign of a positive divisor's dividend -/
theorem sd_ratio {s : Bool} {c d : Nat} {q r : Int} {V : FP.Core.Datum} (hx : FP.Core.fits FP.Core.b64 (.fin s c q)) (hy : FP.Core.fits FP.Core.b64 (.fin false d r)) (hd : 0 < d) (hV : FP.Core.fits FP.Core.b64 V) (hn : V ≠ .nan) :
    (FP.Core.zval FP.Core.b64 V * FP.Core.zval FP.Core.b64 (.fin false d r) ≤ FP.Core.zval FP.Core.b64 (.fin s c q) * sd_U → FP.Core.zval FP.Core.b64 V ≤ FP.Core.zval FP.Core.b64 (FP.Core.roundRatio FP.Core.b64 s c d (q - r))) ∧
    (FP.Core.zval FP.Core.b64 (.fin s c q) * sd_U ≤ FP.Core.zval FP.Core.b64 V * FP.Core.zval FP.Core.b64 (.fin false d r) → FP.Core.zval FP.Core.b64 (FP.Core.roundRatio FP.Core.b64 s c d (q - r)) ≤ FP.Core.zval FP.Core.b64 V) := by
  have hq : FP.Core.b64.qmin < 0 := FP.Core.qmin_neg FP.Core.good_b64
  have hx1 : FP.Core.b64.qmin ≤ q := hx.2.1
  have hy1 : FP.Core.b64.qmin ≤ r := hy.2.1
  have hle := FP.Core.zmag_roundRatio_le FP.Core.good_b64 (s := s) (A := c) (B := d) (e := q - r) (e0 := 2 * FP.Core.b64.qmin - r) hd hV hn (by omega) (by omega)
  have hge := FP.Core.zmag_roundRatio_ge FP.Core.good_b64 (s := s) (A := c) (B := d) (e := q - r) (e0 := 2 * FP.Core.b64.qmin - r) hd hV (by omega) (by omega)
  have e1 : FP.Core.inUnits c (q - r) (2 * FP.Core.b64.qmin - r) = FP.Core.zmag FP.Core.b64 (.fin s c q) * FP.Core.one64 := by
    rw [← FP.Core.pow_qmin64]
    show c * _ = c * _ * _
    rw [Nat.mul_assoc, ← Nat.pow_add]; congr 2; omega
  have e2 : 2 ^ (FP.Core.b64.qmin - (2 * FP.Core.b64.qmin - r)).toNat * d = FP.Core.zmag FP.Core.b64 (.fin false d r) := by
    show _ = d * _
    rw [Nat.mul_comm]; congr 2; omega
  have hm : 0 < FP.Core.zmag FP.Core.b64 (.fin false d r) := by rw [← e2]; exact Nat.mul_pos (Nat.two_pow_pos _) hd
  rw [e1, Nat.mul_assoc, e2] at hle hge
  unfold sd_U FP.Core.zval
  rw [FP.Core.sgn_roundRatio]
  show (_ * FP.Core.signed false _ ≤ FP.Core.signed s _ * _ → _) ∧ (FP.Core.signed s _ * _ ≤ _ * FP.Core.signed false _ → _)
  rw [← FP.Core.signed_mul, show FP.Core.signed false (FP.Core.zmag FP.Core.b64 (.fin false d r)) = ((FP.Core.zmag FP.Core.b64 (.fin false d r) : Nat) : Int) from rfl, ← FP.Core.signed_mul]
  have hz : FP.Core.zmag FP.Core.b64 V * FP.Core.zmag FP.Core.b64 (.fin false d r) = 0 → FP.Core.zmag FP.Core.b64 V = 0 := by
    intro h
    rcases Nat.mul_eq_zero.mp h with h | h <;> omega
  generalize FP.Core.zmag FP.Core.b64 V * FP.Core.zmag FP.Core.b64 (.fin false d r) = vP at *
  generalize FP.Core.zmag FP.Core.b64 (.fin s c q) * FP.Core.one64 = w at *
  generalize FP.Core.sgn V = t at *
  constructor
  · intro h
    cases s <;> cases t <;> simp only [FP.Core.signed, if_true, Bool.false_eq_true, if_false] at h ⊢
    · have := hge (by omega); omega
    · omega
    · have := hle (by omega); have := hz (by omega); omega
    · have := hle (by omega); omega
  · intro h
    cases s <;> cases t <;> simp only [FP.Core.signed, if_true, Bool.false_eq_true, if_false] at h ⊢
    · have := hle (by omega); omega
    · have := hle (by omega); have := hz (by omega); omega
    · omega
    · have := hge (by omega); omega
theorem sd_div {a b : UInt64} {lo hi : Int} (fa : FP.Core.DFin a) (fb : FP.Core.DFin b) (hb : 0 < sd_z b) (hl : sd_rep lo) (hh : sd_rep hi) (h1 : lo * sd_z b ≤ sd_z a) (h2 : sd_z a ≤ hi * sd_z b) : FP.Core.DFin (FP.ddiv a b) ∧ lo * sd_U ≤ sd_z (FP.ddiv a b) ∧ sd_z (FP.ddiv a b) ≤ hi * sd_U := by
  obtain ⟨V9, v2, v3⟩ := sd_whole hl
  have v1 := FP.Core.val64_fits V9
  obtain ⟨X9, x2, x3⟩ := sd_whole hh
  have x1 := FP.Core.val64_fits X9
  have fta := FP.Core.val64_fits a
  have ftb := FP.Core.val64_fits b
  obtain ⟨s, c, q, ea⟩ := fa
  obtain ⟨t, d, r, eb⟩ := fb
  unfold sd_z at hb h1 h2
  rw [eb] at hb h1 h2
  rw [ea] at h1 h2
  rw [ea] at fta
  rw [eb] at ftb
  have hU := sd_U_pos
  have ht : t = false ∧ 0 < d := by
    cases t with
    | true =>
      exfalso
      have : FP.Core.zval FP.Core.b64 (.fin true d r) = -((FP.Core.zmag FP.Core.b64 (.fin true d r) : Nat) : Int) := rfl
      omega
    | false =>
      refine ⟨rfl, ?_⟩
      rcases Nat.eq_zero_or_pos d with h | h
      · exfalso
        rw [h] at hb
        have : FP.Core.zval FP.Core.b64 (.fin false 0 r) = ((0 * 2 ^ (r - FP.Core.b64.qmin).toNat : Nat) : Int) := rfl
        rw [this] at hb
        omega
      · exact h
  obtain ⟨rfl, hd⟩ := ht
  have e : FP.Core.val64 (FP.ddiv a b) = FP.Core.roundRatio FP.Core.b64 s c d (q - r) := by
    rw [FP.Core.val64_ddiv, ea, eb]
    show (if d = 0 then _ else FP.Core.roundRatio FP.Core.b64 (s != false) c d (q - r)) = _
    rw [if_neg (by omega), Bool.bne_false]
  have r1 := (sd_ratio fta ftb hd v1 v2).1 (by
    rw [v3, show ∀ x y z : Int, x * y * z = x * z * y from fun x y z => by rw [Int.mul_assoc, Int.mul_comm y z, ← Int.mul_assoc]]
    exact Int.mul_le_mul_of_nonneg_right h1 (by omega))
  have r2 := (sd_ratio fta ftb hd x1 x2).2 (by
    rw [x3, show ∀ x y z : Int, x * y * z = x * z * y from fun x y z => by rw [Int.mul_assoc, Int.mul_comm y z, ← Int.mul_assoc]]
    exact Int.mul_le_mul_of_nonneg_right h2 (by omega))
  rw [← e, v3] at r1
  rw [← e, x3] at r2
  refine ⟨sd_fin ?_ hl hh r1 r2, r1, r2⟩
  rw [e]
  exact FP.Core.roundRatio_ne_nan _ _ _ _ _
/-! the floor -/
/-- a double that is a number, from k to k + 1, k none too great -/
def sy_db (k : Int) (x : UInt64) : Prop := FP.Core.DFin x ∧ (k * sd_U ≤ sd_z x ∧ sd_z x < (k + 1) * sd_U) ∧ (-sd_B ≤ k ∧ k ≤ sd_B)
theorem sd_floor {x : UInt64} {lo hi : Int} (fx : FP.Core.DFin x) (h1 : lo * sd_U ≤ sd_z x) (h2 : sd_z x ≤ hi * sd_U) (hl : -sd_B ≤ lo) (hh : hi ≤ sd_B) : ∃ k : Int, sy_db k x ∧ lo ≤ k ∧ k ≤ hi := by
  have hU := sd_U_pos
  have a1 : lo ≤ sd_z x / sd_U := (Int.le_ediv_iff_mul_le hU).mpr h1
  have a2 : sd_z x / sd_U ≤ hi := by
    have : sd_z x / sd_U < hi + 1 := (Int.ediv_lt_iff_lt_mul hU).mpr (by rw [Int.add_mul]; omega)
    omega
  have a3 : sd_z x / sd_U * sd_U ≤ sd_z x := Int.ediv_mul_le _ (by omega)
  have a4 : sd_z x < (sd_z x / sd_U + 1) * sd_U := Int.lt_ediv_add_one_mul_self _ hU
  exact ⟨sd_z x / sd_U, ⟨fx, ⟨a3, a4⟩, by omega, by omega⟩, a1, a2⟩
theorem sd_num {x : UInt64} {k : Int} (h : sy_db k x) : sd_z x / sd_U = k := by
  have hU := sd_U_pos
  obtain ⟨-, ⟨h1, h2⟩, -⟩ := h
  have a1 : k ≤ sd_z x / sd_U := (Int.le_ediv_iff_mul_le hU).mpr h1
  have a2 : sd_z x / sd_U < k + 1 := (Int.ediv_lt_iff_lt_mul hU).mpr h2
  omega
/-- bits that are a number's -/
theorem sd_n64 {x : UInt64} (h : FP.Core.DFin x) : ri_n64 x = true := by
  have h1 := (FP.Core.fin_bits x).mp h
  unfold ri_n64
  rw [decide_eq_true_iff, UInt64.le_iff_toNat_le]
  have h2 := FP.Core.mask_toNat x
  have h3 : (9218868437227405312 : UInt64).toNat = 9218868437227405312 := rfl
  have h4 : (x &&& 9223372036854775807).toNat = x.toNat % 2 ^ 63 := h2
  rw [h4, h3]; omega
theorem sd_mulr {a b : Int} (h : a ≤ b) : a * sd_U ≤ b * sd_U := Int.mul_le_mul_of_nonneg_right h (Int.le_of_lt sd_U_pos)
/-! rounding to what a double may be -/
def sd_e (s : Nat) : Int := sd_P s - 1
def sd_dn (s : Nat) (k : Int) : Int := k / sd_P s * sd_P s
def sd_up (s : Nat) (k : Int) : Int := -sd_dn s (-k)
theorem sd_e_0 (s : Nat) : 0 ≤ sd_e s := by have := sd_P_pos s; unfold sd_e; omega
theorem sd_dn_le (s : Nat) (k : Int) : sd_dn s k ≤ k ∧ k - sd_e s ≤ sd_dn s k := by
  have h := sd_P_pos s
  have h1 : k / sd_P s * sd_P s ≤ k := Int.ediv_mul_le _ (by omega)
  have h2 : k < (k / sd_P s + 1) * sd_P s := Int.lt_ediv_add_one_mul_self _ h
  rw [Int.add_mul, Int.one_mul] at h2
  unfold sd_dn sd_e
  omega
theorem sd_up_le (s : Nat) (k : Int) : k ≤ sd_up s k ∧ sd_up s k ≤ k + sd_e s := by
  have h := sd_dn_le s (-k)
  unfold sd_up
  omega
theorem sd_dn_rep {s : Nat} {k : Int} (hs : s ≤ 900) (h1 : -(4503599627370496 * sd_P s) ≤ k) (h2 : k ≤ 4503599627370496 * sd_P s) : sd_rep (sd_dn s k) := by
  have h := sd_P_pos s
  have a1 : -4503599627370496 ≤ k / sd_P s := (Int.le_ediv_iff_mul_le h).mpr (by rw [Int.neg_mul]; exact h1)
  have a2 : k / sd_P s < 4503599627370497 := (Int.ediv_lt_iff_lt_mul h).mpr (by omega)
  exact ⟨k / sd_P s, s, rfl, by omega, hs⟩
theorem sd_neg_rep {k : Int} (h : sd_rep k) : sd_rep (-k) := by
  obtain ⟨m, s, rfl, h1, h2⟩ := h
  exact ⟨-m, s, (Int.neg_mul _ _).symm, by omega, h2⟩
theorem sd_up_rep {s : Nat} {k : Int} (hs : s ≤ 900) (h1 : -(4503599627370496 * sd_P s) ≤ k) (h2 : k ≤ 4503599627370496 * sd_P s) : sd_rep (sd_up s k) := sd_neg_rep (sd_dn_rep hs (by omega) (by omega))
theorem sd_l2d {n : Int64} {lo hi : Int} (hl : sd_rep lo) (hh : sd_rep hi) (h1 : lo ≤ n.toInt) (h2 : n.toInt ≤ hi) : FP.Core.DFin (FP.l2d n) ∧ lo * sd_U ≤ sd_z (FP.l2d n) ∧ sd_z (FP.l2d n) ≤ hi * sd_U := by
  obtain ⟨V9, v2, v3⟩ := sd_whole hl
  obtain ⟨X9, x2, x3⟩ := sd_whole hh
  have r1 := FP.Core.l2d_zval_ge (n := n) v2 (by rw [v3]; exact sd_mulr h1)
  have r2 := FP.Core.l2d_zval_le (n := n) x2 (by rw [x3]; exact sd_mulr h2)
  rw [v3] at r1
  rw [x3] at r2
  exact ⟨FP.Core.l2d_fin n, r1, r2⟩
