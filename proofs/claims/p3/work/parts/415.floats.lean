/-! ===== the surveyor, doubles: between which whole numbers a double lies ===== -/
/-- one, in units of the least double -/
noncomputable def sd_U : Int := (FP.Core.one64 : Int)
/-- a double, in units of the least -/
noncomputable def sd_z (x : UInt64) : Int := FP.Core.zval FP.Core.b64 (FP.Core.val64 x)
theorem sd_U_pos : 0 < sd_U := Int.natCast_pos.mpr FP.Core.one64_pos
theorem sd_whole {k : Int} (h : k.natAbs ≤ 9007199254740992) : ∃ V : FP.Core.Datum, FP.Core.fits FP.Core.b64 V ∧ V ≠ .nan ∧ FP.Core.zval FP.Core.b64 V = k * sd_U := by
  have e : (Int64.ofInt k).toInt = k := Int64.toInt_ofInt_of_le (by omega) (by omega)
  have h1 := FP.Core.l2d_int (a := Int64.ofInt k) (by rw [e]; exact h)
  rw [e] at h1
  exact ⟨_, FP.Core.val64_fits _, FP.Core.DInt_ne_nan h1, FP.Core.DInt_zval h1⟩
theorem sd_top : 9007199254740992 * FP.Core.one64 < FP.Core.b64.tails * 2 ^ (FP.Core.b64.exps - 2) := by decide +kernel
theorem sd_fin {x : UInt64} {lo hi : Int} (hn : FP.Core.val64 x ≠ .nan) (hl : lo.natAbs ≤ 9007199254740992) (hh : hi.natAbs ≤ 9007199254740992) (h1 : lo * sd_U ≤ sd_z x) (h2 : sd_z x ≤ hi * sd_U) : FP.Core.DFin x := by
  have ht := sd_top
  have hU := sd_U_pos
  have a1 : -(9007199254740992 * sd_U) ≤ lo * sd_U := by
    rw [← Int.neg_mul]; exact Int.mul_le_mul_of_nonneg_right (by omega) (by omega)
  have a2 : hi * sd_U ≤ 9007199254740992 * sd_U := Int.mul_le_mul_of_nonneg_right (by omega) (by omega)
  have b1 := Int.le_trans a1 h1
  have b2 := Int.le_trans h2 a2
  unfold sd_z at b1 b2
  unfold sd_U at b1 b2
  unfold FP.Core.DFin
  cases hv : FP.Core.val64 x with
  | nan => exact absurd hv hn
  | fin s c q => exact ⟨s, c, q, rfl⟩
  | inf s =>
    exfalso
    rw [hv] at b1 b2
    unfold FP.Core.zval at b1 b2
    change -(9007199254740992 * (FP.Core.one64 : Int)) ≤ FP.Core.signed s (FP.Core.b64.tails * 2 ^ (FP.Core.b64.exps - 2)) at b1
    change FP.Core.signed s (FP.Core.b64.tails * 2 ^ (FP.Core.b64.exps - 2)) ≤ (9007199254740992 * (FP.Core.one64 : Int)) at b2
    generalize FP.Core.b64.tails * 2 ^ (FP.Core.b64.exps - 2) = t at *
    generalize FP.Core.one64 = u at *
    cases s
    · simp only [FP.Core.signed, Bool.false_eq_true, if_false] at b2; omega
    · simp only [FP.Core.signed, if_true] at b1; omega
theorem sd_add {a b : UInt64} {lo hi : Int} (fa : FP.Core.DFin a) (fb : FP.Core.DFin b) (hl : lo.natAbs ≤ 9007199254740992) (hh : hi.natAbs ≤ 9007199254740992) (h1 : lo * sd_U ≤ sd_z a + sd_z b) (h2 : sd_z a + sd_z b ≤ hi * sd_U) : FP.Core.DFin (FP.dadd a b) ∧ lo * sd_U ≤ sd_z (FP.dadd a b) ∧ sd_z (FP.dadd a b) ≤ hi * sd_U := by
  obtain ⟨V, v1, v2, v3⟩ := sd_whole hl
  obtain ⟨X, x1, x2, x3⟩ := sd_whole hh
  have r1 := FP.Core.sum_ge FP.Core.good_b64 fa fb (FP.Core.val64_fits a) (FP.Core.val64_fits b) v1 v2 (by rw [v3]; exact h1)
  have r2 := FP.Core.sum_le FP.Core.good_b64 fa fb (FP.Core.val64_fits a) (FP.Core.val64_fits b) x1 x2 (by rw [x3]; exact h2)
  rw [← FP.Core.val64_dadd, v3] at r1
  rw [← FP.Core.val64_dadd, x3] at r2
  refine ⟨sd_fin ?_ hl hh r1 r2, r1, r2⟩
  rw [FP.Core.val64_dadd]
  obtain ⟨s, c, q, ea⟩ := fa
  obtain ⟨t, d, r, eb⟩ := fb
  rw [ea, eb]
  exact FP.Core.roundRatio_ne_nan _ _ _ _ _
theorem sd_neg (a : UInt64) : sd_z (FP.dneg a) = -sd_z a := by unfold sd_z; rw [FP.val64_dneg, FP.Core.zval_negate]
theorem sd_neg_fin {a : UInt64} (h : FP.Core.DFin a) : FP.Core.DFin (FP.dneg a) := by
  obtain ⟨s, c, q, e⟩ := h
  exact ⟨!s, c, q, by rw [FP.val64_dneg, e]; rfl⟩
theorem sd_sub {a b : UInt64} {lo hi : Int} (fa : FP.Core.DFin a) (fb : FP.Core.DFin b) (hl : lo.natAbs ≤ 9007199254740992) (hh : hi.natAbs ≤ 9007199254740992) (h1 : lo * sd_U ≤ sd_z a - sd_z b) (h2 : sd_z a - sd_z b ≤ hi * sd_U) : FP.Core.DFin (FP.dsub a b) ∧ lo * sd_U ≤ sd_z (FP.dsub a b) ∧ sd_z (FP.dsub a b) ≤ hi * sd_U := by
  have e : FP.Core.val64 (FP.dsub a b) = FP.Core.val64 (FP.dadd a (FP.dneg b)) := by
    rw [FP.Core.val64_dsub, FP.Core.val64_dadd, FP.val64_dneg]
  have ez : sd_z (FP.dsub a b) = sd_z (FP.dadd a (FP.dneg b)) := by unfold sd_z; rw [e]
  obtain ⟨⟨s, c, q, r1⟩, r2, r3⟩ := sd_add fa (sd_neg_fin fb) hl hh (by rw [sd_neg]; omega) (by rw [sd_neg]; omega)
  exact ⟨⟨s, c, q, by rw [e]; exact r1⟩, by rw [ez]; exact r2, by rw [ez]; exact r3⟩
theorem sd_signed (s t : Bool) (m n : Nat) : FP.Core.signed (s != t) (m * n) = FP.Core.signed s m * FP.Core.signed t n := by
  cases s <;> cases t <;> simp [FP.Core.signed, Int.neg_mul, Int.mul_neg]
theorem sd_mul {a b : UInt64} {lo hi : Int} (fa : FP.Core.DFin a) (fb : FP.Core.DFin b) (hl : lo.natAbs ≤ 9007199254740992) (hh : hi.natAbs ≤ 9007199254740992) (h1 : lo * sd_U * sd_U ≤ sd_z a * sd_z b) (h2 : sd_z a * sd_z b ≤ hi * sd_U * sd_U) : FP.Core.DFin (FP.dmul a b) ∧ lo * sd_U ≤ sd_z (FP.dmul a b) ∧ sd_z (FP.dmul a b) ≤ hi * sd_U := by
  obtain ⟨V, v1, v2, v3⟩ := sd_whole hl
  obtain ⟨X, x1, x2, x3⟩ := sd_whole hh
  have fta := FP.Core.val64_fits a
  have ftb := FP.Core.val64_fits b
  obtain ⟨s, c, q, ea⟩ := fa
  obtain ⟨t, d, r, eb⟩ := fb
  rw [ea] at fta
  rw [eb] at ftb
  obtain ⟨p1, p2, p3⟩ := FP.Core.product_units fta ftb
  have hz : sd_z a * sd_z b = FP.Core.signed (s != t) (FP.Core.inUnits (c * d) (q + r) (2 * FP.Core.b64.qmin)) := by
    rw [p3, sd_signed]
    unfold sd_z
    rw [ea, eb]
    rfl
  have hq : FP.Core.b64.qmin < 0 := FP.Core.qmin_neg FP.Core.good_b64
  have hp : ((2 ^ (FP.Core.b64.qmin - 2 * FP.Core.b64.qmin).toNat : Nat) : Int) = sd_U := by
    rw [show (FP.Core.b64.qmin - 2 * FP.Core.b64.qmin).toNat = (-FP.Core.b64.qmin).toNat by omega, FP.Core.pow_qmin64]; rfl
  have e : FP.Core.val64 (FP.dmul a b) = FP.Core.round FP.Core.b64 (.fin (s != t) (c * d) (q + r)) := by rw [FP.Core.val64_dmul, ea, eb, p1]
  have r1 := FP.Core.zval_round_ge FP.Core.good_b64 (s := s != t) (c := c * d) (q := q + r) v1 v2 (e0 := 2 * FP.Core.b64.qmin) (by omega) p2 (by rw [hp, v3, ← hz]; exact h1)
  have r2 := FP.Core.zval_round_le FP.Core.good_b64 (s := s != t) (c := c * d) (q := q + r) x1 x2 (e0 := 2 * FP.Core.b64.qmin) (by omega) p2 (by rw [hp, x3, ← hz]; exact h2)
  rw [← e, v3] at r1
  rw [← e, x3] at r2
  refine ⟨sd_fin ?_ hl hh r1 r2, r1, r2⟩
  rw [e]
  exact FP.Core.roundRatio_ne_nan _ _ _ _ _
/-- the rounding of a ratio, with the sign of a positive divisor's dividend -/
theorem sd_ratio {s : Bool} {c d : Nat} {q r : Int} {V : FP.Core.Datum} (hx : FP.Core.fits FP.Core.b64 (.fin s c q)) (hy : FP.Core.fits FP.Core.b64 (.fin false d r)) (hd : 0 < d) (hV : FP.Core.fits FP.Core.b64 V) (hn : V ≠ .nan) :
    (FP.Core.zval FP.Core.b64 V * FP.Core.zval FP.Core.b64 (.fin false d r) ≤ FP.Core.zval FP.Core.b64 (.fin s c q) * sd_U → FP.Core.zval FP.Core.b64 V ≤ FP.Core.zval FP.Core.b64 (FP.Core.roundRatio FP.Core.b64 s c d (q - r))) ∧
    (FP.Core.zval FP.Core.b64 (.fin s c q) * sd_U ≤ FP.Core.zval FP.Core.b64 V * FP.Core.zval FP.Core.b64 (.fin false d r) → FP.Core.zval FP.Core.b64 (FP.Core.roundRatio FP.Core.b64 s c d (q - r)) ≤ FP.Core.zval FP.Core.b64 V) := by
  have hq : FP.Core.b64.qmin < 0 := FP.Core.qmin_neg FP.Core.good_b64
  have hx1 : FP.Core.b64.qmin ≤ q := hx.2.1
  have hy1 : FP.Core.b64.qmin ≤ r := hy.2.1
  have hle := FP.Core.zmag_roundRatio_le FP.Core.good_b64 (s := s) (A := c) (B := d) (e := q - r) (e0 := 2 * FP.Core.b64.qmin - r) hd hV hn (by omega) (by omega)
  have hge := FP.Core.zmag_roundRatio_ge FP.Core.good_b64 (s := s) (A := c) (B := d) (e := q - r) (e0 := 2 * FP.Core.b64.qmin - r) hd hV (by omega) (by omega)
  have e1 : FP.Core.inUnits c (q - r) (2 * FP.Core.b64.qmin - r) = FP.Core.zmag FP.Core.b64 (.fin s c q) * FP.Core.one64 := by
    rw [← FP.Core.pow_qmin64]
    show c * _ = c * _ * _
    rw [Nat.mul_assoc, ← Nat.pow_add]; congr 2; omega
  have e2 : 2 ^ (FP.Core.b64.qmin - (2 * FP.Core.b64.qmin - r)).toNat * d = FP.Core.zmag FP.Core.b64 (.fin false d r) := by
    show _ = d * _
    rw [Nat.mul_comm]; congr 2; omega
  have hm : 0 < FP.Core.zmag FP.Core.b64 (.fin false d r) := by rw [← e2]; exact Nat.mul_pos (Nat.two_pow_pos _) hd
  rw [e1, Nat.mul_assoc, e2] at hle hge
  unfold sd_U FP.Core.zval
  rw [FP.Core.sgn_roundRatio]
  show (_ * FP.Core.signed false _ ≤ FP.Core.signed s _ * _ → _) ∧ (FP.Core.signed s _ * _ ≤ _ * FP.Core.signed false _ → _)
  rw [← FP.Core.signed_mul, show FP.Core.signed false (FP.Core.zmag FP.Core.b64 (.fin false d r)) = ((FP.Core.zmag FP.Core.b64 (.fin false d r) : Nat) : Int) from rfl, ← FP.Core.signed_mul]
  have hz : FP.Core.zmag FP.Core.b64 V * FP.Core.zmag FP.Core.b64 (.fin false d r) = 0 → FP.Core.zmag FP.Core.b64 V = 0 := by
    intro h
    rcases Nat.mul_eq_zero.mp h with h | h <;> omega
  generalize FP.Core.zmag FP.Core.b64 V * FP.Core.zmag FP.Core.b64 (.fin false d r) = vP at *
  generalize FP.Core.zmag FP.Core.b64 (.fin s c q) * FP.Core.one64 = w at *
  generalize FP.Core.sgn V = t at *
  constructor
  · intro h
    cases s <;> cases t <;> simp only [FP.Core.signed, if_true, Bool.false_eq_true, if_false] at h ⊢
    · have := hge (by omega); omega
    · omega
    · have := hle (by omega); have := hz (by omega); omega
    · have := hle (by omega); omega
  · intro h
    cases s <;> cases t <;> simp only [FP.Core.signed, if_true, Bool.false_eq_true, if_false] at h ⊢
    · have := hle (by omega); omega
    · have := hle (by omega); have := hz (by omega); omega
    · omega
    · have := hge (by omega); omega
theorem sd_div {a b : UInt64} {lo hi : Int} (fa : FP.Core.DFin a) (fb : FP.Core.DFin b) (hb : 0 < sd_z b) (hl : lo.natAbs ≤ 9007199254740992) (hh : hi.natAbs ≤ 9007199254740992) (h1 : lo * sd_z b ≤ sd_z a) (h2 : sd_z a ≤ hi * sd_z b) : FP.Core.DFin (FP.ddiv a b) ∧ lo * sd_U ≤ sd_z (FP.ddiv a b) ∧ sd_z (FP.ddiv a b) ≤ hi * sd_U := by
  obtain ⟨V, v1, v2, v3⟩ := sd_whole hl
  obtain ⟨X, x1, x2, x3⟩ := sd_whole hh
  have fta := FP.Core.val64_fits a
  have ftb := FP.Core.val64_fits b
  obtain ⟨s, c, q, ea⟩ := fa
  obtain ⟨t, d, r, eb⟩ := fb
  unfold sd_z at hb h1 h2
  rw [eb] at hb h1 h2
  rw [ea] at h1 h2
  rw [ea] at fta
  rw [eb] at ftb
  have hU := sd_U_pos
  have ht : t = false ∧ 0 < d := by
    cases t with
    | true =>
      exfalso
      have : FP.Core.zval FP.Core.b64 (.fin true d r) = -((FP.Core.zmag FP.Core.b64 (.fin true d r) : Nat) : Int) := rfl
      omega
    | false =>
      refine ⟨rfl, ?_⟩
      rcases Nat.eq_zero_or_pos d with h | h
      · exfalso
        rw [h] at hb
        have : FP.Core.zval FP.Core.b64 (.fin false 0 r) = ((0 * 2 ^ (r - FP.Core.b64.qmin).toNat : Nat) : Int) := rfl
        rw [this] at hb
        omega
      · exact h
  obtain ⟨rfl, hd⟩ := ht
  have e : FP.Core.val64 (FP.ddiv a b) = FP.Core.roundRatio FP.Core.b64 s c d (q - r) := by
    rw [FP.Core.val64_ddiv, ea, eb]
    show (if d = 0 then _ else FP.Core.roundRatio FP.Core.b64 (s != false) c d (q - r)) = _
    rw [if_neg (by omega), Bool.bne_false]
  have r1 := (sd_ratio fta ftb hd v1 v2).1 (by
    rw [v3, show ∀ x y z : Int, x * y * z = x * z * y from fun x y z => by rw [Int.mul_assoc, Int.mul_comm y z, ← Int.mul_assoc]]
    exact Int.mul_le_mul_of_nonneg_right h1 (by omega))
  have r2 := (sd_ratio fta ftb hd x1 x2).2 (by
    rw [x3, show ∀ x y z : Int, x * y * z = x * z * y from fun x y z => by rw [Int.mul_assoc, Int.mul_comm y z, ← Int.mul_assoc]]
    exact Int.mul_le_mul_of_nonneg_right h2 (by omega))
  rw [← e, v3] at r1
  rw [← e, x3] at r2
  refine ⟨sd_fin ?_ hl hh r1 r2, r1, r2⟩
  rw [e]
  exact FP.Core.roundRatio_ne_nan _ _ _ _ _
/-! the floor -/
/-- a double that is a number, from k to k + 1, k none too great -/
def sy_db (k : Int) (x : UInt64) : Prop := FP.Core.DFin x ∧ (k * sd_U ≤ sd_z x ∧ sd_z x < (k + 1) * sd_U) ∧ (-9007199254740992 ≤ k ∧ k ≤ 9007199254740992)
theorem sd_floor {x : UInt64} {lo hi : Int} (fx : FP.Core.DFin x) (h1 : lo * sd_U ≤ sd_z x) (h2 : sd_z x ≤ hi * sd_U) (hl : -9007199254740992 ≤ lo) (hh : hi ≤ 9007199254740992) : ∃ k : Int, sy_db k x ∧ lo ≤ k ∧ k ≤ hi := by
  have hU := sd_U_pos
  have a1 : lo ≤ sd_z x / sd_U := (Int.le_ediv_iff_mul_le hU).mpr h1
  have a2 : sd_z x / sd_U ≤ hi := by
    have : sd_z x / sd_U < hi + 1 := (Int.ediv_lt_iff_lt_mul hU).mpr (by rw [Int.add_mul]; omega)
    omega
  have a3 : sd_z x / sd_U * sd_U ≤ sd_z x := Int.ediv_mul_le _ (by omega)
  have a4 : sd_z x < (sd_z x / sd_U + 1) * sd_U := Int.lt_ediv_add_one_mul_self _ hU
  exact ⟨sd_z x / sd_U, ⟨fx, ⟨a3, a4⟩, by omega, by omega⟩, a1, a2⟩
theorem sd_num {x : UInt64} {k : Int} (h : sy_db k x) : sd_z x / sd_U = k := by
  have hU := sd_U_pos
  obtain ⟨-, ⟨h1, h2⟩, -⟩ := h
  have a1 : k ≤ sd_z x / sd_U := (Int.le_ediv_iff_mul_le hU).mpr h1
  have a2 : sd_z x / sd_U < k + 1 := (Int.ediv_lt_iff_lt_mul hU).mpr h2
  omega
/-- bits that are a number's -/
theorem sd_n64 {x : UInt64} (h : FP.Core.DFin x) : ri_n64 x = true := by
  have h1 := (FP.Core.fin_bits x).mp h
  unfold ri_n64
  rw [decide_eq_true_iff, UInt64.le_iff_toNat_le]
  have h2 := FP.Core.mask_toNat x
  have h3 : (9218868437227405312 : UInt64).toNat = 9218868437227405312 := rfl
  have h4 : (x &&& 9223372036854775807).toNat = x.toNat % 2 ^ 63 := h2
  rw [h4, h3]; omega
theorem sd_mulr {a b : Int} (h : a ≤ b) : a * sd_U ≤ b * sd_U := Int.mul_le_mul_of_nonneg_right h (Int.le_of_lt sd_U_pos)
