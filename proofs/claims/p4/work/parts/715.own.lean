/-! ===== whose the cells are ===== -/
noncomputable def sz_own (s : Bool) (q : Nat) : Bool := bif s then Nat.blt q 244 || Nat.beq q 265 else Nat.ble 244 q && Nat.blt q 265
theorem sz_hdj (s : Bool) (q : Nat) (h : sz_own s q = true) : sz_own (!s) q = false := by
  have key : sz_own true q = true → sz_own false q = true → False := by
    unfold sz_own
    simp only [cond_true, cond_false, Bool.or_eq_true, Bool.and_eq_true]
    intro h1 h2
    have a := Nat.le_of_ble_eq_true h2.1
    have b := Nat.le_of_ble_eq_true h2.2
    rcases h1 with c | c
    · have := Nat.le_of_ble_eq_true c
      omega
    · have := Nat.eq_of_beq_eq_true c
      omega
  cases s with
  | true => cases hq : sz_own false q with
    | true => exact (key h hq).elim
    | false => exact hq
  | false => cases hq : sz_own true q with
    | true => exact (key hq h).elim
    | false => exact hq
theorem sz_hT (n : Nat) (h : 1000000 ≤ n) : ri_nth ri_tyL0 n = none := by
  rw [ri_nth_eq]
  exact List.getElem?_eq_none (Nat.le_trans (show ri_tyL0.length ≤ 1000000 by decide +kernel) h)
