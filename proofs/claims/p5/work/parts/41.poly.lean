/-! ===== the surveyor, part 1: unknown whole numbers, polynomials in them, refutations ===== -/
/-- element number i of a list, counted from its end (a list that grows at its head keeps its numbers) -/
noncomputable def sy_at {α : Type} (l : List α) (i : Nat) : Option α := @Bool.rec (fun _ => Option α) none (ri_nth l (l.length - 1 - i)) (Nat.blt i l.length)
theorem sy_at_eq {α : Type} (l : List α) (i : Nat) : sy_at l i = if i < l.length then l[l.length - 1 - i]? else none := by
  unfold sy_at
  cases h : Nat.blt i l.length with
  | true =>
    have q : i < l.length := Nat.le_of_ble_eq_true h
    rw [if_pos q]
    exact ri_nth_eq _ _
  | false =>
    rw [if_neg (fun q => by rw [show Nat.blt i l.length = true from Nat.ble_eq_true_of_le q] at h; cases h)]
theorem sy_at_lt {α : Type} {l : List α} {i : Nat} {x : α} (h : sy_at l i = some x) : i < l.length := by
  rw [sy_at_eq] at h
  by_cases q : i < l.length
  · exact q
  · rw [if_neg q] at h; cases h
theorem sy_at_cons {α : Type} {l : List α} {i : Nat} {x y : α} (h : sy_at l i = some x) : sy_at (y :: l) i = some x := by
  have q := sy_at_lt h
  rw [sy_at_eq, if_pos q] at h
  rw [sy_at_eq, if_pos (by rw [List.length_cons]; omega)]
  have e : (y :: l).length - 1 - i = (l.length - 1 - i) + 1 := by rw [List.length_cons]; omega
  rw [e, List.getElem?_cons_succ, h]
theorem sy_at_new {α : Type} (l : List α) (y : α) : sy_at (y :: l) l.length = some y := by
  rw [sy_at_eq, if_pos (by rw [List.length_cons]; omega)]
  have e : (y :: l).length - 1 - l.length = 0 := by rw [List.length_cons]; omega
  rw [e]; rfl
theorem sy_at_some {α : Type} {l : List α} {i : Nat} (h : i < l.length) : ∃ x, sy_at l i = some x := by
  rw [sy_at_eq, if_pos h]
  exact ⟨l[l.length - 1 - i]'(by omega), List.getElem?_eq_getElem (by omega)⟩
theorem sy_at_app {α : Type} {l : List α} {i : Nat} {x : α} (h : sy_at l i = some x) : ∀ m : List α, sy_at (m ++ l) i = some x
  | [] => h
  | y :: m => sy_at_cons (sy_at_app h m)
/-- what an unknown is, 0 for those that aren't there -/
noncomputable def sy_tot (ρ : List Int) (i : Nat) : Int := (sy_at ρ i).getD 0
theorem sy_tot_app {ρ : List Int} {i : Nat} (h : i < ρ.length) (m : List Int) : sy_tot (m ++ ρ) i = sy_tot ρ i := by
  obtain ⟨x, hx⟩ := sy_at_some h
  unfold sy_tot
  rw [sy_at_app hx m, hx]
/-! polynomials: lists of a coefficient and the numbers of its unknowns -/
abbrev sy_P : Type := List (Int × List Nat)
def sy_em (f : Nat → Int) : List Nat → Int
  | [] => 1
  | i :: t => f i * sy_em f t
def sy_ep (f : Nat → Int) : sy_P → Int
  | [] => 0
  | c :: t => c.1 * sy_em f c.2 + sy_ep f t
noncomputable def sy_dm (n : Nat) (m : List Nat) : Bool := List.rec true (fun i _ ih => Nat.blt i n && ih) m
noncomputable def sy_dom (n : Nat) (p : sy_P) : Bool := List.rec true (fun c _ ih => sy_dm n c.2 && ih) p
theorem sy_dm_app {ρ m : List Int} : ∀ {t : List Nat}, sy_dm ρ.length t = true → sy_em (sy_tot (m ++ ρ)) t = sy_em (sy_tot ρ) t
  | [], _ => rfl
  | i :: t, h => by
    have h2 : (Nat.blt i ρ.length && sy_dm ρ.length t) = true := h
    rw [Bool.and_eq_true] at h2
    show sy_tot (m ++ ρ) i * sy_em _ t = sy_tot ρ i * sy_em _ t
    have q : i < ρ.length := Nat.le_of_ble_eq_true h2.1
    rw [sy_tot_app q, sy_dm_app h2.2]
theorem sy_dom_app {ρ m : List Int} : ∀ {p : sy_P}, sy_dom ρ.length p = true → sy_ep (sy_tot (m ++ ρ)) p = sy_ep (sy_tot ρ) p
  | [], _ => rfl
  | c :: t, h => by
    have h2 : (sy_dm ρ.length c.2 && sy_dom ρ.length t) = true := h
    rw [Bool.and_eq_true] at h2
    show c.1 * sy_em (sy_tot (m ++ ρ)) c.2 + sy_ep _ t = c.1 * sy_em (sy_tot ρ) c.2 + sy_ep _ t
    rw [sy_dm_app h2.1, sy_dom_app h2.2]
theorem sy_dm_more {n k : Nat} (hk : n ≤ k) : ∀ {t : List Nat}, sy_dm n t = true → sy_dm k t = true
  | [], _ => rfl
  | i :: t, h => by
    have h2 : (Nat.blt i n && sy_dm n t) = true := h
    rw [Bool.and_eq_true] at h2
    show (Nat.blt i k && sy_dm k t) = true
    rw [Bool.and_eq_true]
    exact ⟨Nat.ble_eq_true_of_le (Nat.le_trans (Nat.le_of_ble_eq_true h2.1) hk), sy_dm_more hk h2.2⟩
theorem sy_dom_more {n k : Nat} (hk : n ≤ k) : ∀ {p : sy_P}, sy_dom n p = true → sy_dom k p = true
  | [], _ => rfl
  | c :: t, h => by
    have h2 : (sy_dm n c.2 && sy_dom n t) = true := h
    rw [Bool.and_eq_true] at h2
    show (sy_dm k c.2 && sy_dom k t) = true
    rw [Bool.and_eq_true]
    exact ⟨sy_dm_more hk h2.1, sy_dom_more hk h2.2⟩
/-! sums and products -/
noncomputable def sy_leq (a : List Nat) : List Nat → Bool := List.rec (fun b => List.rec true (fun _ _ _ => false) b) (fun i _ ih b => List.rec false (fun j u _ => Nat.beq i j && ih u) b) a
theorem sy_leq_eq : ∀ {a b : List Nat}, sy_leq a b = true → a = b
  | [], [], _ => rfl
  | [], _ :: _, h => by cases h
  | _ :: _, [], h => by cases h
  | i :: t, j :: u, h => by
    have h2 : (Nat.beq i j && sy_leq t u) = true := h
    rw [Bool.and_eq_true] at h2
    rw [Nat.eq_of_beq_eq_true h2.1, sy_leq_eq h2.2]
/-- a number laid into a row of numbers, in its place -/
noncomputable def sy_in (i : Nat) (m : List Nat) : List Nat := List.rec [i] (fun j t ih => @Bool.rec (fun _ => List Nat) (j :: ih) (i :: j :: t) (Nat.ble i j)) m
theorem sy_in_eq (f : Nat → Int) (i : Nat) : ∀ m : List Nat, sy_em f (sy_in i m) = f i * sy_em f m
  | [] => rfl
  | j :: t => by
    have e : sy_in i (j :: t) = @Bool.rec (fun _ => List Nat) (j :: sy_in i t) (i :: j :: t) (Nat.ble i j) := rfl
    rw [e]
    cases Nat.ble i j with
    | true => rfl
    | false =>
      show f j * sy_em f (sy_in i t) = f i * (f j * sy_em f t)
      rw [sy_in_eq f i t, Int.mul_left_comm]
noncomputable def sy_mm (a b : List Nat) : List Nat := List.rec b (fun i _ ih => sy_in i ih) a
theorem sy_mm_eq (f : Nat → Int) : ∀ a b : List Nat, sy_em f (sy_mm a b) = sy_em f a * sy_em f b
  | [], b => (Int.one_mul _).symm
  | i :: t, b => by
    show sy_em f (sy_in i (sy_mm t b)) = f i * sy_em f t * sy_em f b
    rw [sy_in_eq, sy_mm_eq f t b, Int.mul_assoc]
/-- a term added to a polynomial -/
noncomputable def sy_ad1 (c : Int) (m : List Nat) (p : sy_P) : sy_P := List.rec [(c, m)] (fun d t ih => @Bool.rec (fun _ => sy_P) (d :: ih) ((c + d.1, m) :: t) (sy_leq m d.2)) p
theorem sy_ad1_eq (f : Nat → Int) (c : Int) (m : List Nat) : ∀ p : sy_P, sy_ep f (sy_ad1 c m p) = c * sy_em f m + sy_ep f p
  | [] => rfl
  | d :: t => by
    have e : sy_ad1 c m (d :: t) = @Bool.rec (fun _ => sy_P) (d :: sy_ad1 c m t) ((c + d.1, m) :: t) (sy_leq m d.2) := rfl
    rw [e]
    cases h : sy_leq m d.2 with
    | true =>
      show (c + d.1) * sy_em f m + sy_ep f t = c * sy_em f m + (d.1 * sy_em f d.2 + sy_ep f t)
      rw [← sy_leq_eq h, Int.add_mul]
      omega
    | false =>
      show d.1 * sy_em f d.2 + sy_ep f (sy_ad1 c m t) = c * sy_em f m + (d.1 * sy_em f d.2 + sy_ep f t)
      rw [sy_ad1_eq f c m t]
      omega
/-- k times a term times p, added to q -/
noncomputable def sy_adk (k : Int) (m : List Nat) (p q : sy_P) : sy_P := List.rec q (fun d _ ih => sy_ad1 (k * d.1) (sy_mm m d.2) ih) p
theorem sy_adk_eq (f : Nat → Int) (k : Int) (m : List Nat) : ∀ p q : sy_P, sy_ep f (sy_adk k m p q) = k * sy_em f m * sy_ep f p + sy_ep f q
  | [], q => by
    show sy_ep f q = k * sy_em f m * 0 + sy_ep f q
    rw [Int.mul_zero, Int.zero_add]
  | d :: t, q => by
    show sy_ep f (sy_ad1 (k * d.1) (sy_mm m d.2) (sy_adk k m t q)) = k * sy_em f m * (d.1 * sy_em f d.2 + sy_ep f t) + sy_ep f q
    rw [sy_ad1_eq, sy_mm_eq, sy_adk_eq f k m t q, Int.mul_add]
    have e : k * d.1 * (sy_em f m * sy_em f d.2) = k * sy_em f m * (d.1 * sy_em f d.2) := by
      rw [Int.mul_assoc, Int.mul_assoc, Int.mul_left_comm d.1]
    rw [e]
    omega
noncomputable def sy_mul (p q : sy_P) : sy_P := List.rec [] (fun d _ ih => sy_adk d.1 d.2 q ih) p
theorem sy_mul_eq (f : Nat → Int) : ∀ p q : sy_P, sy_ep f (sy_mul p q) = sy_ep f p * sy_ep f q
  | [], q => (Int.zero_mul _).symm
  | d :: t, q => by
    show sy_ep f (sy_adk d.1 d.2 q (sy_mul t q)) = (d.1 * sy_em f d.2 + sy_ep f t) * sy_ep f q
    rw [sy_adk_eq, sy_mul_eq f t q, Int.add_mul]
/-! refutations: numbers that are at least 0, multiplied and added up, make one below 0 -/
/-- below 0, whatever the unknowns are -/
noncomputable def sy_neg (p : sy_P) : Int → Bool := List.rec (fun a => decide (a < 0)) (fun d _ ih a => @List.rec Nat (fun _ => Bool) (ih (a + d.1)) (fun _ _ _ => decide (d.1 = 0) && ih a) d.2) p
theorem sy_neg_eq (f : Nat → Int) : ∀ (p : sy_P) (a : Int), sy_neg p a = true → a + sy_ep f p < 0
  | [], a, h => by
    have h2 : a < 0 := of_decide_eq_true h
    show a + 0 < 0
    omega
  | (c, []) :: t, a, h => by
    have h2 := sy_neg_eq f t (a + c) h
    show a + (c * 1 + sy_ep f t) < 0
    omega
  | (c, i :: m) :: t, a, h => by
    have h1 : (decide (c = 0) && sy_neg t a) = true := h
    rw [Bool.and_eq_true] at h1
    have h2 := sy_neg_eq f t a h1.2
    have h3 : c = 0 := of_decide_eq_true h1.1
    show a + (c * sy_em f (i :: m) + sy_ep f t) < 0
    rw [h3, Int.zero_mul]
    omega
/-- product of facts by their numbers -/
noncomputable def sy_prod (F : List sy_P) (l : List Nat) : Option sy_P := List.rec (some [(1, [])]) (fun i _ ih => match ri_nth F i with
  | some p => (match ih with
    | some q => some (sy_mul p q)
    | none => none)
  | none => none) l
theorem sy_prod_eq {f : Nat → Int} {F : List sy_P} (hF : ∀ p ∈ F, 0 ≤ sy_ep f p) : ∀ {l : List Nat} {p : sy_P}, sy_prod F l = some p → 0 ≤ sy_ep f p
  | [], p, h => by
    cases h
    show (0 : Int) ≤ 1 * 1 + 0
    decide
  | i :: l, p, h => by
    have h2 : (match ri_nth F i with
      | some p => (match sy_prod F l with
        | some q => some (sy_mul p q)
        | none => none)
      | none => none) = some p := h
    split at h2
    · rename_i a ha
      split at h2
      · rename_i b hb
        cases h2
        rw [sy_mul_eq]
        rw [ri_nth_eq] at ha
        exact Int.mul_nonneg (hF a (List.mem_of_getElem? ha)) (sy_prod_eq hF hb)
      · cases h2
    · cases h2
noncomputable def sy_comb (F : List sy_P) (c : List (Nat × List Nat)) : Option sy_P := List.rec (some []) (fun k _ ih => match sy_prod F k.2 with
  | some p => (match ih with
    | some q => some (sy_adk (Int.ofNat k.1) [] p q)
    | none => none)
  | none => none) c
theorem sy_comb_eq {f : Nat → Int} {F : List sy_P} (hF : ∀ p ∈ F, 0 ≤ sy_ep f p) : ∀ {c : List (Nat × List Nat)} {p : sy_P}, sy_comb F c = some p → 0 ≤ sy_ep f p
  | [], p, h => by
    cases h
    exact Int.le_refl _
  | k :: c, p, h => by
    have h2 : (match sy_prod F k.2 with
      | some p => (match sy_comb F c with
        | some q => some (sy_adk (Int.ofNat k.1) [] p q)
        | none => none)
      | none => none) = some p := h
    split at h2
    · rename_i a ha
      split at h2
      · rename_i b hb
        cases h2
        rw [sy_adk_eq]
        have h3 := sy_prod_eq hF ha
        have h4 := sy_comb_eq hF hb
        have h5 : 0 ≤ Int.ofNat k.1 * sy_em f [] * sy_ep f a := Int.mul_nonneg (Int.mul_nonneg (Int.natCast_nonneg _) (by show (0 : Int) ≤ 1; decide)) h3
        omega
      · cases h2
    · cases h2
/-- the facts can't all hold -/
noncomputable def sy_ref (F : List sy_P) (c : List (Nat × List Nat)) : Bool := match sy_comb F c with
  | some p => sy_neg p 0
  | none => false
theorem sy_ref_ok {f : Nat → Int} {F : List sy_P} {c : List (Nat × List Nat)} (h : sy_ref F c = true) (hF : ∀ p ∈ F, 0 ≤ sy_ep f p) : False := by
  unfold sy_ref at h
  split at h
  · rename_i p hp
    have h1 := sy_neg_eq f p 0 h
    have h2 := sy_comb_eq hF hp
    omega
  · cases h
