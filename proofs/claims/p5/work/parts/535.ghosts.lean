/-! ===== the surveyor, part 12b: rows, guests, numbers that are one ===== -/
noncomputable def sy_dc (n : Nat) : sy_E := bif Nat.beq (n % 2) 0 then .inr (n / 2) else .inl (Int.ofNat (n / 2))
noncomputable def sy_ni (l : List Nat) (i : Nat) : Nat := match ri_nth l i with
  | some n => n
  | none => 0
noncomputable def sy_cn (l : List sy_Ce) (i : Nat) : sy_Ce := match ri_nth l i with
  | some n => n
  | none => ([], [])
noncomputable def sy_ke (l : List Nat) (i : Nat) : sy_E := sy_dc (sy_ni l i)
/-- an entry as it stands there -/
noncomputable def sy_has (q k : Nat) (e e2 : sy_E) (H : sy_H) : Bool := List.rec false (fun x _ ih => ((Nat.beq x.2.1 10 && (Nat.beq x.1.1 q && Nat.beq x.1.2 k)) && (sy_eeq x.2.2.1 e && sy_eeq x.2.2.2 e2)) || ih) H
noncomputable def sy_hr (l : List Nat) (i : Nat) (H : sy_H) : Bool := sy_has (sy_ni l i) (sy_ni l (i + 1)) (sy_ke l (i + 2)) (sy_ke l (i + 3)) H
noncomputable def sy_eqn (K : sy_K) (a b : sy_E) (c1 c2 : sy_Ce) : Bool := sy_prv K (sy_te a ++ sy_sc (-1) (sy_te b)) c1 && sy_prv K (sy_te b ++ sy_sc (-1) (sy_te a)) c2
/-- b is at most a + k -/
noncomputable def sy_gee (K : sy_K) (a b : sy_E) (k : Int) (c : sy_Ce) : Bool := sy_prv K (sy_te a ++ ((k, []) :: sy_sc (-1) (sy_te b))) c
noncomputable def sy_ed (K : sy_K) (e : sy_E) : Bool := match e with
  | .inl _ => true
  | .inr i => Nat.blt i K.1.length
section SYGH
variable {ρ τ : List Int} {K : sy_K} {w : List ri_E} {H : sy_H}
theorem sy_has_ok {q k : Nat} {e e2 : sy_E} : ∀ {H : sy_H}, sy_hok ρ H w → sy_has q k e e2 H = true → sy_gh ρ w q k e e2
  | [], _, h => by cases h
  | x :: H, hh, h => by
    have h2 : (((Nat.beq x.2.1 10 && (Nat.beq x.1.1 q && Nat.beq x.1.2 k)) && (sy_eeq x.2.2.1 e && sy_eeq x.2.2.2 e2)) || sy_has q k e e2 H) = true := h
    rw [Bool.or_eq_true] at h2
    rcases h2 with h2 | h2
    · simp only [Bool.and_eq_true] at h2
      obtain ⟨⟨b1, b2, b3⟩, b4, b5⟩ := h2
      have k10 : x.2.1 = 10 := Nat.eq_of_beq_eq_true b1
      rcases hh x List.mem_cons_self with ⟨v, -, g⟩ | ⟨-, g⟩ | ⟨g, -⟩
      · exact absurd k10 (sy_is_lt g).1
      · rw [Nat.eq_of_beq_eq_true b2, Nat.eq_of_beq_eq_true b3, sy_eeq_ok b4, sy_eeq_ok b5] at g
        exact g
      · omega
    · exact sy_has_ok (fun y hy => hh y (List.mem_cons_of_mem _ hy)) h2
theorem sy_eqn_ok (hk : sy_ok ρ K) {a b : sy_E} {c1 c2 : sy_Ce} (h : sy_eqn K a b c1 c2 = true) {x y : Int} (hx : sy_ev ρ a = some x) (hy : sy_ev ρ b = some y) : x = y := by
  unfold sy_eqn at h
  rw [Bool.and_eq_true] at h
  have h1 := sy_prv_ok h.1 hk
  have h2 := sy_prv_ok h.2 hk
  rw [sy_app_ep, sy_sc_ep, (sy_te_ok hx).2, (sy_te_ok hy).2] at h1 h2
  omega
theorem sy_gee_ok (hk : sy_ok ρ K) {a b : sy_E} {k : Int} {c : sy_Ce} (h : sy_gee K a b k c = true) {x y : Int} (hx : sy_ev ρ a = some x) (hy : sy_ev ρ b = some y) : y ≤ x + k := by
  have h1 := sy_prv_ok h hk
  rw [sy_app_ep, (sy_te_ok hx).2] at h1
  have h2 : 0 ≤ x + (k * 1 + sy_ep (sy_tot ρ) (sy_sc (-1) (sy_te b))) := h1
  rw [sy_sc_ep, (sy_te_ok hy).2] at h2
  omega
theorem sy_ed_ok (hk : sy_ok ρ K) {e : sy_E} (h : sy_ed K e = true) : ∃ x : Int, sy_ev ρ e = some x := by
  unfold sy_ed at h
  split at h
  · exact ⟨_, rfl⟩
  · rename_i i
    exact sy_at_some (l := ρ) (i := i) (by rw [hk.1]; exact Nat.le_of_ble_eq_true h)
theorem sy_gadd_ok {q k : Nat} {e e2 : sy_E} (hh : sy_hok ρ H w) (g : sy_gh ρ w q k e e2) : sy_hok ρ (((q, k), (10, e, e2)) :: H) w := fun x hx => by
  rcases List.mem_cons.mp hx with rfl | hx
  · exact Or.inr (Or.inl ⟨rfl, g⟩)
  · exact hh x hx
theorem sy_kadd_ok {p : sy_P} (hk : sy_ok ρ K) (hd : sy_dom ρ.length p = true) (h0 : 0 ≤ sy_ep (sy_tot ρ) p) : sy_ok ρ (K.1, p :: K.2) := by
  refine ⟨hk.1, hk.2.1, fun q hq => ?_⟩
  rcases List.mem_cons.mp hq with rfl | hq
  · exact ⟨hd, h0⟩
  · exact hk.2.2 q hq
/-- a number less another one, and a known one -/
noncomputable def sy_df (a b : sy_E) (k : Int) : sy_P := sy_te a ++ ((k, []) :: sy_sc (-1) (sy_te b))
theorem sy_df_ok {a b : sy_E} {k x y : Int} (hx : sy_ev ρ a = some x) (hy : sy_ev ρ b = some y) (h : y ≤ x + k) : sy_dom ρ.length (sy_df a b k) = true ∧ 0 ≤ sy_ep (sy_tot ρ) (sy_df a b k) := by
  refine ⟨sy_app_dom _ (sy_te_ok hx).1 ?_, ?_⟩
  · show (true && sy_dom ρ.length (sy_sc (-1) (sy_te b))) = true
    rw [sy_sc_dom _ _ (sy_te_ok hy).1]; rfl
  · unfold sy_df
    rw [sy_app_ep, (sy_te_ok hx).2]
    show 0 ≤ x + (k * 1 + sy_ep (sy_tot ρ) (sy_sc (-1) (sy_te b)))
    rw [sy_sc_ep, (sy_te_ok hy).2]
    omega
/-- rows: from a to b all are of that kind -/
theorem sy_gh_row {q k : Nat} {e e2 : sy_E} (h1 : 1 ≤ k) (h3 : k ≤ 3) : sy_gh ρ w q k e e2 ↔ ∃ a b : Int, sy_ev ρ e = some a ∧ sy_ev ρ e2 = some b ∧ ∀ j : Int, a ≤ j → j < b → sy_gin (k - 1) (sy_nv w q j.toNat) := by
  have : k = 1 ∨ k = 2 ∨ k = 3 := by omega
  rcases this with rfl | rfl | rfl <;> exact Iff.rfl
theorem sy_gh_end {q k : Nat} {e e2 : sy_E} (h1 : 4 ≤ k) (h3 : k ≤ 6) : sy_gh ρ w q k e e2 ↔ ∃ a b : Int, sy_ev ρ e = some a ∧ sy_ev ρ e2 = some b ∧ (b ≤ a ∨ ¬ sy_gin (k - 4) (sy_nv w q a.toNat)) := by
  have : k = 4 ∨ k = 5 ∨ k = 6 := by omega
  rcases this with rfl | rfl | rfl <;> exact Iff.rfl
end SYGH
noncomputable def sy_isr (k : Nat) : Bool := Nat.ble 1 k && Nat.ble k 3
noncomputable def sy_isn (k : Nat) : Bool := Nat.ble 4 k && Nat.ble k 6
def sy_glo (k : Nat) : sy_E := .inl (sy_gk k).1
def sy_ghi (k : Nat) : sy_E := .inl (sy_gk k).2
abbrev sy_G9 : Type := Option (List (sy_H × sy_K))
/-- other numbers of the same values -/
noncomputable def sy_o0 (ks : List Nat) (cs : List sy_Ce) (H : sy_H) (K : sy_K) : sy_G9 := bif sy_hr ks 0 H && ((sy_ed K (sy_ke ks 4) && sy_ed K (sy_ke ks 5)) && (sy_eqn K (sy_ke ks 2) (sy_ke ks 4) (sy_cn cs 0) (sy_cn cs 1) && (bif Nat.beq (sy_ni ks 1) 7 then sy_eeq (sy_ke ks 3) (sy_ke ks 5) else sy_eqn K (sy_ke ks 3) (sy_ke ks 5) (sy_cn cs 2) (sy_cn cs 3)))) then some [(((sy_ni ks 0, sy_ni ks 1), (10, sy_ke ks 4, sy_ke ks 5)) :: H, K)] else none
/-- a byte of a row -/
noncomputable def sy_o1 (ks : List Nat) (cs : List sy_Ce) (H : sy_H) (K : sy_K) : sy_G9 := bif (sy_hr ks 0 H && sy_hr ks 4 H) && ((sy_isr (sy_ni ks 1) && (Nat.beq (sy_ni ks 5) 0 && Nat.beq (sy_ni ks 4) (sy_ni ks 0))) && (sy_gee K (sy_ke ks 6) (sy_ke ks 2) 0 (sy_cn cs 0) && sy_gee K (sy_ke ks 3) (sy_ke ks 6) (-1) (sy_cn cs 1))) then some [(H, (K.1, sy_df (sy_ke ks 7) (sy_glo (sy_ni ks 1 - 1)) 0 :: sy_df (sy_ghi (sy_ni ks 1 - 1)) (sy_ke ks 7) 0 :: K.2))] else none
/-- the byte at a row's end: below, or above -/
noncomputable def sy_o2 (ks : List Nat) (cs : List sy_Ce) (H : sy_H) (K : sy_K) : sy_G9 := bif (sy_hr ks 0 H && sy_hr ks 4 H) && ((sy_isn (sy_ni ks 1) && (Nat.beq (sy_ni ks 5) 0 && Nat.beq (sy_ni ks 4) (sy_ni ks 0))) && (sy_eqn K (sy_ke ks 6) (sy_ke ks 2) (sy_cn cs 0) (sy_cn cs 1) && sy_gee K (sy_ke ks 3) (sy_ke ks 2) (-1) (sy_cn cs 2))) then some [(H, (K.1, sy_df (sy_glo (sy_ni ks 1 - 4)) (sy_ke ks 7) (-1) :: K.2)), (H, (K.1, sy_df (sy_ke ks 7) (sy_ghi (sy_ni ks 1 - 4)) (-1) :: K.2))] else none
/-- no row at all -/
noncomputable def sy_o3 (ks : List Nat) (H : sy_H) (K : sy_K) : sy_G9 := bif sy_isr (sy_ni ks 1) && (sy_ed K (sy_ke ks 2) && sy_eeq (sy_ke ks 2) (sy_ke ks 3)) then some [(((sy_ni ks 0, sy_ni ks 1), (10, sy_ke ks 2, sy_ke ks 3)) :: H, K)] else none
/-- longer by one -/
noncomputable def sy_o4 (ks : List Nat) (cs : List sy_Ce) (H : sy_H) (K : sy_K) : sy_G9 := bif (sy_hr ks 0 H && sy_hr ks 4 H) && ((sy_isr (sy_ni ks 1) && (Nat.beq (sy_ni ks 5) 0 && Nat.beq (sy_ni ks 4) (sy_ni ks 0))) && ((sy_eqn K (sy_ke ks 6) (sy_ke ks 3) (sy_cn cs 0) (sy_cn cs 1) && (sy_gee K (sy_ke ks 7) (sy_glo (sy_ni ks 1 - 1)) 0 (sy_cn cs 2) && sy_gee K (sy_ghi (sy_ni ks 1 - 1)) (sy_ke ks 7) 0 (sy_cn cs 3))) && (sy_ed K (sy_ke ks 8) && sy_gee K (sy_ke ks 3) (sy_ke ks 8) 1 (sy_cn cs 5)))) then some [(((sy_ni ks 0, sy_ni ks 1), (10, sy_ke ks 2, sy_ke ks 8)) :: H, K)] else none
/-- an end: there is no more -/
noncomputable def sy_o6 (ks : List Nat) (cs : List sy_Ce) (H : sy_H) (K : sy_K) : sy_G9 := bif sy_isn (sy_ni ks 1) && ((sy_ed K (sy_ke ks 2) && sy_ed K (sy_ke ks 3)) && sy_gee K (sy_ke ks 2) (sy_ke ks 3) 0 (sy_cn cs 0)) then some [(((sy_ni ks 0, sy_ni ks 1), (10, sy_ke ks 2, sy_ke ks 3)) :: H, K)] else none
/-- an end: the byte there is none of that kind -/
noncomputable def sy_o7 (i : Nat) (ks : List Nat) (cs : List sy_Ce) (H : sy_H) (K : sy_K) : sy_G9 := bif sy_hr ks 4 H && ((sy_isn (sy_ni ks 1) && (Nat.beq (sy_ni ks 5) 0 && Nat.beq (sy_ni ks 4) (sy_ni ks 0))) && ((sy_ed K (sy_ke ks 2) && sy_ed K (sy_ke ks 3)) && (sy_eqn K (sy_ke ks 6) (sy_ke ks 2) (sy_cn cs 0) (sy_cn cs 1) && (bif Nat.beq i 0 then sy_gee K (sy_glo (sy_ni ks 1 - 4)) (sy_ke ks 7) (-1) (sy_cn cs 2) else sy_gee K (sy_ke ks 7) (sy_ghi (sy_ni ks 1 - 4)) (-1) (sy_cn cs 2))))) then some [(((sy_ni ks 0, sy_ni ks 1), (10, sy_ke ks 2, sy_ke ks 3)) :: H, K)] else none
/-- two rows from one place, at their ends: the ends are one -/
noncomputable def sy_o9 (ks : List Nat) (cs : List sy_Ce) (H : sy_H) (K : sy_K) : sy_G9 := bif ((sy_hr ks 0 H && sy_hr ks 4 H) && (sy_hr ks 8 H && sy_hr ks 12 H)) && (((sy_isr (sy_ni ks 1) && (Nat.beq (sy_ni ks 9) (sy_ni ks 1) && (Nat.beq (sy_ni ks 5) (sy_ni ks 1 + 3) && Nat.beq (sy_ni ks 13) (sy_ni ks 1 + 3)))) && (Nat.beq (sy_ni ks 4) (sy_ni ks 0) && (Nat.beq (sy_ni ks 8) (sy_ni ks 0) && Nat.beq (sy_ni ks 12) (sy_ni ks 0)))) && (((sy_eqn K (sy_ke ks 2) (sy_ke ks 10) (sy_cn cs 0) (sy_cn cs 1) && sy_eqn K (sy_ke ks 3) (sy_ke ks 6) (sy_cn cs 2) (sy_cn cs 3)) && (sy_eqn K (sy_ke ks 11) (sy_ke ks 14) (sy_cn cs 4) (sy_cn cs 5) && sy_eqn K (sy_ke ks 7) (sy_ke ks 15) (sy_cn cs 6) (sy_cn cs 7))) && ((sy_gee K (sy_ke ks 3) (sy_ke ks 2) 0 (sy_cn cs 8) && sy_gee K (sy_ke ks 11) (sy_ke ks 10) 0 (sy_cn cs 9)) && (sy_gee K (sy_ke ks 7) (sy_ke ks 3) 0 (sy_cn cs 10) && sy_gee K (sy_ke ks 15) (sy_ke ks 11) 0 (sy_cn cs 11))))) then some [(H, (K.1, sy_df (sy_ke ks 3) (sy_ke ks 11) 0 :: sy_df (sy_ke ks 11) (sy_ke ks 3) 0 :: K.2))] else none
/-- rows that are alike: what is told of one, told of the other one -/
noncomputable def sy_o10 (ks : List Nat) (cs : List sy_Ce) (H : sy_H) (K : sy_K) : sy_G9 := bif (sy_hr ks 0 H && sy_hr ks 4 H) && ((Nat.beq (sy_ni ks 1) 7 && (Nat.beq (sy_ni ks 3 % 2) 1 && Nat.ble (sy_ni ks 5) 6)) && ((bif Nat.beq (sy_ni ks 5) 0 then sy_gee K (sy_ke ks 2) (sy_ke ks 6) (-1) (sy_cn cs 0) else sy_gee K (sy_ke ks 2) (sy_ke ks 7) 0 (sy_cn cs 0)) && sy_gee K (sy_ke ks 6) (.inl 0) 0 (sy_cn cs 1))) then (bif Nat.beq (sy_ni ks 4) (sy_ni ks 0) then some [(((sy_ni ks 3 / 2, sy_ni ks 5), (10, sy_ke ks 6, sy_ke ks 7)) :: H, K)] else bif Nat.beq (sy_ni ks 4) (sy_ni ks 3 / 2) then some [(((sy_ni ks 0, sy_ni ks 5), (10, sy_ke ks 6, sy_ke ks 7)) :: H, K)] else none) else none
/-- alike by one more -/
noncomputable def sy_o11 (ks : List Nat) (cs : List sy_Ce) (H : sy_H) (K : sy_K) : sy_G9 := bif (sy_hr ks 0 H && (sy_hr ks 4 H && sy_hr ks 8 H)) && (((Nat.beq (sy_ni ks 1) 7 && Nat.beq (sy_ni ks 3 % 2) 1) && ((Nat.beq (sy_ni ks 5) 0 && Nat.beq (sy_ni ks 4) (sy_ni ks 0)) && (Nat.beq (sy_ni ks 9) 0 && Nat.beq (sy_ni ks 8) (sy_ni ks 3 / 2)))) && ((sy_eqn K (sy_ke ks 6) (sy_ke ks 2) (sy_cn cs 0) (sy_cn cs 1) && sy_eqn K (sy_ke ks 10) (sy_ke ks 2) (sy_cn cs 2) (sy_cn cs 3)) && (sy_eqn K (sy_ke ks 7) (sy_ke ks 11) (sy_cn cs 4) (sy_cn cs 5) && (sy_ed K (sy_ke ks 12) && sy_gee K (sy_ke ks 2) (sy_ke ks 12) 1 (sy_cn cs 6))))) then some [(((sy_ni ks 0, sy_ni ks 1), (10, sy_ke ks 12, sy_ke ks 3)) :: H, K)] else none
/-- alike, less far -/
noncomputable def sy_o12 (ks : List Nat) (cs : List sy_Ce) (H : sy_H) (K : sy_K) : sy_G9 := bif sy_hr ks 0 H && (Nat.beq (sy_ni ks 1) 7 && (sy_ed K (sy_ke ks 4) && sy_gee K (sy_ke ks 2) (sy_ke ks 4) 0 (sy_cn cs 0))) then some [(((sy_ni ks 0, sy_ni ks 1), (10, sy_ke ks 4, sy_ke ks 3)) :: H, K)] else none
noncomputable def sy_g16 (b i : Nat) (ks : List Nat) (cs : List sy_Ce) (H : sy_H) (K : sy_K) : sy_G9 := match b with
  | 0 => sy_o0 ks cs H K
  | 1 => sy_o1 ks cs H K
  | 2 => sy_o2 ks cs H K
  | 3 => sy_o3 ks H K
  | 4 => sy_o4 ks cs H K
  | 6 => sy_o6 ks cs H K
  | 7 => sy_o7 i ks cs H K
  | 9 => sy_o9 ks cs H K
  | 10 => sy_o10 ks cs H K
  | 11 => sy_o11 ks cs H K
  | 12 => sy_o12 ks cs H K
  | _ => none
section SYGI
variable {ρ τ : List Int} {K : sy_K} {w : List ri_E} {H : sy_H} {ks : List Nat} {cs : List sy_Ce} {L : List (sy_H × sy_K)}
theorem sy_hr_ok {i : Nat} (hh : sy_hok ρ H w) (h : sy_hr ks i H = true) : sy_gh ρ w (sy_ni ks i) (sy_ni ks (i + 1)) (sy_ke ks (i + 2)) (sy_ke ks (i + 3)) := sy_has_ok hh h
theorem sy_gin_n {k : Nat} {x : Int} : ¬ sy_gin k x ↔ (x < (sy_gk k).1 ∨ (sy_gk k).2 < x) := by
  unfold sy_gin
  omega
theorem sy_o0_ok (hk : sy_ok ρ K) (hh : sy_hok ρ H w) (h : sy_o0 ks cs H K = some L) : ∃ z ∈ L, sy_ok ρ z.2 ∧ sy_hok ρ z.1 w := by
  unfold sy_o0 at h
  cases hb : (sy_hr ks 0 H && ((sy_ed K (sy_ke ks 4) && sy_ed K (sy_ke ks 5)) && (sy_eqn K (sy_ke ks 2) (sy_ke ks 4) (sy_cn cs 0) (sy_cn cs 1) && (bif Nat.beq (sy_ni ks 1) 7 then sy_eeq (sy_ke ks 3) (sy_ke ks 5) else sy_eqn K (sy_ke ks 3) (sy_ke ks 5) (sy_cn cs 2) (sy_cn cs 3))))) with
  | false => rw [hb] at h; cases h
  | true =>
    rw [hb, cond_true] at h
    cases h
    simp only [Bool.and_eq_true] at hb
    obtain ⟨b1, ⟨b2, b3⟩, b4, b5⟩ := hb
    have g := sy_hr_ok hh b1
    obtain ⟨x, hx⟩ := sy_ed_ok hk b2
    obtain ⟨y, hy⟩ := sy_ed_ok hk b3
    refine ⟨_, List.mem_cons_self, hk, sy_gadd_ok hh (sy_gh_tr g (fun a ha => by rw [sy_eqn_ok hk b4 ha hx]; exact hx) (fun n a ha => ?_) (fun n => ?_))⟩
    · cases h7 : Nat.beq (sy_ni ks 1) 7 with
      | true => exact absurd (Nat.eq_of_beq_eq_true h7) n
      | false =>
        rw [h7, cond_false] at b5
        rw [sy_eqn_ok hk b5 ha hy]; exact hy
    · have n' : sy_ni ks 1 = 7 := n
      rw [n'] at b5
      exact sy_eeq_ok b5
theorem sy_o1_ok (hk : sy_ok ρ K) (hh : sy_hok ρ H w) (h : sy_o1 ks cs H K = some L) : ∃ z ∈ L, sy_ok ρ z.2 ∧ sy_hok ρ z.1 w := by
  unfold sy_o1 at h
  cases hb : ((sy_hr ks 0 H && sy_hr ks 4 H) && ((sy_isr (sy_ni ks 1) && (Nat.beq (sy_ni ks 5) 0 && Nat.beq (sy_ni ks 4) (sy_ni ks 0))) && (sy_gee K (sy_ke ks 6) (sy_ke ks 2) 0 (sy_cn cs 0) && sy_gee K (sy_ke ks 3) (sy_ke ks 6) (-1) (sy_cn cs 1)))) with
  | false => rw [hb] at h; cases h
  | true =>
    rw [hb, cond_true] at h
    cases h
    unfold sy_isr at hb
    simp only [Bool.and_eq_true] at hb
    obtain ⟨⟨b1, b2⟩, ⟨⟨b3, b4⟩, b5, b6⟩, b7, b8⟩ := hb
    have g1 := sy_hr_ok hh b1
    have g2 := sy_hr_ok hh b2
    rw [sy_gh_row (Nat.le_of_ble_eq_true b3) (Nat.le_of_ble_eq_true b4)] at g1
    obtain ⟨a, b, e1, e2, e3⟩ := g1
    rw [show sy_ni ks (4 + 1) = 0 from Nat.eq_of_beq_eq_true b5, Nat.eq_of_beq_eq_true b6] at g2
    obtain ⟨i, v, f1, f2, f3⟩ := g2
    have f1' : sy_ev ρ (sy_ke ks 6) = some i := f1
    have f2' : sy_ev ρ (sy_ke ks 7) = some v := f2
    have k1 := sy_gee_ok hk b7 f1' e1
    have k2 := sy_gee_ok hk b8 e2 f1'
    have r := e3 i (by omega) (by omega)
    have f3' : sy_nv w (sy_ni ks 0) i.toNat = v := f3
    rw [f3'] at r
    have r1 : (sy_gk (sy_ni ks 1 - 1)).1 ≤ v := r.1
    have r2 : v ≤ (sy_gk (sy_ni ks 1 - 1)).2 := r.2
    have d1 := sy_df_ok (ρ := ρ) (a := sy_ghi (sy_ni ks 1 - 1)) (k := 0) rfl f2' (by omega)
    have d2 := sy_df_ok (ρ := ρ) (b := sy_glo (sy_ni ks 1 - 1)) (k := 0) f2' rfl (by omega)
    exact ⟨_, List.mem_cons_self, sy_kadd_ok (sy_kadd_ok hk d1.1 d1.2) d2.1 d2.2, hh⟩
theorem sy_o2_ok (hk : sy_ok ρ K) (hh : sy_hok ρ H w) (h : sy_o2 ks cs H K = some L) : ∃ z ∈ L, sy_ok ρ z.2 ∧ sy_hok ρ z.1 w := by
  unfold sy_o2 at h
  cases hb : ((sy_hr ks 0 H && sy_hr ks 4 H) && ((sy_isn (sy_ni ks 1) && (Nat.beq (sy_ni ks 5) 0 && Nat.beq (sy_ni ks 4) (sy_ni ks 0))) && (sy_eqn K (sy_ke ks 6) (sy_ke ks 2) (sy_cn cs 0) (sy_cn cs 1) && sy_gee K (sy_ke ks 3) (sy_ke ks 2) (-1) (sy_cn cs 2)))) with
  | false => rw [hb] at h; cases h
  | true =>
    rw [hb, cond_true] at h
    cases h
    unfold sy_isn at hb
    simp only [Bool.and_eq_true] at hb
    obtain ⟨⟨b1, b2⟩, ⟨⟨b3, b4⟩, b5, b6⟩, b7, b8⟩ := hb
    have g1 := sy_hr_ok hh b1
    have g2 := sy_hr_ok hh b2
    rw [sy_gh_end (Nat.le_of_ble_eq_true b3) (Nat.le_of_ble_eq_true b4)] at g1
    obtain ⟨a, b, e1, e2, e3⟩ := g1
    rw [show sy_ni ks (4 + 1) = 0 from Nat.eq_of_beq_eq_true b5, Nat.eq_of_beq_eq_true b6] at g2
    obtain ⟨i, v, f1, f2, f3⟩ := g2
    have f1' : sy_ev ρ (sy_ke ks 6) = some i := f1
    have f2' : sy_ev ρ (sy_ke ks 7) = some v := f2
    have k1 := sy_eqn_ok hk b7 f1' e1
    have k2 := sy_gee_ok hk b8 e2 e1
    have f3' : sy_nv w (sy_ni ks 0) i.toNat = v := f3
    rcases e3 with e3 | e3
    · omega
    · have e4 : ¬ sy_gin (sy_ni ks 1 - 4) (sy_nv w (sy_ni ks 0) a.toNat) := e3
      rw [← k1, f3', sy_gin_n] at e4
      rcases e4 with e4 | e4
      · have d1 := sy_df_ok (ρ := ρ) (a := sy_glo (sy_ni ks 1 - 4)) (k := -1) rfl f2' (by omega)
        exact ⟨_, List.mem_cons_self, sy_kadd_ok hk d1.1 d1.2, hh⟩
      · have d2 := sy_df_ok (ρ := ρ) (b := sy_ghi (sy_ni ks 1 - 4)) (k := -1) f2' rfl (by omega)
        exact ⟨_, List.mem_cons_of_mem _ List.mem_cons_self, sy_kadd_ok hk d2.1 d2.2, hh⟩
theorem sy_o3_ok (hk : sy_ok ρ K) (hh : sy_hok ρ H w) (h : sy_o3 ks H K = some L) : ∃ z ∈ L, sy_ok ρ z.2 ∧ sy_hok ρ z.1 w := by
  unfold sy_o3 at h
  cases hb : (sy_isr (sy_ni ks 1) && (sy_ed K (sy_ke ks 2) && sy_eeq (sy_ke ks 2) (sy_ke ks 3))) with
  | false => rw [hb] at h; cases h
  | true =>
    rw [hb, cond_true] at h
    cases h
    unfold sy_isr at hb
    simp only [Bool.and_eq_true] at hb
    obtain ⟨⟨b1, b2⟩, b3, b4⟩ := hb
    obtain ⟨x, hx⟩ := sy_ed_ok hk b3
    refine ⟨_, List.mem_cons_self, hk, sy_gadd_ok hh ?_⟩
    rw [sy_gh_row (Nat.le_of_ble_eq_true b1) (Nat.le_of_ble_eq_true b2)]
    exact ⟨x, x, hx, by rw [← sy_eeq_ok b4]; exact hx, fun j a b => by omega⟩
theorem sy_o4_ok (hk : sy_ok ρ K) (hh : sy_hok ρ H w) (h : sy_o4 ks cs H K = some L) : ∃ z ∈ L, sy_ok ρ z.2 ∧ sy_hok ρ z.1 w := by
  unfold sy_o4 at h
  cases hb : ((sy_hr ks 0 H && sy_hr ks 4 H) && ((sy_isr (sy_ni ks 1) && (Nat.beq (sy_ni ks 5) 0 && Nat.beq (sy_ni ks 4) (sy_ni ks 0))) && ((sy_eqn K (sy_ke ks 6) (sy_ke ks 3) (sy_cn cs 0) (sy_cn cs 1) && (sy_gee K (sy_ke ks 7) (sy_glo (sy_ni ks 1 - 1)) 0 (sy_cn cs 2) && sy_gee K (sy_ghi (sy_ni ks 1 - 1)) (sy_ke ks 7) 0 (sy_cn cs 3))) && (sy_ed K (sy_ke ks 8) && sy_gee K (sy_ke ks 3) (sy_ke ks 8) 1 (sy_cn cs 5))))) with
  | false => rw [hb] at h; cases h
  | true =>
    rw [hb, cond_true] at h
    cases h
    unfold sy_isr at hb
    simp only [Bool.and_eq_true] at hb
    obtain ⟨⟨b1, b2⟩, ⟨⟨b3, b4⟩, b5, b6⟩, ⟨b7, b8, b9⟩, b10, b11⟩ := hb
    have g1 := sy_hr_ok hh b1
    have g2 := sy_hr_ok hh b2
    have r1 := Nat.le_of_ble_eq_true b3
    have r2 := Nat.le_of_ble_eq_true b4
    rw [sy_gh_row r1 r2] at g1
    obtain ⟨a, b, e1, e2, e3⟩ := g1
    rw [show sy_ni ks (4 + 1) = 0 from Nat.eq_of_beq_eq_true b5, Nat.eq_of_beq_eq_true b6] at g2
    obtain ⟨i, v, f1, f2, f3⟩ := g2
    have f1' : sy_ev ρ (sy_ke ks 6) = some i := f1
    have f2' : sy_ev ρ (sy_ke ks 7) = some v := f2
    have e2' : sy_ev ρ (sy_ke ks 3) = some b := e2
    have k1 := sy_eqn_ok hk b7 f1' e2'
    have k2 := sy_gee_ok hk b8 f2' (show sy_ev ρ (sy_glo (sy_ni ks 1 - 1)) = some _ from rfl)
    have k3 := sy_gee_ok hk b9 (show sy_ev ρ (sy_ghi (sy_ni ks 1 - 1)) = some _ from rfl) f2'
    obtain ⟨y, hy⟩ := sy_ed_ok hk b10
    have k4 := sy_gee_ok hk b11 e2' hy
    refine ⟨_, List.mem_cons_self, hk, sy_gadd_ok hh ?_⟩
    rw [sy_gh_row r1 r2]
    refine ⟨a, y, e1, hy, fun j c1 c2 => ?_⟩
    by_cases hj : j < b
    · exact e3 j c1 hj
    · have f3' : sy_nv w (sy_ni ks 0) i.toNat = v := f3
      rw [show j = i by omega, f3']
      exact ⟨by omega, by omega⟩
theorem sy_o6_ok (hk : sy_ok ρ K) (hh : sy_hok ρ H w) (h : sy_o6 ks cs H K = some L) : ∃ z ∈ L, sy_ok ρ z.2 ∧ sy_hok ρ z.1 w := by
  unfold sy_o6 at h
  cases hb : (sy_isn (sy_ni ks 1) && ((sy_ed K (sy_ke ks 2) && sy_ed K (sy_ke ks 3)) && sy_gee K (sy_ke ks 2) (sy_ke ks 3) 0 (sy_cn cs 0))) with
  | false => rw [hb] at h; cases h
  | true =>
    rw [hb, cond_true] at h
    cases h
    unfold sy_isn at hb
    simp only [Bool.and_eq_true] at hb
    obtain ⟨⟨b1, b2⟩, ⟨b3, b4⟩, b5⟩ := hb
    obtain ⟨x, hx⟩ := sy_ed_ok hk b3
    obtain ⟨y, hy⟩ := sy_ed_ok hk b4
    have k := sy_gee_ok hk b5 hx hy
    refine ⟨_, List.mem_cons_self, hk, sy_gadd_ok hh ?_⟩
    rw [sy_gh_end (Nat.le_of_ble_eq_true b1) (Nat.le_of_ble_eq_true b2)]
    exact ⟨x, y, hx, hy, Or.inl (by omega)⟩
theorem sy_o7_ok {i9 : Nat} (hk : sy_ok ρ K) (hh : sy_hok ρ H w) (h : sy_o7 i9 ks cs H K = some L) : ∃ z ∈ L, sy_ok ρ z.2 ∧ sy_hok ρ z.1 w := by
  unfold sy_o7 at h
  cases hb : (sy_hr ks 4 H && ((sy_isn (sy_ni ks 1) && (Nat.beq (sy_ni ks 5) 0 && Nat.beq (sy_ni ks 4) (sy_ni ks 0))) && ((sy_ed K (sy_ke ks 2) && sy_ed K (sy_ke ks 3)) && (sy_eqn K (sy_ke ks 6) (sy_ke ks 2) (sy_cn cs 0) (sy_cn cs 1) && (bif Nat.beq i9 0 then sy_gee K (sy_glo (sy_ni ks 1 - 4)) (sy_ke ks 7) (-1) (sy_cn cs 2) else sy_gee K (sy_ke ks 7) (sy_ghi (sy_ni ks 1 - 4)) (-1) (sy_cn cs 2)))))) with
  | false => rw [hb] at h; cases h
  | true =>
    rw [hb, cond_true] at h
    cases h
    unfold sy_isn at hb
    simp only [Bool.and_eq_true] at hb
    obtain ⟨b1, ⟨⟨b3, b4⟩, b5, b6⟩, ⟨b7, b8⟩, b9, b10⟩ := hb
    have g2 := sy_hr_ok hh b1
    rw [show sy_ni ks (4 + 1) = 0 from Nat.eq_of_beq_eq_true b5, Nat.eq_of_beq_eq_true b6] at g2
    obtain ⟨i, v, f1, f2, f3⟩ := g2
    have f1' : sy_ev ρ (sy_ke ks 6) = some i := f1
    have f2' : sy_ev ρ (sy_ke ks 7) = some v := f2
    have f3' : sy_nv w (sy_ni ks 0) i.toNat = v := f3
    obtain ⟨x, hx⟩ := sy_ed_ok hk b7
    obtain ⟨y, hy⟩ := sy_ed_ok hk b8
    have k1 := sy_eqn_ok hk b9 f1' hx
    refine ⟨_, List.mem_cons_self, hk, sy_gadd_ok hh ?_⟩
    rw [sy_gh_end (Nat.le_of_ble_eq_true b3) (Nat.le_of_ble_eq_true b4)]
    refine ⟨x, y, hx, hy, Or.inr ?_⟩
    rw [← k1, f3', sy_gin_n]
    cases h0 : Nat.beq i9 0 with
    | true =>
      rw [h0, cond_true] at b10
      have k2 := sy_gee_ok hk b10 (show sy_ev ρ (sy_glo (sy_ni ks 1 - 4)) = some _ from rfl) f2'
      exact Or.inl (by omega)
    | false =>
      rw [h0, cond_false] at b10
      have k2 := sy_gee_ok hk b10 f2' (show sy_ev ρ (sy_ghi (sy_ni ks 1 - 4)) = some _ from rfl)
      exact Or.inr (by omega)
theorem sy_o9_ok (hk : sy_ok ρ K) (hh : sy_hok ρ H w) (h : sy_o9 ks cs H K = some L) : ∃ z ∈ L, sy_ok ρ z.2 ∧ sy_hok ρ z.1 w := by
  unfold sy_o9 at h
  cases hb : (((sy_hr ks 0 H && sy_hr ks 4 H) && (sy_hr ks 8 H && sy_hr ks 12 H)) && (((sy_isr (sy_ni ks 1) && (Nat.beq (sy_ni ks 9) (sy_ni ks 1) && (Nat.beq (sy_ni ks 5) (sy_ni ks 1 + 3) && Nat.beq (sy_ni ks 13) (sy_ni ks 1 + 3)))) && (Nat.beq (sy_ni ks 4) (sy_ni ks 0) && (Nat.beq (sy_ni ks 8) (sy_ni ks 0) && Nat.beq (sy_ni ks 12) (sy_ni ks 0)))) && (((sy_eqn K (sy_ke ks 2) (sy_ke ks 10) (sy_cn cs 0) (sy_cn cs 1) && sy_eqn K (sy_ke ks 3) (sy_ke ks 6) (sy_cn cs 2) (sy_cn cs 3)) && (sy_eqn K (sy_ke ks 11) (sy_ke ks 14) (sy_cn cs 4) (sy_cn cs 5) && sy_eqn K (sy_ke ks 7) (sy_ke ks 15) (sy_cn cs 6) (sy_cn cs 7))) && ((sy_gee K (sy_ke ks 3) (sy_ke ks 2) 0 (sy_cn cs 8) && sy_gee K (sy_ke ks 11) (sy_ke ks 10) 0 (sy_cn cs 9)) && (sy_gee K (sy_ke ks 7) (sy_ke ks 3) 0 (sy_cn cs 10) && sy_gee K (sy_ke ks 15) (sy_ke ks 11) 0 (sy_cn cs 11)))))) with
  | false => rw [hb] at h; cases h
  | true =>
    rw [hb, cond_true] at h
    cases h
    unfold sy_isr at hb
    simp only [Bool.and_eq_true] at hb
    obtain ⟨⟨⟨b1, b2⟩, b3, b4⟩, ⟨⟨⟨r1, r2⟩, r3, r4, r5⟩, q1, q2, q3⟩, ⟨⟨c1, c2⟩, c3, c4⟩, ⟨c5, c6⟩, c7, c8⟩ := hb
    have r1' := Nat.le_of_ble_eq_true r1
    have r2' := Nat.le_of_ble_eq_true r2
    have g1 := sy_hr_ok hh b1
    have g2 := sy_hr_ok hh b2
    have g3 := sy_hr_ok hh b3
    have g4 := sy_hr_ok hh b4
    rw [sy_gh_row r1' r2'] at g1
    rw [show sy_ni ks (8 + 1) = sy_ni ks 1 from Nat.eq_of_beq_eq_true r3, Nat.eq_of_beq_eq_true q2, sy_gh_row r1' r2'] at g3
    rw [show sy_ni ks (4 + 1) = sy_ni ks 1 + 3 from Nat.eq_of_beq_eq_true r4, Nat.eq_of_beq_eq_true q1, sy_gh_end (by omega) (by omega)] at g2
    rw [show sy_ni ks (12 + 1) = sy_ni ks 1 + 3 from Nat.eq_of_beq_eq_true r5, Nat.eq_of_beq_eq_true q3, sy_gh_end (by omega) (by omega)] at g4
    obtain ⟨x1, y1, e1, f1, t1⟩ := g1
    obtain ⟨x2, y2, e2, f2, t2⟩ := g2
    obtain ⟨x3, y3, e3, f3, t3⟩ := g3
    obtain ⟨x4, y4, e4, f4, t4⟩ := g4
    have k1 := sy_eqn_ok hk c1 e1 e3
    have k2 := sy_eqn_ok hk c2 f1 e2
    have k3 := sy_eqn_ok hk c3 f3 e4
    have k4 := sy_eqn_ok hk c4 f2 f4
    have k5 := sy_gee_ok hk c5 f1 e1
    have k6 := sy_gee_ok hk c6 f3 e3
    have k7 := sy_gee_ok hk c7 f2 f1
    have k8 := sy_gee_ok hk c8 f4 f3
    rw [show sy_ni ks 1 + 3 - 4 = sy_ni ks 1 - 1 by omega] at t2 t4
    have e : y1 = y3 := by
      by_cases h1 : y1 < y3
      · rcases t2 with t2 | t2
        · omega
        · exact absurd (by rw [show x2 = y1 by omega]; exact t3 y1 (by omega) h1) t2
      · by_cases h2 : y3 < y1
        · rcases t4 with t4 | t4
          · omega
          · exact absurd (by rw [show x4 = y3 by omega]; exact t1 y3 (by omega) h2) t4
        · omega
    have d1 := sy_df_ok (ρ := ρ) (k := 0) f3 f1 (by omega)
    have d2 := sy_df_ok (ρ := ρ) (k := 0) f1 f3 (by omega)
    exact ⟨_, List.mem_cons_self, sy_kadd_ok (sy_kadd_ok hk d1.1 d1.2) d2.1 d2.2, hh⟩
/-- rows that are alike, either way round -/
theorem sy_alike {q o k : Nat} {b : Int} {e e2 : sy_E} (hb : ∀ j : Nat, (j : Int) < b → sy_nv w o j = sy_nv w q j) (h6 : k ≤ 6) (h0 : ∀ x : Int, sy_ev ρ e = some x → 0 ≤ x) (h1 : k = 0 → ∀ x : Int, sy_ev ρ e = some x → x < b) (h2 : k ≠ 0 → ∀ x : Int, sy_ev ρ e2 = some x → x ≤ b) (g : sy_gh ρ w q k e e2) : sy_gh ρ w o k e e2 := by
  by_cases hk0 : k = 0
  · subst hk0
    obtain ⟨i, v, g1, g2, g3⟩ := g
    refine ⟨i, v, g1, g2, ?_⟩
    have := h0 i g1
    have := h1 rfl i g1
    rw [hb i.toNat (by omega)]; exact g3
  · by_cases hk3 : k ≤ 3
    · rw [sy_gh_row (by omega) hk3] at g ⊢
      obtain ⟨a, c, g1, g2, g3⟩ := g
      refine ⟨a, c, g1, g2, fun j j1 j2 => ?_⟩
      have := h0 a g1
      have := h2 hk0 c g2
      rw [hb j.toNat (by omega)]; exact g3 j j1 j2
    · rw [sy_gh_end (by omega) h6] at g ⊢
      obtain ⟨a, c, g1, g2, g3⟩ := g
      refine ⟨a, c, g1, g2, ?_⟩
      have := h0 a g1
      have := h2 hk0 c g2
      rcases g3 with g3 | g3
      · exact Or.inl g3
      · by_cases hc : c ≤ a
        · exact Or.inl hc
        · refine Or.inr ?_
          rw [hb a.toNat (by omega)]; exact g3
theorem sy_odd {n q : Nat} (h : Nat.beq (n % 2) 1 = true) (e : sy_dc n = .inl (Int.ofNat q)) : n / 2 = q := by
  have h2 : n % 2 = 1 := Nat.eq_of_beq_eq_true h
  unfold sy_dc at e
  rw [h2] at e
  have e2 : (Sum.inl (Int.ofNat (n / 2)) : sy_E) = .inl (Int.ofNat q) := e
  have e3 : Int.ofNat (n / 2) = Int.ofNat q := Sum.inl.inj e2
  exact Int.ofNat.inj e3
theorem sy_o10_ok (hk : sy_ok ρ K) (hh : sy_hok ρ H w) (h : sy_o10 ks cs H K = some L) : ∃ z ∈ L, sy_ok ρ z.2 ∧ sy_hok ρ z.1 w := by
  unfold sy_o10 at h
  cases hb : ((sy_hr ks 0 H && sy_hr ks 4 H) && ((Nat.beq (sy_ni ks 1) 7 && (Nat.beq (sy_ni ks 3 % 2) 1 && Nat.ble (sy_ni ks 5) 6)) && ((bif Nat.beq (sy_ni ks 5) 0 then sy_gee K (sy_ke ks 2) (sy_ke ks 6) (-1) (sy_cn cs 0) else sy_gee K (sy_ke ks 2) (sy_ke ks 7) 0 (sy_cn cs 0)) && sy_gee K (sy_ke ks 6) (.inl 0) 0 (sy_cn cs 1)))) with
  | false => rw [hb] at h; cases h
  | true =>
    rw [hb, cond_true] at h
    simp only [Bool.and_eq_true] at hb
    obtain ⟨⟨b1, b2⟩, ⟨b3, b4, b5⟩, b6, b7⟩ := hb
    have g1 := sy_hr_ok hh b1
    have g2 := sy_hr_ok hh b2
    rw [show sy_ni ks (0 + 1) = 7 from Nat.eq_of_beq_eq_true b3] at g1
    obtain ⟨b, q2, e1, e2, e3⟩ := g1
    have eq2 : sy_ni ks 3 / 2 = q2 := sy_odd b4 e2
    have h6 := Nat.le_of_ble_eq_true b5
    have p0 : ∀ x : Int, sy_ev ρ (sy_ke ks 6) = some x → 0 ≤ x := fun x hx => by
      have := sy_gee_ok hk b7 hx (show sy_ev ρ (.inl 0) = some 0 from rfl)
      omega
    have p1 : sy_ni ks 5 = 0 → ∀ x : Int, sy_ev ρ (sy_ke ks 6) = some x → x < b := fun n x hx => by
      rw [n] at b6
      have := sy_gee_ok hk (show sy_gee K (sy_ke ks 2) (sy_ke ks 6) (-1) (sy_cn cs 0) = true from b6) e1 hx
      omega
    have p2 : sy_ni ks 5 ≠ 0 → ∀ x : Int, sy_ev ρ (sy_ke ks 7) = some x → x ≤ b := fun n x hx => by
      cases h0 : Nat.beq (sy_ni ks 5) 0 with
      | true => exact absurd (Nat.eq_of_beq_eq_true h0) n
      | false =>
        rw [h0, cond_false] at b6
        have := sy_gee_ok hk b6 e1 hx
        omega
    cases hq : Nat.beq (sy_ni ks 4) (sy_ni ks 0) with
    | true =>
      rw [hq, cond_true] at h
      cases h
      rw [Nat.eq_of_beq_eq_true hq] at g2
      refine ⟨_, List.mem_cons_self, hk, sy_gadd_ok hh ?_⟩
      rw [eq2]
      exact sy_alike (b := b) (fun j hj => (e3 j hj).symm) h6 p0 p1 p2 g2
    | false =>
      rw [hq, cond_false] at h
      cases hq2 : Nat.beq (sy_ni ks 4) (sy_ni ks 3 / 2) with
      | false => rw [hq2] at h; cases h
      | true =>
        rw [hq2, cond_true] at h
        cases h
        rw [Nat.eq_of_beq_eq_true hq2, eq2] at g2
        exact ⟨_, List.mem_cons_self, hk, sy_gadd_ok hh (sy_alike (b := b) (fun j hj => e3 j hj) h6 p0 p1 p2 g2)⟩
theorem sy_o11_ok (hk : sy_ok ρ K) (hh : sy_hok ρ H w) (h : sy_o11 ks cs H K = some L) : ∃ z ∈ L, sy_ok ρ z.2 ∧ sy_hok ρ z.1 w := by
  unfold sy_o11 at h
  cases hb : ((sy_hr ks 0 H && (sy_hr ks 4 H && sy_hr ks 8 H)) && (((Nat.beq (sy_ni ks 1) 7 && Nat.beq (sy_ni ks 3 % 2) 1) && ((Nat.beq (sy_ni ks 5) 0 && Nat.beq (sy_ni ks 4) (sy_ni ks 0)) && (Nat.beq (sy_ni ks 9) 0 && Nat.beq (sy_ni ks 8) (sy_ni ks 3 / 2)))) && ((sy_eqn K (sy_ke ks 6) (sy_ke ks 2) (sy_cn cs 0) (sy_cn cs 1) && sy_eqn K (sy_ke ks 10) (sy_ke ks 2) (sy_cn cs 2) (sy_cn cs 3)) && (sy_eqn K (sy_ke ks 7) (sy_ke ks 11) (sy_cn cs 4) (sy_cn cs 5) && (sy_ed K (sy_ke ks 12) && sy_gee K (sy_ke ks 2) (sy_ke ks 12) 1 (sy_cn cs 6)))))) with
  | false => rw [hb] at h; cases h
  | true =>
    rw [hb, cond_true] at h
    cases h
    simp only [Bool.and_eq_true] at hb
    obtain ⟨⟨b1, b2, b3⟩, ⟨⟨b4, b5⟩, ⟨b6, b7⟩, b8, b9⟩, ⟨c1, c2⟩, c3, c4, c5⟩ := hb
    have g1 := sy_hr_ok hh b1
    have g2 := sy_hr_ok hh b2
    have g3 := sy_hr_ok hh b3
    have n7 : sy_ni ks 1 = 7 := Nat.eq_of_beq_eq_true b4
    rw [show sy_ni ks (0 + 1) = 7 from n7] at g1
    obtain ⟨b, q2, e1, e2, e3⟩ := g1
    have eq2 : sy_ni ks 3 / 2 = q2 := sy_odd b5 e2
    rw [show sy_ni ks (4 + 1) = 0 from Nat.eq_of_beq_eq_true b6, Nat.eq_of_beq_eq_true b7] at g2
    rw [show sy_ni ks (8 + 1) = 0 from Nat.eq_of_beq_eq_true b8, Nat.eq_of_beq_eq_true b9, eq2] at g3
    obtain ⟨i1, v1, f1, f2, f3⟩ := g2
    obtain ⟨i2, v2, h1, h2, h3⟩ := g3
    obtain ⟨y, hy⟩ := sy_ed_ok hk c4
    have k1 := sy_eqn_ok hk c1 f1 e1
    have k2 := sy_eqn_ok hk c2 h1 e1
    have k3 := sy_eqn_ok hk c3 f2 h2
    have k4 := sy_gee_ok hk c5 e1 hy
    refine ⟨_, List.mem_cons_self, hk, sy_gadd_ok hh ?_⟩
    rw [n7]
    refine ⟨y, q2, hy, e2, fun j hj => ?_⟩
    by_cases hjb : (j : Int) < b
    · exact e3 j hjb
    · have z1 : i1.toNat = j := by omega
      have z2 : i2.toNat = j := by omega
      rw [← z1, f3, z1, ← z2, h3, k3]
theorem sy_o12_ok (hk : sy_ok ρ K) (hh : sy_hok ρ H w) (h : sy_o12 ks cs H K = some L) : ∃ z ∈ L, sy_ok ρ z.2 ∧ sy_hok ρ z.1 w := by
  unfold sy_o12 at h
  cases hb : (sy_hr ks 0 H && (Nat.beq (sy_ni ks 1) 7 && (sy_ed K (sy_ke ks 4) && sy_gee K (sy_ke ks 2) (sy_ke ks 4) 0 (sy_cn cs 0)))) with
  | false => rw [hb] at h; cases h
  | true =>
    rw [hb, cond_true] at h
    cases h
    simp only [Bool.and_eq_true] at hb
    obtain ⟨b1, b2, b3, b4⟩ := hb
    have g1 := sy_hr_ok hh b1
    have n7 : sy_ni ks 1 = 7 := Nat.eq_of_beq_eq_true b2
    rw [show sy_ni ks (0 + 1) = 7 from n7] at g1
    obtain ⟨b, q2, e1, e2, e3⟩ := g1
    obtain ⟨y, hy⟩ := sy_ed_ok hk b3
    have k1 := sy_gee_ok hk b4 e1 hy
    refine ⟨_, List.mem_cons_self, hk, sy_gadd_ok hh ?_⟩
    rw [n7]
    exact ⟨y, q2, hy, e2, fun j hj => e3 j (by omega)⟩
theorem sy_g16_ok {b i : Nat} (hk : sy_ok ρ K) (hh : sy_hok ρ H w) (h : sy_g16 b i ks cs H K = some L) : ∃ z ∈ L, sy_ok ρ z.2 ∧ sy_hok ρ z.1 w := by
  unfold sy_g16 at h
  split at h
  · exact sy_o0_ok hk hh h
  · exact sy_o1_ok hk hh h
  · exact sy_o2_ok hk hh h
  · exact sy_o3_ok hk hh h
  · exact sy_o4_ok hk hh h
  · exact sy_o6_ok hk hh h
  · exact sy_o7_ok hk hh h
  · exact sy_o9_ok hk hh h
  · exact sy_o10_ok hk hh h
  · exact sy_o11_ok hk hh h
  · exact sy_o12_ok hk hh h
  · cases h
end SYGI
