/-! ===== the surveyor, part 12c: guests used, guests proved, one number for another ===== -/
/-- the number at a place, as far as it is known -/
noncomputable def sy_hn (q j : Nat) (H : sy_H) : Option sy_E := match sy_lk q j H with
  | some a => bif Nat.ble a.1 1 then some a.2.1 else none
  | none => sy_glk q (.inl (Int.ofNat j)) H
noncomputable def sy_gd1 (K : sy_K) (H : sy_H) (g : Nat) (x : Nat × Nat × Int) : Bool := match sy_hn (pg_U g x).1 (pg_U g x).2 H with
  | some e => (match sy_iv K e with
    | some r => sy_le (x.2.2 + 1) r.1
    | none => false)
  | none => false
noncomputable def sy_gd0 (K : sy_K) (H : sy_H) (g : Nat) (x : Nat × Nat × Int) : Bool := match sy_hn (pg_U g x).1 (pg_U g x).2 H with
  | some e => (match sy_iv K e with
    | some r => sy_le r.2 x.2.2
    | none => false)
  | none => false
/-- its guards hold -/
noncomputable def sy_gdh (K : sy_K) (H : sy_H) (g : Nat) (l : List (Nat × Nat × Int)) : Bool := List.rec true (fun x _ ih => sy_gd1 K H g x && ih) l
/-- one of its guards doesn't -/
noncomputable def sy_gdn (K : sy_K) (H : sy_H) (g : Nat) (l : List (Nat × Nat × Int)) : Bool := List.rec false (fun x _ ih => sy_gd0 K H g x || ih) l
noncomputable def sy_gnar (T : Nat → Option sy_C) (p : Nat × Nat) (a : sy_E) (K : sy_K) : Option sy_K := match T p.1 with
  | some c => (match sy_fs c p.2 with
    | some f => bif Nat.ble f.1 1 then sy_nar a f.2.1 f.2.2 K else some K
    | none => some K)
  | none => some K
noncomputable def sy_gent (T : Nat → Option sy_C) (p : Nat × Nat) (a : sy_E) : (Nat × Nat) × sy_V := match T p.1 with
  | some c => (match sy_fs c p.2 with
    | some f => bif Nat.ble f.1 1 then (p, (f.1, a, .inl 0)) else ((p.1, 0), (10, .inl (Int.ofNat p.2), a))
    | none => ((p.1, 0), (10, .inl (Int.ofNat p.2), a)))
  | none => ((p.1, 0), (10, .inl (Int.ofNat p.2), a))
noncomputable def sy_g17b (T : Nat → Option sy_C) (src dst : Nat × Nat) (H : sy_H) (K : sy_K) : Option (sy_H × sy_K) := match sy_hn src.1 src.2 H with
  | some a => (match sy_gnar T src a K with
    | some K1 => (match sy_gnar T dst a K1 with
      | some K2 => some (sy_gent T dst a :: H, K2)
      | none => none)
    | none => none)
  | none => none
/-- a guest is used: dir 0: the reference's place gets the number -/
noncomputable def sy_g17 (T : Nat → Option sy_C) (g dir : Nat) (H : sy_H) (K : sy_K) : Option (sy_H × sy_K) := match pg_e (g % 512) with
  | some e => bif (Nat.blt g 16384 && Nat.testBit (sy_gall H) g) && (Nat.beq (g / 512 % 2) 1 || sy_gdh K H g e.2.2.2) then (bif Nat.beq dir 0 then sy_g17b T (pg_A g e) (pg_B g e) H K else sy_g17b T (pg_B g e) (pg_A g e) H K) else none
  | none => none
/-- places that hold the same -/
noncomputable def sy_smn (K : sy_K) (H : sy_H) (p r : Nat × Nat) : Bool := match sy_hn p.1 p.2 H with
  | some a => (match sy_hn r.1 r.2 H with
    | some b => sy_eeq a b || (match sy_iv K a with
      | some s => (match sy_iv K b with
        | some t => (sy_le s.2 s.1 && sy_le t.2 t.1) && (sy_le s.1 t.1 && sy_le t.1 s.1)
        | none => false)
      | none => false)
    | none => false)
  | none => false
noncomputable def sy_gok (K : sy_K) (H : sy_H) (A g : Nat) : Bool := match pg_e (g % 512) with
  | some e => sy_smn K H (pg_A g e) (pg_B g e) || (bif Nat.beq (g / 512 % 2) 1 then Nat.ble 512 g && (Nat.testBit A (g - 512) && sy_gdh K H g e.2.2.2) else Nat.testBit A (g + 512) || sy_gdn K H g e.2.2.2)
  | none => true
/-- the same guest of another bench -/
noncomputable def sy_gtr (H : sy_H) (b g : Nat) (e : pg_E) : Bool := (sy_smn ([], []) H (pg_A g e) (pg_A (b * 4096 + g % 4096) e)) && List.rec true (fun x _ ih => sy_smn ([], []) H (pg_U g x) (pg_U (b * 4096 + g % 4096) x) && ih) e.2.2.2
noncomputable def sy_gob (H : sy_H) (A b g : Nat) : Bool := match pg_e (g % 512) with
  | some e => Nat.beq (g / 512 % 2) 0 && (Nat.testBit A (b * 4096 + g % 4096) && (Nat.blt b 4 && sy_gtr H b g e))
  | none => true
noncomputable def sy_galls (f : Nat → Bool) (ks : List Nat) : Bool := List.rec true (fun g _ ih => f g && ih) ks
noncomputable def sy_gmask (ks : List Nat) : Nat := List.rec 0 (fun g _ ih => Nat.lor (Nat.shiftLeft 1 g) ih) ks
noncomputable def sy_gno (H : sy_H) : sy_H := List.rec [] (fun x _ ih => @Bool.rec (fun _ => sy_H) (x :: ih) ih (Nat.beq x.2.1 11)) H
noncomputable def sy_gin9 (m : Nat) (H : sy_H) : sy_H := ((999999, 0), (11, .inr (Nat.lor m (sy_gall H)), .inl 0)) :: sy_gno H
noncomputable def sy_g19 (a b : Nat) (ks : List Nat) (H : sy_H) (K : sy_K) : Option sy_H := bif Nat.beq a 0 then (bif sy_galls (sy_gok K H (sy_gall H)) ks then some (sy_gin9 (sy_gmask ks) H) else none) else (bif sy_galls (sy_gob H (sy_gall H) b) ks then some (sy_gin9 (sy_gmask ks) H) else none)
/-! one number for another -/
noncomputable def sy_su (y x e : sy_E) : sy_E := bif sy_eeq e y then x else e
noncomputable def sy_suV (y x : sy_E) (a : sy_V) : sy_V := bif Nat.ble a.1 1 then (a.1, sy_su y x a.2.1, a.2.2) else a
noncomputable def sy_suL (y x : sy_E) (l : sy_L) : sy_L := List.rec [] (fun p _ ih => (p.1, sy_suV y x p.2) :: ih) l
noncomputable def sy_suS (y x : sy_E) (l : List sy_V) : List sy_V := List.rec [] (fun a _ ih => sy_suV y x a :: ih) l
noncomputable def sy_suX (y x : sy_E) (p : (Nat × Nat) × sy_V) : (Nat × Nat) × sy_V := bif Nat.beq p.2.1 10 then (p.1, (10, sy_su y x p.2.2.1, bif Nat.beq p.1.2 7 then p.2.2.2 else sy_su y x p.2.2.2)) else (p.1, sy_suV y x p.2)
noncomputable def sy_suH (y x : sy_E) (H : sy_H) : sy_H := List.rec [] (fun p _ ih => sy_suX y x p :: ih) H
/-- y may go for x -/
noncomputable def sy_suq (K : sy_K) (ks : List Nat) (cs : List sy_Ce) : Bool := sy_ed K (sy_ke ks 1) && sy_eqn K (sy_ke ks 0) (sy_ke ks 1) (sy_cn cs 0) (sy_cn cs 1)
section SYGU
variable {ρ τ : List Int} {K : sy_K} {w : List ri_E} {H : sy_H} {T : Nat → Option sy_C}
theorem sy_hn_ok (hh : sy_hok ρ H w) {q j : Nat} {e : sy_E} (h : sy_hn q j H = some e) : ∃ x : Int, sy_ev ρ e = some x ∧ sy_nv w q j = x := by
  unfold sy_hn at h
  split at h
  · rename_i a ha
    cases hb : Nat.ble a.1 1 with
    | false => rw [hb] at h; cases h
    | true =>
      rw [hb, cond_true] at h
      cases h
      obtain ⟨v, g1, g2⟩ := sy_lk_ok hh ha
      refine ⟨_, sy_num_ev g2 hb, ?_⟩
      unfold sy_nv
      rw [g1]
  · obtain ⟨i, v, g1, g2, g3⟩ := sy_glk_ok (fun v e3 z => by cases z) hh h
    have e9 : i = (j : Int) := (Option.some.inj g1).symm
    refine ⟨v, g2, ?_⟩
    rw [e9] at g3
    exact g3
theorem sy_gdh_ok (hk : sy_ok ρ K) (hh : sy_hok ρ H w) {g : Nat} : ∀ {l : List (Nat × Nat × Int)}, sy_gdh K H g l = true → ∀ x ∈ l, x.2.2 < sy_nv w (pg_U g x).1 (pg_U g x).2
  | [], _, x, hx => by cases hx
  | y :: l, h, x, hx => by
    have h2 : (sy_gd1 K H g y && sy_gdh K H g l) = true := h
    rw [Bool.and_eq_true] at h2
    rcases List.mem_cons.mp hx with rfl | hx
    · have h3 := h2.1
      unfold sy_gd1 at h3
      split at h3
      · rename_i e he
        obtain ⟨z, g1, g2⟩ := sy_hn_ok hh he
        split at h3
        · rename_i r hr
          have b := sy_iv_ok hk hr g1
          rw [sy_le_iff] at h3
          omega
        · cases h3
      · cases h3
    · exact sy_gdh_ok hk hh h2.2 x hx
theorem sy_gdn_ok (hk : sy_ok ρ K) (hh : sy_hok ρ H w) {g : Nat} : ∀ {l : List (Nat × Nat × Int)}, sy_gdn K H g l = true → ∃ x ∈ l, ¬ x.2.2 < sy_nv w (pg_U g x).1 (pg_U g x).2
  | [], h => by cases h
  | y :: l, h => by
    have h2 : (sy_gd0 K H g y || sy_gdn K H g l) = true := h
    rw [Bool.or_eq_true] at h2
    rcases h2 with h3 | h3
    · unfold sy_gd0 at h3
      split at h3
      · rename_i e he
        obtain ⟨z, g1, g2⟩ := sy_hn_ok hh he
        split at h3
        · rename_i r hr
          have b := sy_iv_ok hk hr g1
          rw [sy_le_iff] at h3
          exact ⟨y, List.mem_cons_self, by omega⟩
        · cases h3
      · cases h3
    · obtain ⟨x, hx, h4⟩ := sy_gdn_ok hk hh h3
      exact ⟨x, List.mem_cons_of_mem _ hx, h4⟩
/-- the number of a place that T tells of -/
theorem sy_tnv (ht : ∀ (q : Nat) (c : sy_C), T q = some c → ∀ (j : Nat) (f : sy_FS), sy_fs c j = some f → ∃ v : Value, sy_wv w q j = some v ∧ sy_fv f v) {q j : Nat} {c : sy_C} {f : sy_FS} (hc : T q = some c) (hf : sy_fs c j = some f) (h1 : Nat.ble f.1 1 = true) : ∃ v : Value, sy_wv w q j = some v ∧ f.2.1 ≤ sy_nv w q j ∧ sy_nv w q j ≤ f.2.2 ∧ ∀ e : sy_E, sy_ev ρ e = some (sy_nv w q j) → sy_is ρ (f.1, e, .inl 0) v := by
  obtain ⟨v, g1, g2⟩ := ht q c hc j f hf
  obtain ⟨t, lo, hi⟩ := f
  have h2 : t = 0 ∨ t = 1 := by have := Nat.le_of_ble_eq_true h1; dsimp only at this; omega
  have hn : sy_nv w q j = sy_num v := by unfold sy_nv; rw [g1]
  rw [hn]
  rcases h2 with rfl | rfl
  · obtain ⟨x, rfl, a, b⟩ := (g2 : ∃ x : Int32, v = .int x ∧ lo ≤ x.toInt ∧ x.toInt ≤ hi)
    exact ⟨_, g1, a, b, fun e he => ⟨x, rfl, he⟩⟩
  · obtain ⟨x, rfl, a, b⟩ := (g2 : ∃ x : Int64, v = .long x ∧ lo ≤ x.toInt ∧ x.toInt ≤ hi)
    exact ⟨_, g1, a, b, fun e he => ⟨x, rfl, he⟩⟩
/-- what T tells of the values alone -/
def sy_tv (T : Nat → Option sy_C) (w : List ri_E) : Prop := ∀ (q : Nat) (c : sy_C), T q = some c → ∀ (j : Nat) (f : sy_FS), sy_fs c j = some f → ∃ v : Value, sy_wv w q j = some v ∧ sy_fv f v
theorem sy_tw_tv (ht : sy_tw T w) : sy_tv T w := by
  intro q c hc j f hf
  obtain ⟨vs, g1, g2, g3⟩ := ht q c hc
  obtain ⟨v, g4, g5⟩ := g3 j f hf
  exact ⟨v, by unfold sy_wv; rw [g1]; dsimp only; rw [sy_vals_mk]; exact g4, g5⟩
theorem sy_gnar_ok (ht : sy_tv T w) (hk : sy_ok ρ K) {p : Nat × Nat} {a : sy_E} {K' : sy_K} (ha : sy_ev ρ a = some (sy_nv w p.1 p.2)) (h : sy_gnar T p a K = some K') : sy_ok ρ K' := by
  unfold sy_gnar at h
  split at h
  · rename_i c hc
    split at h
    · rename_i f hf
      cases hb : Nat.ble f.1 1 with
      | false => rw [hb] at h; cases h; exact hk
      | true =>
        rw [hb, cond_true] at h
        obtain ⟨v, g1, g2, g3, -⟩ := sy_tnv (ρ := ρ) ht hc hf hb
        obtain ⟨K2, e2, k2⟩ := sy_nar_ok (e := a) (lo := f.2.1) (hi := f.2.2) hk ha g2 g3
        rw [h] at e2
        cases e2
        exact k2
    · cases h; exact hk
  · cases h; exact hk
theorem sy_gent_ok (ht : sy_tv T w) {p : Nat × Nat} {a : sy_E} (ha : sy_ev ρ a = some (sy_nv w p.1 p.2)) : sy_hx ρ w (sy_gent T p a) := by
  have gh : sy_hx ρ w ((p.1, 0), (10, .inl (Int.ofNat p.2), a)) := Or.inr (Or.inl ⟨rfl, Int.ofNat p.2, _, rfl, ha, rfl⟩)
  unfold sy_gent
  split
  · rename_i c hc
    split
    · rename_i f hf
      cases hb : Nat.ble f.1 1 with
      | false => exact gh
      | true =>
        obtain ⟨v, g1, -, -, g4⟩ := sy_tnv (ρ := ρ) ht hc hf hb
        exact Or.inl ⟨v, g1, g4 a ha⟩
    · exact gh
  · exact gh
theorem sy_g17b_ok (ht : sy_tv T w) (hk : sy_ok ρ K) (hh : sy_hok ρ H w) {src dst : Nat × Nat} {z : sy_H × sy_K} (e : sy_nv w src.1 src.2 = sy_nv w dst.1 dst.2) (h : sy_g17b T src dst H K = some z) : sy_ok ρ z.2 ∧ sy_hok ρ z.1 w := by
  unfold sy_g17b at h
  split at h
  · rename_i a ha
    obtain ⟨x, g1, g2⟩ := sy_hn_ok hh ha
    rw [← g2] at g1
    split at h
    · rename_i K1 hK1
      have k1 := sy_gnar_ok ht hk g1 hK1
      rw [e] at g1
      split at h
      · rename_i K2 hK2
        cases h
        refine ⟨sy_gnar_ok ht k1 g1 hK2, fun y hy => ?_⟩
        rcases List.mem_cons.mp hy with rfl | hy
        · exact sy_gent_ok ht g1
        · exact hh y hy
      · cases h
    · cases h
  · cases h
theorem sy_g17_ok (ht : sy_tv T w) (hk : sy_ok ρ K) (hh : sy_hok ρ H w) {g dir : Nat} {z : sy_H × sy_K} (h : sy_g17 T g dir H K = some z) : sy_ok ρ z.2 ∧ sy_hok ρ z.1 w := by
  unfold sy_g17 at h
  split at h
  · rename_i e he
    cases hb : ((Nat.blt g 16384 && Nat.testBit (sy_gall H) g) && (Nat.beq (g / 512 % 2) 1 || sy_gdh K H g e.2.2.2)) with
    | false => rw [hb] at h; cases h
    | true =>
      rw [hb, cond_true] at h
      rw [Bool.and_eq_true, Bool.and_eq_true, Bool.or_eq_true] at hb
      obtain ⟨⟨b1, b2⟩, b3⟩ := hb
      have k := sy_gall_ok hh g b2 (Nat.le_of_ble_eq_true b1) e he (by
        rcases b3 with b3 | b3
        · exact Or.inl (Nat.eq_of_beq_eq_true b3)
        · exact Or.inr (sy_gdh_ok hk hh b3))
      cases hd : Nat.beq dir 0 with
      | true =>
        rw [hd, cond_true] at h
        exact sy_g17b_ok ht hk hh k h
      | false =>
        rw [hd, cond_false] at h
        exact sy_g17b_ok ht hk hh k.symm h
  · cases h
theorem sy_smn_ok (hk : sy_ok ρ K) (hh : sy_hok ρ H w) {p r : Nat × Nat} (h : sy_smn K H p r = true) : sy_nv w p.1 p.2 = sy_nv w r.1 r.2 := by
  unfold sy_smn at h
  split at h
  · rename_i a ha
    obtain ⟨x, g1, g2⟩ := sy_hn_ok hh ha
    split at h
    · rename_i b hb
      obtain ⟨y, g3, g4⟩ := sy_hn_ok hh hb
      rw [g2, g4]
      rw [Bool.or_eq_true] at h
      rcases h with h | h
      · rw [sy_eeq_ok h, g3] at g1
        exact (Option.some.inj g1).symm
      · split at h
        · rename_i s hs
          split at h
          · rename_i t ht
            have i1 := sy_iv_ok hk hs g1
            have i2 := sy_iv_ok hk ht g3
            simp only [Bool.and_eq_true, sy_le_iff] at h
            omega
          · cases h
        · cases h
    · cases h
  · cases h
theorem sy_ok_nil : sy_ok [] ([], []) := ⟨rfl, fun i r hr => absurd (sy_at_lt hr) (Nat.not_lt_zero _), fun p hp => by cases hp⟩
/-- places that hold one number, whatever is known of it -/
theorem sy_smn0_ok (hh : sy_hok ρ H w) {p r : Nat × Nat} (h : sy_smn ([], []) H p r = true) : sy_nv w p.1 p.2 = sy_nv w r.1 r.2 := by
  unfold sy_smn at h
  split at h
  · rename_i a ha
    obtain ⟨x, g1, g2⟩ := sy_hn_ok hh ha
    split at h
    · rename_i b hb
      obtain ⟨y, g3, g4⟩ := sy_hn_ok hh hb
      rw [g2, g4]
      rw [Bool.or_eq_true] at h
      rcases h with h | h
      · rw [sy_eeq_ok h, g3] at g1
        exact (Option.some.inj g1).symm
      · -- known numbers alone have a range here
        have cst : ∀ {e : sy_E} {s : Int × Int}, sy_iv (([], []) : sy_K) e = some s → ∀ z : Int, sy_ev ρ e = some z → s.1 ≤ z ∧ z ≤ s.2 := by
          intro e s hs z hz
          cases e with
          | inl c => exact sy_iv_ok sy_ok_nil hs (show sy_ev [] (.inl c) = some z from hz)
          | inr i =>
            have h9 : sy_at ([] : List (Int × Int)) i = some s := hs
            exact absurd (sy_at_lt h9) (Nat.not_lt_zero _)
        split at h
        · rename_i s hs
          split at h
          · rename_i t ht
            have i1 := cst hs _ g1
            have i2 := cst ht _ g3
            simp only [Bool.and_eq_true, sy_le_iff] at h
            omega
          · cases h
        · cases h
    · cases h
  · cases h
theorem sy_gok_ok (hk : sy_ok ρ K) (hh : sy_hok ρ H w) {g : Nat} (h : sy_gok K H (sy_gall H) g = true) : pg_ok (sy_nv w) g := by
  intro hg e he hu
  unfold sy_gok at h
  rw [he] at h
  dsimp only at h
  rw [Bool.or_eq_true] at h
  rcases h with h | h
  · exact sy_smn_ok hk hh h
  · cases h1 : Nat.beq (g / 512 % 2) 1 with
    | true =>
      rw [h1, cond_true] at h
      rw [Bool.and_eq_true, Bool.and_eq_true] at h
      obtain ⟨c0, c1, c2⟩ := h
      have h5 := Nat.le_of_ble_eq_true c0
      have n1 : g / 512 % 2 = 1 := Nat.eq_of_beq_eq_true h1
      have e1 : (g - 512) % 512 = g % 512 := by omega
      have e2 : (g - 512) / 4096 = g / 4096 := by omega
      have e3 : (g - 512) / 1024 % 4 = g / 1024 % 4 := by omega
      have k := sy_gall_ok hh (g - 512) c1 (by omega) e (by rw [e1]; exact he)
      unfold pg_A pg_B pg_U at k
      unfold pg_A pg_B
      rw [e2, e3] at k
      exact k (Or.inr (fun x hx => sy_gdh_ok hk hh c2 x hx))
    | false =>
      rw [h1, cond_false, Bool.or_eq_true] at h
      have n0 : g / 512 % 2 = 0 := by
        by_cases n : g / 512 % 2 = 1
        · rw [n] at h1; cases h1
        · omega
      rcases h with h | h
      · have e1 : (g + 512) % 512 = g % 512 := by omega
        have e2 : (g + 512) / 4096 = g / 4096 := by omega
        have e3 : (g + 512) / 1024 % 4 = g / 1024 % 4 := by omega
        have k := sy_gall_ok hh (g + 512) h (by omega) e (by rw [e1]; exact he)
        unfold pg_A pg_B pg_U at k
        unfold pg_A pg_B
        rw [e2, e3] at k
        exact k (Or.inl (by omega))
      · obtain ⟨x, hx, hn⟩ := sy_gdn_ok hk hh h
        rcases hu with hu | hu
        · omega
        · exact absurd (hu x hx) hn
theorem sy_gtr_ok (hh : sy_hok ρ H w) {b g : Nat} {e : pg_E} (h : sy_gtr H b g e = true) : sy_nv w (pg_A g e).1 (pg_A g e).2 = sy_nv w (pg_A (b * 4096 + g % 4096) e).1 (pg_A (b * 4096 + g % 4096) e).2 ∧ ∀ x ∈ e.2.2.2, sy_nv w (pg_U g x).1 (pg_U g x).2 = sy_nv w (pg_U (b * 4096 + g % 4096) x).1 (pg_U (b * 4096 + g % 4096) x).2 := by
  unfold sy_gtr at h
  rw [Bool.and_eq_true] at h
  refine ⟨sy_smn0_ok hh h.1, ?_⟩
  have h2 := h.2
  revert h2
  generalize e.2.2.2 = l
  intro h2
  induction l with
  | nil => intro x hx; cases hx
  | cons y l ih =>
    have h3 : (sy_smn ([], []) H (pg_U g y) (pg_U (b * 4096 + g % 4096) y) && @List.rec _ (fun _ => Bool) true (fun x _ ih => sy_smn ([], []) H (pg_U g x) (pg_U (b * 4096 + g % 4096) x) && ih) l) = true := h2
    rw [Bool.and_eq_true] at h3
    intro x hx
    rcases List.mem_cons.mp hx with rfl | hx
    · exact sy_smn0_ok hh h3.1
    · exact ih h3.2 x hx
theorem sy_gob_ok (hh : sy_hok ρ H w) {b g : Nat} (h : sy_gob H (sy_gall H) b g = true) : pg_ok (sy_nv w) g := by
  intro hg e he hu
  unfold sy_gob at h
  rw [he] at h
  dsimp only at h
  rw [Bool.and_eq_true, Bool.and_eq_true, Bool.and_eq_true] at h
  obtain ⟨c1, c2, c3, c4⟩ := h
  obtain ⟨t1, t2⟩ := sy_gtr_ok hh c4
  have n0 : g / 512 % 2 = 0 := Nat.eq_of_beq_eq_true c1
  have b4 : b < 4 := Nat.le_of_ble_eq_true c3
  have e1 : (b * 4096 + g % 4096) % 512 = g % 512 := by omega
  have k := sy_gall_ok hh _ c2 (by omega) e (by rw [e1]; exact he)
  have eB : pg_B (b * 4096 + g % 4096) e = pg_B g e := by
    unfold pg_B
    rw [show (b * 4096 + g % 4096) / 1024 % 4 = g / 1024 % 4 by omega]
  rw [eB, ← t1] at k
  refine k (Or.inr (fun x hx => ?_))
  rcases hu with hu | hu
  · omega
  · rw [← t2 x hx]; exact hu x hx
theorem sy_gmask_bit {g : Nat} : ∀ {ks : List Nat}, Nat.testBit (sy_gmask ks) g = true → g ∈ ks
  | [], h => by
    have h2 : Nat.testBit 0 g = true := h
    rw [Nat.zero_testBit] at h2
    cases h2
  | k :: ks, h => by
    have h2 : Nat.testBit (1 <<< k ||| sy_gmask ks) g = true := h
    rw [Nat.testBit_or, Bool.or_eq_true] at h2
    rcases h2 with h2 | h2
    · rw [Nat.one_shiftLeft, Nat.testBit_two_pow] at h2
      rw [of_decide_eq_true h2]
      exact List.mem_cons_self
    · exact List.mem_cons_of_mem _ (sy_gmask_bit h2)
theorem sy_galls_ok {f : Nat → Bool} : ∀ {ks : List Nat}, sy_galls f ks = true → ∀ g ∈ ks, f g = true
  | [], _, g, hg => by cases hg
  | k :: ks, h, g, hg => by
    have h2 : (f k && sy_galls f ks) = true := h
    rw [Bool.and_eq_true] at h2
    rcases List.mem_cons.mp hg with rfl | hg
    · exact h2.1
    · exact sy_galls_ok h2.2 g hg
theorem sy_gno_mem {x : (Nat × Nat) × sy_V} : ∀ {H : sy_H}, x ∈ sy_gno H → x ∈ H
  | [], h => by cases h
  | y :: H, h => by
    have h2 : x ∈ (@Bool.rec (fun _ => sy_H) (y :: sy_gno H) (sy_gno H) (Nat.beq y.2.1 11)) := h
    cases hb : Nat.beq y.2.1 11 with
    | true => rw [hb] at h2; exact List.mem_cons_of_mem _ (sy_gno_mem h2)
    | false =>
      rw [hb] at h2
      rcases List.mem_cons.mp h2 with rfl | h3
      · exact List.mem_cons_self
      · exact List.mem_cons_of_mem _ (sy_gno_mem h3)
theorem sy_gin9_ok (hh : sy_hok ρ H w) {ks : List Nat} (h : ∀ g ∈ ks, pg_ok (sy_nv w) g) : sy_hok ρ (sy_gin9 (sy_gmask ks) H) w := by
  intro x hx
  unfold sy_gin9 at hx
  rcases List.mem_cons.mp hx with rfl | hx
  · refine Or.inr (Or.inr ⟨rfl, fun g hg => ?_⟩)
    have h2 : Nat.testBit (sy_gmask ks ||| sy_gall H) g = true := hg
    rw [Nat.testBit_or, Bool.or_eq_true] at h2
    rcases h2 with h2 | h2
    · exact h g (sy_gmask_bit h2)
    · exact sy_gall_ok hh g h2
  · exact hh x (sy_gno_mem hx)
theorem sy_g19_ok (hk : sy_ok ρ K) (hh : sy_hok ρ H w) {a b : Nat} {ks : List Nat} {H' : sy_H} (h : sy_g19 a b ks H K = some H') : sy_hok ρ H' w := by
  unfold sy_g19 at h
  cases ha : Nat.beq a 0 with
  | true =>
    rw [ha, cond_true] at h
    cases hb : sy_galls (sy_gok K H (sy_gall H)) ks with
    | false => rw [hb] at h; cases h
    | true =>
      rw [hb, cond_true] at h
      cases h
      exact sy_gin9_ok hh (fun g hg => sy_gok_ok hk hh (sy_galls_ok hb g hg))
  | false =>
    rw [ha, cond_false] at h
    cases hb : sy_galls (sy_gob H (sy_gall H) b) ks with
    | false => rw [hb] at h; cases h
    | true =>
      rw [hb, cond_true] at h
      cases h
      exact sy_gin9_ok hh (fun g hg => sy_gob_ok hh (sy_galls_ok hb g hg))
/-! one number for another -/
def sy_sub9 (ρ : List Int) (y x : sy_E) : Prop := ∀ z : Int, sy_ev ρ y = some z → sy_ev ρ x = some z
theorem sy_suq_ok (hk : sy_ok ρ K) {ks : List Nat} {cs : List sy_Ce} (h : sy_suq K ks cs = true) : sy_sub9 ρ (sy_ke ks 0) (sy_ke ks 1) := by
  unfold sy_suq at h
  rw [Bool.and_eq_true] at h
  intro z hz
  obtain ⟨x, hx⟩ := sy_ed_ok hk h.1
  rw [sy_eqn_ok hk h.2 hz hx]
  exact hx
theorem sy_su_ok {y x e : sy_E} (hs : sy_sub9 ρ y x) {z : Int} (h : sy_ev ρ e = some z) : sy_ev ρ (sy_su y x e) = some z := by
  unfold sy_su
  cases hb : sy_eeq e y with
  | false => exact h
  | true =>
    rw [sy_eeq_ok hb] at h
    exact hs z h
theorem sy_suV_ok {y x : sy_E} (hs : sy_sub9 ρ y x) {a : sy_V} {v : Value} (h : sy_is ρ a v) : sy_is ρ (sy_suV y x a) v := by
  obtain ⟨t, e, e2⟩ := a
  unfold sy_suV
  dsimp only
  cases hb : Nat.ble t 1 with
  | false => exact h
  | true =>
    rw [cond_true]
    have h2 : t = 0 ∨ t = 1 := by have := Nat.le_of_ble_eq_true hb; omega
    rcases h2 with rfl | rfl
    · obtain ⟨u, rfl, hu⟩ := sy_is_int h
      exact ⟨u, rfl, sy_su_ok hs hu⟩
    · obtain ⟨u, rfl, hu⟩ := sy_is_long h
      exact ⟨u, rfl, sy_su_ok hs hu⟩
theorem sy_suS_ok {y x : sy_E} (hs : sy_sub9 ρ y x) : ∀ {l : List sy_V} {vs : List Value}, sy_st ρ l vs → sy_st ρ (sy_suS y x l) vs
  | [], [], _ => trivial
  | a :: l, v :: vs, h => ⟨sy_suV_ok hs h.1, sy_suS_ok hs h.2⟩
  | [], _ :: _, h => h.elim
  | _ :: _, [], h => h.elim
theorem sy_suL_mem {y x : sy_E} {p : Nat × sy_V} : ∀ {l : sy_L}, p ∈ sy_suL y x l → ∃ r ∈ l, p = (r.1, sy_suV y x r.2)
  | [], h => by cases h
  | r :: l, h => by
    rcases List.mem_cons.mp (show p ∈ (r.1, sy_suV y x r.2) :: sy_suL y x l from h) with h | h
    · exact ⟨r, List.mem_cons_self, h⟩
    · obtain ⟨r2, h2, h3⟩ := sy_suL_mem h
      exact ⟨r2, List.mem_cons_of_mem _ h2, h3⟩
theorem sy_suL_ok {y x : sy_E} (hs : sy_sub9 ρ y x) {l : sy_L} {vs : ri_L} (h : sy_lv ρ l vs) : sy_lv ρ (sy_suL y x l) vs := by
  intro p hp
  obtain ⟨r, h1, rfl⟩ := sy_suL_mem hp
  obtain ⟨v, h2, h3⟩ := h r h1
  exact ⟨v, h2, sy_suV_ok hs h3⟩
theorem sy_suH_mem {y x : sy_E} {p : (Nat × Nat) × sy_V} : ∀ {l : sy_H}, p ∈ sy_suH y x l → ∃ r ∈ l, p = sy_suX y x r
  | [], h => by cases h
  | r :: l, h => by
    rcases List.mem_cons.mp (show p ∈ sy_suX y x r :: sy_suH y x l from h) with h | h
    · exact ⟨r, List.mem_cons_self, h⟩
    · obtain ⟨r2, h2, h3⟩ := sy_suH_mem h
      exact ⟨r2, List.mem_cons_of_mem _ h2, h3⟩
theorem sy_suH_ok {y x : sy_E} (hs : sy_sub9 ρ y x) (hh : sy_hok ρ H w) : sy_hok ρ (sy_suH y x H) w := by
  intro p hp
  obtain ⟨r, h1, rfl⟩ := sy_suH_mem hp
  have h := hh r h1
  unfold sy_suX
  cases hb : Nat.beq r.2.1 10 with
  | true =>
    have k10 : r.2.1 = 10 := Nat.eq_of_beq_eq_true hb
    rw [cond_true]
    rcases h with ⟨v, -, g⟩ | ⟨-, g⟩ | ⟨g, -⟩
    · exact absurd k10 (sy_is_lt g).1
    · refine Or.inr (Or.inl ⟨rfl, ?_⟩)
      refine sy_gh_tr g (fun z hz => sy_su_ok hs hz) (fun n z hz => ?_) (fun n => ?_)
      · cases h7 : Nat.beq r.1.2 7 with
        | true => exact absurd (Nat.eq_of_beq_eq_true h7) n
        | false => exact sy_su_ok hs hz
      · rw [n]; rfl
    · omega
  | false =>
    rw [cond_false]
    have n10 : r.2.1 ≠ 10 := fun n => by rw [n] at hb; cases hb
    rcases h with ⟨v, g1, g⟩ | ⟨g, -⟩ | ⟨g1, g⟩
    · exact Or.inl ⟨v, g1, sy_suV_ok hs g⟩
    · exact absurd g n10
    · have e : sy_suV y x r.2 = r.2 := by
        unfold sy_suV
        rw [show Nat.ble r.2.1 1 = false by rw [g1]; rfl]
        rfl
      rw [e]
      exact Or.inr (Or.inr ⟨g1, g⟩)
end SYGU
