/-! ===== the surveyor, part 7: worlds of which ranges are known ===== -/
/-- what a place of a cell holds: 0 an int between, 1 a long between, 2 a double whose floor is between, 3 the reference of that number -/
abbrev sy_FS : Type := Nat × Int × Int
/-- a cell: an object (true) or an array, of which kind, how many places, what each holds (one for all, or one each) -/
abbrev sy_C : Type := Bool × Nat × Nat × (sy_FS ⊕ List sy_FS)
noncomputable def sy_fs (c : sy_C) (j : Nat) : Option sy_FS := bif Nat.blt j c.2.2.1 then (match c.2.2.2 with
  | .inl f => some f
  | .inr l => ri_nth l j) else none
def sy_fv (f : sy_FS) (v : Value) : Prop := match f.1 with
  | 0 => ∃ x : Int32, v = .int x ∧ f.2.1 ≤ x.toInt ∧ x.toInt ≤ f.2.2
  | 1 => ∃ x : Int64, v = .long x ∧ f.2.1 ≤ x.toInt ∧ x.toInt ≤ f.2.2
  | 2 => ∃ (x : UInt64) (k : Int), v = .double x ∧ sy_db k x ∧ f.2.1 ≤ k ∧ k ≤ f.2.2
  | 3 => v = .ref f.2.1.toNat
  | _ => False
def sy_mkE (o : Bool) (t : Nat) (vs : List Value) : ri_E := match o with
  | true => .inr (t, vs)
  | false => .inl (t, vs)
def sy_vals (e : ri_E) : List Value := match e with
  | .inl a => a.2
  | .inr a => a.2
theorem sy_vals_mk (o : Bool) (t : Nat) (vs : List Value) : sy_vals (sy_mkE o t vs) = vs := by cases o <;> rfl
/-- every cell that T tells of is as it tells -/
def sy_tw (T : Nat → Option sy_C) (w : List ri_E) : Prop := ∀ (q : Nat) (c : sy_C), T q = some c → ∃ vs : List Value, w[q]? = some (sy_mkE c.1 c.2.1 vs) ∧ vs.length = c.2.2.1 ∧ ∀ (j : Nat) (f : sy_FS), sy_fs c j = some f → ∃ v : Value, vs[j]? = some v ∧ sy_fv f v
/-- what a place holds -/
def sy_wv (w : List ri_E) (q j : Nat) : Option Value := match w[q]? with
  | some e => (sy_vals e)[j]?
  | none => none
abbrev sy_H : Type := List ((Nat × Nat) × sy_V)
noncomputable def sy_num (v : Value) : Int := match v with
  | .int x => x.toInt
  | .long x => x.toInt
  | .double x => sd_z x / sd_U
  | _ => 0
noncomputable def sy_nv (w : List ri_E) (q j : Nat) : Int := match sy_wv w q j with
  | some v => sy_num v
  | none => 0
/-! what is told of a row, not of a place: kinds (of an entry whose value is of kind 10) 0: what stands at e is e2; 1 to 3: from e to e2 (not with it) blanks, letters, figures alone; 4 to 6: at e that row ends, be it by e2; 7: below e that row is as row e2 -/
def sy_gk (k : Nat) : Int × Int := match k with
  | 0 => (32, 32)
  | 1 => (97, 122)
  | _ => (48, 57)
/-- a number of that kind -/
def sy_gin (k : Nat) (x : Int) : Prop := (sy_gk k).1 ≤ x ∧ x ≤ (sy_gk k).2
def sy_gh (ρ : List Int) (w : List ri_E) (q k : Nat) (e e2 : sy_E) : Prop := match k with
  | 0 => ∃ i v : Int, sy_ev ρ e = some i ∧ sy_ev ρ e2 = some v ∧ sy_nv w q i.toNat = v
  | 1 => ∃ a b : Int, sy_ev ρ e = some a ∧ sy_ev ρ e2 = some b ∧ ∀ j : Int, a ≤ j → j < b → sy_gin 0 (sy_nv w q j.toNat)
  | 2 => ∃ a b : Int, sy_ev ρ e = some a ∧ sy_ev ρ e2 = some b ∧ ∀ j : Int, a ≤ j → j < b → sy_gin 1 (sy_nv w q j.toNat)
  | 3 => ∃ a b : Int, sy_ev ρ e = some a ∧ sy_ev ρ e2 = some b ∧ ∀ j : Int, a ≤ j → j < b → sy_gin 2 (sy_nv w q j.toNat)
  | 4 => ∃ p b : Int, sy_ev ρ e = some p ∧ sy_ev ρ e2 = some b ∧ (b ≤ p ∨ ¬ sy_gin 0 (sy_nv w q p.toNat))
  | 5 => ∃ p b : Int, sy_ev ρ e = some p ∧ sy_ev ρ e2 = some b ∧ (b ≤ p ∨ ¬ sy_gin 1 (sy_nv w q p.toNat))
  | 6 => ∃ p b : Int, sy_ev ρ e = some p ∧ sy_ev ρ e2 = some b ∧ (b ≤ p ∨ ¬ sy_gin 2 (sy_nv w q p.toNat))
  | 7 => ∃ (b : Int) (q2 : Nat), sy_ev ρ e = some b ∧ e2 = .inl (Int.ofNat q2) ∧ ∀ j : Nat, (j : Int) < b → sy_nv w q j = sy_nv w q2 j
  | _ => False
theorem sy_gh_app {ρ : List Int} {w : List ri_E} {q k : Nat} {e e2 : sy_E} (h : sy_gh ρ w q k e e2) (m : List Int) : sy_gh (m ++ ρ) w q k e e2 := by
  unfold sy_gh at h ⊢
  split at h
  · obtain ⟨a, b, h1, h2, h3⟩ := h; exact ⟨a, b, sy_ev_app h1 m, sy_ev_app h2 m, h3⟩
  · obtain ⟨a, b, h1, h2, h3⟩ := h; exact ⟨a, b, sy_ev_app h1 m, sy_ev_app h2 m, h3⟩
  · obtain ⟨a, b, h1, h2, h3⟩ := h; exact ⟨a, b, sy_ev_app h1 m, sy_ev_app h2 m, h3⟩
  · obtain ⟨a, b, h1, h2, h3⟩ := h; exact ⟨a, b, sy_ev_app h1 m, sy_ev_app h2 m, h3⟩
  · obtain ⟨a, b, h1, h2, h3⟩ := h; exact ⟨a, b, sy_ev_app h1 m, sy_ev_app h2 m, h3⟩
  · obtain ⟨a, b, h1, h2, h3⟩ := h; exact ⟨a, b, sy_ev_app h1 m, sy_ev_app h2 m, h3⟩
  · obtain ⟨a, b, h1, h2, h3⟩ := h; exact ⟨a, b, sy_ev_app h1 m, sy_ev_app h2 m, h3⟩
  · obtain ⟨a, b, h1, h2, h3⟩ := h; exact ⟨a, b, sy_ev_app h1 m, h2, h3⟩
  · exact h.elim
/-- the cell that an entry speaks of beside its own -/
def sy_isq (e : sy_E) (q : Nat) : Bool := match e with
  | .inl (.ofNat n) => Nat.beq n q
  | _ => false
theorem sy_isq_self (q : Nat) : sy_isq (.inl (Int.ofNat q)) q = true := by
  show Nat.beq q q = true
  rw [Nat.beq_eq]
theorem sy_gh_same {ρ : List Int} {w w' : List ri_E} {q k : Nat} {e e2 : sy_E} (h : sy_gh ρ w q k e e2) (h1 : ∀ j : Nat, sy_nv w' q j = sy_nv w q j) (h2 : ∀ q2 : Nat, k = 7 → e2 = .inl (Int.ofNat q2) → ∀ j : Nat, sy_nv w' q2 j = sy_nv w q2 j) : sy_gh ρ w' q k e e2 := by
  unfold sy_gh at h ⊢
  split at h
  · obtain ⟨a, b, g1, g2, g3⟩ := h; exact ⟨a, b, g1, g2, by rw [h1]; exact g3⟩
  · obtain ⟨a, b, g1, g2, g3⟩ := h; exact ⟨a, b, g1, g2, fun j x y => by rw [h1]; exact g3 j x y⟩
  · obtain ⟨a, b, g1, g2, g3⟩ := h; exact ⟨a, b, g1, g2, fun j x y => by rw [h1]; exact g3 j x y⟩
  · obtain ⟨a, b, g1, g2, g3⟩ := h; exact ⟨a, b, g1, g2, fun j x y => by rw [h1]; exact g3 j x y⟩
  · obtain ⟨a, b, g1, g2, g3⟩ := h; exact ⟨a, b, g1, g2, by rw [h1]; exact g3⟩
  · obtain ⟨a, b, g1, g2, g3⟩ := h; exact ⟨a, b, g1, g2, by rw [h1]; exact g3⟩
  · obtain ⟨a, b, g1, g2, g3⟩ := h; exact ⟨a, b, g1, g2, by rw [h1]; exact g3⟩
  · obtain ⟨b, q2, g1, g2, g3⟩ := h; exact ⟨b, q2, g1, g2, fun j x => by rw [h1, h2 q2 rfl g2]; exact g3 j x⟩
  · exact h.elim
/-! guests: an entry whose value is of kind 11 -/
def sy_gn (a : sy_V) : Nat := match a.2.1 with
  | .inr n => n
  | .inl _ => 0
def sy_gs (w : List ri_E) (G : Nat) : Prop := ∀ g : Nat, Nat.testBit G g = true → pg_ok (sy_nv w) g
def sy_gm (k G : Nat) : Nat := Nat.xor G (Nat.land G k)
theorem sy_gm_bit {k G g : Nat} (h : Nat.testBit (sy_gm k G) g = true) : Nat.testBit G g = true ∧ Nat.testBit k g = false := by
  have h2 : Nat.testBit (G ^^^ (G &&& k)) g = true := h
  rw [Nat.testBit_xor, Nat.testBit_and] at h2
  cases hG : Nat.testBit G g <;> cases hk : Nat.testBit k g <;> rw [hG, hk] at h2 <;> first | exact ⟨rfl, rfl⟩ | cases h2
theorem sy_gs_same {w w' : List ri_E} {G : Nat} (h : sy_gs w G) (e : ∀ q j : Nat, sy_nv w' q j = sy_nv w q j) : sy_gs w' G := by
  have e2 : sy_nv w' = sy_nv w := funext (fun q => funext (fun j => e q j))
  intro g hg
  rw [e2]
  exact h g hg
def sy_hx (ρ : List Int) (w : List ri_E) (x : (Nat × Nat) × sy_V) : Prop := (∃ v : Value, sy_wv w x.1.1 x.1.2 = some v ∧ sy_is ρ x.2 v) ∨ (x.2.1 = 10 ∧ sy_gh ρ w x.1.1 x.1.2 x.2.2.1 x.2.2.2) ∨ (x.2.1 = 11 ∧ sy_gs w (sy_gn x.2))
def sy_hok (ρ : List Int) (H : sy_H) (w : List ri_E) : Prop := ∀ x ∈ H, sy_hx ρ w x
theorem sy_hok_app {ρ : List Int} {H : sy_H} {w : List ri_E} (h : sy_hok ρ H w) (m : List Int) : sy_hok (m ++ ρ) H w := fun x hx => by
  rcases h x hx with ⟨v, h1, h2⟩ | ⟨h1, h2⟩ | h
  · exact Or.inl ⟨v, h1, sy_is_app h2 m⟩
  · exact Or.inr (Or.inl ⟨h1, sy_gh_app h2 m⟩)
  · exact Or.inr (Or.inr h)
noncomputable def sy_lk (q j : Nat) (H : sy_H) : Option sy_V := List.rec none (fun x _ ih => @Bool.rec (fun _ => Option sy_V) ih (some x.2) ((Nat.beq x.1.1 q && Nat.beq x.1.2 j) && Nat.blt x.2.1 10)) H
theorem sy_lk_mem {q j : Nat} {a : sy_V} : ∀ {H : sy_H}, sy_lk q j H = some a → ((q, j), a) ∈ H ∧ a.1 < 10
  | [], h => by cases h
  | ((q2, j2), b) :: H, h => by
    have h2 : (@Bool.rec (fun _ => Option sy_V) (sy_lk q j H) (some b) ((Nat.beq q2 q && Nat.beq j2 j) && Nat.blt b.1 10)) = some a := h
    cases hb : ((Nat.beq q2 q && Nat.beq j2 j) && Nat.blt b.1 10) with
    | true =>
      rw [hb] at h2
      rw [Bool.and_eq_true, Bool.and_eq_true] at hb
      have e9 := Option.some.inj h2
      subst e9
      rw [Nat.eq_of_beq_eq_true hb.1.1, Nat.eq_of_beq_eq_true hb.1.2]
      exact ⟨List.mem_cons_self, Nat.le_of_ble_eq_true hb.2⟩
    | false =>
      rw [hb] at h2
      exact ⟨List.mem_cons_of_mem _ (sy_lk_mem h2).1, (sy_lk_mem h2).2⟩
theorem sy_lk_ok {ρ : List Int} {w : List ri_E} {q j : Nat} {a : sy_V} {H : sy_H} (hh : sy_hok ρ H w) (h : sy_lk q j H = some a) : ∃ v : Value, sy_wv w q j = some v ∧ sy_is ρ a v := by
  obtain ⟨h1, h2⟩ := sy_lk_mem h
  rcases hh _ h1 with h3 | ⟨h3, -⟩ | ⟨h3, -⟩
  · exact h3
  · have h4 : a.1 = 10 := h3
    omega
  · have h4 : a.1 = 11 := h3
    omega
/-- a value of which no more is known than its place tells -/
noncomputable def sy_fresh (f : sy_FS) (K : sy_K) : Option (sy_V × sy_K) := match f.1 with
  | 0 => some (sy_mk 0 f.2.1 f.2.2 [] K)
  | 1 => some (sy_mk 1 f.2.1 f.2.2 [] K)
  | 2 => some (sy_mk 2 f.2.1 f.2.2 [] K)
  | 3 => some ((3, .inr f.2.1.toNat, .inl 0), K)
  | _ => none
theorem sy_fresh_ok {ρ : List Int} {f : sy_FS} {K K' : sy_K} {a : sy_V} {v : Value} (hk : sy_ok ρ K) (h : sy_fresh f K = some (a, K')) (hv : sy_fv f v) : ∃ m : List Int, sy_ok (m ++ ρ) K' ∧ sy_is (m ++ ρ) a v := by
  obtain ⟨t, lo, hi⟩ := f
  unfold sy_fresh at h
  unfold sy_fv at hv
  dsimp only at h hv
  split at h
  · obtain ⟨x, rfl, h1, h2⟩ := hv
    have h9 := sy_mk_ok (t := 0) (lo := lo) (hi := hi) (fs := []) (v := .int x) (z0 := x.toInt) (z := x.toInt) hk ⟨x, rfl, rfl⟩ h1 h2 (fun _ _ => rfl) (fun p hp => by cases hp)
    rw [Option.some.inj h] at h9
    exact h9
  · obtain ⟨x, rfl, h1, h2⟩ := hv
    have h9 := sy_mk_ok (t := 1) (lo := lo) (hi := hi) (fs := []) (v := .long x) (z0 := x.toInt) (z := x.toInt) hk ⟨x, rfl, rfl⟩ h1 h2 (fun _ _ => rfl) (fun p hp => by cases hp)
    rw [Option.some.inj h] at h9
    exact h9
  · obtain ⟨x, k, rfl, hd, h1, h2⟩ := hv
    have h9 := sy_mk_ok (t := 2) (lo := lo) (hi := hi) (fs := []) (v := .double x) (z0 := k) (z := k) hk ⟨x, rfl, hd⟩ h1 h2 (fun _ _ => rfl) (fun p hp => by cases hp)
    rw [Option.some.inj h] at h9
    exact h9
  · cases h
    exact ⟨[], hk, _, hv, rfl⟩
  · cases h
/-- a place that is read -/
noncomputable def sy_ld (T : Nat → Option sy_C) (q j : Nat) (H : sy_H) (K : sy_K) : Option (sy_V × sy_H × sy_K) := match sy_lk q j H with
  | some a => some (a, H, K)
  | none => (match T q with
    | some c => (match sy_fs c j with
      | some f => (match sy_fresh f K with
        | some z => some (z.1, ((q, j), z.1) :: H, z.2)
        | none => none)
      | none => none)
    | none => none)
theorem sy_ld_ok {T : Nat → Option sy_C} {ρ : List Int} {q j : Nat} {H H' : sy_H} {K K' : sy_K} {a : sy_V} {w : List ri_E} (hk : sy_ok ρ K) (hh : sy_hok ρ H w) (ht : sy_tw T w) (h : sy_ld T q j H K = some (a, H', K')) :
    ∃ (m : List Int) (v : Value), sy_wv w q j = some v ∧ sy_is (m ++ ρ) a v ∧ sy_ok (m ++ ρ) K' ∧ sy_hok (m ++ ρ) H' w := by
  unfold sy_ld at h
  split at h
  · rename_i b hb
    cases h
    obtain ⟨v, h1, h2⟩ := sy_lk_ok hh hb
    exact ⟨[], v, h1, h2, hk, hh⟩
  · split at h
    · rename_i c hc
      split at h
      · rename_i f hf
        split at h
        · rename_i z hz
          cases h
          obtain ⟨vs, g1, g2, g3⟩ := ht q c hc
          obtain ⟨v, g4, g5⟩ := g3 j f hf
          obtain ⟨m, k1, k2⟩ := sy_fresh_ok (a := z.1) (K' := z.2) hk hz g5
          have hv : sy_wv w q j = some v := by unfold sy_wv; rw [g1]; dsimp only; rw [sy_vals_mk]; exact g4
          refine ⟨m, v, hv, k2, k1, ?_⟩
          intro x hx
          rcases List.mem_cons.mp hx with rfl | hx
          · exact Or.inl ⟨v, hv, k2⟩
          · exact sy_hok_app hh m x hx
        · cases h
      · cases h
    · cases h
/-! stores -/
/-- a value that a place may take -/
noncomputable def sy_fits (f : sy_FS) (a : sy_V) (K : sy_K) : Bool := Nat.beq f.1 a.1 && (match f.1 with
  | 0 => (match sy_iv K a.2.1 with | some r => sy_le f.2.1 r.1 && sy_le r.2 f.2.2 | none => false)
  | 1 => (match sy_iv K a.2.1 with | some r => sy_le f.2.1 r.1 && sy_le r.2 f.2.2 | none => false)
  | 2 => (match sy_iv K a.2.1 with | some r => sy_le f.2.1 r.1 && sy_le r.2 f.2.2 | none => false)
  | _ => false)
theorem sy_fits_ok {ρ : List Int} {f : sy_FS} {a : sy_V} {K : sy_K} {v : Value} (hk : sy_ok ρ K) (h : sy_fits f a K = true) (hv : sy_is ρ a v) : sy_fv f v := by
  obtain ⟨t, lo, hi⟩ := f
  obtain ⟨t2, e, e2⟩ := a
  unfold sy_fits at h
  rw [Bool.and_eq_true] at h
  have e9 : t = t2 := Nat.eq_of_beq_eq_true h.1
  subst e9
  have h2 := h.2
  unfold sy_is at hv
  unfold sy_fv
  dsimp only at h2 hv ⊢
  split at h2
  · obtain ⟨x, rfl, hx⟩ := hv
    split at h2
    · rename_i r hr
      have b := sy_iv_ok hk hr hx
      rw [Bool.and_eq_true, sy_le_iff, sy_le_iff] at h2
      exact ⟨x, rfl, by omega, by omega⟩
    · cases h2
  · obtain ⟨x, rfl, hx⟩ := hv
    split at h2
    · rename_i r hr
      have b := sy_iv_ok hk hr hx
      rw [Bool.and_eq_true, sy_le_iff, sy_le_iff] at h2
      exact ⟨x, rfl, by omega, by omega⟩
    · cases h2
  · obtain ⟨x, k, rfl, hx, hd⟩ := hv
    split at h2
    · rename_i r hr
      have b := sy_iv_ok hk hr hx
      rw [Bool.and_eq_true, sy_le_iff, sy_le_iff] at h2
      exact ⟨x, k, rfl, hd.1, by omega, by omega⟩
    · cases h2
  · cases h2
/-- facts that a store between lo and hi of a cell leaves -/
noncomputable def sy_hdc (q lo hi : Nat) (x : (Nat × Nat) × sy_V) : Bool := (Nat.beq x.1.1 q && (Nat.beq x.2.1 10 || (Nat.ble lo x.1.2 && Nat.ble x.1.2 hi))) || (Nat.beq x.2.1 10 && (Nat.beq x.1.2 7 && sy_isq x.2.2.2 q))
/-- an entry behind a store: guests that it touched are gone -/
noncomputable def sy_hkm (k : Nat) (x : (Nat × Nat) × sy_V) : (Nat × Nat) × sy_V := @Bool.rec (fun _ => (Nat × Nat) × sy_V) x (x.1, (11, .inr (sy_gm k (sy_gn x.2)), .inl 0)) (Nat.beq x.2.1 11)
noncomputable def sy_hdk (k q lo hi : Nat) (H : sy_H) : sy_H := List.rec [] (fun x _ ih => @Bool.rec (fun _ => sy_H) (sy_hkm k x :: ih) ih (sy_hdc q lo hi x)) H
noncomputable def sy_hdrop (q lo hi : Nat) (H : sy_H) : sy_H := sy_hdk (pg_kr q lo hi) q lo hi H
theorem sy_hdc_no {q lo hi : Nat} {x : (Nat × Nat) × sy_V} (h : sy_hdc q lo hi x = false) : ¬ (x.1.1 = q ∧ lo ≤ x.1.2 ∧ x.1.2 ≤ hi) ∧ (x.2.1 = 10 → x.1.1 ≠ q ∧ (x.1.2 = 7 → sy_isq x.2.2.2 q = false)) := by
  unfold sy_hdc at h
  rw [Bool.or_eq_false_iff] at h
  obtain ⟨h1, h2⟩ := h
  refine ⟨fun ⟨c1, c2, c3⟩ => ?_, fun h3 => ⟨fun c1 => ?_, fun h7 => ?_⟩⟩
  · rw [show Nat.beq x.1.1 q = true by rw [Nat.beq_eq]; exact c1, Nat.ble_eq_true_of_le c2, Nat.ble_eq_true_of_le c3] at h1
    simp at h1
  · rw [show Nat.beq x.1.1 q = true by rw [Nat.beq_eq]; exact c1, show Nat.beq x.2.1 10 = true by rw [Nat.beq_eq]; exact h3] at h1
    cases h1
  · rw [show Nat.beq x.2.1 10 = true by rw [Nat.beq_eq]; exact h3, show Nat.beq x.1.2 7 = true by rw [Nat.beq_eq]; exact h7] at h2
    exact h2
theorem sy_hdk_mem {k q lo hi : Nat} {x : (Nat × Nat) × sy_V} : ∀ {H : sy_H}, x ∈ sy_hdk k q lo hi H → ∃ y ∈ H, sy_hdc q lo hi y = false ∧ x = sy_hkm k y
  | [], h => by cases h
  | y :: H, h => by
    have h2 : x ∈ (@Bool.rec (fun _ => sy_H) (sy_hkm k y :: sy_hdk k q lo hi H) (sy_hdk k q lo hi H) (sy_hdc q lo hi y)) := h
    cases hb : sy_hdc q lo hi y with
    | true =>
      rw [hb] at h2
      obtain ⟨z, a, b⟩ := sy_hdk_mem h2
      exact ⟨z, List.mem_cons_of_mem _ a, b⟩
    | false =>
      rw [hb] at h2
      rcases List.mem_cons.mp h2 with h3 | h3
      · exact ⟨y, List.mem_cons_self, hb, h3⟩
      · obtain ⟨z, a, b⟩ := sy_hdk_mem h3
        exact ⟨z, List.mem_cons_of_mem _ a, b⟩
/-- one place of a cell is another value -/
def sy_put (w : List ri_E) (q j : Nat) (v : Value) : List ri_E := match w[q]? with
  | some (.inl a) => w.set q (.inl (a.1, a.2.set j v))
  | some (.inr a) => w.set q (.inr (a.1, a.2.set j v))
  | none => w
theorem sy_put_wv {w : List ri_E} {q j : Nat} {v u : Value} (h : sy_wv w q j = some u) (q2 j2 : Nat) : sy_wv (sy_put w q j v) q2 j2 = if q2 = q ∧ j2 = j then some v else sy_wv w q2 j2 := by
  unfold sy_wv at h
  split at h
  · rename_i e he
    have hq := (List.getElem?_eq_some_iff.mp he).1
    unfold sy_put
    rw [he]
    cases e with
    | inl a =>
      dsimp only
      have hj : j < a.2.length := (List.getElem?_eq_some_iff.mp h).1
      by_cases c1 : q2 = q
      · subst c1
        unfold sy_wv
        rw [List.getElem?_set_self hq, he]
        show (a.2.set j v)[j2]? = _
        by_cases c2 : j2 = j
        · subst c2
          rw [if_pos ⟨rfl, rfl⟩, List.getElem?_set_self hj]
        · rw [if_neg (fun z => c2 z.2), List.getElem?_set_ne (fun z => c2 z.symm)]
          rfl
      · unfold sy_wv
        rw [if_neg (fun z => c1 z.1), List.getElem?_set_ne (fun z => c1 z.symm)]
    | inr a =>
      dsimp only
      have hj : j < a.2.length := (List.getElem?_eq_some_iff.mp h).1
      by_cases c1 : q2 = q
      · subst c1
        unfold sy_wv
        rw [List.getElem?_set_self hq, he]
        show (a.2.set j v)[j2]? = _
        by_cases c2 : j2 = j
        · subst c2
          rw [if_pos ⟨rfl, rfl⟩, List.getElem?_set_self hj]
        · rw [if_neg (fun z => c2 z.2), List.getElem?_set_ne (fun z => c2 z.symm)]
          rfl
      · unfold sy_wv
        rw [if_neg (fun z => c1 z.1), List.getElem?_set_ne (fun z => c1 z.symm)]
  · cases h
theorem sy_put_tw {T : Nat → Option sy_C} {w : List ri_E} {q j : Nat} {c : sy_C} {f : sy_FS} {v : Value} (ht : sy_tw T w) (hc : T q = some c) (hf : sy_fs c j = some f) (hv : sy_fv f v) : sy_tw T (sy_put w q j v) := by
  intro q2 c2 hc2
  obtain ⟨vs, g1, g2, g3⟩ := ht q c hc
  have hq := (List.getElem?_eq_some_iff.mp g1).1
  obtain ⟨u, g4, -⟩ := g3 j f hf
  have hj := (List.getElem?_eq_some_iff.mp g4).1
  have e : sy_put w q j v = w.set q (sy_mkE c.1 c.2.1 (vs.set j v)) := by
    unfold sy_put
    rw [g1]
    cases c.1 <;> rfl
  rw [e]
  by_cases h : q2 = q
  · subst h
    cases Option.some.inj (hc2.symm.trans hc)
    refine ⟨vs.set j v, List.getElem?_set_self hq, by rw [List.length_set]; exact g2, ?_⟩
    intro j2 f2 hf2
    by_cases h2 : j2 = j
    · subst h2
      cases Option.some.inj (hf2.symm.trans hf)
      exact ⟨v, List.getElem?_set_self hj, hv⟩
    · obtain ⟨u2, k1, k2⟩ := g3 j2 f2 hf2
      exact ⟨u2, by rw [List.getElem?_set_ne (fun z => h2 z.symm)]; exact k1, k2⟩
  · rw [List.getElem?_set_ne (fun z => h z.symm)]
    exact ht q2 c2 hc2
/-! rules: places, and polynomials in what they hold: of each row one is at least 0 -/
abbrev sy_R : Type := List (Nat × Nat) × List (List sy_P)
noncomputable def sy_rv (w : List ri_E) (S : List (Nat × Nat)) (i : Nat) : Int := match S[i]? with
  | some x => sy_nv w x.1 x.2
  | none => 0
def sy_holds (w : List ri_E) (r : sy_R) : Prop := ∀ c ∈ r.2, ∃ p ∈ c, 0 ≤ sy_ep (sy_rv w r.1) p
/-- the rules by their numbers, and the numbers of those that speak of a place -/
abbrev sy_RT : Type := (Nat → Option sy_R) × (Nat → Nat → List Nat)
def sy_ru (RU : sy_RT) (D : List Nat) (w : List ri_E) : Prop := (∀ (i : Nat) (r : sy_R), RU.1 i = some r → ∀ x ∈ r.1, i ∈ RU.2 x.1 x.2) ∧ ∀ (i : Nat) (r : sy_R), RU.1 i = some r → i ∉ D → sy_holds w r
noncomputable def sy_inD (n : Nat) (D : List Nat) : Bool := List.rec false (fun x _ ih => Nat.beq x n || ih) D
theorem sy_inD_no {n : Nat} : ∀ {D : List Nat}, sy_inD n D = false → n ∉ D
  | [], _, h => by cases h
  | x :: D, h, hm => by
    have h2 : (Nat.beq x n || sy_inD n D) = false := h
    rw [Bool.or_eq_false_iff] at h2
    rcases List.mem_cons.mp hm with e | e
    · rw [e, show Nat.beq x x = true by rw [Nat.beq_eq]] at h2
      cases h2.1
    · exact sy_inD_no h2.2 e
theorem sy_inD_yes {n : Nat} : ∀ {D : List Nat}, sy_inD n D = true → n ∈ D
  | [], h => by cases h
  | x :: D, h => by
    have h2 : (Nat.beq x n || sy_inD n D) = true := h
    rw [Bool.or_eq_true] at h2
    rcases h2 with h2 | h2
    · rw [Nat.eq_of_beq_eq_true h2]; exact List.mem_cons_self
    · exact List.mem_cons_of_mem _ (sy_inD_yes h2)
/-- numbers laid into a row where they aren't there yet -/
noncomputable def sy_ins (l D : List Nat) : List Nat := List.rec D (fun i _ ih => @Bool.rec (fun _ => List Nat) (i :: ih) ih (sy_inD i ih)) l
theorem sy_ins_no {D : List Nat} {k : Nat} : ∀ {l : List Nat}, k ∉ sy_ins l D → k ∉ D ∧ k ∉ l
  | [], h => ⟨h, fun z => by cases z⟩
  | i :: l, h => by
    have h2 : k ∉ (@Bool.rec (fun _ => List Nat) (i :: sy_ins l D) (sy_ins l D) (sy_inD i (sy_ins l D))) := h
    have h3 : k ∉ sy_ins l D ∧ k ≠ i := by
      cases hb : sy_inD i (sy_ins l D) with
      | true =>
        rw [hb] at h2
        exact ⟨h2, fun z => h2 (by rw [z]; exact sy_inD_yes hb)⟩
      | false =>
        rw [hb] at h2
        exact ⟨fun z => h2 (List.mem_cons_of_mem _ z), fun z => h2 (by rw [z]; exact List.mem_cons_self)⟩
    obtain ⟨h4, h5⟩ := sy_ins_no h3.1
    refine ⟨h4, fun z => ?_⟩
    rcases List.mem_cons.mp z with e | e
    · exact h3.2 e
    · exact h5 e
/-- the rules that a store between lo and hi of a cell touches -/
noncomputable def sy_tchn (q lo : Nat) (RU : sy_RT) (D : List Nat) (n : Nat) : List Nat := Nat.rec D (fun k ih => sy_ins (RU.2 q (lo + k)) ih) n
noncomputable def sy_touch (q lo hi : Nat) (RU : sy_RT) (D : List Nat) : List Nat := sy_tchn q lo RU D (hi + 1 - lo)
theorem sy_tchn_no {q lo : Nat} {RU : sy_RT} {D : List Nat} {i : Nat} : ∀ {n : Nat}, i ∉ sy_tchn q lo RU D n → i ∉ D ∧ ∀ k : Nat, k < n → i ∉ RU.2 q (lo + k)
  | 0, h => ⟨h, fun k hk => absurd hk (Nat.not_lt_zero _)⟩
  | n + 1, h => by
    have h2 : i ∉ sy_ins (RU.2 q (lo + n)) (sy_tchn q lo RU D n) := h
    obtain ⟨h3, h4⟩ := sy_ins_no h2
    obtain ⟨h5, h6⟩ := sy_tchn_no h3
    refine ⟨h5, fun k hk => ?_⟩
    by_cases e : k = n
    · rw [e]; exact h4
    · exact h6 k (by omega)
theorem sy_touch_no {q lo hi i : Nat} {RU : sy_RT} {D : List Nat} (h : i ∉ sy_touch q lo hi RU D) : i ∉ D ∧ ∀ j : Nat, lo ≤ j → j ≤ hi → i ∉ RU.2 q j := by
  obtain ⟨h1, h2⟩ := sy_tchn_no h
  refine ⟨h1, fun j a b => ?_⟩
  have h3 := h2 (j - lo) (by omega)
  rw [show lo + (j - lo) = j by omega] at h3
  exact h3
/-- worlds that are alike but between lo and hi of a cell -/
def sy_but (w w' : List ri_E) (q lo hi : Nat) : Prop := ∀ q2 j2 : Nat, ¬ (q2 = q ∧ lo ≤ j2 ∧ j2 ≤ hi) → sy_wv w' q2 j2 = sy_wv w q2 j2
theorem sy_but_ru {RU : sy_RT} {D : List Nat} {w w' : List ri_E} {q lo hi : Nat} (h : sy_ru RU D w) (hb : sy_but w w' q lo hi) : sy_ru RU (sy_touch q lo hi RU D) w' := by
  refine ⟨h.1, ?_⟩
  intro i r hr hi9
  obtain ⟨h1, h2⟩ := sy_touch_no hi9
  intro c hc
  obtain ⟨p, hp, h4⟩ := h.2 i r hr h1 c hc
  refine ⟨p, hp, ?_⟩
  have e : sy_rv w' r.1 = sy_rv w r.1 := by
    funext k
    unfold sy_rv
    cases hk : r.1[k]? with
    | none => rfl
    | some x =>
      dsimp only
      unfold sy_nv
      have hx := h.1 i r hr x (List.mem_of_getElem? hk)
      rw [hb x.1 x.2 (fun z => h2 x.2 z.2.1 z.2.2 (by rw [← z.1]; exact hx))]
  rw [e]; exact h4
theorem sy_wv_nv {w w' : List ri_E} {q j : Nat} (h : sy_wv w' q j = sy_wv w q j) : sy_nv w' q j = sy_nv w q j := by
  unfold sy_nv
  rw [h]
/-- guests that are no bits of k stay -/
def sy_kok (w w' : List ri_E) (k : Nat) : Prop := ∀ g : Nat, pg_ok (sy_nv w) g → Nat.testBit k g = false → pg_ok (sy_nv w') g
theorem sy_but_kok {w w' : List ri_E} {q lo hi : Nat} (hb : sy_but w w' q lo hi) : sy_kok w w' (pg_kr q lo hi) := fun _ h hk => pg_kr_ok (fun q2 j2 hn => sy_wv_nv (hb q2 j2 hn)) h hk
theorem sy_same_kok {w w' : List ri_E} (e : ∀ q j : Nat, sy_nv w' q j = sy_nv w q j) (k : Nat) : sy_kok w w' k := fun g h _ => by
  rw [show sy_nv w' = sy_nv w from funext (fun q => funext (fun j => e q j))]
  exact h
theorem sy_gs_kok {w w' : List ri_E} {k G : Nat} (hk : sy_kok w w' k) (h : sy_gs w G) : sy_gs w' (sy_gm k G) := fun g hg => by
  obtain ⟨h1, h2⟩ := sy_gm_bit hg
  exact hk g (h g h1) h2
theorem sy_hkm_no {k : Nat} {x : (Nat × Nat) × sy_V} (h : x.2.1 ≠ 11) : sy_hkm k x = x := by
  unfold sy_hkm
  cases hb : Nat.beq x.2.1 11 with
  | false => rfl
  | true => exact absurd (Nat.eq_of_beq_eq_true hb) h
theorem sy_is_lt {ρ : List Int} {a : sy_V} {v : Value} (h : sy_is ρ a v) : a.1 ≠ 10 ∧ a.1 ≠ 11 := by
  obtain ⟨t, e, e2⟩ := a
  constructor <;> (intro z; have z2 : t = _ := z; subst z2; cases h)
theorem sy_but_hx {ρ : List Int} {w w' : List ri_E} {k q lo hi : Nat} {x : (Nat × Nat) × sy_V} (hb : sy_but w w' q lo hi) (hk : sy_kok w w' k) (h : sy_hx ρ w x) (hd : sy_hdc q lo hi x = false) : sy_hx ρ w' (sy_hkm k x) := by
  obtain ⟨h2, h3⟩ := sy_hdc_no hd
  rcases h with ⟨v, g1, g2⟩ | ⟨g1, g2⟩ | ⟨g1, g2⟩
  · rw [sy_hkm_no (sy_is_lt g2).2]
    exact Or.inl ⟨v, by rw [hb x.1.1 x.1.2 h2]; exact g1, g2⟩
  · rw [sy_hkm_no (by rw [g1]; decide)]
    obtain ⟨k1, k2⟩ := h3 g1
    refine Or.inr (Or.inl ⟨g1, sy_gh_same g2 (fun j => sy_wv_nv (hb _ _ (fun z => k1 z.1))) (fun q2 h7 he j => sy_wv_nv (hb _ _ (fun z => ?_)))⟩)
    have k3 := k2 h7
    rw [he, z.1, sy_isq_self] at k3
    cases k3
  · unfold sy_hkm
    rw [show Nat.beq x.2.1 11 = true by rw [Nat.beq_eq]; exact g1]
    exact Or.inr (Or.inr ⟨rfl, sy_gs_kok hk g2⟩)
theorem sy_but_hok2 {ρ : List Int} {H : sy_H} {w w' : List ri_E} {k q lo hi : Nat} (h : sy_hok ρ H w) (hb : sy_but w w' q lo hi) (hk : sy_kok w w' k) : sy_hok ρ (sy_hdk k q lo hi H) w' := by
  intro x hx
  obtain ⟨y, h1, h2, rfl⟩ := sy_hdk_mem hx
  exact sy_but_hx hb hk (h y h1) h2
theorem sy_but_hok {ρ : List Int} {H : sy_H} {w w' : List ri_E} {q lo hi : Nat} (h : sy_hok ρ H w) (hb : sy_but w w' q lo hi) : sy_hok ρ (sy_hdrop q lo hi H) w' := sy_but_hok2 h hb (sy_but_kok hb)
theorem sy_hok_eq {ρ : List Int} {H : sy_H} {w v : List ri_E} (h : sy_hok ρ H w) (e : ∀ q j : Nat, sy_wv v q j = sy_wv w q j) : sy_hok ρ H v := fun x hx => by
  rcases h x hx with ⟨u, h1, h2⟩ | ⟨h1, h2⟩ | ⟨h1, h2⟩
  · exact Or.inl ⟨u, by rw [e]; exact h1, h2⟩
  · exact Or.inr (Or.inl ⟨h1, sy_gh_same h2 (fun j => sy_wv_nv (e _ _)) (fun q2 _ _ j => sy_wv_nv (e _ _))⟩)
  · exact Or.inr (Or.inr ⟨h1, sy_gs_same h2 (fun q j => sy_wv_nv (e q j))⟩)
theorem sy_ru_eq {RU : sy_RT} {D : List Nat} {w v : List ri_E} (h : sy_ru RU D w) (e : ∀ q j : Nat, sy_wv v q j = sy_wv w q j) : sy_ru RU D v := by
  refine ⟨h.1, fun i r hr hi => ?_⟩
  intro c hc
  obtain ⟨p, hp, h0⟩ := h.2 i r hr hi c hc
  refine ⟨p, hp, ?_⟩
  have e9 : sy_rv v r.1 = sy_rv w r.1 := by
    funext k
    unfold sy_rv
    cases r.1[k]? with
    | none => rfl
    | some x => exact sy_wv_nv (e _ _)
  rw [e9]
  exact h0
theorem sy_put_but {w : List ri_E} {q j : Nat} {v u : Value} (h : sy_wv w q j = some u) : sy_but w (sy_put w q j v) q j j := by
  intro q2 j2 hn
  rw [sy_put_wv h, if_neg (fun z => hn ⟨z.1, by omega, by omega⟩)]
