/-! ===== at the beginning: numbers, places that hold the same ===== -/
noncomputable def sg_nv (w : rf_W) (q j : Nat) : Option Int := match sf_at w q j with
  | some v => sf_numB v
  | none => some 0
theorem sg_nv_ok {w : rf_W} {q j : Nat} {z : Int} (h : sg_nv w q j = some z) : sy_nv (rf_wa w) q j = z := by
  unfold sg_nv at h
  unfold sy_nv
  rw [sf_at_eq]
  split at h
  · rename_i v hv
    rw [hv]
    exact sf_numB_ok h
  · rename_i hv
    rw [hv]
    exact Option.some.inj h
noncomputable def sg_gd (w : rf_W) (g : Nat) (l : List (Nat × Nat × Int)) : Bool := List.rec false (fun x _ ih => (match sg_nv w (pg_U g x).1 (pg_U g x).2 with
  | some v => sy_le v x.2.2
  | none => false) || ih) l
theorem sg_gd_ok {w : rf_W} {g : Nat} : ∀ {l : List (Nat × Nat × Int)}, sg_gd w g l = true → ∃ x ∈ l, ¬ x.2.2 < sy_nv (rf_wa w) (pg_U g x).1 (pg_U g x).2
  | [], h => by cases h
  | x :: l, h => by
    have h2 : ((match sg_nv w (pg_U g x).1 (pg_U g x).2 with
      | some v => sy_le v x.2.2
      | none => false) || sg_gd w g l) = true := h
    rw [Bool.or_eq_true] at h2
    rcases h2 with h2 | h2
    · split at h2
      · rename_i v hv
        refine ⟨x, List.mem_cons_self, ?_⟩
        rw [sg_nv_ok hv]
        have := sy_le_iff.mp h2
        omega
      · cases h2
    · obtain ⟨y, hy, h3⟩ := sg_gd_ok h2
      exact ⟨y, List.mem_cons_of_mem _ hy, h3⟩
noncomputable def sg_eq (a b : Option Int) : Bool := match a, b with
  | some x, some y => sy_le x y && sy_le y x
  | _, _ => false
noncomputable def sg_one (w : rf_W) (g : Nat) : Bool := match pg_e (g % 512) with
  | some e => sg_eq (sg_nv w (pg_A g e).1 (pg_A g e).2) (sg_nv w (pg_B g e).1 (pg_B g e).2) || (Nat.beq (g / 512 % 2) 0 && sg_gd w g e.2.2.2)
  | none => true
noncomputable def sg_all (w : rf_W) (G n : Nat) : Bool := Nat.rec true (fun k ih => (!(Nat.testBit G k) || sg_one w k) && ih) n
theorem sg_all_at {w : rf_W} {G : Nat} : ∀ {n : Nat}, sg_all w G n = true → ∀ g : Nat, g < n → Nat.testBit G g = true → sg_one w g = true
  | 0, _, g, hg, _ => absurd hg (Nat.not_lt_zero _)
  | n + 1, h, g, hg, hb => by
    have h2 : ((!(Nat.testBit G n) || sg_one w n) && sg_all w G n) = true := h
    rw [Bool.and_eq_true] at h2
    rcases Nat.lt_or_ge g n with h3 | h3
    · exact sg_all_at h2.2 g h3 hb
    · have e : g = n := by omega
      subst e
      rw [hb] at h2
      exact h2.1
theorem sg_ok {w : rf_W} {G : Nat} (h : sg_all w G 16384 = true) : sy_gs (rf_wa w) G := by
  intro g hb hg e he hor
  have h1 := sg_all_at h g hg hb
  unfold sg_one at h1
  rw [he] at h1
  dsimp only at h1
  rw [Bool.or_eq_true, Bool.and_eq_true] at h1
  rcases h1 with h1 | ⟨h1, h2⟩
  · unfold sg_eq at h1
    split at h1
    · rename_i x y hx hy
      rw [sg_nv_ok hx, sg_nv_ok hy]
      rw [Bool.and_eq_true, sy_le_iff, sy_le_iff] at h1
      omega
    · cases h1
  · obtain ⟨x, hx, h3⟩ := sg_gd_ok h2
    rcases hor with h4 | h4
    · have := Nat.eq_of_beq_eq_true h1
      omega
    · exact absurd (h4 x hx) h3
set_option maxRecDepth 100000 in
theorem sg_C : sg_all sf_wC sz_GL 16384 = true := by decide +kernel
noncomputable def sg_is0 (o : Option Value) : Bool := match o with
  | some (.int x) => decide (x = 0)
  | _ => false
theorem sg_is0_ok {o : Option Value} (h : sg_is0 o = true) : o = some (.int 0) := by
  unfold sg_is0 at h
  split at h
  · rw [of_decide_eq_true h]
  · cases h
noncomputable def sg_zs (w : rf_W) (l : List (Nat × Nat)) : Bool := List.rec true (fun x _ ih => sg_is0 (sf_at w x.1 x.2) && ih) l
theorem sg_zs_at {w : rf_W} : ∀ {l : List (Nat × Nat)}, sg_zs w l = true → ∀ x ∈ l, sy_wv (rf_wa w) x.1 x.2 = some (.int 0)
  | [], _, x, hx => by cases hx
  | y :: l, h, x, hx => by
    have h2 : (sg_is0 (sf_at w y.1 y.2) && sg_zs w l) = true := h
    rw [Bool.and_eq_true] at h2
    rcases List.mem_cons.mp hx with rfl | hx
    · rw [sf_at_eq]; exact sg_is0_ok h2.1
    · exact sg_zs_at h2.2 x hx
theorem sg_zC : sg_zs sf_wC [(1, 1), (244, 7), (59, 3), (115, 3), (0, 4), (244, 5)] = true := by decide +kernel
theorem sg_hok : sy_hok [(0 : Int32).toInt, (0 : Int32).toInt, (0 : Int32).toInt, (0 : Int32).toInt] (sl_H (1, 1) (244, 7) (59, 3) (115, 3) (0, 4) (244, 5) 58 249 sz_GL 0 1 2 3) (rf_wa sf_wC) := by
  have z := sg_zs_at sg_zC
  intro x hx
  simp only [sl_H, List.mem_cons, List.not_mem_nil, or_false] at hx
  rcases hx with rfl | rfl | rfl | rfl | rfl | rfl | rfl | rfl
  · exact Or.inl ⟨_, z _ (by simp), 0, rfl, rfl⟩
  · exact Or.inl ⟨_, z _ (by simp), 0, rfl, rfl⟩
  · exact Or.inl ⟨_, z _ (by simp), 0, rfl, rfl⟩
  · exact Or.inl ⟨_, z _ (by simp), 0, rfl, rfl⟩
  · exact Or.inl ⟨_, z _ (by simp), 0, rfl, rfl⟩
  · exact Or.inl ⟨_, z _ (by simp), 0, rfl, rfl⟩
  · refine Or.inr (Or.inl ⟨rfl, ?_⟩)
    exact ⟨(0 : Int32).toInt, _, rfl, rfl, fun j hj => absurd hj (by have : (0 : Int32).toInt = 0 := rfl; omega)⟩
  · exact Or.inr (Or.inr ⟨rfl, sg_ok sg_C⟩)
