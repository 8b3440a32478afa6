/-! ===== the surveyor, part 19: contracts ===== -/
theorem sy_mods_rf (w : List ri_E) (MM : List (Nat × Nat × Nat)) : sy_mods w w MM := fun _ _ _ => rfl
theorem sy_chk_ok {E : sy_env} {T : Nat → Option sy_C} {RU : sy_RT} {CT : List sy_Ct} {C : sy_Ct} {CU : List sy_Cut} {M : ri_M} (hCT : ∀ c ∈ CT, sy_Cok E T RU c) (hM : E.1[C.1]? = some M) (hl0 : Nat.beq C.1 0 = false) (h0 : ∃ n hs, sy_seg (sy_e4 E) T RU CT C CU M n none hs = true) (hc : ∀ cu ∈ CU, ∃ n hs, sy_seg (sy_e4 E) T RU CT C CU M n (some cu) hs = true) : sy_Cok E T RU C := by
  intro M9 ρ vals w fr d bud hM9 hk hv ht hh hd hal h1 h2
  have eM : M9 = M := Option.some.inj (hM9.symm.trans hM)
  subst eM
  have hn : sy_Hy E T RU C (sy_Po T RU C ρ w) ρ w := ⟨hk.1, fun _ h => h, fun h => by rw [hl0] at h; cases h⟩
  have claim : ∀ N : Nat, ∀ cu ∈ CU, ∀ (τ : List Int) (lvc : ri_L) (w2 : List ri_E) (fr d2 b2 : Nat) (o : ri_Op) (nxt : List ri_Op), (∃ m, τ = m ++ ρ) → C.2.1 ≤ d2 → C.2.2.1 ≤ b2 → M9.2.2.2.2.2.drop cu.1 = o :: nxt → sy_ok τ cu.2.2.1 → sy_lv τ cu.2.1 lvc → sy_WI T C w w2 → sy_hok τ cu.2.2.2.1 w2 → sy_ru RU cu.2.2.2.2.1 w2 → 0 ≤ sy_ep (sy_tot τ) cu.2.2.2.2.2 → sy_ep (sy_tot τ) cu.2.2.2.2.2 < (N : Int) →
      sy_Ev E d2 b2 M9 (M9.2.2.2.2.2.drop cu.1) o.1 lvc [] w2 0 0 fr (sy_Po T RU C ρ w) := by
    intro N
    induction N with
    | zero =>
      intro cu hcu τ lvc w2 fr d2 b2 o nxt _ _ _ _ _ _ _ _ _ z1 z2
      exact absurd z2 (by omega)
    | succ N ih =>
      intro cu hcu τ lvc w2 fr d2 b2 o nxt hτ g1 g2 hop k1 k2 k3 k4 k5 z1 z2
      obtain ⟨n, hs, hsg⟩ := hc cu hcu
      unfold sy_seg at hsg
      dsimp only at hsg
      rw [ri_drop_eq, hop] at hsg
      dsimp only at hsg
      rw [Bool.and_eq_true, Bool.and_eq_true] at hsg
      obtain ⟨s1, s2, s3⟩ := hsg
      split at s3
      · rename_i hs' hx
        have hcut : sy_CutOk E T RU C CU (some cu.2.2.2.2.2) (0, 0) (sy_Po T RU C ρ w) ρ τ w M9 := by
          intro cu2 hcu2 τ2 lvc2 w3 fr2 d3 b3 o2 nxt2 nc2 ns2 q1 q2 q3 q4 q5 q6 q7 q8 q9 q10 q11 q12 q13
          cases Nat.le_zero.mp q12
          cases Nat.le_zero.mp q13
          exact ih cu2 hcu2 τ2 lvc2 w3 fr2 d3 b3 o2 nxt2 q1 q2 q3 q4 q5 q6 q7 q8 q9 q10 (by have := q11 _ rfl; omega)
        have hdom : ∀ m0, (some cu.2.2.2.2.2 : Option sy_P) = some m0 → sy_dom τ.length m0 = true := by
          intro m0 e
          cases e
          rw [k1.1]; exact s1
        have hih := sy_run_ok hCT hal hτ hn hcut hdom n
        have e := sy_exec_ok (fr := fr) hih hCT hal hτ hn (pc := o.1) (κ := o.2.1) (i := o.2.2.1) (a := o.2.2.2.1) (b := o.2.2.2.2.1) (v := o.2.2.2.2.2.1) (ts := o.2.2.2.2.2.2) hx hop.symm (gs := []) ⟨[], rfl⟩ trivial ⟨rfl, g1, g2⟩ g1 g2 k1 k2 (stc := []) trivial k3 k4 k5
        rw [hop]
        exact e
      · cases s3
  obtain ⟨n, hs, hsg⟩ := h0
  unfold sy_seg at hsg
  dsimp only at hsg
  split at hsg
  · rename_i hs' hx
    have hcut : sy_CutOk E T RU C CU none (0, 0) (sy_Po T RU C ρ w) ρ ρ w M9 := by
      intro cu2 hcu2 τ2 lvc2 w3 fr2 d3 b3 o2 nxt2 nc2 ns2 q1 q2 q3 q4 q5 q6 q7 q8 q9 q10 _ q12 q13
      cases Nat.le_zero.mp q12
      cases Nat.le_zero.mp q13
      exact claim ((sy_ep (sy_tot τ2) cu2.2.2.2.2.2).toNat + 1) cu2 hcu2 τ2 lvc2 w3 fr2 d3 b3 o2 nxt2 q1 q2 q3 q4 q5 q6 q7 q8 q9 q10 (by omega)
    have hih := sy_run_ok (ρs := ρ) (M0 := M9) (w0 := w) (μ0 := none) hCT hal ⟨[], rfl⟩ hn hcut (fun m0 e => by cases e) n
    exact hih _ _ _ _ _ _ _ _ _ _ _ _ _ _ _ _ hx (by rw [List.drop_zero]) ρ [] d bud (lv_args 0 vals) [] w fr ⟨[], rfl⟩ trivial ⟨rfl, h1, h2⟩ h1 h2 hk (sy_args_ok 0 hv) trivial ⟨ht, rfl, sy_mods_rf w _⟩ hh hd
  · cases hsg
