/-! ===== the surveyor, part 12: patterns of worlds, rules, what a contract leaves ===== -/
section SYI
variable {ρ τ : List Int} {K : sy_K} {w : List ri_E} {H : sy_H}
/-! ghosts and guests in patterns -/
/-- what an entry says of a row, with other numbers of the same values -/
theorem sy_gh_tr {ρ τ : List Int} {q k : Nat} {e e2 f f2 : sy_E} (h : sy_gh ρ w q k e e2) (h1 : ∀ x : Int, sy_ev ρ e = some x → sy_ev τ f = some x) (h2 : k ≠ 7 → ∀ x : Int, sy_ev ρ e2 = some x → sy_ev τ f2 = some x) (h7 : k = 7 → e2 = f2) : sy_gh τ w q k f f2 := by
  unfold sy_gh at h ⊢
  split at h
  · obtain ⟨a, b, g1, g2, g3⟩ := h; exact ⟨a, b, h1 _ g1, h2 (by decide) _ g2, g3⟩
  · obtain ⟨a, b, g1, g2, g3⟩ := h; exact ⟨a, b, h1 _ g1, h2 (by decide) _ g2, g3⟩
  · obtain ⟨a, b, g1, g2, g3⟩ := h; exact ⟨a, b, h1 _ g1, h2 (by decide) _ g2, g3⟩
  · obtain ⟨a, b, g1, g2, g3⟩ := h; exact ⟨a, b, h1 _ g1, h2 (by decide) _ g2, g3⟩
  · obtain ⟨a, b, g1, g2, g3⟩ := h; exact ⟨a, b, h1 _ g1, h2 (by decide) _ g2, g3⟩
  · obtain ⟨a, b, g1, g2, g3⟩ := h; exact ⟨a, b, h1 _ g1, h2 (by decide) _ g2, g3⟩
  · obtain ⟨a, b, g1, g2, g3⟩ := h; exact ⟨a, b, h1 _ g1, h2 (by decide) _ g2, g3⟩
  · obtain ⟨b, q2, g1, g2, g3⟩ := h; exact ⟨b, q2, h1 _ g1, (h7 rfl).symm.trans g2, g3⟩
  · exact h.elim
theorem sy_gh_ev {ρ : List Int} {q k : Nat} {e e2 : sy_E} (h : sy_gh ρ w q k e e2) : (∃ a : Int, sy_ev ρ e = some a) ∧ ∃ b : Int, sy_ev ρ e2 = some b := by
  unfold sy_gh at h
  split at h
  · obtain ⟨a, b, g1, g2, g3⟩ := h; exact ⟨⟨a, g1⟩, ⟨b, g2⟩⟩
  · obtain ⟨a, b, g1, g2, g3⟩ := h; exact ⟨⟨a, g1⟩, ⟨b, g2⟩⟩
  · obtain ⟨a, b, g1, g2, g3⟩ := h; exact ⟨⟨a, g1⟩, ⟨b, g2⟩⟩
  · obtain ⟨a, b, g1, g2, g3⟩ := h; exact ⟨⟨a, g1⟩, ⟨b, g2⟩⟩
  · obtain ⟨a, b, g1, g2, g3⟩ := h; exact ⟨⟨a, g1⟩, ⟨b, g2⟩⟩
  · obtain ⟨a, b, g1, g2, g3⟩ := h; exact ⟨⟨a, g1⟩, ⟨b, g2⟩⟩
  · obtain ⟨a, b, g1, g2, g3⟩ := h; exact ⟨⟨a, g1⟩, ⟨b, g2⟩⟩
  · obtain ⟨b, q2, g1, g2, g3⟩ := h
    subst g2
    exact ⟨⟨b, g1⟩, ⟨_, rfl⟩⟩
  · exact h.elim
/-- an entry of that kind whose numbers fit -/
noncomputable def sy_fgh (K : sy_K) (t : (Nat × Nat) × sy_V) (σ : List sy_E) (H : sy_H) : Option (List sy_E) := List.rec none (fun x _ ih => bif (Nat.beq x.2.1 10 && (Nat.beq x.1.1 t.1.1 && Nat.beq x.1.2 t.1.2)) then (match sy_me K t.2.2.1 x.2.2.1 σ with
  | some σ1 => (bif Nat.beq t.1.2 7 then (bif sy_eeq t.2.2.2 x.2.2.2 then some σ1 else ih) else (match sy_me K t.2.2.2 x.2.2.2 σ1 with
    | some σ2 => some σ2
    | none => ih))
  | none => ih) else ih) H
theorem sy_fgh_ok (hk : sy_ok ρ K) {t : (Nat × Nat) × sy_V} {σ σ' : List sy_E} {τ : List Int} (hs : sy_sv ρ σ τ) : ∀ {H : sy_H}, sy_hok ρ H w → sy_fgh K t σ H = some σ' → ∃ m : List Int, sy_sv ρ σ' (m ++ τ) ∧ sy_gh (m ++ τ) w t.1.1 t.1.2 t.2.2.1 t.2.2.2
  | [], _, h => by cases h
  | x :: H, hh, h => by
    have ih := sy_fgh_ok hk (t := t) hs (H := H) (σ' := σ') (fun y hy => hh y (List.mem_cons_of_mem _ hy))
    have h2 : (bif (Nat.beq x.2.1 10 && (Nat.beq x.1.1 t.1.1 && Nat.beq x.1.2 t.1.2)) then (match sy_me K t.2.2.1 x.2.2.1 σ with
      | some σ1 => (bif Nat.beq t.1.2 7 then (bif sy_eeq t.2.2.2 x.2.2.2 then some σ1 else sy_fgh K t σ H) else (match sy_me K t.2.2.2 x.2.2.2 σ1 with
        | some σ2 => some σ2
        | none => sy_fgh K t σ H))
      | none => sy_fgh K t σ H) else sy_fgh K t σ H) = some σ' := h
    cases hb : (Nat.beq x.2.1 10 && (Nat.beq x.1.1 t.1.1 && Nat.beq x.1.2 t.1.2)) with
    | false => rw [hb] at h2; exact ih h2
    | true =>
      rw [hb, cond_true] at h2
      rw [Bool.and_eq_true, Bool.and_eq_true] at hb
      have k10 : x.2.1 = 10 := Nat.eq_of_beq_eq_true hb.1
      have eq1 : x.1.1 = t.1.1 := Nat.eq_of_beq_eq_true hb.2.1
      have eq2 : x.1.2 = t.1.2 := Nat.eq_of_beq_eq_true hb.2.2
      have g : sy_gh ρ w t.1.1 t.1.2 x.2.2.1 x.2.2.2 := by
        rcases hh x List.mem_cons_self with ⟨v, -, g⟩ | ⟨-, g⟩ | ⟨g, -⟩
        · exact absurd k10 (sy_is_lt g).1
        · rw [eq1, eq2] at g; exact g
        · omega
      obtain ⟨⟨a, ga⟩, b, gb⟩ := sy_gh_ev g
      split at h2
      · rename_i σ1 hσ1
        obtain ⟨m1, s1, s2⟩ := sy_me_ok hk ga hs hσ1
        cases h7 : Nat.beq t.1.2 7 with
        | true =>
          rw [h7, cond_true] at h2
          cases h8 : sy_eeq t.2.2.2 x.2.2.2 with
          | false => rw [h8] at h2; exact ih h2
          | true =>
            rw [h8, cond_true] at h2
            cases h2
            exact ⟨m1, s1, sy_gh_tr g (fun y hy => by rw [ga] at hy; cases hy; exact s2) (fun n => absurd (Nat.eq_of_beq_eq_true h7) n) (fun _ => (sy_eeq_ok h8).symm)⟩
        | false =>
          rw [h7, cond_false] at h2
          split at h2
          · rename_i σ2 hσ2
            cases h2
            obtain ⟨m2, s3, s4⟩ := sy_me_ok hk gb s1 hσ2
            refine ⟨m2 ++ m1, by rw [List.append_assoc]; exact s3, ?_⟩
            rw [List.append_assoc]
            refine sy_gh_tr g (fun y hy => by rw [ga] at hy; cases hy; exact sy_ev_app s2 m2) (fun _ y hy => by rw [gb] at hy; cases hy; exact s4) (fun n => ?_)
            rw [n] at h7; cases h7
          · exact ih h2
      · exact ih h2
/-- all guests that are known -/
noncomputable def sy_gall (H : sy_H) : Nat := List.rec 0 (fun x _ ih => @Bool.rec (fun _ => Nat) ih (Nat.lor (sy_gn x.2) ih) (Nat.beq x.2.1 11)) H
theorem sy_gall_ok : ∀ {H : sy_H}, sy_hok ρ H w → sy_gs w (sy_gall H)
  | [], _ => fun g hg => by
    have h2 : Nat.testBit 0 g = true := hg
    rw [Nat.zero_testBit] at h2
    cases h2
  | x :: H, hh => by
    have ih := sy_gall_ok (H := H) (fun y hy => hh y (List.mem_cons_of_mem _ hy))
    intro g hg
    have h2 : Nat.testBit (@Bool.rec (fun _ => Nat) (sy_gall H) (Nat.lor (sy_gn x.2) (sy_gall H)) (Nat.beq x.2.1 11)) g = true := hg
    cases hb : Nat.beq x.2.1 11 with
    | false => rw [hb] at h2; exact ih g h2
    | true =>
      rw [hb] at h2
      have h3 : Nat.testBit (sy_gn x.2 ||| sy_gall H) g = true := h2
      rw [Nat.testBit_or, Bool.or_eq_true] at h3
      have k11 : x.2.1 = 11 := Nat.eq_of_beq_eq_true hb
      rcases h3 with h3 | h3
      · rcases hh x List.mem_cons_self with ⟨v, -, g9⟩ | ⟨g9, -⟩ | ⟨-, g9⟩
        · exact absurd k11 (sy_is_lt g9).2
        · omega
        · exact g9 g h3
      · exact ih g h3
theorem sy_gsub {G A : Nat} (h : Nat.beq (Nat.land G A) G = true) (ha : sy_gs w A) : sy_gs w G := fun g hg => by
  have e : G &&& A = G := Nat.eq_of_beq_eq_true h
  rw [← e, Nat.testBit_and, Bool.and_eq_true] at hg
  exact ha g hg.2
noncomputable def sy_mh (K : sy_K) (H : sy_H) : sy_H → List sy_E → Option (List sy_E)
  | [], σ => some σ
  | t :: ts, σ => bif Nat.blt t.2.1 10 then (match sy_lk t.1.1 t.1.2 H with
    | some c => (match sy_mv K t.2 c σ with
      | some σ1 => sy_mh K H ts σ1
      | none => none)
    | none => none) else bif Nat.beq t.2.1 10 then (match sy_fgh K t σ H with
    | some σ1 => sy_mh K H ts σ1
    | none => none) else bif Nat.beq t.2.1 11 && Nat.beq (Nat.land (sy_gn t.2) (sy_gall H)) (sy_gn t.2) then sy_mh K H ts σ else none
theorem sy_mh_ok (hk : sy_ok ρ K) (hh : sy_hok ρ H w) : ∀ {ts : sy_H} {σ σ' : List sy_E} {τ : List Int}, sy_sv ρ σ τ → sy_mh K H ts σ = some σ' → ∃ m : List Int, sy_sv ρ σ' (m ++ τ) ∧ sy_hok (m ++ τ) ts w
  | [], σ, σ', τ, hs, h => by
    unfold sy_mh at h
    cases h
    exact ⟨[], hs, fun x hx => by cases hx⟩
  | t :: ts, σ, σ', τ, hs, h => by
    unfold sy_mh at h
    have more : ∀ {σ1 : List sy_E} {m1 : List Int}, sy_sv ρ σ1 (m1 ++ τ) → sy_hx (m1 ++ τ) w t → sy_mh K H ts σ1 = some σ' → ∃ m : List Int, sy_sv ρ σ' (m ++ τ) ∧ sy_hok (m ++ τ) (t :: ts) w := by
      intro σ1 m1 a1 a2 h9
      obtain ⟨m2, b1, b2⟩ := sy_mh_ok hk hh a1 h9
      refine ⟨m2 ++ m1, by rw [List.append_assoc]; exact b1, ?_⟩
      intro x hx
      rw [List.append_assoc]
      rcases List.mem_cons.mp hx with rfl | hx
      · exact sy_hok_app (H := [x]) (fun y hy => by rw [List.mem_singleton.mp hy]; exact a2) m2 x List.mem_cons_self
      · exact b2 x hx
    cases c10 : Nat.blt t.2.1 10 with
    | true =>
      rw [c10, cond_true] at h
      split at h
      · rename_i c hc
        split at h
        · rename_i σ1 h1
          obtain ⟨v, hv, hv2⟩ := sy_lk_ok hh hc
          obtain ⟨m1, a1, a2⟩ := sy_mv_ok hk hv2 hs h1
          exact more a1 (Or.inl ⟨v, hv, a2⟩) h
        · cases h
      · cases h
    | false =>
      rw [c10, cond_false] at h
      cases d10 : Nat.beq t.2.1 10 with
      | true =>
        rw [d10, cond_true] at h
        split at h
        · rename_i σ1 h1
          obtain ⟨m1, a1, a2⟩ := sy_fgh_ok hk hs hh h1
          exact more a1 (Or.inr (Or.inl ⟨Nat.eq_of_beq_eq_true d10, a2⟩)) h
        · cases h
      | false =>
        rw [d10, cond_false] at h
        cases d11 : (Nat.beq t.2.1 11 && Nat.beq (Nat.land (sy_gn t.2) (sy_gall H)) (sy_gn t.2)) with
        | false => rw [d11] at h; cases h
        | true =>
          rw [d11, cond_true] at h
          rw [Bool.and_eq_true] at d11
          exact more (m1 := []) hs (Or.inr (Or.inr ⟨Nat.eq_of_beq_eq_true d11.1, sy_gsub d11.2 (sy_gall_ok hh)⟩)) h
/-! what is known gives what a pattern asks -/
noncomputable def sy_eR (K : sy_K) : List sy_E → List (Int × Int) → Bool
  | [], [] => true
  | e :: σ, r :: R => (match sy_iv K e with
    | some s => sy_le r.1 s.1 && sy_le s.2 r.2
    | none => false) && sy_eR K σ R
  | _, _ => false
theorem sy_eR_ok (hk : sy_ok ρ K) : ∀ {σ : List sy_E} {R : List (Int × Int)} {τ : List Int}, sy_sv ρ σ τ → sy_eR K σ R = true → sy_ok τ (R, [])
  | [], [], [], _, _ => ⟨rfl, fun i r hr => absurd (sy_at_lt hr) (Nat.not_lt_zero _), fun p hp => by cases hp⟩
  | e :: σ, r :: R, x :: τ, hs, h => by
    unfold sy_eR at h
    rw [Bool.and_eq_true] at h
    obtain ⟨h1, h2⟩ := h
    split at h1
    · rename_i s hsv
      rw [Bool.and_eq_true, sy_le_iff, sy_le_iff] at h1
      have b := sy_iv_ok hk hsv hs.1
      have ih := sy_eR_ok hk hs.2 h2
      have h9 := sy_ok_app ih x (lo := r.1) (hi := r.2) (by omega) (by omega) (fs := []) (fun p hp => by cases hp)
      exact h9
    · cases h1
  | [], _ :: _, τ, hs, h => by unfold sy_eR at h; cases h
  | _ :: _, [], τ, hs, h => by unfold sy_eR at h; cases h
  | [], [], _ :: _, hs, _ => hs.elim
  | _ :: _, _ :: _, [], hs, _ => hs.elim
noncomputable def sy_eF (K : sy_K) (σ : List sy_E) (n : Nat) : List sy_P → List sy_Ce → Bool
  | [], _ => true
  | p :: ps, c :: cs => (sy_dom n p && (match sy_sp (sy_at σ) p with
    | some q => sy_prv K q c
    | none => false)) && sy_eF K σ n ps cs
  | _ :: _, [] => false
theorem sy_eF_ok (hk : sy_ok ρ K) {σ : List sy_E} {τ : List Int} {n : Nat} (hs : sy_sv ρ σ τ) (hn : n = τ.length) : ∀ {ps : List sy_P} {cs : List sy_Ce}, sy_eF K σ n ps cs = true → ∀ p ∈ ps, sy_dom τ.length p = true ∧ 0 ≤ sy_ep (sy_tot τ) p
  | [], _, _, p, hp => by cases hp
  | p :: ps, [], h, q, hq => by unfold sy_eF at h; cases h
  | p :: ps, c :: cs, h, q, hq => by
    unfold sy_eF at h
    rw [Bool.and_eq_true, Bool.and_eq_true] at h
    obtain ⟨⟨h1, h2⟩, h3⟩ := h
    rcases List.mem_cons.mp hq with rfl | hq
    · refine ⟨by rw [← hn]; exact h1, ?_⟩
      split at h2
      · rename_i q2 hq2
        rw [← sy_sv_sp hs hq2]
        exact sy_prv_ok h2 hk
      · cases h2
    · exact sy_eF_ok hk hs hn h3 q hq
noncomputable def sy_ent (K : sy_K) (σ : List sy_E) (Kt : sy_K) (cs : List sy_Ce) : Bool := sy_eR K σ Kt.1 && sy_eF K σ Kt.1.length Kt.2 cs
theorem sy_ent_ok (hk : sy_ok ρ K) {σ : List sy_E} {Kt : sy_K} {cs : List sy_Ce} (hs : sy_sv ρ σ τ) (h : sy_ent K σ Kt cs = true) : sy_ok τ Kt := by
  unfold sy_ent at h
  rw [Bool.and_eq_true] at h
  have h1 := sy_eR_ok hk hs h.1
  refine ⟨h1.1, h1.2.1, ?_⟩
  exact sy_eF_ok hk hs (h1.1.symm) h.2
/-! what a contract leaves -/
noncomputable def sy_ids (n k : Nat) : List sy_E := Nat.rec [] (fun j ih => .inr (n + j) :: ih) k
theorem sy_ids_len (n : Nat) : ∀ k : Nat, (sy_ids n k).length = k
  | 0 => rfl
  | k + 1 => by show (sy_ids n k).length + 1 = k + 1; rw [sy_ids_len n k]
theorem sy_ids_sv {σ : List sy_E} {τ : List Int} : ∀ (m ρ : List Int), sy_sv ρ σ τ → sy_sv (m ++ ρ) (sy_ids ρ.length m.length ++ σ) (m ++ τ)
  | [], ρ, h => h
  | x :: m, ρ, h => by
    have ih := sy_ids_sv m ρ h
    refine ⟨?_, sy_sv_app [x] ih⟩
    show sy_at (x :: (m ++ ρ)) (ρ.length + m.length) = some x
    have e : ρ.length + m.length = (m ++ ρ).length := by rw [List.length_append]; omega
    rw [e]; exact sy_at_new _ _
noncomputable def sy_iN : List sy_E → List (Int × Int) → sy_K → Option sy_K
  | e :: σ, r :: R, K => (match sy_nar e r.1 r.2 K with
    | some K1 => sy_iN σ R K1
    | none => none)
  | _, _, K => some K
theorem sy_iN_ok : ∀ {σ : List sy_E} {R : List (Int × Int)} {τ : List Int} {K : sy_K}, sy_ok ρ K → sy_sv ρ σ τ → (∀ (i : Nat) (r : Int × Int), sy_at R i = some r → ∀ x : Int, sy_at τ i = some x → r.1 ≤ x ∧ x ≤ r.2) → R.length = τ.length → ∃ K' : sy_K, sy_iN σ R K = some K' ∧ sy_ok ρ K'
  | [], R, τ, K, hk, _, _, _ => ⟨K, by unfold sy_iN; rfl, hk⟩
  | _ :: _, [], τ, K, hk, _, _, _ => ⟨K, by unfold sy_iN; rfl, hk⟩
  | e :: σ, r :: R, x :: τ, K, hk, hs, hr, hl => by
    have hl2 : R.length = τ.length := by rw [List.length_cons, List.length_cons] at hl; omega
    have h0 := hr τ.length r (by rw [← hl2]; exact sy_at_new _ _) x (sy_at_new _ _)
    obtain ⟨K1, e1, k1⟩ := sy_nar_ok (lo := r.1) (hi := r.2) hk hs.1 h0.1 h0.2
    obtain ⟨K2, e2, k2⟩ := sy_iN_ok k1 hs.2 (fun i r2 hr2 y hy => hr i r2 (sy_at_cons hr2) y (sy_at_cons hy)) hl2
    refine ⟨K2, ?_, k2⟩
    unfold sy_iN
    rw [e1]
    exact e2
  | _ :: _, _ :: _, [], _, _, hs, _, _ => hs.elim
noncomputable def sy_iF (s : Nat → Option sy_E) (n : Nat) (ps : List sy_P) (F : List sy_P) : List sy_P := List.rec F (fun p _ ih => match sy_sp s p with
  | some q => bif sy_dom n q then q :: ih else ih
  | none => ih) ps
theorem sy_iF_ok {s : Nat → Option sy_E} {f g : Nat → Int} (hs : ∀ (i : Nat) (e : sy_E), s i = some e → sy_ep f (sy_te e) = g i) {n : Nat} {F : List sy_P} (hF : ∀ p ∈ F, sy_dom n p = true ∧ 0 ≤ sy_ep f p) : ∀ {ps : List sy_P}, (∀ p ∈ ps, 0 ≤ sy_ep g p) → ∀ p ∈ sy_iF s n ps F, sy_dom n p = true ∧ 0 ≤ sy_ep f p
  | [], _, p, hp => hF p hp
  | q :: ps, hg, p, hp => by
    have hp2 : p ∈ (match sy_sp s q with
      | some q => bif sy_dom n q then q :: sy_iF s n ps F else sy_iF s n ps F
      | none => sy_iF s n ps F) := hp
    have ih := sy_iF_ok hs hF (ps := ps) (fun p9 hp9 => hg p9 (List.mem_cons_of_mem _ hp9))
    split at hp2
    · rename_i q2 hq2
      cases hd : sy_dom n q2 with
      | true =>
        rw [hd, cond_true] at hp2
        rcases List.mem_cons.mp hp2 with rfl | hp3
        · exact ⟨hd, by rw [sy_sp_ok hs hq2]; exact hg q List.mem_cons_self⟩
        · exact ih p hp3
      | false => rw [hd, cond_false] at hp2; exact ih p hp2
    · exact ih p hp2
/-- the numbers of an outcome, put among those that are known: σ are the pattern's, Ko the outcome's -/
noncomputable def sy_is1 (K : sy_K) (σ : List sy_E) (Ko : sy_K) : List sy_E := sy_ids K.1.length (Ko.1.length - σ.length) ++ σ
noncomputable def sy_inst (K : sy_K) (σ : List sy_E) (Ko : sy_K) : Option sy_K := (match sy_iN σ (ri_drop Ko.1 (Ko.1.length - σ.length)) (Ko.1.take (Ko.1.length - σ.length) ++ K.1, K.2) with
  | some K1 => some (K1.1, sy_iF (sy_at (sy_is1 K σ Ko)) K1.1.length Ko.2 K1.2)
  | none => none)
theorem sy_ok_pre {R2 : List (Int × Int)} : ∀ {m : List Int} {R : List (Int × Int)} {F : List sy_P}, m.length = R2.length → (∀ (i : Nat) (r : Int × Int) (x : Int), R2[i]? = some r → m[i]? = some x → r.1 ≤ x ∧ x ≤ r.2) → sy_ok ρ (R, F) → sy_ok (m ++ ρ) (R2 ++ R, F) := by
  induction R2 with
  | nil =>
    intro m R F hl _ hk
    have e : m = [] := List.eq_nil_of_length_eq_zero hl
    subst e
    exact hk
  | cons r R2 ih =>
    intro m R F hl hm hk
    cases m with
    | nil => cases hl
    | cons x m =>
      have h1 := ih (m := m) (R := R) (F := F) (by rw [List.length_cons, List.length_cons] at hl; omega) (fun i r2 y h2 h3 => hm (i + 1) r2 y h2 h3) hk
      have b := hm 0 r x rfl rfl
      exact sy_ok_app h1 x (lo := r.1) (hi := r.2) b.1 b.2 (fs := []) (fun p hp => by cases hp)
theorem sy_inst_ok {σ : List sy_E} {Ko : sy_K} {m : List Int} (hk : sy_ok ρ K) (hs : sy_sv ρ σ τ) (ho : sy_ok (m ++ τ) Ko) : ∃ K' : sy_K, sy_inst K σ Ko = some K' ∧ sy_ok (m ++ ρ) K' ∧ sy_sv (m ++ ρ) (sy_is1 K σ Ko) (m ++ τ) := by
  obtain ⟨Ro, Fo⟩ := Ko
  obtain ⟨R, F⟩ := K
  have hl : (m ++ τ).length = Ro.length := ho.1
  rw [List.length_append] at hl
  have hσ := sy_sv_len hs
  have hkl : Ro.length - σ.length = m.length := by omega
  have hids : sy_sv (m ++ ρ) (sy_is1 (R, F) σ (Ro, Fo)) (m ++ τ) := by
    unfold sy_is1
    dsimp only
    rw [hkl, ← (show ρ.length = R.length from hk.1)]
    exact sy_ids_sv m ρ hs
  -- the new ones' ranges
  have hnew : sy_ok (m ++ ρ) (Ro.take m.length ++ R, F) := by
    refine sy_ok_pre (by rw [List.length_take]; omega) ?_ hk
    intro i r x hr hx
    have hi : i < m.length := (List.getElem?_eq_some_iff.mp hx).1
    rw [List.getElem?_take, if_pos hi] at hr
    have e1 : sy_at Ro (Ro.length - 1 - i) = some r := by
      rw [sy_at_eq, if_pos (by omega), show Ro.length - 1 - (Ro.length - 1 - i) = i by omega]; exact hr
    have e2 : sy_at (m ++ τ) (Ro.length - 1 - i) = some x := by
      rw [sy_at_eq, List.length_append, if_pos (by omega), show m.length + τ.length - 1 - (Ro.length - 1 - i) = i by omega, List.getElem?_append_left hi]; exact hx
    exact ho.2.1 _ r e1 x e2
  have hold : ∀ (i : Nat) (r : Int × Int), sy_at (Ro.drop m.length) i = some r → ∀ x : Int, sy_at τ i = some x → r.1 ≤ x ∧ x ≤ r.2 := by
    intro i r hr x hx
    have hi := sy_at_lt hr
    rw [List.length_drop] at hi
    rw [sy_at_eq, List.length_drop, if_pos hi, List.getElem?_drop] at hr
    have e1 : sy_at Ro i = some r := by
      rw [sy_at_eq, if_pos (by omega), show Ro.length - 1 - i = m.length + (Ro.length - m.length - 1 - i) by omega]; exact hr
    exact ho.2.1 i r e1 x (sy_at_app hx m)
  obtain ⟨K1, e1, k1⟩ := sy_iN_ok (σ := σ) (R := Ro.drop m.length) (τ := τ) hnew (sy_sv_app m hs) hold (by rw [List.length_drop]; omega)
  refine ⟨(K1.1, sy_iF (sy_at (sy_is1 (R, F) σ (Ro, Fo))) K1.1.length Fo K1.2), ?_, ?_, hids⟩
  · unfold sy_inst
    dsimp only
    rw [hkl, ri_drop_eq, e1]
  · refine ⟨k1.1, k1.2.1, ?_⟩
    have h9 := sy_iF_ok (s := sy_at (sy_is1 (R, F) σ (Ro, Fo))) (f := sy_tot (m ++ ρ)) (g := sy_tot (m ++ τ)) (n := K1.1.length) (F := K1.2) (fun i e he => by
      obtain ⟨x, h1, h2⟩ := sy_sv_at hids he
      rw [(sy_te_ok h1).2, sy_tot_at h2]) (fun p hp => by rw [← k1.1]; exact k1.2.2 p hp) (ps := Fo) (fun p hp => (ho.2.2 p hp).2)
    intro p hp
    rw [k1.1]
    exact h9 p hp
/-- a value of an outcome -/
noncomputable def sy_sE (σ : List sy_E) (e : sy_E) : Option sy_E := match e with
  | .inl c => some (.inl c)
  | .inr i => sy_at σ i
noncomputable def sy_sV (σ : List sy_E) (a : sy_V) : Option sy_V := match a.1 with
  | 0 => (sy_sE σ a.2.1).map (fun e => (0, e, .inl 0))
  | 1 => (sy_sE σ a.2.1).map (fun e => (1, e, .inl 0))
  | 2 => (sy_sE σ a.2.1).map (fun e => (2, e, .inl 0))
  | 3 => some a
  | 4 => some a
  | _ => none
theorem sy_sE_ok {σ : List sy_E} {e e2 : sy_E} {x : Int} (hs : sy_sv ρ σ τ) (hx : sy_ev τ e = some x) (h : sy_sE σ e = some e2) : sy_ev ρ e2 = some x := by
  cases e with
  | inl c => cases h; exact hx
  | inr i =>
    obtain ⟨y, h1, h2⟩ := sy_sv_at hs (show sy_at σ i = some e2 from h)
    have hx2 : sy_at τ i = some x := hx
    rw [h2] at hx2
    cases hx2
    exact h1
theorem sy_sV_ok {σ : List sy_E} {a b : sy_V} {v : Value} (hs : sy_sv ρ σ τ) (hv : sy_is τ a v) (h : sy_sV σ a = some b) : sy_is ρ b v := by
  obtain ⟨t, e, e2⟩ := a
  unfold sy_sV at h
  unfold sy_is at hv
  dsimp only at h hv
  split at h
  · obtain ⟨x, rfl, hx⟩ := hv
    obtain ⟨e3, h1, rfl⟩ := Option.map_eq_some_iff.mp h
    exact ⟨x, rfl, sy_sE_ok hs hx h1⟩
  · obtain ⟨x, rfl, hx⟩ := hv
    obtain ⟨e3, h1, rfl⟩ := Option.map_eq_some_iff.mp h
    exact ⟨x, rfl, sy_sE_ok hs hx h1⟩
  · obtain ⟨x, k, rfl, hx, hd⟩ := hv
    obtain ⟨e3, h1, rfl⟩ := Option.map_eq_some_iff.mp h
    exact ⟨x, k, rfl, sy_sE_ok hs hx h1, hd.1, fun q => by cases q⟩
  · cases h; exact hv
  · cases h; exact hv
  · cases h
/-- an entry of an outcome -/
noncomputable def sy_sX (σ : List sy_E) (x : (Nat × Nat) × sy_V) : Option ((Nat × Nat) × sy_V) := match x.2.1 with
  | 10 => (match sy_sE σ x.2.2.1, sy_sE σ x.2.2.2 with
    | some a, some b => some (x.1, (10, a, b))
    | _, _ => none)
  | 11 => some x
  | _ => (match sy_sV σ x.2 with
    | some b => some (x.1, b)
    | none => none)
theorem sy_sX_ok {σ : List sy_E} (hs : sy_sv ρ σ τ) {x y : (Nat × Nat) × sy_V} (hx : sy_hx τ w x) (h : sy_sX σ x = some y) : sy_hx ρ w y := by
  obtain ⟨p, t, e, e2⟩ := x
  unfold sy_sX at h
  dsimp only at h
  split at h
  · rcases hx with ⟨v, -, g⟩ | ⟨-, g⟩ | ⟨g, -⟩
    · exact absurd rfl (sy_is_lt g).1
    · split at h
      · rename_i a b ha hb
        cases h
        refine Or.inr (Or.inl ⟨rfl, sy_gh_tr g (fun z hz => sy_sE_ok hs hz ha) (fun _ z hz => sy_sE_ok hs hz hb) (fun n => ?_)⟩)
        -- alike rows: the number of the other one is told as it is
        have g7 : sy_gh τ w p.1 7 e e2 := by rw [← n]; exact g
        obtain ⟨b9, q2, -, g2, -⟩ := g7
        have g2' : e2 = .inl (Int.ofNat q2) := g2
        rw [g2'] at hb ⊢
        cases hb
        rfl
      · cases h
    · cases g
  · cases h; 
    rcases hx with ⟨v, -, g⟩ | ⟨g, -⟩ | ⟨-, g⟩
    · exact absurd rfl (sy_is_lt g).2
    · cases g
    · exact Or.inr (Or.inr ⟨rfl, g⟩)
  · rename_i n10 n11
    split at h
    · rename_i b hb
      cases h
      rcases hx with ⟨v, g1, g⟩ | ⟨g, -⟩ | ⟨g, -⟩
      · exact Or.inl ⟨v, g1, sy_sV_ok hs g hb⟩
      · exact absurd g n10
      · exact absurd g n11
    · cases h
noncomputable def sy_sH (σ : List sy_E) (Ho H : sy_H) : Option sy_H := List.rec (some H) (fun x _ ih => match sy_sX σ x, ih with
  | some b, some r => some (b :: r)
  | _, _ => none) Ho
theorem sy_sH_ok {σ : List sy_E} (hs : sy_sv ρ σ τ) (hh : sy_hok ρ H w) : ∀ {Ho H' : sy_H}, sy_hok τ Ho w → sy_sH σ Ho H = some H' → sy_hok ρ H' w
  | [], H', _, h => by cases h; exact hh
  | x :: Ho, H', ho, h => by
    have h2 : (match sy_sX σ x, sy_sH σ Ho H with
      | some b, some r => some (b :: r)
      | _, _ => none) = some H' := h
    split at h2
    · rename_i b r hb hr
      cases h2
      have ih := sy_sH_ok hs hh (Ho := Ho) (fun y hy => ho y (List.mem_cons_of_mem _ hy)) hr
      intro y hy
      rcases List.mem_cons.mp hy with rfl | hy
      · exact sy_sX_ok hs (ho x List.mem_cons_self) hb
      · exact ih y hy
    · cases h2
/-! rules -/
/-- what stands in a rule's places -/
noncomputable def sy_rs (H : sy_H) (S : List (Nat × Nat)) (i : Nat) : Option sy_E := match ri_nth S i with
  | some x => (match sy_lk x.1 x.2 H with
    | some a => bif Nat.ble a.1 2 then some a.2.1 else none
    | none => none)
  | none => none
theorem sy_rs_ok (hh : sy_hok ρ H w) {S : List (Nat × Nat)} (i : Nat) (e : sy_E) (h : sy_rs H S i = some e) : sy_ep (sy_tot ρ) (sy_te e) = sy_rv w S i := by
  unfold sy_rs at h
  split at h
  · rename_i x hx
    split at h
    · rename_i a ha
      cases hb : Nat.ble a.1 2 with
      | false => rw [hb] at h; cases h
      | true =>
        rw [hb, cond_true] at h
        cases h
        rw [ri_nth_eq] at hx
        obtain ⟨v, h1, h2⟩ := sy_lk_ok hh ha
        unfold sy_rv
        rw [hx]
        dsimp only
        unfold sy_nv
        have h1' : sy_wv w x.1 x.2 = some v := h1
        rw [h1']
        dsimp only
        obtain ⟨t, e1, e2⟩ := a
        have ht : t = 0 ∨ t = 1 ∨ t = 2 := by have := Nat.le_of_ble_eq_true hb; dsimp only at this; omega
        rcases ht with rfl | rfl | rfl
        · obtain ⟨y, rfl, hy⟩ := sy_is_int h2
          exact (sy_te_ok hy).2
        · obtain ⟨y, rfl, hy⟩ := sy_is_long h2
          exact (sy_te_ok hy).2
        · obtain ⟨x9, k9, rfl, hy, hd9⟩ := (h2 : ∃ (x : UInt64) (k : Int), v = .double x ∧ sy_ev ρ e1 = some k ∧ sy_dx e2 k x)
          have e9 : sd_z x9 / sd_U = k9 := sd_num hd9.1
          show _ = sd_z x9 / sd_U
          rw [e9]
          exact (sy_te_ok hy).2
    · cases h
  · cases h
noncomputable def sy_nin (i : Nat) (D : List Nat) : Bool := List.rec true (fun j _ ih => !(Nat.beq j i) && ih) D
theorem sy_nin_ok {i : Nat} : ∀ {D : List Nat}, sy_nin i D = true → i ∉ D
  | [], _, h => by cases h
  | j :: D, h, h2 => by
    have h3 : (!(Nat.beq j i) && sy_nin i D) = true := h
    rw [Bool.and_eq_true] at h3
    rcases List.mem_cons.mp h2 with rfl | h4
    · have h5 := h3.1
      rw [show Nat.beq i i = true by rw [Nat.beq_eq]] at h5
      cases h5
    · exact sy_nin_ok h3.2 h4
/-- one row of a rule that holds: one of its polynomials -/
noncomputable def sy_uc (K : sy_K) (s : Nat → Option sy_E) (c : List sy_P) : Option (List sy_K) := List.rec (some []) (fun p _ ih => match sy_sp s p, ih with
  | some q, some r => bif sy_dom K.1.length q then some ((K.1, q :: K.2) :: r) else none
  | _, _ => none) c
theorem sy_uc_ok (hk : sy_ok ρ K) {s : Nat → Option sy_E} {g : Nat → Int} (hs : ∀ (i : Nat) (e : sy_E), s i = some e → sy_ep (sy_tot ρ) (sy_te e) = g i) : ∀ {c : List sy_P} {L : List sy_K}, sy_uc K s c = some L → (∃ p ∈ c, 0 ≤ sy_ep g p) → ∃ K' ∈ L, sy_ok ρ K'
  | [], L, _, h => by obtain ⟨p, hp, -⟩ := h; cases hp
  | p :: c, L, h, hex => by
    have h2 : (match sy_sp s p, sy_uc K s c with
      | some q, some r => bif sy_dom K.1.length q then some ((K.1, q :: K.2) :: r) else none
      | _, _ => none) = some L := h
    split at h2
    · rename_i q r hq hr
      cases hd : sy_dom K.1.length q with
      | false => rw [hd] at h2; cases h2
      | true =>
        rw [hd, cond_true] at h2
        cases h2
        obtain ⟨p2, hp2, h0⟩ := hex
        rcases List.mem_cons.mp hp2 with rfl | hp3
        · refine ⟨_, List.mem_cons_self, hk.1, hk.2.1, ?_⟩
          intro q2 hq2
          have hq3 : q2 = q ∨ q2 ∈ K.2 := List.mem_cons.mp hq2
          rcases hq3 with rfl | hq3
          · exact ⟨by rw [hk.1]; exact hd, by rw [sy_sp_ok hs hq]; exact h0⟩
          · exact hk.2.2 q2 hq3
        · obtain ⟨K', h5, h6⟩ := sy_uc_ok hk hs hr ⟨p2, hp3, h0⟩
          exact ⟨K', List.mem_cons_of_mem _ h5, h6⟩
    · cases h2
noncomputable def sy_use (RU : sy_RT) (i j : Nat) (H : sy_H) (D : List Nat) (K : sy_K) : Option (List sy_K) := match RU.1 i with
  | some r => bif sy_nin i D then (match ri_nth r.2 j with
    | some c => sy_uc K (sy_rs H r.1) c
    | none => none) else none
  | none => none
theorem sy_use_ok {RU : sy_RT} {i j : Nat} {D : List Nat} {L : List sy_K} (hk : sy_ok ρ K) (hh : sy_hok ρ H w) (hd : sy_ru RU D w) (h : sy_use RU i j H D K = some L) : ∃ K' ∈ L, sy_ok ρ K' := by
  unfold sy_use at h
  split at h
  · rename_i r hr
    cases hb : sy_nin i D with
    | false => rw [hb] at h; cases h
    | true =>
      rw [hb, cond_true] at h
      split at h
      · rename_i c hc
        rw [ri_nth_eq] at hc
        exact sy_uc_ok hk (fun k e he => sy_rs_ok hh k e he) h (hd.2 i r hr (sy_nin_ok hb) c (List.mem_of_getElem? hc))
      · cases h
  · cases h
/-- a rule that holds again: of each row one polynomial -/
noncomputable def sy_pc (K : sy_K) (s : Nat → Option sy_E) : List (List sy_P) → List (Nat × sy_Ce) → Bool
  | [], _ => true
  | c :: cs, x :: xs => (match ri_nth c x.1 with
    | some p => (match sy_sp s p with
      | some q => sy_prv K q x.2
      | none => false)
    | none => false) && sy_pc K s cs xs
  | _ :: _, [] => false
theorem sy_pc_ok (hk : sy_ok ρ K) {s : Nat → Option sy_E} {g : Nat → Int} (hs : ∀ (i : Nat) (e : sy_E), s i = some e → sy_ep (sy_tot ρ) (sy_te e) = g i) : ∀ {cs : List (List sy_P)} {xs : List (Nat × sy_Ce)}, sy_pc K s cs xs = true → ∀ c ∈ cs, ∃ p ∈ c, 0 ≤ sy_ep g p
  | [], _, _, c, hc => by cases hc
  | c :: cs, [], h, _, _ => by unfold sy_pc at h; cases h
  | c :: cs, x :: xs, h, c2, hc => by
    unfold sy_pc at h
    rw [Bool.and_eq_true] at h
    rcases List.mem_cons.mp hc with rfl | hc
    · have h1 := h.1
      split at h1
      · rename_i p hp
        split at h1
        · rename_i q hq
          rw [ri_nth_eq] at hp
          exact ⟨p, List.mem_of_getElem? hp, by rw [← sy_sp_ok hs hq]; exact sy_prv_ok h1 hk⟩
        · cases h1
      · cases h1
    · exact sy_pc_ok hk hs h.2 c2 hc
noncomputable def sy_del (i : Nat) (D : List Nat) : List Nat := List.rec [] (fun j _ ih => @Bool.rec (fun _ => List Nat) (j :: ih) ih (Nat.beq j i)) D
theorem sy_del_no {i k : Nat} : ∀ {D : List Nat}, k ∉ sy_del i D → k = i ∨ k ∉ D
  | [], h => Or.inr h
  | j :: D, h => by
    have h2 : k ∉ (@Bool.rec (fun _ => List Nat) (j :: sy_del i D) (sy_del i D) (Nat.beq j i)) := h
    cases hb : Nat.beq j i with
    | true =>
      rw [hb] at h2
      rcases sy_del_no h2 with h3 | h3
      · exact Or.inl h3
      · by_cases e : k = i
        · exact Or.inl e
        · refine Or.inr (fun z => ?_)
          rcases List.mem_cons.mp z with rfl | z
          · exact e (Nat.eq_of_beq_eq_true hb)
          · exact h3 z
    | false =>
      rw [hb] at h2
      rcases sy_del_no (fun z => h2 (List.mem_cons_of_mem _ z)) with h3 | h3
      · exact Or.inl h3
      · refine Or.inr (fun z => ?_)
        rcases List.mem_cons.mp z with rfl | z
        · exact h2 List.mem_cons_self
        · exact h3 z
noncomputable def sy_prr (RU : sy_RT) (i : Nat) (xs : List (Nat × sy_Ce)) (H : sy_H) (D : List Nat) (K : sy_K) : Option (List Nat) := match RU.1 i with
  | some r => bif sy_pc K (sy_rs H r.1) r.2 xs then some (sy_del i D) else none
  | none => none
theorem sy_prr_ok {RU : sy_RT} {i : Nat} {xs : List (Nat × sy_Ce)} {D D' : List Nat} (hk : sy_ok ρ K) (hh : sy_hok ρ H w) (hd : sy_ru RU D w) (h : sy_prr RU i xs H D K = some D') : sy_ru RU D' w := by
  unfold sy_prr at h
  split at h
  · rename_i r hr
    cases hb : sy_pc K (sy_rs H r.1) r.2 xs with
    | false => rw [hb] at h; cases h
    | true =>
      rw [hb, cond_true] at h
      cases h
      refine ⟨hd.1, ?_⟩
      intro k r2 hr2 hk2
      rcases sy_del_no hk2 with rfl | h3
      · rw [hr] at hr2
        cases hr2
        exact sy_pc_ok hk (fun j e he => sy_rs_ok hh j e he) hb
      · exact hd.2 k r2 hr2 h3
  · cases h
/-! a rule that says of some places what another says of others that hold the same -/
/-- places that hold the same numbers -/
noncomputable def sy_sam (H : sy_H) : List (Nat × Nat) → List (Nat × Nat) → Bool
  | [], [] => true
  | x :: s, y :: t => (match sy_lk x.1 x.2 H, sy_lk y.1 y.2 H with
    | some a, some b => (Nat.ble a.1 1 && Nat.ble b.1 1) && sy_eeq a.2.1 b.2.1
    | _, _ => false) && sy_sam H s t
  | _, _ => false
theorem sy_num_ev {a : sy_V} {v : Value} (hv : sy_is ρ a v) (ht : Nat.ble a.1 1 = true) : sy_ev ρ a.2.1 = some (sy_num v) := by
  obtain ⟨t, e1, e2⟩ := a
  have ht2 : t = 0 ∨ t = 1 := by have := Nat.le_of_ble_eq_true ht; dsimp only at this; omega
  rcases ht2 with rfl | rfl
  · obtain ⟨y, rfl, hy⟩ := sy_is_int hv
    exact hy
  · obtain ⟨y, rfl, hy⟩ := sy_is_long hv
    exact hy
theorem sy_sam_ok (hh : sy_hok ρ H w) : ∀ {s t : List (Nat × Nat)}, sy_sam H s t = true → ∀ k : Nat, sy_rv w s k = sy_rv w t k
  | [], [], _, k => rfl
  | x :: s, y :: t, h, k => by
    unfold sy_sam at h
    rw [Bool.and_eq_true] at h
    obtain ⟨h1, h2⟩ := h
    cases k with
    | succ k => exact sy_sam_ok hh h2 k
    | zero =>
      split at h1
      · rename_i a b ha hb
        rw [Bool.and_eq_true, Bool.and_eq_true] at h1
        obtain ⟨⟨c1, c2⟩, c3⟩ := h1
        obtain ⟨v, g1, g2⟩ := sy_lk_ok hh ha
        obtain ⟨u, k1, k2⟩ := sy_lk_ok hh hb
        have e1 := sy_num_ev g2 c1
        have e2 := sy_num_ev k2 c2
        have e3 := sy_eeq_ok c3
        try dsimp only at e1 e2
        rw [e3, e2] at e1
        show sy_nv w x.1 x.2 = sy_nv w y.1 y.2
        unfold sy_nv
        have g1' : sy_wv w x.1 x.2 = some v := g1
        have k1' : sy_wv w y.1 y.2 = some u := k1
        rw [g1', k1']
        exact (Option.some.inj e1).symm
      · cases h1
  | [], _ :: _, h, _ => by unfold sy_sam at h; cases h
  | _ :: _, [], h, _ => by unfold sy_sam at h; cases h
noncomputable def sy_trf (RU : sy_RT) (i j : Nat) (H : sy_H) (D : List Nat) : Option (List Nat) := match RU.1 i, RU.1 j with
  | some r, some q => bif sy_nin i D && (sy_req r.2 q.2 && sy_sam H r.1 q.1) then some (sy_del j D) else none
  | _, _ => none
theorem sy_trf_ok {RU : sy_RT} {i j : Nat} {D D' : List Nat} (hh : sy_hok ρ H w) (hd : sy_ru RU D w) (h : sy_trf RU i j H D = some D') : sy_ru RU D' w := by
  unfold sy_trf at h
  split at h
  · rename_i r q hr hq
    cases hb : (sy_nin i D && (sy_req r.2 q.2 && sy_sam H r.1 q.1)) with
    | false => rw [hb] at h; cases h
    | true =>
      rw [hb, cond_true] at h
      cases h
      rw [Bool.and_eq_true, Bool.and_eq_true] at hb
      refine ⟨hd.1, ?_⟩
      intro k r2 hr2 hk2
      rcases sy_del_no hk2 with rfl | h3
      · rw [hq] at hr2
        cases hr2
        have h4 := hd.2 i r hr (sy_nin_ok hb.1)
        intro c hc
        rw [← sy_req_ok hb.2.1] at hc
        obtain ⟨p, hp, h5⟩ := h4 c hc
        have e : sy_rv w r.1 = sy_rv w q.1 := funext (sy_sam_ok hh hb.2.2)
        exact ⟨p, hp, by rw [← e]; exact h5⟩
      · exact hd.2 k r2 hr2 h3
  · cases h
end SYI
