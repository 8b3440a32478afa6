/-! ===== two runs side by side, part 6: a step of the active one ===== -/
section PVG
variable {E : sy_env} {T : Nat → Option sy_C} {RU : sy_RT} {CT : List sy_Ct} {C : sy_Ct} {ρ0 ρs : List Int} {w0 : List ri_E} {M0 : ri_M} {Q : ri_Out → Prop}
/-- one step of a survey without cuts, whatever goes on behind it -/
theorem pv_go1 {ih : sy_Go} (hih : sy_Sd E T RU C Q ρ0 ρs w0 M0 ih) (hCT : ∀ c ∈ CT, sy_Cok E T RU c) (hal : E.2.2.2.2.2.2.2.1 w0.length = false) (hs0 : ∃ m, ρs = m ++ ρ0) (hn : sy_Hy E T RU C Q ρ0 w0) {fs : List sy_Fr} {d bud : Nat} {M : ri_M} {ix : Nat} {cur : List ri_Op} {pc : Nat} {lv : sy_L} {st : List sy_V} {H : sy_H} {D : List Nat} {K : sy_K} {nc ns : Nat} {hs hs' : List sy_Hn} (h : sy_go (sy_e4 E) T RU CT C [] none (0, 0) ih fs d bud M ix cur pc lv st H D K nc ns hs = some hs')
    (hcur : cur = M.2.2.2.2.2.drop ix) {ρ : List Int} {gs : List sy_CF} {d2 bud2 : Nat} {lvc : ri_L} {stc : List Value} {w : List ri_E} {fr : Nat} (hext : ∃ m, ρ = m ++ ρs) (hf : sy_frs ρ fs gs) (hb : sy_bot C M0 gs M d2 bud2) (h1 : d ≤ d2) (h2 : bud ≤ bud2) (hk : sy_ok ρ K) (hlv : sy_lv ρ lv lvc) (hst : sy_st ρ st stc) (hw : sy_WI T C w0 w) (hh : sy_hok ρ H w) (hd : sy_ru RU D w) :
    sy_Ev E d2 bud2 M cur pc lvc stc w nc ns fr (sy_Pk E Q gs) := by
  have inst : ∀ hs : List sy_Hn, sy_instr (sy_e4 E) T RU CT C ih fs d bud M ix cur pc lv st H D K nc ns hs = some hs' → sy_Ev E d2 bud2 M cur pc lvc stc w nc ns fr (sy_Pk E Q gs) := by
    intro hs h
    cases cur with
    | nil => cases h
    | cons o nxt =>
      obtain ⟨pc9, κ, i, a, b, v, ts⟩ := o
      have h9 : (bif Nat.beq pc9 pc then sy_exec (sy_e4 E) T RU CT C ih fs d bud M ix nxt lv st H D K nc ns hs pc κ i a b v ts else none) = some hs' := h
      cases hc : Nat.beq pc9 pc with
      | false => rw [hc] at h9; cases h9
      | true =>
        rw [hc, cond_true] at h9
        have e9 : pc9 = pc := Nat.eq_of_beq_eq_true hc
        subst e9
        exact sy_exec_ok hih hCT hal hs0 hn h9 hcur hext hf hb h1 h2 hk hlv hst hw hh hd
  have stp : ∀ hs : List sy_Hn, sy_step (sy_e4 E) T RU CT C [] none (0, 0) ih fs d bud M ix cur pc lv st H D K nc ns hs = some hs' → sy_Ev E d2 bud2 M cur pc lvc stc w nc ns fr (sy_Pk E Q gs) := by
    intro hs h
    unfold sy_step at h
    split at h
    · split at h
      · rename_i cu hcu
        cases hcu
      · exact inst _ h
    · exact inst _ h
  unfold sy_go at h
  split at h
  · rename_i h9 t9
    cases hc : (Nat.beq h9.1 0 && Nat.blt h9.2.1 20) with
    | true =>
      rw [hc, cond_true] at h
      exact sy_cmd_ok hih h hcur hext hf hb h1 h2 hk hlv hst hw hh hd
    | false =>
      rw [hc, cond_false] at h
      exact stp _ h
  · exact stp _ h
end PVG
section PVS
variable {E : sy_env} {own : Bool → Nat → Bool} {T : Nat → Option sy_C} {RU : sy_RT} {CT : Bool → List sy_Ct} {PC : List pv_Ct} {C : pv_Ct} {CU : List pv_Cut} {μ0 : Option sy_P} {ρ0 ρs : List Int} {w0 : List ri_E} {M0 : Bool → ri_M} {P : (Bool → ri_Out) → List ri_E → Prop}
theorem pv_wv_of {w v : List ri_E} {q : Nat} (h : v[q]? = w[q]?) (j : Nat) : sy_wv v q j = sy_wv w q j := by
  unfold sy_wv
  rw [h]
/-- what goes on behind a step, told of the active one alone -/
theorem pv_hih (hT : ∀ n, 1000000 ≤ n → ri_nth E.2.2.2.1 n = none) (hdj : ∀ s q, own s q = true → own (!s) q = false) {ih : pv_Go} (hih : pv_Sd E own T RU C ρs w0 M0 P ih) (hal : E.2.2.2.2.2.2.2.1 w0.length = false) {s : Bool} {X : pv_S} {ρ : List Int} {w : List ri_E} {Xc : pv_C} (hext : ∃ m, ρ = m ++ ρs) (hw : pv_WI T C w0 w) (hX : pv_rel ρ (pv_C1 own C (!s)) (M0 (!s)) X Xc) :
    sy_Sd E (pv_T (own s) T) RU (pv_C1 own C s) (pv_Q E own s Xc w P) ρ0 ρ (pv_mk (own s) w) (M0 s) (ih s X) := by
  intro fs d bud M ix cur pc lv st H D K nc ns hs hs' h hcur ρ1 gs d2 bud2 lvc stc v fr hext1 hf hb h1 h2 hk hlv hst hv hh hd
  obtain ⟨v1, v2, v3⟩ := hv
  rw [pv_mk_len] at v2
  obtain ⟨m1, rfl⟩ := hext1
  have val : ∀ q j : Nat, sy_wv (pv_mg (own s) v w) q j = sy_wv v q j := by
    intro q j
    cases ho : own s q with
    | true => exact pv_wv_of (pv_mg_own v2 ho) j
    | false =>
      rw [pv_wv_of (pv_mg_oth ho) j, v3 q j (fun x hx hq => ?_), pv_mk_wv]
      have e1 := (pv_ml_mem hx).2
      rw [← hq.1, ho] at e1
      cases e1
  have hw' : pv_WI T C w0 (pv_mg (own s) v w) := by
    refine ⟨fun q c hc => ?_, (pv_mg_len _ _ _).trans hw.2.1, fun q j hq => ?_⟩
    · cases ho : own s q with
      | true =>
        obtain ⟨vs, a1, a2, a3⟩ := v1 q c (by unfold pv_T; rw [ho]; exact hc)
        exact ⟨vs, by rw [pv_mg_own v2 ho]; exact a1, a2, a3⟩
      | false =>
        obtain ⟨vs, a1, a2, a3⟩ := hw.1 q c hc
        exact ⟨vs, by rw [pv_mg_oth ho]; exact a1, a2, a3⟩
    · rw [val q j, v3 q j (fun x hx => hq x (pv_ml_mem hx).1), pv_mk_wv]
      exact hw.2.2 q j hq
  have k := hih s X fs d bud M ix cur pc lv st H D K nc ns hs hs' h hcur (m1 ++ ρ) gs d2 bud2 lvc stc (pv_mg (own s) v w) fr Xc (by obtain ⟨m, rfl⟩ := hext; exact ⟨m1 ++ m, by rw [List.append_assoc]⟩) hf hb h1 h2 hk hlv hst hw' (pv_hok hh val) (pv_ru hd val) (pv_rel_app hX m1)
  exact pv_to_Q hT (hdj s) (by rw [hw.2.1]; exact hal) (fun q hq => pv_mg_oth hq) (pv_mg_len _ _ _) ⟨(pv_mg_len _ _ _).trans v2.symm, fun q hq => pv_mg_own v2 hq⟩ k
/-- an instruction, or a hint, of the active one -/
theorem pv_one_ok (hT : ∀ n, 1000000 ≤ n → ri_nth E.2.2.2.1 n = none) (hdj : ∀ s q, own s q = true → own (!s) q = false) {ih : pv_Go} (hih : pv_Sd E own T RU C ρs w0 M0 P ih) (hCT : ∀ s, ∀ c ∈ CT s, sy_Cok E (pv_T (own s) T) RU c) (hal : E.2.2.2.2.2.2.2.1 w0.length = false) (hs0 : ∃ m, ρs = m ++ ρ0) (hn : ρ0.length = C.2.2.1.1.length) {s : Bool} {X : pv_S} : pv_Sd1 E own T RU C ρs w0 M0 P s X (pv_one (sy_e4 E) own T RU CT C ih s X) := by
  intro fs d bud M ix cur pc lv st H D K nc ns hs hs' h hcur ρ gs d2 bud2 lvc stc w fr Xc hext hf hb h1 h2 hk hlv hst hw hh hd hX
  have hs1 : ∃ m, ρ = m ++ ρ0 := by
    obtain ⟨m, rfl⟩ := hext
    obtain ⟨ms, rfl⟩ := hs0
    exact ⟨m ++ ms, by rw [List.append_assoc]⟩
  have hy : sy_Hy E (pv_T (own s) T) RU (pv_C1 own C s) (pv_Q E own s Xc w P) ρ0 (pv_mk (own s) w) := by
    refine ⟨hn, fun out ho => ?_, fun h9 => by cases h9⟩
    obtain ⟨-, -, -, -, oc, hoc, -⟩ := ho
    cases hoc
  refine pv_of_Q hT (by rw [hw.2.1]; exact hal) ?_
  exact pv_go1 (pv_hih hT hdj hih hal hext hw hX) (hCT s) (by rw [pv_mk_len, hw.2.1]; exact hal) hs1 hy h hcur ⟨[], rfl⟩ hf hb h1 h2 hk hlv hst ⟨pv_tw hw.1 (fun q hq => pv_mk_own hq), rfl, sy_mods_rf _ _⟩ (pv_hok hh (pv_mk_wv _ _)) (pv_ru hd (pv_mk_wv _ _))
end PVS
