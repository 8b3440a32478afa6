/-! ===== the surveyor, part 16: what it surveys ends well ===== -/
def sy_Pk (E : sy_env) (P : ri_Out → Prop) : List sy_CF → ri_Out → Prop
  | [] => P
  | G :: gs => sy_after E G (sy_Pk E P gs)
def sy_res (ρ : List Int) (p : Option sy_V ⊕ Nat) (r : Option Value ⊕ Nat) : Prop := match p, r with
  | .inl a, .inl v => sy_rel ρ a v
  | .inr x, .inr y => x = y
  | _, _ => False
theorem sy_rel_app {ρ : List Int} {a : Option sy_V} {v : Option Value} (h : sy_rel ρ a v) (m : List Int) : sy_rel (m ++ ρ) a v := by
  cases a with
  | none => cases v with
    | none => trivial
    | some v => exact h
  | some a => cases v with
    | none => exact h
    | some v => exact sy_is_app h m
theorem sy_res_app {ρ : List Int} {p : Option sy_V ⊕ Nat} {r : Option Value ⊕ Nat} (h : sy_res ρ p r) (m : List Int) : sy_res (m ++ ρ) p r := by
  cases p with
  | inl a => cases r with
    | inl v => exact sy_rel_app h m
    | inr y => exact h
  | inr x => cases r with
    | inl v => exact h
    | inr y => exact h
/-- an end as a contract says it, of a call with these numbers in that world -/
def sy_Po (T : Nat → Option sy_C) (RU : sy_RT) (C : sy_Ct) (ρ0 : List Int) (w0 : List ri_E) (out : ri_Out) : Prop := out.2.2.2.2.1 = [] ∧ out.2.1.length = w0.length ∧ sy_tw T out.2.1 ∧ sy_mods w0 out.2.1 C.2.2.2.2.2.2.2.1 ∧ ∃ o ∈ C.2.2.2.2.2.2.2.2, ∃ m : List Int, sy_ok (m ++ ρ0) o.2.2.2.1 ∧ sy_hok (m ++ ρ0) o.2.2.2.2.1 out.2.1 ∧ sy_ru RU o.2.2.2.2.2 out.2.1 ∧ out.2.2.1 = o.2.1 ∧ out.2.2.2.1 = o.2.2.1 ∧ sy_res (m ++ ρ0) o.1 out.1
/-- a contract that is kept -/
def sy_Cok (E : sy_env) (T : Nat → Option sy_C) (RU : sy_RT) (C : sy_Ct) : Prop := ∀ (M : ri_M) (ρ : List Int) (vals : List Value) (w : List ri_E) (fr d bud : Nat), E.1[C.1]? = some M → sy_ok ρ C.2.2.2.2.1 → sy_st ρ C.2.2.2.1 vals → sy_tw T w → sy_hok ρ C.2.2.2.2.2.1 w → sy_ru RU C.2.2.2.2.2.2.1 w → E.2.2.2.2.2.2.2.1 w.length = false → C.2.1 ≤ d → C.2.2.1 ≤ bud →
  sy_Ev E d bud M M.2.2.2.2.2 0 (lv_args 0 vals) [] w 0 0 fr (sy_Po T RU C ρ w)
def sy_frs (ρ : List Int) : List sy_Fr → List sy_CF → Prop
  | [], [] => True
  | (d, bud, M, ix, nxt, pc, lv, rest, nc, ns, hl) :: fs, (d2, bud2, M2, nxt2, pc2, lvc, restc, nc2, ns2, hl2) :: gs => (d ≤ d2 ∧ bud ≤ bud2 ∧ M = M2 ∧ nxt = nxt2 ∧ nxt = M.2.2.2.2.2.drop ix ∧ pc = pc2 ∧ sy_lv ρ lv lvc ∧ sy_st ρ rest restc ∧ nc = nc2 ∧ ns = ns2 ∧ hl = hl2) ∧ sy_frs ρ fs gs
  | _, _ => False
theorem sy_frs_app {ρ : List Int} (m : List Int) : ∀ {fs : List sy_Fr} {gs : List sy_CF}, sy_frs ρ fs gs → sy_frs (m ++ ρ) fs gs
  | [], [], _ => trivial
  | (d, bud, M, ix, nxt, pc, lv, rest, nc, ns, hl) :: fs, (d2, bud2, M2, nxt2, pc2, lvc, restc, nc2, ns2, hl2) :: gs, h => by
    obtain ⟨⟨h1, h2, h3, h4, h5, h6, h7, h8, h9⟩, h10⟩ := h
    exact ⟨⟨h1, h2, h3, h4, h5, h6, sy_lv_app m h7, sy_st_app m h8, h9⟩, sy_frs_app m h10⟩
  | [], _ :: _, h => h.elim
  | _ :: _, [], h => h.elim
/-- frames that wait: one number for another -/
theorem sy_suF_ok {ρ : List Int} {y x : sy_E} (hs : sy_sub9 ρ y x) : ∀ {fs : List sy_Fr} {gs : List sy_CF}, sy_frs ρ fs gs → sy_frs ρ (sy_suF y x fs) gs
  | [], [], _ => trivial
  | (d, bud, M, ix, nxt, pc, lv, rest, nc, ns, hl) :: fs, (d2, bud2, M2, nxt2, pc2, lvc, restc, nc2, ns2, hl2) :: gs, h => by
    obtain ⟨⟨h1, h2, h3, h4, h5, h6, h7, h8, h9⟩, h10⟩ := h
    exact ⟨⟨h1, h2, h3, h4, h5, h6, sy_suL_ok hs h7, sy_suS_ok hs h8, h9⟩, sy_suF_ok hs h10⟩
  | [], _ :: _, h => h.elim
  | _ :: _, [], h => h.elim
theorem sy_fil_ok2 {ρ : List Int} {k : Nat} {lv : sy_L} {vs : ri_L} (h : sy_lv ρ lv vs) : sy_lv ρ (sy_fil (sy_f1 k) lv) (vs.filter (ri_f1 k)) := by
  intro x hx
  obtain ⟨h1, h2⟩ := sy_fil_mem hx
  obtain ⟨u, h3, h4⟩ := h x h1
  refine ⟨u, sy_get_fil ?_ h3, h4⟩
  have e : ri_f1 k (x.1, u) = sy_f1 k x := by
    show (!(x.1 == k) && !(x.1 + 1 == k && u.category == 2)) = _
    rw [sy_is_cat h4, sy_nb, sy_nb, sy_nb]; rfl
  rw [e]; exact h2
section SYM
variable {E : sy_env} {T : Nat → Option sy_C} {RU : sy_RT} {CT : List sy_Ct} {C : sy_Ct} {CU : List sy_Cut} {μ0 : Option sy_P} {ρ0 ρs : List Int} {w0 : List ri_E} {M0 : ri_M} {cb : Nat × Nat} {Q : ri_Out → Prop}
def sy_WI (T : Nat → Option sy_C) (C : sy_Ct) (w0 w : List ri_E) : Prop := sy_tw T w ∧ w.length = w0.length ∧ sy_mods w0 w C.2.2.2.2.2.2.2.1
def sy_bot (C : sy_Ct) (M0 : ri_M) : List sy_CF → ri_M → Nat → Nat → Prop
  | [], M, d, b => M = M0 ∧ C.2.1 ≤ d ∧ C.2.2.1 ≤ b
  | G :: gs, _, _, _ => sy_bot C M0 gs G.2.2.1 G.1 G.2.1
/-- what the law's survey knows of the script: its words are ints, six of them from the first number on -/
def sy_Sc (E : sy_env) (ρ0 : List Int) : Prop := ∃ x : Int, sy_at ρ0 0 = some x ∧ 0 ≤ x ∧ x + 5 < (E.2.2.2.2.2.2.1 : Int) ∧ ∀ c : Nat, c < 6 → ∃ y : Int32, E.2.2.2.2.2.1 (x.toNat + c) = .int y ∧ sy_at ρ0 (3 + c) = some y.toInt
def sy_Hy (E : sy_env) (T : Nat → Option sy_C) (RU : sy_RT) (C : sy_Ct) (Q : ri_Out → Prop) (ρ0 : List Int) (w0 : List ri_E) : Prop := ρ0.length = C.2.2.2.2.1.1.length ∧ (∀ out : ri_Out, sy_Po T RU C ρ0 w0 out → Q out) ∧ (Nat.beq C.1 0 = true → sy_Sc E ρ0)
/-- runs from the cuts end well, as far as they are smaller than the start -/
def sy_CutOk (E : sy_env) (T : Nat → Option sy_C) (RU : sy_RT) (C : sy_Ct) (CU : List sy_Cut) (μ0 : Option sy_P) (cb : Nat × Nat) (Q : ri_Out → Prop) (ρ0 ρs : List Int) (w0 : List ri_E) (M0 : ri_M) : Prop := ∀ cu ∈ CU, ∀ (τ : List Int) (lvc : ri_L) (w : List ri_E) (fr d2 b2 : Nat) (o : ri_Op) (nxt : List ri_Op) (nc ns : Nat), (∃ m, τ = m ++ ρ0) → C.2.1 ≤ d2 → C.2.2.1 ≤ b2 → M0.2.2.2.2.2.drop cu.1 = o :: nxt → sy_ok τ cu.2.2.1 → sy_lv τ cu.2.1 lvc → sy_WI T C w0 w → sy_hok τ cu.2.2.2.1 w → sy_ru RU cu.2.2.2.2.1 w → 0 ≤ sy_ep (sy_tot τ) cu.2.2.2.2.2 → (∀ m0, μ0 = some m0 → sy_ep (sy_tot τ) cu.2.2.2.2.2 < sy_ep (sy_tot ρs) m0) → nc ≤ cb.1 → ns ≤ cb.2 →
  sy_Ev E d2 b2 M0 (M0.2.2.2.2.2.drop cu.1) o.1 lvc [] w nc ns fr Q
def sy_Sd (E : sy_env) (T : Nat → Option sy_C) (RU : sy_RT) (C : sy_Ct) (Q : ri_Out → Prop) (ρ0 ρs : List Int) (w0 : List ri_E) (M0 : ri_M) (g : sy_Go) : Prop := ∀ (fs : List sy_Fr) (d bud : Nat) (M : ri_M) (ix : Nat) (cur : List ri_Op) (pc : Nat) (lv : sy_L) (st : List sy_V) (H : sy_H) (D : List Nat) (K : sy_K) (nc ns : Nat) (hs hs' : List sy_Hn), g fs d bud M ix cur pc lv st H D K nc ns hs = some hs' → cur = M.2.2.2.2.2.drop ix →
  ∀ (ρ : List Int) (gs : List sy_CF) (d2 bud2 : Nat) (lvc : ri_L) (stc : List Value) (w : List ri_E) (fr : Nat), (∃ m, ρ = m ++ ρs) → sy_frs ρ fs gs → sy_bot C M0 gs M d2 bud2 → d ≤ d2 → bud ≤ bud2 → sy_ok ρ K → sy_lv ρ lv lvc → sy_st ρ st stc → sy_WI T C w0 w → sy_hok ρ H w → sy_ru RU D w →
    sy_Ev E d2 bud2 M cur pc lvc stc w nc ns fr (sy_Pk E Q gs)
theorem sy_post_ok {res : Option sy_V ⊕ Nat} {nc ns : Nat} {H : sy_H} {D : List Nat} {K : sy_K} {hs hs' : List sy_Hn} (h : sy_post C res nc ns H D K hs = some hs') {ρ : List Int} {w : List ri_E} {r : Option Value ⊕ Nat} {fr : Nat} (hext : ∃ m, ρ = m ++ ρ0) (hn : ρ0.length = C.2.2.2.2.1.1.length) (hk : sy_ok ρ K) (hres : sy_res ρ res r) (hw : sy_WI T C w0 w) (hh : sy_hok ρ H w) (hd : sy_ru RU D w) :
    sy_Po T RU C ρ0 w0 (r, w, nc, ns, [], fr) := by
  obtain ⟨m, rfl⟩ := hext
  have h0 : sy_sv (m ++ ρ0) (sy_s0 C) ρ0 := by
    unfold sy_s0
    rw [← hn]
    exact sy_sv_app m (sy_ids0 ρ0)
  unfold sy_post at h
  split at h
  · rename_i hd9 tl
    split at h
    · rename_i o ho
      split at h
      · rename_i σ hσ
        have key : ∃ m1 : List Int, sy_sv (m ++ ρ0) σ (m1 ++ ρ0) ∧ sy_res (m1 ++ ρ0) o.1 r := by
          split at hσ
          · rename_i e1
            cases hσ
            rw [e1]
            cases r with
            | inl v => cases v with
              | none => exact ⟨[], h0, trivial⟩
              | some v => exact (hres : False).elim
            | inr y => exact (hres : False).elim
          · rename_i p a e1
            rw [e1]
            cases r with
            | inl v => cases v with
              | none => exact (hres : False).elim
              | some v =>
                obtain ⟨m1, a1, a2⟩ := sy_mv_ok hk (show sy_is (m ++ ρ0) a v from hres) h0 hσ
                exact ⟨m1, a1, a2⟩
            | inr y => exact (hres : False).elim
          · rename_i x y e1
            rw [e1]
            cases hb : Nat.beq x y with
            | false => rw [hb] at hσ; cases hσ
            | true =>
              rw [hb, cond_true] at hσ
              cases hσ
              cases r with
              | inl v => exact (hres : False).elim
              | inr z =>
                have e2 : y = z := hres
                exact ⟨[], h0, (Nat.eq_of_beq_eq_true hb).trans e2⟩
          · cases hσ
        obtain ⟨m1, a1, a2⟩ := key
        split at h
        · rename_i σ1 hσ1
          obtain ⟨m2, b1, b2⟩ := sy_mh_ok hk hh a1 hσ1
          cases hb : ((Nat.beq hd9.2.1 31 && (Nat.beq nc o.2.1 && Nat.beq ns o.2.2.1)) && (sy_ent K σ1 o.2.2.2.1 hd9.2.2.2.2.2.2.1 && sy_dsub D o.2.2.2.2.2)) with
          | false => rw [hb] at h; cases h
          | true =>
            simp only [Bool.and_eq_true] at hb
            obtain ⟨⟨-, c1, c2⟩, c3, c4⟩ := hb
            rw [ri_nth_eq] at ho
            refine ⟨rfl, hw.2.1, hw.1, hw.2.2, o, List.mem_of_getElem? ho, m2 ++ m1, ?_, ?_, sy_ru_sub hd (sy_dsub_ok c4), Nat.eq_of_beq_eq_true c1, Nat.eq_of_beq_eq_true c2, ?_⟩
            · rw [List.append_assoc]; exact sy_ent_ok hk b1 c3
            · rw [List.append_assoc]; exact b2
            · rw [List.append_assoc]; exact sy_res_app a2 m2
        · cases h
      · cases h
    · cases h
  · cases h
theorem sy_cut_ok {cu : sy_Cut} {lv : sy_L} {st : List sy_V} {nc ns : Nat} {H : sy_H} {D : List Nat} {K : sy_K} {hs hs' : List sy_Hn} (h : sy_cut C μ0 cb cu lv st nc ns H D K hs = some hs') (hcu : cu ∈ CU) (hcut : sy_CutOk E T RU C CU μ0 cb Q ρ0 ρs w0 M0) (hdom : ∀ m0, μ0 = some m0 → sy_dom ρs.length m0 = true) (hs0 : ∃ m, ρs = m ++ ρ0) (hn : ρ0.length = C.2.2.2.2.1.1.length)
    {ρ : List Int} {lvc : ri_L} {stc : List Value} {w : List ri_E} {fr d2 b2 : Nat} {o : ri_Op} {nxt : List ri_Op} (hext : ∃ m, ρ = m ++ ρs) (h1 : C.2.1 ≤ d2) (h2 : C.2.2.1 ≤ b2) (hop : M0.2.2.2.2.2.drop cu.1 = o :: nxt) (hk : sy_ok ρ K) (hl : sy_lv ρ lv lvc) (hst : sy_st ρ st stc) (hw : sy_WI T C w0 w) (hh : sy_hok ρ H w) (hd : sy_ru RU D w) :
    sy_Ev E d2 b2 M0 (M0.2.2.2.2.2.drop cu.1) o.1 lvc stc w nc ns fr Q := by
  obtain ⟨m, rfl⟩ := hext
  obtain ⟨ms, rfl⟩ := hs0
  have h0 : sy_sv (m ++ (ms ++ ρ0)) (sy_s0 C) ρ0 := by
    unfold sy_s0
    rw [← hn]
    exact sy_sv_app m (sy_sv_app ms (sy_ids0 ρ0))
  unfold sy_cut at h
  split at h
  · rename_i hd9 tl
    rw [sy_st_nil hst]
    split at h
    · rename_i σ hσ
      obtain ⟨m1, a1, a2⟩ := sy_ml_ok hk hl h0 hσ
      split at h
      · rename_i σ1 hσ1
        obtain ⟨m2, b1, b2'⟩ := sy_mh_ok hk hh a1 hσ1
        split at h
        · rename_i mp hmp
          cases hb : ((Nat.beq hd9.2.1 30 && (Nat.ble nc cb.1 && Nat.ble ns cb.2)) && ((sy_ent K σ1 cu.2.2.1 (sy_c2 hd9.2.2.2.2.2.2.1) && sy_dsub D cu.2.2.2.2.1) && (sy_prv K mp (sy_c0 hd9.2.2.2.2.2.2.1) && sy_dec μ0 K mp (sy_c11 hd9.2.2.2.2.2.2.1)))) with
          | false => rw [hb] at h; cases h
          | true =>
            simp only [Bool.and_eq_true] at hb
            obtain ⟨⟨-, c1, c2⟩, ⟨c3, c4⟩, c5, c6⟩ := hb
            have em := sy_sv_sp b1 hmp
            have p0 := sy_prv_ok c5 hk
            refine hcut cu hcu (m2 ++ (m1 ++ ρ0)) lvc w fr d2 b2 o nxt nc ns ⟨m2 ++ m1, by rw [List.append_assoc]⟩ h1 h2 hop (sy_ent_ok hk b1 c3) (sy_lv_app m2 a2) hw b2' (sy_ru_sub hd (sy_dsub_ok c4)) (by rw [← em]; exact p0) ?_ (Nat.le_of_ble_eq_true c1) (Nat.le_of_ble_eq_true c2)
            intro m0 hm0
            rw [hm0] at c6
            have p1 := sy_prv_ok (ρ := m ++ (ms ++ ρ0)) c6 hk
            rw [sy_app_ep] at p1
            have p2 : 0 ≤ sy_ep (sy_tot (m ++ (ms ++ ρ0))) m0 + (-1 * 1 + sy_ep (sy_tot (m ++ (ms ++ ρ0))) (sy_sc (-1) mp)) := p1
            rw [sy_sc_ep, em, sy_dom_app (hdom m0 hm0)] at p2
            omega
        · cases h
      · cases h
    · cases h
  · cases h
theorem sy_hand_ok {ih : sy_Go} (hih : sy_Sd E T RU C Q ρ0 ρs w0 M0 ih) (hal : E.2.2.2.2.2.2.2.1 w0.length = false) {fs : List sy_Fr} {d bud : Nat} {M : ri_M} {lv : sy_L} {nc ns : Nat} {hl : List Nat} {x : Nat} {H : sy_H} {D : List Nat} {K : sy_K} {hs hs' : List sy_Hn} (h : sy_hand ih fs d bud M lv nc ns hl x H D K hs = some hs')
    {ρ : List Int} {gs : List sy_CF} {d2 bud2 : Nat} {lvc : ri_L} {w : List ri_E} {fr : Nat} (hext : ∃ m, ρ = m ++ ρs) (hf : sy_frs ρ fs gs) (hb : sy_bot C M0 gs M d2 bud2) (h1 : d ≤ d2) (h2 : bud ≤ bud2) (hk : sy_ok ρ K) (hlv : sy_lv ρ lv lvc) (hw : sy_WI T C w0 w) (hh : sy_hok ρ H w) (hd : sy_ru RU D w) :
    ∃ (t : Nat) (oh : ri_Op) (nx : List ri_Op) (k pc2 : Nat), hl[x]? = some t ∧ M.2.2.2.2.2.drop t = oh :: nx ∧ ((∃ j, oh.2.2.1 = .astore_n j ∧ j.val = k ∧ pc2 = oh.1 + 1) ∨ (oh.2.2.1 = .astore k ∧ pc2 = oh.1 + 2)) ∧ k < M.2.2.1 ∧ E.2.2.2.2.2.2.2.1 w.length = false ∧ sy_Ev E d2 bud2 M nx pc2 (lvc.filter (ri_f1 k)) [] w nc ns fr (sy_Pk E Q gs) := by
  unfold sy_hand at h
  split at h
  · rename_i t ht
    rw [ri_nth_eq] at ht
    split at h
    · rename_i oh nx hop
      rw [ri_drop_eq] at hop
      have hnx : nx = M.2.2.2.2.2.drop (t + 1) := by
        have h9 := congrArg List.tail hop
        rw [List.tail_drop] at h9
        exact h9.symm
      have hal2 : E.2.2.2.2.2.2.2.1 w.length = false := by rw [hw.2.1]; exact hal
      split at h
      · rename_i k hi
        cases hb2 : Nat.blt k.val M.2.2.1 with
        | false => rw [hb2] at h; cases h
        | true =>
          rw [hb2, cond_true] at h
          exact ⟨t, oh, nx, k.val, oh.1 + 1, ht, hop, Or.inl ⟨k, hi, rfl, rfl⟩, Nat.le_of_ble_eq_true hb2, hal2, hih _ _ _ _ _ _ _ _ _ _ _ _ _ _ _ _ h hnx ρ gs d2 bud2 _ [] w fr hext hf hb h1 h2 hk (sy_fil_ok2 hlv) trivial hw hh hd⟩
      · rename_i k hi
        cases hb2 : Nat.blt k M.2.2.1 with
        | false => rw [hb2] at h; cases h
        | true =>
          rw [hb2, cond_true] at h
          exact ⟨t, oh, nx, k, oh.1 + 2, ht, hop, Or.inr ⟨hi, rfl⟩, Nat.le_of_ble_eq_true hb2, hal2, hih _ _ _ _ _ _ _ _ _ _ _ _ _ _ _ _ h hnx ρ gs d2 bud2 _ [] w fr hext hf hb h1 h2 hk (sy_fil_ok2 hlv) trivial hw hh hd⟩
      · cases h
    · cases h
  · cases h
theorem sy_unw_ok {ih : sy_Go} (hih : sy_Sd E T RU C Q ρ0 ρs w0 M0 ih) (hal : E.2.2.2.2.2.2.2.1 w0.length = false) (hs0 : ∃ m, ρs = m ++ ρ0) (hn : sy_Hy E T RU C Q ρ0 w0) {x : Nat} {H : sy_H} {D : List Nat} {K : sy_K} {hs hs' : List sy_Hn} {ρ : List Int} {w : List ri_E} (hext : ∃ m, ρ = m ++ ρs) (hk : sy_ok ρ K) (hw : sy_WI T C w0 w) (hh : sy_hok ρ H w) (hd : sy_ru RU D w) :
    ∀ {fs : List sy_Fr} {gs : List sy_CF} {nc ns fr : Nat} {M : ri_M} {d2 b2 : Nat}, sy_unw C ih x H D K hs fs nc ns = some hs' → sy_frs ρ fs gs → sy_bot C M0 gs M d2 b2 → sy_Pk E Q gs (.inr x, w, nc, ns, [], fr)
  | [], [], nc, ns, fr, M, d2, b2, h, _, _ => by
    obtain ⟨m, rfl⟩ := hext
    obtain ⟨ms, rfl⟩ := hs0
    exact hn.2.1 _ (sy_post_ok (ρ := m ++ (ms ++ ρ0)) (show sy_post C (.inr x) nc ns H D K hs = some hs' from h) ⟨m ++ ms, by rw [List.append_assoc]⟩ hn.1 hk (show x = x from rfl) hw hh hd)
  | (d, bud, M1, ix, nxt, pc, lv, rest, nc1, ns1, hl) :: fs, (d3, bud3, M3, nxt3, pc3, lvc, restc, nc3, ns3, hl3) :: gs, nc, ns, fr, M, d2, b2, h, hf, hb => by
    obtain ⟨⟨h1, h2, h3, h4, h5, h6, h7, h8, h9, h10, h11⟩, hf2⟩ := hf
    subst h3; subst h4; subst h6; subst h9; subst h10; subst h11
    have hb2 : sy_bot C M0 gs M1 d3 bud3 := hb
    cases hl with
    | none =>
      have h12 : sy_unw C ih x H D K hs fs (nc1 + nc) (ns1 + ns) = some hs' := h
      exact ⟨rfl, sy_unw_ok hih hal hs0 hn hext hk hw hh hd h12 hf2 hb2⟩
    | some l =>
      have h12 : sy_hand ih fs d bud M1 lv (nc1 + nc) (ns1 + ns) l x H D K hs = some hs' := h
      exact ⟨rfl, sy_hand_ok hih hal h12 hext hf2 hb2 h1 h2 hk h7 hw hh hd⟩
  | [], _ :: _, _, _, _, _, _, _, _, hf, _ => hf.elim
  | _ :: _, [], _, _, _, _, _, _, _, hf, _ => hf.elim
end SYM
