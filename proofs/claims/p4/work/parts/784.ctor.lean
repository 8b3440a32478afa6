/-! ===== the constructors: what they make is as T tells, the rules hold ===== -/
theorem sf_nthtail {α : Type} {x : α} {l : List α} {a : Nat} {y : α} (ha : Nat.beq a 0 = false) (h : ri_nth (x :: l) a = some y) : y ∈ l := by
  rw [ri_nth_eq] at h
  cases a with
  | zero => cases ha
  | succ k => exact List.mem_of_getElem? (by rw [List.getElem?_cons_succ] at h; exact h)
noncomputable def sf_allM (l : List ri_M) : Bool := List.rec true (fun M _ ih => rx_nl M.2.2.2.2.2 && ih) l
theorem sf_allM_ok : ∀ {l : List ri_M}, sf_allM l = true → ∀ M ∈ l, rx_nl M.2.2.2.2.2 = true
  | [], _, M, h => by cases h
  | x :: l, h, M, hM => by
    have h2 : (rx_nl x.2.2.2.2.2 && sf_allM l) = true := h
    rw [Bool.and_eq_true] at h2
    rcases List.mem_cons.mp hM with rfl | hM
    · exact h2.1
    · exact sf_allM_ok h2.2 M hM
set_option maxRecDepth 100000 in
theorem sf_noscript : sf_allM ri_Ms0.tail = true := by decide +kernel
theorem sf_hMs (a : Nat) (M2 : ri_M) (ha : Nat.beq a 0 = false) (h : ri_nth ri_Ms0 a = some M2) : rx_nl M2.2.2.2.2.2 = true := sf_allM_ok sf_noscript M2 (sf_nthtail (x := ri_m_L_law) ha h)
noncomputable def sf_w0 : rf_W := (0, rf_tr (.inr (0, [])) 10, 0, .inr (0, []))
theorem sf_w0_eq : rf_wa sf_w0 = [] := rfl
noncomputable def sf_run (n d bud : Nat) (M : ri_M) (q : Nat) (w : rf_W) : Option rf_Out := rf_run ri_Ms0 ri_ty0 ri_df0 ri_tyL0 ri_exl0 (fun _ => .null) 0 (fun n => Nat.blt n 266) [] n d bud M M.2.2.2.2.2 0 [(0, .ref q)] [] w 0 0 0
noncomputable def sf_is (len : Nat) (o : Option rf_Out) : Bool := match o with
  | some (.inl none, w, nc, ns, [], fr) => (Nat.beq w.1 len && Nat.beq fr 0) && (Nat.ble nc 500 && Nat.ble ns 200000)
  | _ => false
noncomputable def sf_ow (o : Option rf_Out) : rf_W := match o with
  | some z => z.2.1
  | none => sf_w0
noncomputable def sf_onc (o : Option rf_Out) : Nat := match o with
  | some z => z.2.2.1
  | none => 0
noncomputable def sf_ons (o : Option rf_Out) : Nat := match o with
  | some z => z.2.2.2.1
  | none => 0
theorem sf_is_ok {len : Nat} {o : Option rf_Out} (h : sf_is len o = true) : o = some (.inl none, sf_ow o, sf_onc o, sf_ons o, [], 0) ∧ (sf_ow o).1 = len ∧ sf_onc o ≤ 500 ∧ sf_ons o ≤ 200000 := by
  unfold sf_is at h
  split at h
  · rename_i w nc ns fr
    rw [Bool.and_eq_true, Bool.and_eq_true, Bool.and_eq_true] at h
    obtain ⟨⟨h1, h2⟩, h3, h4⟩ := h
    have e : fr = 0 := Nat.eq_of_beq_eq_true h2
    subst e
    exact ⟨rfl, Nat.eq_of_beq_eq_true h1, Nat.le_of_ble_eq_true h3, Nat.le_of_ble_eq_true h4⟩
  · cases h
/-- such a run, in an environment with any script -/
theorem sf_any (xs : Nat → Value) (L : Nat) {n d bud q len : Nat} {M : ri_M} {w : rf_W} (hM : rx_nl M.2.2.2.2.2 = true) (h : sf_is len (sf_run n d bud M q w) = true) : sy_rr (sz_env xs L) n d bud M M.2.2.2.2.2 0 [(0, .ref q)] [] (rf_wa w) 0 0 0 = some (.inl none, rf_wa (sf_ow (sf_run n d bud M q w)), sf_onc (sf_run n d bud M q w), sf_ons (sf_run n d bud M q w), [], 0) := by
  obtain ⟨h1, -⟩ := sf_is_ok h
  have h2 := rf_run_ok (Ms := ri_Ms0) (ty := ri_ty0) (df := ri_df0) (tyL := ri_tyL0) (exl := ri_exl0) (xs := fun _ => .null) (L := 0) (al := fun n => Nat.blt n 266) (orc := []) n _ _ _ _ _ _ _ _ _ _ _ _ h1
  exact rx_run_ok (L := L) (xs := xs) sf_hMs n _ _ _ _ _ _ _ _ _ _ _ _ hM hM h2
noncomputable def sf_wA : rf_W := rf_wp sf_w0 (.inr (10, ri_df0 10))
noncomputable def sf_o1 : Option rf_Out := sf_run 4000 14 (568 - (19 + ri_m_X10_init.2.2.1)) ri_m_X10_init 0 sf_wA
noncomputable def sf_wB : rf_W := rf_wp (sf_ow sf_o1) (.inr (11, ri_df0 11))
noncomputable def sf_o2 : Option rf_Out := sf_run 4000 14 (568 - (19 + ri_m_X11_init.2.2.1)) ri_m_X11_init 244 sf_wB
noncomputable def sf_wC : rf_W := rf_wp (sf_ow sf_o2) (.inl (1, .inl [.long 0]))
set_option maxRecDepth 100000 in
theorem sf_o1_is : sf_is 244 sf_o1 = true := by decide +kernel
set_option maxRecDepth 100000 in
theorem sf_o2_is : sf_is 265 sf_o2 = true := by decide +kernel
/-! what a world of trees holds, against T -/
noncomputable def sf_fvB (f : sy_FS) (v : Value) : Bool := match f.1, v with
  | 0, .int x => sy_le f.2.1 x.toInt && sy_le x.toInt f.2.2
  | 1, .long x => sy_le f.2.1 x.toInt && sy_le x.toInt f.2.2
  | 2, .double x => Nat.beq x.toNat 0 && (sy_le f.2.1 0 && sy_le 0 f.2.2)
  | 3, .ref q => Nat.beq q f.2.1.toNat
  | _, _ => false
theorem sf_db0 : sy_db 0 0 := (sd_cst_ok (x := 0) (n := 0) (by decide +kernel) (.inl 0)).1
theorem sf_fvB_ok {f : sy_FS} {v : Value} (h : sf_fvB f v = true) : sy_fv f v := by
  obtain ⟨t, lo, hi⟩ := f
  unfold sf_fvB at h
  dsimp only at h
  split at h
  · rename_i x
    rw [Bool.and_eq_true, sy_le_iff, sy_le_iff] at h
    exact ⟨_, rfl, h.1, h.2⟩
  · rename_i x
    rw [Bool.and_eq_true, sy_le_iff, sy_le_iff] at h
    exact ⟨_, rfl, h.1, h.2⟩
  · rename_i x
    rw [Bool.and_eq_true, Bool.and_eq_true, sy_le_iff, sy_le_iff] at h
    have e : x = 0 := UInt64.toNat.inj (by rw [Nat.eq_of_beq_eq_true h.1]; rfl)
    subst e
    exact ⟨0, 0, rfl, sf_db0, h.2.1, h.2.2⟩
  · rename_i q
    show Value.ref q = .ref lo.toNat
    rw [Nat.eq_of_beq_eq_true h]
  · cases h
/-- all leaves -/
noncomputable def sf_lf (p : Value → Bool) (n : Nat) : rf_T Value n → Bool := Nat.rec (motive := fun n => rf_T Value n → Bool) (fun v => p v) (fun k ih t => ih (rf_l t) && ih (rf_r t)) n
theorem sf_lf_ok {p : Value → Bool} : ∀ {n : Nat} {t : rf_T Value n}, sf_lf p n t = true → ∀ i : Nat, p (rf_tg n t i) = true
  | 0, t, h, i => h
  | n + 1, t, h, i => by
    have h2 : (sf_lf p n (rf_l t) && sf_lf p n (rf_r t)) = true := h
    rw [Bool.and_eq_true] at h2
    rw [rf_tg_s]
    cases Nat.blt i (Nat.pow 2 n) with
    | true => exact sf_lf_ok h2.1 i
    | false => exact sf_lf_ok h2.2 _
noncomputable def sf_al (p : Value → Bool) (l : List Value) : Bool := List.rec true (fun v _ ih => p v && ih) l
theorem sf_al_ok {p : Value → Bool} : ∀ {l : List Value}, sf_al p l = true → ∀ v ∈ l, p v = true
  | [], _, v, h => by cases h
  | x :: l, h, v, hv => by
    have h2 : (p x && sf_al p l) = true := h
    rw [Bool.and_eq_true] at h2
    rcases List.mem_cons.mp hv with rfl | hv
    · exact h2.1
    · exact sf_al_ok h2.2 v hv
noncomputable def sf_Vall (p : Value → Bool) (V : rf_V) : Bool := match V with
  | .inl l => sf_al p l
  | .inr ⟨n, _, t⟩ => sf_lf p n t
theorem sf_Vall_ok {p : Value → Bool} {V : rf_V} (h : sf_Vall p V = true) {j : Nat} {v : Value} (hv : (rf_va V)[j]? = some v) : p v = true := by
  unfold sf_Vall at h
  split at h
  · rename_i l
    exact sf_al_ok h v (List.mem_of_getElem? hv)
  · rename_i n len t
    have hv2 : (rf_tl n len t)[j]? = some v := hv
    rw [rf_tl_at] at hv2
    by_cases hj : j < len
    · rw [if_pos hj] at hv2
      rw [← Option.some.inj hv2]
      exact sf_lf_ok h j
    · rw [if_neg hj] at hv2; cases hv2
/-- one each -/
noncomputable def sf_Veach (V : rf_V) (l : List sy_FS) : Nat → Bool := List.rec (fun _ => true) (fun f _ ih j => (match rf_vn V j with
  | some v => sf_fvB f v
  | none => false) && ih (j + 1)) l
theorem sf_Veach_ok {V : rf_V} : ∀ {l : List sy_FS} {k : Nat}, sf_Veach V l k = true → ∀ (j : Nat) (f : sy_FS), l[j]? = some f → ∃ v : Value, (rf_va V)[k + j]? = some v ∧ sy_fv f v
  | [], k, _, j, f, h => by cases h
  | g :: l, k, h, j, f, hj => by
    have h2 : ((match rf_vn V k with
      | some v => sf_fvB g v
      | none => false) && sf_Veach V l (k + 1)) = true := h
    rw [Bool.and_eq_true] at h2
    cases j with
    | zero =>
      cases hj
      cases hv : rf_vn V k with
      | none => rw [hv] at h2; cases h2.1
      | some v =>
        rw [hv] at h2
        refine ⟨v, ?_, sf_fvB_ok h2.1⟩
        rw [Nat.add_zero, ← ri_nth_eq, rf_vn_eq]
        exact hv
    | succ j =>
      obtain ⟨v, a1, a2⟩ := sf_Veach_ok h2.2 j f hj
      exact ⟨v, by rw [show k + (j + 1) = k + 1 + j by omega]; exact a1, a2⟩
noncomputable def sf_spec (V : rf_V) (n : Nat) (s : sy_FS ⊕ List sy_FS) : Bool := Nat.beq (rf_vl V) n && (match s with
  | .inl f => sf_Vall (sf_fvB f) V
  | .inr l => sf_Veach V l 0)
noncomputable def sf_cell (c : sy_C) (e : rf_E) : Bool := match c.1, e with
  | true, .inr o => Nat.beq o.1 c.2.1 && sf_spec (.inl o.2) c.2.2.1 c.2.2.2
  | false, .inl a => Nat.beq a.1 c.2.1 && sf_spec a.2 c.2.2.1 c.2.2.2
  | _, _ => false
theorem sf_spec_ok {V : rf_V} {c : sy_C} (h : sf_spec V c.2.2.1 c.2.2.2 = true) : (rf_va V).length = c.2.2.1 ∧ ∀ (j : Nat) (f : sy_FS), sy_fs c j = some f → ∃ v : Value, (rf_va V)[j]? = some v ∧ sy_fv f v := by
  obtain ⟨o, t, n, s⟩ := c
  unfold sf_spec at h
  rw [Bool.and_eq_true] at h
  have hl : (rf_va V).length = n := by rw [rf_vl_eq]; exact Nat.eq_of_beq_eq_true h.1
  refine ⟨hl, ?_⟩
  intro j f hf
  unfold sy_fs at hf
  dsimp only at hf
  cases hb : Nat.blt j n with
  | false => rw [hb] at hf; cases hf
  | true =>
    rw [hb, cond_true] at hf
    have hj : j < n := Nat.le_of_ble_eq_true hb
    have h2 := h.2
    cases s with
    | inl g =>
      dsimp only at hf h2
      cases hf
      have hv : (rf_va V)[j]? = some (rf_va V)[j] := List.getElem?_eq_getElem (by omega)
      exact ⟨_, hv, sf_fvB_ok (sf_Vall_ok h2 hv)⟩
    | inr l =>
      dsimp only at hf h2
      rw [ri_nth_eq] at hf
      obtain ⟨v, a1, a2⟩ := sf_Veach_ok h2 j f hf
      rw [Nat.zero_add] at a1
      exact ⟨v, a1, a2⟩
noncomputable def sf_chkT (w : rf_W) (l : List sy_C) : Nat → Bool := List.rec (fun _ => true) (fun c _ ih q => (match rf_wn w q with
  | some e => sf_cell c e
  | none => false) && ih (q + 1)) l
theorem sf_chkT_ok {w : rf_W} : ∀ {l : List sy_C} {k : Nat}, sf_chkT w l k = true → ∀ (q : Nat) (c : sy_C), l[q]? = some c → ∃ vs : List Value, (rf_wa w)[k + q]? = some (sy_mkE c.1 c.2.1 vs) ∧ vs.length = c.2.2.1 ∧ ∀ (j : Nat) (f : sy_FS), sy_fs c j = some f → ∃ v : Value, vs[j]? = some v ∧ sy_fv f v
  | [], k, _, q, c, h => by cases h
  | g :: l, k, h, q, c, hq => by
    have h2 : ((match rf_wn w k with
      | some e => sf_cell g e
      | none => false) && sf_chkT w l (k + 1)) = true := h
    rw [Bool.and_eq_true] at h2
    cases q with
    | succ q =>
      obtain ⟨vs, a1, a2⟩ := sf_chkT_ok h2.2 q c hq
      exact ⟨vs, by rw [show k + (q + 1) = k + 1 + q by omega]; exact a1, a2⟩
    | zero =>
      cases hq
      have h3 := h2.1
      cases he : rf_wn w k with
      | none => rw [he] at h3; cases h3
      | some e =>
        rw [he] at h3
        have hw : (rf_wa w)[k + 0]? = some (rf_ea e) := by rw [Nat.add_zero, ← ri_nth_eq, rf_wn_eq, he]; rfl
        obtain ⟨o, t, n, s⟩ := g
        have h4 : sf_cell (o, t, n, s) e = true := h3
        unfold sf_cell at h4
        cases o with
        | true =>
          cases e with
          | inl a => cases h4
          | inr b =>
            have h5 : (Nat.beq b.1 t && sf_spec (.inl b.2) n s) = true := h4
            rw [Bool.and_eq_true] at h5
            obtain ⟨b1, b2⟩ := sf_spec_ok (c := (true, t, n, s)) h5.2
            refine ⟨b.2, ?_, b1, b2⟩
            rw [hw]
            show some (Sum.inr (b.1, b.2)) = some (Sum.inr (t, b.2))
            rw [Nat.eq_of_beq_eq_true h5.1]
        | false =>
          cases e with
          | inr b => cases h4
          | inl a =>
            have h5 : (Nat.beq a.1 t && sf_spec a.2 n s) = true := h4
            rw [Bool.and_eq_true] at h5
            obtain ⟨b1, b2⟩ := sf_spec_ok (c := (false, t, n, s)) h5.2
            refine ⟨rf_va a.2, ?_, b1, b2⟩
            rw [hw]
            show some (Sum.inl (a.1, rf_va a.2)) = some (Sum.inl (t, rf_va a.2))
            rw [Nat.eq_of_beq_eq_true h5.1]
/-! rules -/
noncomputable def sf_numB (v : Value) : Option Int := match v with
  | .int x => some x.toInt
  | .long x => some x.toInt
  | .double x => bif Nat.beq x.toNat 0 then some 0 else none
  | _ => none
theorem sf_numB_ok {v : Value} {z : Int} (h : sf_numB v = some z) : sy_num v = z := by
  unfold sf_numB at h
  split at h
  · exact Option.some.inj h
  · exact Option.some.inj h
  · rename_i x
    cases hb : Nat.beq x.toNat 0 with
    | false => rw [hb] at h; cases h
    | true =>
      rw [hb, cond_true] at h
      have e : x = 0 := UInt64.toNat.inj (by rw [Nat.eq_of_beq_eq_true hb]; rfl)
      subst e
      have e2 := sd_num sf_db0
      rw [← Option.some.inj h]
      exact e2
  · cases h
noncomputable def sf_at (w : rf_W) (q j : Nat) : Option Value := match rf_wn w q with
  | some (.inl a) => rf_vn a.2 j
  | some (.inr o) => ri_nth o.2 j
  | none => none
theorem sf_at_eq {w : rf_W} {q j : Nat} : sy_wv (rf_wa w) q j = sf_at w q j := by
  unfold sy_wv sf_at
  rw [← ri_nth_eq, rf_wn_eq]
  cases hq : rf_wn w q with
  | none => rfl
  | some e =>
    cases e with
    | inl a =>
      show (rf_va a.2)[j]? = rf_vn a.2 j
      rw [← rf_vn_eq, ri_nth_eq]
    | inr o =>
      show o.2[j]? = ri_nth o.2 j
      rw [ri_nth_eq]
noncomputable def sf_nv (w : rf_W) (x : Nat × Nat) : Option Int := match sf_at w x.1 x.2 with
  | some v => sf_numB v
  | none => none
noncomputable def sf_rv (w : rf_W) (S : List (Nat × Nat)) (i : Nat) : Int := match ri_nth S i with
  | some x => (sf_nv w x).getD 0
  | none => 0
noncomputable def sf_sup (w : rf_W) (S : List (Nat × Nat)) : Bool := List.rec true (fun x _ ih => (sf_nv w x).isSome && ih) S
theorem sf_sup_ok {w : rf_W} : ∀ {S : List (Nat × Nat)}, sf_sup w S = true → ∀ x ∈ S, (sf_nv w x).isSome = true
  | [], _, x, h => by cases h
  | y :: S, h, x, hx => by
    have h2 : ((sf_nv w y).isSome && sf_sup w S) = true := h
    rw [Bool.and_eq_true] at h2
    rcases List.mem_cons.mp hx with rfl | hx
    · exact h2.1
    · exact sf_sup_ok h2.2 x hx
theorem sf_rv_eq {w : rf_W} {S : List (Nat × Nat)} (h : sf_sup w S = true) : sy_rv (rf_wa w) S = sf_rv w S := by
  funext i
  unfold sy_rv sf_rv
  rw [ri_nth_eq]
  cases hi : S[i]? with
  | none => rfl
  | some x =>
    have h2 := sf_sup_ok h x (List.mem_of_getElem? hi)
    dsimp only
    unfold sy_nv
    rw [sf_at_eq]
    unfold sf_nv at h2 ⊢
    cases hv : sf_at w x.1 x.2 with
    | none => rw [hv] at h2; cases h2
    | some v =>
      rw [hv] at h2
      dsimp only at h2 ⊢
      cases hn : sf_numB v with
      | none => rw [hn] at h2; cases h2
      | some z => exact sf_numB_ok hn
noncomputable def sf_rule (w : rf_W) (r : sy_R) : Bool := sf_sup w r.1 && r.2.all (fun c => c.any (fun p => sy_le 0 (sy_ep (sf_rv w r.1) p)))
theorem sf_rule_ok {w : rf_W} {r : sy_R} (h : sf_rule w r = true) : sy_holds (rf_wa w) r := by
  unfold sf_rule at h
  rw [Bool.and_eq_true, List.all_eq_true] at h
  intro c hc
  have h2 := h.2 c hc
  rw [List.any_eq_true] at h2
  obtain ⟨p, hp, h3⟩ := h2
  rw [sy_le_iff] at h3
  exact ⟨p, hp, by rw [sf_rv_eq h.1]; exact h3⟩
/-- rule i holds, and the table tells of it at all its places -/
noncomputable def sf_one (w : rf_W) (i : Nat) : Bool := match sz_ru i with
  | some r => sf_rule w r && r.1.all (fun x => sy_inD i (sz_tq x.1 x.2))
  | none => true
noncomputable def sf_chkR (w : rf_W) (n : Nat) : Bool := Nat.rec true (fun k ih => sf_one w k && ih) n
theorem sf_chkR_ok {w : rf_W} : ∀ {n : Nat}, sf_chkR w n = true → ∀ i : Nat, i < n → sf_one w i = true
  | 0, _, i, h => absurd h (Nat.not_lt_zero _)
  | n + 1, h, i, hi => by
    have h2 : (sf_one w n && sf_chkR w n) = true := h
    rw [Bool.and_eq_true] at h2
    by_cases e : i = n
    · rw [e]; exact h2.1
    · exact sf_chkR_ok h2.2 i (by omega)
theorem sf_ru_none {i : Nat} (h : 16 * sz_RL.length ≤ i) : sz_ru i = none := by
  unfold sz_ru
  rw [ri_nth_eq, List.getElem?_eq_none (by omega)]
theorem sf_ru_ok {w : rf_W} (h : sf_chkR w (16 * sz_RL.length) = true) : sy_ru sz_RU [] (rf_wa w) := by
  have key : ∀ (i : Nat) (r : sy_R), sz_ru i = some r → sf_rule w r = true ∧ ∀ x ∈ r.1, i ∈ sz_tq x.1 x.2 := by
    intro i r hr
    have hi : i < 16 * sz_RL.length := by
      by_cases hz : 16 * sz_RL.length ≤ i
      · rw [sf_ru_none hz] at hr; cases hr
      · omega
    have h1 := sf_chkR_ok h i hi
    unfold sf_one at h1
    rw [hr] at h1
    dsimp only at h1
    rw [Bool.and_eq_true, List.all_eq_true] at h1
    exact ⟨h1.1, fun x hx => sy_inD_yes (h1.2 x hx)⟩
  exact ⟨fun i r hr => (key i r hr).2, fun i r hr _ => sf_rule_ok (key i r hr).1⟩
set_option maxRecDepth 100000 in
theorem sf_T : sf_chkT sf_wC sz_TL 0 = true := by decide +kernel
set_option maxRecDepth 100000 in
theorem sf_R : sf_chkR sf_wC (16 * sz_RL.length) = true := by decide +kernel
theorem sf_tw : sy_tw sz_T (rf_wa sf_wC) := by
  intro q c hc
  unfold sz_T at hc
  rw [ri_nth_eq] at hc
  obtain ⟨vs, h1, h2⟩ := sf_chkT_ok sf_T q c hc
  rw [Nat.zero_add] at h1
  exact ⟨vs, h1, h2⟩
theorem sf_ru : sy_ru sz_RU [] (rf_wa sf_wC) := sf_ru_ok sf_R
