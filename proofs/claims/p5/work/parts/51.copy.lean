/-! ===== the surveyor, part 10: lengths, System.arraycopy of ints ===== -/
section SYB
variable {T : Nat → Option sy_C} {ρ : List Int} {w : List ri_E} {RU : sy_RT} {tyL : List FieldType}
noncomputable def sy_alen (T : Nat → Option sy_C) (tyL : List FieldType) (st : List sy_V) : Option (List sy_V) := sy_q3 st (fun q r => match T q with
  | some c => (match ri_nth tyL c.2.1 with
    | some _ => bif !c.1 then some ((0, .inl (Int32.ofNat c.2.2.1).toInt, .inl 0) :: r) else none
    | none => none)
  | none => none)
theorem sy_alen_ok {st st' : List sy_V} {stc : List Value} (h : sy_alen T tyL st = some st') (hs : sy_st ρ st stc) (ht : sy_tw T w) : ∃ sz : List Value, ri_alen2 tyL stc w = some sz ∧ sy_st ρ st' sz := by
  obtain ⟨q, r, rc, h1, rfl, hr⟩ := sy_ref_top h hs
  split at h1
  · rename_i c hc
    split at h1
    · rename_i ty hty
      cases hb : (!c.1) with
      | false => rw [hb] at h1; cases h1
      | true =>
        rw [hb, cond_true] at h1
        cases h1
        obtain ⟨vs, k1, k2, k3⟩ := sy_cell_arr ht hc (by simpa using hb)
        refine ⟨.int (Int32.ofNat vs.length) :: rc, ?_, ⟨⟨_, rfl, by rw [k2]; rfl⟩, hr⟩⟩
        unfold ri_alen2
        dsimp only
        rw [ri_nth_eq w, k1]
        dsimp only
        rw [hty]
    · cases h1
  · cases h1
noncomputable def sy_csum (st : List sy_V) : Nat := List.rec 0 (fun a _ ih => sy_cat a + ih) st
theorem sy_csum_ok : ∀ {as : List sy_V} {vs : List Value}, sy_st ρ as vs → (vs.map fun v => v.category).sum = sy_csum as
  | [], [], _ => rfl
  | a :: as, v :: vs, h => by
    show v.category + (vs.map fun v => v.category).sum = sy_cat a + sy_csum as
    rw [sy_is_cat h.1, sy_csum_ok h.2]
  | [], _ :: _, h => h.elim
  | _ :: _, [], h => h.elim
def sy_isI (t : FieldType) : Bool := match t with | .int => true | _ => false
/-! rules behind a copy: a rule whose places were copied holds as the one of which they are copies -/
noncomputable def sy_mp (q0 s q1 d n : Nat) (x : Nat × Nat) : Nat × Nat := bif Nat.beq x.1 q1 && (Nat.ble d x.2 && Nat.blt x.2 (d + n)) then (q0, s + (x.2 - d)) else x
noncomputable def sy_seq (a : List (Nat × Nat)) : List (Nat × Nat) → Bool := List.rec (fun b => List.rec true (fun _ _ _ => false) b) (fun i _ ih b => List.rec false (fun j u _ => (Nat.beq i.1 j.1 && Nat.beq i.2 j.2) && ih u) b) a
theorem sy_seq_eq : ∀ {a b : List (Nat × Nat)}, sy_seq a b = true → a = b
  | [], [], _ => rfl
  | [], _ :: _, h => by cases h
  | _ :: _, [], h => by cases h
  | (i1, i2) :: t, (j1, j2) :: u, h => by
    have h2 : ((Nat.beq i1 j1 && Nat.beq i2 j2) && sy_seq t u) = true := h
    rw [Bool.and_eq_true, Bool.and_eq_true] at h2
    rw [Nat.eq_of_beq_eq_true h2.1.1, Nat.eq_of_beq_eq_true h2.1.2, sy_seq_eq h2.2]
noncomputable def sy_peq : sy_P → sy_P → Bool
  | [], [] => true
  | a :: p, b :: q => (decide (a.1 = b.1) && sy_leq a.2 b.2) && sy_peq p q
  | _, _ => false
theorem sy_peq_ok : ∀ {p q : sy_P}, sy_peq p q = true → p = q
  | [], [], _ => rfl
  | a :: p, b :: q, h => by
    unfold sy_peq at h
    rw [Bool.and_eq_true, Bool.and_eq_true] at h
    obtain ⟨⟨h1, h2⟩, h3⟩ := h
    have e1 : a.1 = b.1 := of_decide_eq_true h1
    have e2 : a.2 = b.2 := sy_leq_eq h2
    rw [sy_peq_ok h3, show a = b from Prod.ext e1 e2]
  | [], _ :: _, h => by unfold sy_peq at h; cases h
  | _ :: _, [], h => by unfold sy_peq at h; cases h
noncomputable def sy_ceq : List sy_P → List sy_P → Bool
  | [], [] => true
  | a :: p, b :: q => sy_peq a b && sy_ceq p q
  | _, _ => false
theorem sy_ceq_ok : ∀ {p q : List sy_P}, sy_ceq p q = true → p = q
  | [], [], _ => rfl
  | a :: p, b :: q, h => by
    unfold sy_ceq at h
    rw [Bool.and_eq_true] at h
    rw [sy_peq_ok h.1, sy_ceq_ok h.2]
  | [], _ :: _, h => by unfold sy_ceq at h; cases h
  | _ :: _, [], h => by unfold sy_ceq at h; cases h
noncomputable def sy_req : List (List sy_P) → List (List sy_P) → Bool
  | [], [] => true
  | a :: p, b :: q => sy_ceq a b && sy_req p q
  | _, _ => false
theorem sy_req_ok : ∀ {p q : List (List sy_P)}, sy_req p q = true → p = q
  | [], [], _ => rfl
  | a :: p, b :: q, h => by
    unfold sy_req at h
    rw [Bool.and_eq_true] at h
    rw [sy_ceq_ok h.1, sy_req_ok h.2]
  | [], _ :: _, h => by unfold sy_req at h; cases h
  | _ :: _, [], h => by unfold sy_req at h; cases h
/-- a rule of these places that says the same, and holds -/
noncomputable def sy_prt1 (S : List (Nat × Nat)) (cl : List (List sy_P)) (D : List Nat) (RU : sy_RT) (l : List Nat) : Bool := List.rec false (fun i _ ih => (match RU.1 i with
  | some r => sy_seq r.1 S && (sy_req r.2 cl && !sy_inD i D)
  | none => false) || ih) l
noncomputable def sy_prt (S : List (Nat × Nat)) (cl : List (List sy_P)) (D : List Nat) (RU : sy_RT) : Bool := match S with
  | x :: _ => sy_prt1 S cl D RU (RU.2 x.1 x.2)
  | [] => false
theorem sy_prt1_ok {S : List (Nat × Nat)} {cl : List (List sy_P)} {D : List Nat} {RU : sy_RT} : ∀ {l : List Nat}, sy_prt1 S cl D RU l = true → ∃ i : Nat, RU.1 i = some (S, cl) ∧ i ∉ D
  | [], h => by cases h
  | i :: l, h => by
    have h2 : ((match RU.1 i with
      | some r => sy_seq r.1 S && (sy_req r.2 cl && !sy_inD i D)
      | none => false) || sy_prt1 S cl D RU l) = true := h
    rcases Bool.or_eq_true _ _ ▸ h2 with h3 | h3
    · split at h3
      · rename_i r hr
        rw [Bool.and_eq_true, Bool.and_eq_true] at h3
        refine ⟨i, ?_, sy_inD_no (by simpa using h3.2.2)⟩
        rw [hr, ← sy_seq_eq h3.1, ← sy_req_ok h3.2.1]
      · cases h3
    · exact sy_prt1_ok h3
theorem sy_prt_ok {S : List (Nat × Nat)} {cl : List (List sy_P)} {D : List Nat} {RU : sy_RT} (h : sy_prt S cl D RU = true) : ∃ i : Nat, RU.1 i = some (S, cl) ∧ i ∉ D := by
  unfold sy_prt at h
  split at h
  · exact sy_prt1_ok h
  · cases h
/-- whether a rule that a copy touches is a copy of one that holds -/
noncomputable def sy_cpd (q0 s q1 d n : Nat) (RU : sy_RT) (D : List Nat) (k : Nat) : Bool := match RU.1 k with
  | some r => sy_prt (r.1.map (sy_mp q0 s q1 d n)) r.2 D RU
  | none => true
noncomputable def sy_tcp1 (q0 s q1 d n : Nat) (RU : sy_RT) (D l : List Nat) : List Nat := List.rec D (fun k _ ih => @Bool.rec (fun _ => List Nat) (k :: ih) ih (sy_cpd q0 s q1 d n RU D k)) l
noncomputable def sy_tcp (q0 s q1 d n lo hi : Nat) (RU : sy_RT) (D : List Nat) : List Nat := sy_tcp1 q0 s q1 d n RU D (sy_touch q1 lo hi RU [])
theorem sy_tcp1_no {q0 s q1 d n : Nat} {RU : sy_RT} {D : List Nat} {i : Nat} : ∀ {l : List Nat}, i ∉ sy_tcp1 q0 s q1 d n RU D l → i ∉ D ∧ (i ∈ l → sy_cpd q0 s q1 d n RU D i = true)
  | [], h => ⟨h, fun z => by cases z⟩
  | k :: l, h => by
    have h2 : i ∉ (@Bool.rec (fun _ => List Nat) (k :: sy_tcp1 q0 s q1 d n RU D l) (sy_tcp1 q0 s q1 d n RU D l) (sy_cpd q0 s q1 d n RU D k)) := h
    cases hb : sy_cpd q0 s q1 d n RU D k with
    | true =>
      rw [hb] at h2
      obtain ⟨h3, h4⟩ := sy_tcp1_no h2
      refine ⟨h3, fun z => ?_⟩
      rcases List.mem_cons.mp z with e | e
      · rw [e]; exact hb
      · exact h4 e
    | false =>
      rw [hb] at h2
      obtain ⟨h3, h4⟩ := sy_tcp1_no (fun z => h2 (List.mem_cons_of_mem _ z))
      refine ⟨h3, fun z => ?_⟩
      rcases List.mem_cons.mp z with e | e
      · exact absurd (by rw [e]; exact List.mem_cons_self) h2
      · exact h4 e
theorem sy_tcp_ru {q0 s q1 d n lo hi : Nat} {D : List Nat} {w w' : List ri_E} (hd : sy_ru RU D w) (hb : sy_but w w' q1 lo hi) (hm : ∀ x : Nat × Nat, sy_wv w' x.1 x.2 = sy_wv w (sy_mp q0 s q1 d n x).1 (sy_mp q0 s q1 d n x).2) : sy_ru RU (sy_tcp q0 s q1 d n lo hi RU D) w' := by
  refine ⟨hd.1, ?_⟩
  intro i r hr hi9
  obtain ⟨h1, h2⟩ := sy_tcp1_no hi9
  by_cases h3 : i ∈ sy_touch q1 lo hi RU []
  · have h4 := h2 h3
    unfold sy_cpd at h4
    rw [hr] at h4
    obtain ⟨j, g1, g2⟩ := sy_prt_ok h4
    intro c hc
    obtain ⟨p, hp, h5⟩ := hd.2 j _ g1 g2 c hc
    refine ⟨p, hp, ?_⟩
    have e : sy_rv w' r.1 = sy_rv w (r.1.map (sy_mp q0 s q1 d n)) := by
      funext k
      unfold sy_rv
      rw [List.getElem?_map]
      cases hk : r.1[k]? with
      | none => rfl
      | some y =>
        dsimp only [Option.map_some]
        unfold sy_nv
        rw [hm y]
    rw [e]; exact h5
  · obtain ⟨-, h5⟩ := sy_touch_no h3
    intro c hc
    obtain ⟨p, hp, h4⟩ := hd.2 i r hr h1 c hc
    refine ⟨p, hp, ?_⟩
    have e : sy_rv w' r.1 = sy_rv w r.1 := by
      funext k
      unfold sy_rv
      cases hk : r.1[k]? with
      | none => rfl
      | some y =>
        dsimp only
        unfold sy_nv
        have hx := hd.1 i r hr y (List.mem_of_getElem? hk)
        rw [hb y.1 y.2 (fun z => h5 y.2 z.2.1 z.2.2 (by rw [← z.1]; exact hx))]
    rw [e]; exact h4
/-- what is known of the places that were copied, told of where they were copied to -/
noncomputable def sy_ccy (q0 s q1 d n : Nat) (H2 H : sy_H) : sy_H := List.rec H2 (fun x _ ih => @Bool.rec (fun _ => sy_H) ih (((q1, d + (x.1.2 - s)), x.2) :: ih) ((Nat.beq x.1.1 q0 && (Nat.ble s x.1.2 && Nat.blt x.1.2 (s + n))) && Nat.blt x.2.1 10)) H
theorem sy_ccy_ok {q0 s q1 d n : Nat} {w w' : List ri_E} {H2 : sy_H} (h2 : sy_hok ρ H2 w') (hm : ∀ x : Nat × Nat, sy_wv w' x.1 x.2 = sy_wv w (sy_mp q0 s q1 d n x).1 (sy_mp q0 s q1 d n x).2) : ∀ {H : sy_H}, sy_hok ρ H w → sy_hok ρ (sy_ccy q0 s q1 d n H2 H) w'
  | [], _ => h2
  | x :: H, hh => by
    have ih := sy_ccy_ok h2 hm (H := H) (fun y hy => hh y (List.mem_cons_of_mem _ hy))
    show sy_hok ρ (@Bool.rec (fun _ => sy_H) (sy_ccy q0 s q1 d n H2 H) (((q1, d + (x.1.2 - s)), x.2) :: sy_ccy q0 s q1 d n H2 H) ((Nat.beq x.1.1 q0 && (Nat.ble s x.1.2 && Nat.blt x.1.2 (s + n))) && Nat.blt x.2.1 10)) w'
    cases hb : ((Nat.beq x.1.1 q0 && (Nat.ble s x.1.2 && Nat.blt x.1.2 (s + n))) && Nat.blt x.2.1 10) with
    | false => exact ih
    | true =>
      simp only [Bool.and_eq_true] at hb
      obtain ⟨⟨b1, b2, b3⟩, b4⟩ := hb
      have c1 : x.1.1 = q0 := Nat.eq_of_beq_eq_true b1
      have c2 := Nat.le_of_ble_eq_true b2
      have c3 : x.1.2 < s + n := Nat.le_of_ble_eq_true b3
      have c4 : x.2.1 < 10 := Nat.le_of_ble_eq_true b4
      intro y hy
      rcases List.mem_cons.mp hy with rfl | hy
      · rcases hh x List.mem_cons_self with ⟨v, g1, g2⟩ | ⟨g1, -⟩ | ⟨g1, -⟩
        · refine Or.inl ⟨v, ?_, g2⟩
          have h9 := hm (q1, d + (x.1.2 - s))
          have e9 : sy_mp q0 s q1 d n (q1, d + (x.1.2 - s)) = (q0, x.1.2) := by
            unfold sy_mp
            dsimp only
            rw [show Nat.beq q1 q1 = true by rw [Nat.beq_eq], Nat.ble_eq_true_of_le (show d ≤ d + (x.1.2 - s) by omega), show Nat.blt (d + (x.1.2 - s)) (d + n) = true from Nat.ble_eq_true_of_le (by omega)]
            show (q0, s + (d + (x.1.2 - s) - d)) = (q0, x.1.2)
            rw [show s + (d + (x.1.2 - s) - d) = x.1.2 by omega]
          rw [e9] at h9
          show sy_wv w' q1 (d + (x.1.2 - s)) = some v
          rw [h9, ← c1]; exact g1
        · omega
        · omega
      · exact ih y hy
theorem sy_mp_no {q0 s q1 d n : Nat} {x : Nat × Nat} (h : ¬ (x.1 = q1 ∧ d ≤ x.2 ∧ x.2 < d + n)) : sy_mp q0 s q1 d n x = x := by
  unfold sy_mp
  cases hb : (Nat.beq x.1 q1 && (Nat.ble d x.2 && Nat.blt x.2 (d + n))) with
  | false => rfl
  | true =>
    rw [Bool.and_eq_true, Bool.and_eq_true] at hb
    exact absurd ⟨Nat.eq_of_beq_eq_true hb.1, Nat.le_of_ble_eq_true hb.2.1, Nat.le_of_ble_eq_true hb.2.2⟩ h
/-- a number that is known -/
def sy_kn (r : Int × Int) : Bool := sy_le r.2 r.1
/-- what a copy changes, what is known behind it, which rules don't hold -/
noncomputable def sy_acr (n d s : Int × Int) (q0 q1 len : Nat) (RU : sy_RT) (H : sy_H) (D : List Nat) : List (Nat × Nat × Nat) × sy_H × List Nat := bif sy_kn n && sy_kn d then (bif sy_le n.1 0 then ([], H, D) else bif sy_kn s then ([(q1, d.1.toNat, d.1.toNat + n.1.toNat - 1)], sy_ccy q0 s.1.toNat q1 d.1.toNat n.1.toNat (sy_hdrop q1 d.1.toNat (d.1.toNat + n.1.toNat - 1) H) H, sy_tcp q0 s.1.toNat q1 d.1.toNat n.1.toNat d.1.toNat (d.1.toNat + n.1.toNat - 1) RU D) else ([(q1, d.1.toNat, d.1.toNat + n.1.toNat - 1)], sy_hdrop q1 d.1.toNat (d.1.toNat + n.1.toNat - 1) H, sy_touch q1 d.1.toNat (d.1.toNat + n.1.toNat - 1) RU D)) else ([(q1, 0, len)], sy_hdrop q1 0 len H, sy_touch q1 0 len RU D)
theorem sy_acr_ok {n d s : Int × Int} {q0 q1 len sp dp nn : Nat} {H : sy_H} {D : List Nat} {w' : List ri_E} (hn : (nn : Int) = n.1 ∨ sy_kn n = false) (hd9 : (dp : Int) = d.1 ∨ sy_kn d = false) (hs9 : (sp : Int) = s.1 ∨ sy_kn s = false) (hh : sy_hok ρ H w) (hd : sy_ru RU D w) (but : sy_but w w' q1 0 len) (hm : ∀ x : Nat × Nat, sy_wv w' x.1 x.2 = sy_wv w (sy_mp q0 sp q1 dp nn x).1 (sy_mp q0 sp q1 dp nn x).2) :
    (∀ q j : Nat, (∀ x ∈ (sy_acr n d s q0 q1 len RU H D).1, ¬ (q = x.1 ∧ x.2.1 ≤ j ∧ j ≤ x.2.2)) → sy_wv w' q j = sy_wv w q j) ∧ sy_hok ρ (sy_acr n d s q0 q1 len RU H D).2.1 w' ∧ sy_ru RU (sy_acr n d s q0 q1 len RU H D).2.2 w' := by
  unfold sy_acr
  cases hk1 : (sy_kn n && sy_kn d) with
  | false =>
    dsimp only [cond_false]
    exact ⟨fun q j hx => but q j (fun z => hx _ List.mem_cons_self ⟨z.1, z.2.1, z.2.2⟩), sy_but_hok hh but, sy_but_ru hd but⟩
  | true =>
    rw [Bool.and_eq_true] at hk1
    have e1 : (nn : Int) = n.1 := by
      rcases hn with h | h
      · exact h
      · rw [hk1.1] at h; cases h
    have e2 : (dp : Int) = d.1 := by
      rcases hd9 with h | h
      · exact h
      · rw [hk1.2] at h; cases h
    have f1 : n.1.toNat = nn := by omega
    have f2 : d.1.toNat = dp := by omega
    rw [f1, f2]
    cases h0 : sy_le n.1 0 with
    | true =>
      dsimp only [cond_true]
      rw [sy_le_iff] at h0
      have ev : ∀ q j : Nat, sy_wv w' q j = sy_wv w q j := fun q j => by
        have h9 := hm (q, j)
        rw [sy_mp_no (fun z => by have := z.2.1; have := z.2.2; omega)] at h9
        exact h9
      exact ⟨fun q j _ => ev q j, sy_hok_eq hh ev, sy_ru_eq hd ev⟩
    | false =>
      have hpos : 0 < nn := by
        by_cases hz : 0 < nn
        · exact hz
        · have : sy_le n.1 0 = true := by rw [sy_le_iff]; omega
          rw [h0] at this; cases this
      have but2 : sy_but w w' q1 dp (dp + nn - 1) := by
        intro q j hne
        have h9 := hm (q, j)
        rw [sy_mp_no (fun z => hne ⟨z.1, z.2.1, by have := z.2.2; omega⟩)] at h9
        exact h9
      cases h3 : sy_kn s with
      | false =>
        dsimp only [cond_true, cond_false]
        exact ⟨fun q j hx => but2 q j (fun z => hx _ List.mem_cons_self ⟨z.1, z.2.1, z.2.2⟩), sy_but_hok hh but2, sy_but_ru hd but2⟩
      | true =>
        have e3 : (sp : Int) = s.1 := by
          rcases hs9 with h | h
          · exact h
          · rw [h3] at h; cases h
        have f3 : s.1.toNat = sp := by omega
        rw [f3]
        dsimp only [cond_true, cond_false]
        exact ⟨fun q j hx => but2 q j (fun z => hx _ List.mem_cons_self ⟨z.1, z.2.1, z.2.2⟩), sy_ccy_ok (sy_but_hok hh but2) hm hh, sy_tcp_ru hd but2 hm⟩
noncomputable def sy_acopy (T : Nat → Option sy_C) (RU : sy_RT) (tyL : List FieldType) (bud : Nat) (st : List sy_V) (H : sy_H) (D : List Nat) (K : sy_K) : Option (List sy_V × List (Nat × Nat × Nat) × sy_H × List Nat) := sy_q1 0 st (fun en st => sy_q1 0 st (fun ed st => sy_q3 st (fun q1 st => sy_q1 0 st (fun es st => sy_q3 st (fun q0 r => match T q0, T q1 with
  | some c0, some c1 => (match ri_nth tyL c0.2.1, c0.2.2.2, c1.2.2.2 with
    | some ty, .inl f0, .inl f1 => (match sy_iv K en, sy_iv K ed, sy_iv K es with
      | some n, some d, some s => bif (!c0.1 && !c1.1) && ((Nat.beq c0.2.1 c1.2.1 && sy_isI ty) && ((Nat.beq f0.1 0 && Nat.beq f1.1 0) && ((sy_le f1.2.1 f0.2.1 && sy_le f0.2.2 f1.2.2) && ((sy_le 0 n.1 && (sy_le 0 d.1 && sy_le 0 s.1)) && ((sy_le (s.2 + n.2) (Int.ofNat c0.2.2.1) && sy_le (d.2 + n.2) (Int.ofNat c1.2.2.1)) && Nat.ble (sy_csum r + 18) bud))))) then some (r, sy_acr n d s q0 q1 c1.2.2.1 RU H D) else none
      | _, _, _ => none)
    | _, _, _ => none)
  | _, _ => none)))))
theorem sy_acopy_ok {bud bud2 : Nat} (hbud : bud ≤ bud2) {st st' : List sy_V} {stc : List Value} {mo : List (Nat × Nat × Nat)} {H H' : sy_H} {D D' : List Nat} {K : sy_K} (h : sy_acopy T RU tyL bud st H D K = some (st', mo, H', D')) (hk : sy_ok ρ K) (hs : sy_st ρ st stc) (hh : sy_hok ρ H w) (ht : sy_tw T w) (hd : sy_ru RU D w) :
    ∃ (sz : List Value) (w' : List ri_E), ri_acopy tyL bud2 stc w = some (sz, w') ∧ w'.length = w.length ∧ sy_st ρ st' sz ∧ (∀ q j : Nat, (∀ x ∈ mo, ¬ (q = x.1 ∧ x.2.1 ≤ j ∧ j ≤ x.2.2)) → sy_wv w' q j = sy_wv w q j) ∧ sy_tw T w' ∧ sy_hok ρ H' w' ∧ sy_ru RU D' w' := by
  obtain ⟨en, st1, n, rc1, h1, rfl, hn, hs1⟩ := sy_int_top h hs
  obtain ⟨ed, st2, dp, rc2, h2, rfl, hdp, hs2⟩ := sy_int_top h1 hs1
  obtain ⟨q, st3, rc3, h3, rfl, hs3⟩ := sy_ref_top h2 hs2
  obtain ⟨es, st4, sp, rc4, h4, rfl, hsp, hs4⟩ := sy_int_top h3 hs3
  obtain ⟨q0, r, rc, h5, rfl, hr⟩ := sy_ref_top h4 hs4
  split at h5
  · rename_i c0 c1 hc0 hc1
    split at h5
    · rename_i ty f0 f1 hty hf0 hf1
      split at h5
      · rename_i nn dd ss hnn hdd hss
        cases hb : ((!c0.1 && !c1.1) && ((Nat.beq c0.2.1 c1.2.1 && sy_isI ty) && ((Nat.beq f0.1 0 && Nat.beq f1.1 0) && ((sy_le f1.2.1 f0.2.1 && sy_le f0.2.2 f1.2.2) && ((sy_le 0 nn.1 && (sy_le 0 dd.1 && sy_le 0 ss.1)) && ((sy_le (ss.2 + nn.2) (Int.ofNat c0.2.2.1) && sy_le (dd.2 + nn.2) (Int.ofNat c1.2.2.1)) && Nat.ble (sy_csum r + 18) bud)))))) with
        | false => rw [hb] at h5; cases h5
        | true =>
          rw [hb, cond_true] at h5
          have h6 := Prod.mk.inj (Option.some.inj h5)
          have h8 := h6.2
          have h7 := h6.1
          subst h7
          simp only [Bool.and_eq_true, sy_le_iff] at hb
          obtain ⟨⟨b1, b2⟩, ⟨b3, b4⟩, ⟨b5, b6⟩, ⟨b7, b8⟩, ⟨b9, b10, b11⟩, ⟨b12, b13⟩, b14⟩ := hb
          have b1' : c0.1 = false := by simpa using b1
          have b2' : c1.1 = false := by simpa using b2
          have b12' : ss.2 + nn.2 ≤ ((c0.2.2.1 : Nat) : Int) := b12
          have b13' : dd.2 + nn.2 ≤ ((c1.2.2.1 : Nat) : Int) := b13
          have ivn := sy_iv_ok hk hnn hn
          have ivd := sy_iv_ok hk hdd hdp
          have ivs := sy_iv_ok hk hss hsp
          obtain ⟨n1, n2, n3, n4⟩ := sy_idx ivn.1 ivn.2 b9
          obtain ⟨d1, d2, d3, d4⟩ := sy_idx ivd.1 ivd.2 b10
          obtain ⟨s1, s2, s3, s4⟩ := sy_idx ivs.1 ivs.2 b11
          obtain ⟨vs0, k1, k2, k3⟩ := sy_cell_arr ht hc0 b1'
          obtain ⟨vs1, l1, l2, l3⟩ := sy_cell_arr ht hc1 b2'
          have e9 : c0.2.1 = c1.2.1 := Nat.eq_of_beq_eq_true b3
          have ety : ty = .int := by cases ty <;> first | rfl | cases b4
          subst ety
          have z0 : f0.1 = 0 := Nat.eq_of_beq_eq_true b5
          have z1 : f1.1 = 0 := Nat.eq_of_beq_eq_true b6
          have bb0 : sp.toNatClampNeg + n.toNatClampNeg ≤ vs0.length := by omega
          have bb1 : dp.toNatClampNeg + n.toNatClampNeg ≤ vs1.length := by omega
          -- what an element of either is
          have el0 : ∀ (j : Nat) (v : Value), vs0[j]? = some v → sy_fv f0 v := by
            intro j v hv
            have hj := (List.getElem?_eq_some_iff.mp hv).1
            obtain ⟨vs9, g1, g2, g3⟩ := ht q0 c0 hc0
            have hjf : sy_fs c0 j = some f0 := by
              unfold sy_fs
              have hj2 : j < c0.2.2.1 := by omega
              rw [show Nat.blt j c0.2.2.1 = true from Nat.ble_eq_true_of_le hj2, cond_true, hf0]
            obtain ⟨v2, g4, g5⟩ := g3 j f0 hjf
            have e8 : sy_wv w q0 j = some v2 := by unfold sy_wv; rw [g1]; dsimp only; rw [sy_vals_mk]; exact g4
            rw [k3, hv] at e8
            cases e8
            exact g5
          have el1 : ∀ (j : Nat) (v : Value), vs1[j]? = some v → sy_fv f1 v := by
            intro j v hv
            have hj := (List.getElem?_eq_some_iff.mp hv).1
            obtain ⟨vs9, g1, g2, g3⟩ := ht q c1 hc1
            have hjf : sy_fs c1 j = some f1 := by
              unfold sy_fs
              have hj2 : j < c1.2.2.1 := by omega
              rw [show Nat.blt j c1.2.2.1 = true from Nat.ble_eq_true_of_le hj2, cond_true, hf1]
            obtain ⟨v2, g4, g5⟩ := g3 j f1 hjf
            have e8 : sy_wv w q j = some v2 := by unfold sy_wv; rw [g1]; dsimp only; rw [sy_vals_mk]; exact g4
            rw [l3, hv] at e8
            cases e8
            exact g5
          have f01 : ∀ v, sy_fv f0 v → sy_fv f1 v := fun v hv => sy_fv_sub hv ⟨by rw [z0, z1], b7, b8⟩ (by rw [z1]; decide)
          have ints : ((vs0.drop sp.toNatClampNeg).take n.toNatClampNeg).all (ri_ft .int) = true := by
            rw [List.all_eq_true]
            intro v hv
            obtain ⟨j, hj⟩ := List.getElem?_of_mem (List.mem_of_mem_drop (List.mem_of_mem_take hv))
            have h9 := el0 j v hj
            unfold sy_fv at h9
            rw [z0] at h9
            obtain ⟨x, rfl, -⟩ := h9
            rfl
          have hq1 := (List.getElem?_eq_some_iff.mp l1).1
          have len := ri_cpy_len bb0 bb1
          have sum9 : (rc.map fun v => v.category).sum + 18 ≤ bud2 := by
            rw [sy_csum_ok hr]
            exact Nat.le_trans (Nat.le_of_ble_eq_true b14) hbud
          have but : sy_but w (w.set q (.inl (c1.2.1, ri_cpy vs0 vs1 sp.toNatClampNeg dp.toNatClampNeg n.toNatClampNeg))) q 0 c1.2.2.1 := by
            intro q2 j2 hne
            by_cases hq9 : q2 = q
            · subst hq9
              have hj9 : c1.2.2.1 < j2 := by
                by_cases hz : j2 ≤ c1.2.2.1
                · exact absurd ⟨rfl, Nat.zero_le _, hz⟩ hne
                · omega
              unfold sy_wv
              rw [List.getElem?_set_self hq1, l1]
              show (ri_cpy vs0 vs1 _ _ _)[j2]? = vs1[j2]?
              rw [List.getElem?_eq_none (by omega), List.getElem?_eq_none (by omega)]
            · unfold sy_wv
              rw [List.getElem?_set_ne (fun z => hq9 z.symm)]
          have mp9 : ∀ x : Nat × Nat, sy_wv (w.set q (.inl (c1.2.1, ri_cpy vs0 vs1 sp.toNatClampNeg dp.toNatClampNeg n.toNatClampNeg))) x.1 x.2 = sy_wv w (sy_mp q0 sp.toNatClampNeg q dp.toNatClampNeg n.toNatClampNeg x).1 (sy_mp q0 sp.toNatClampNeg q dp.toNatClampNeg n.toNatClampNeg x).2 := by
            intro x
            obtain ⟨x1, x2⟩ := x
            dsimp only
            unfold sy_mp
            dsimp only
            by_cases hq9 : x1 = q
            · subst hq9
              have e1 : sy_wv (w.set x1 (.inl (c1.2.1, ri_cpy vs0 vs1 sp.toNatClampNeg dp.toNatClampNeg n.toNatClampNeg))) x1 x2 = (ri_cpy vs0 vs1 sp.toNatClampNeg dp.toNatClampNeg n.toNatClampNeg)[x2]? := by
                unfold sy_wv
                rw [List.getElem?_set_self hq1]
                rfl
              rw [e1, ri_cpy_at bb0 bb1]
              by_cases hw : dp.toNatClampNeg ≤ x2 ∧ x2 < dp.toNatClampNeg + n.toNatClampNeg
              · rw [if_pos hw, show (Nat.beq x1 x1 && (Nat.ble dp.toNatClampNeg x2 && Nat.blt x2 (dp.toNatClampNeg + n.toNatClampNeg))) = true by rw [Bool.and_eq_true, Bool.and_eq_true]; exact ⟨by rw [Nat.beq_eq], Nat.ble_eq_true_of_le hw.1, Nat.ble_eq_true_of_le hw.2⟩, cond_true]
                exact (k3 _).symm
              · have hf : (Nat.beq x1 x1 && (Nat.ble dp.toNatClampNeg x2 && Nat.blt x2 (dp.toNatClampNeg + n.toNatClampNeg))) = false := by
                  cases hz : (Nat.beq x1 x1 && (Nat.ble dp.toNatClampNeg x2 && Nat.blt x2 (dp.toNatClampNeg + n.toNatClampNeg))) with
                  | false => rfl
                  | true =>
                    rw [Bool.and_eq_true, Bool.and_eq_true] at hz
                    exact absurd ⟨Nat.le_of_ble_eq_true hz.2.1, Nat.le_of_ble_eq_true hz.2.2⟩ hw
                rw [if_neg hw, hf, cond_false]
                exact (l3 _).symm
            · have hf : (Nat.beq x1 q && (Nat.ble dp.toNatClampNeg x2 && Nat.blt x2 (dp.toNatClampNeg + n.toNatClampNeg))) = false := by
                cases hz : Nat.beq x1 q with
                | false => rfl
                | true => exact absurd (Nat.eq_of_beq_eq_true hz) hq9
              rw [hf, cond_false]
              unfold sy_wv
              rw [List.getElem?_set_ne (fun z => hq9 z.symm)]
          have kn : ∀ {r : Int × Int} {x : Int} {k : Nat}, r.1 ≤ x → x ≤ r.2 → (k : Int) = x → (k : Int) = r.1 ∨ sy_kn r = false := fun {r x k} a1 a2 a3 => by
            cases hz : sy_kn r with
            | false => exact Or.inr rfl
            | true =>
              have z1 := sy_le_iff.mp hz
              exact Or.inl (by omega)
          have ac := sy_acr_ok (s := ss) (kn ivn.1 ivn.2 n4) (kn ivd.1 ivd.2 d4) (kn ivs.1 ivs.2 s4) hh hd but mp9
          rw [h8] at ac
          obtain ⟨ac1, ac2, ac3⟩ := ac
          refine ⟨rc, _, ?_, List.length_set, hr, ac1, ?_, ac2, ac3⟩
          · unfold ri_acopy
            dsimp only
            rw [ri_nth_eq w, k1]
            dsimp only
            rw [ri_nth_eq w, l1]
            dsimp only
            rw [hty]
            dsimp only
            rw [b3, decide_eq_false s1, decide_eq_false d1, decide_eq_false n1, Nat.ble_eq_true_of_le bb0, Nat.ble_eq_true_of_le bb1, ints, ri_upd_eq]
            have e7 : Nat.ble ((rc.map fun v => v.category).sum + 18) bud2 = true := Nat.ble_eq_true_of_le sum9
            first
              | (rw [e7]; rfl)
              | (simp only [e7]; rfl)
          · intro q2 c2 hc2
            by_cases hq9 : q2 = q
            · subst hq9
              cases Option.some.inj (hc2.symm.trans hc1)
              refine ⟨ri_cpy vs0 vs1 sp.toNatClampNeg dp.toNatClampNeg n.toNatClampNeg, ?_, by omega, ?_⟩
              · rw [List.getElem?_set_self hq1, b2']; rfl
              · intro j f hjf
                have hj2 : j < c1.2.2.1 := by
                  unfold sy_fs at hjf
                  cases hz : Nat.blt j c1.2.2.1 with
                  | true => exact Nat.le_of_ble_eq_true hz
                  | false => rw [hz] at hjf; cases hjf
                have ef : f = f1 := by
                  unfold sy_fs at hjf
                  rw [show Nat.blt j c1.2.2.1 = true from Nat.ble_eq_true_of_le hj2, cond_true, hf1] at hjf
                  exact (Option.some.inj hjf).symm
                subst ef
                rw [ri_cpy_at bb0 bb1]
                by_cases hw : dp.toNatClampNeg ≤ j ∧ j < dp.toNatClampNeg + n.toNatClampNeg
                · rw [if_pos hw]
                  have hlt : sp.toNatClampNeg + (j - dp.toNatClampNeg) < vs0.length := by omega
                  exact ⟨_, List.getElem?_eq_getElem hlt, f01 _ (el0 _ _ (List.getElem?_eq_getElem hlt))⟩
                · rw [if_neg hw]
                  have hlt : j < vs1.length := by omega
                  exact ⟨_, List.getElem?_eq_getElem hlt, el1 _ _ (List.getElem?_eq_getElem hlt)⟩
            · rw [List.getElem?_set_ne (fun z => hq9 z.symm)]
              exact ht q2 c2 hc2
      · cases h5
    · cases h5
  · cases h5
end SYB
